section
-- ===== PART A: goes FIRST, ahead of the names: the tables' words, and 'selects' of the private methods out of them =====
/-- a private method of a class that the tables say can be made, by its rows of tables_1 -/
def lw_okq (q : MethodName × Nat) : Prop := (q.1.cls ≠ "java/lang/invoke/MethodHandle" ∧ q.1.cls ≠ "java/lang/invoke/VarHandle") ∧ Cond.instantiable q.1.cls q.2 ∈ tables_1 ∧ Cond.privateMethod q.1 ∈ tables_1 ∧ Cond.instanceMethod q.1 ∈ tables_1
theorem lw_p0 : lw_okq (⟨"SorrowSpots$Tape", "append", "(I)Z"⟩, 6) := ⟨⟨by decide +kernel, by decide +kernel⟩, List.mem_of_getElem? (i := 26) (by decide +kernel), List.mem_of_getElem? (i := 251) (by decide +kernel), List.mem_of_getElem? (i := 252) (by decide +kernel)⟩
theorem lw_p1 : lw_okq (⟨"SorrowSpots$Teller", "takeText", "()Z"⟩, 7) := ⟨⟨by decide +kernel, by decide +kernel⟩, List.mem_of_getElem? (i := 56) (by decide +kernel), List.mem_of_getElem? (i := 263) (by decide +kernel), List.mem_of_getElem? (i := 264) (by decide +kernel)⟩
theorem lw_p2 : lw_okq (⟨"SorrowSpots$County", "clear", "()V"⟩, 12) := ⟨⟨by decide +kernel, by decide +kernel⟩, List.mem_of_getElem? (i := 62) (by decide +kernel), List.mem_of_getElem? (i := 267) (by decide +kernel), List.mem_of_getElem? (i := 268) (by decide +kernel)⟩
theorem lw_p3 : lw_okq (⟨"SorrowSpots$Tape", "rewind", "()V"⟩, 6) := ⟨⟨by decide +kernel, by decide +kernel⟩, List.mem_of_getElem? (i := 26) (by decide +kernel), List.mem_of_getElem? (i := 274) (by decide +kernel), List.mem_of_getElem? (i := 275) (by decide +kernel)⟩
theorem lw_p4 : lw_okq (⟨"SorrowSpots$Tape", "readToken", "()V"⟩, 6) := ⟨⟨by decide +kernel, by decide +kernel⟩, List.mem_of_getElem? (i := 26) (by decide +kernel), List.mem_of_getElem? (i := 278) (by decide +kernel), List.mem_of_getElem? (i := 279) (by decide +kernel)⟩
theorem lw_p5 : lw_okq (⟨"SorrowSpots$Tape", "readName", "()V"⟩, 6) := ⟨⟨by decide +kernel, by decide +kernel⟩, List.mem_of_getElem? (i := 26) (by decide +kernel), List.mem_of_getElem? (i := 285) (by decide +kernel), List.mem_of_getElem? (i := 286) (by decide +kernel)⟩
theorem lw_p6 : lw_okq (⟨"SorrowSpots$Tape", "readNumber", "()V"⟩, 6) := ⟨⟨by decide +kernel, by decide +kernel⟩, List.mem_of_getElem? (i := 26) (by decide +kernel), List.mem_of_getElem? (i := 292) (by decide +kernel), List.mem_of_getElem? (i := 293) (by decide +kernel)⟩
theorem lw_p7 : lw_okq (⟨"SorrowSpots$Teller", "takeLine", "()Z"⟩, 7) := ⟨⟨by decide +kernel, by decide +kernel⟩, List.mem_of_getElem? (i := 56) (by decide +kernel), List.mem_of_getElem? (i := 296) (by decide +kernel), List.mem_of_getElem? (i := 297) (by decide +kernel)⟩
theorem lw_p8 : lw_okq (⟨"SorrowSpots$Teller", "isTokenOf", "(I)Z"⟩, 7) := ⟨⟨by decide +kernel, by decide +kernel⟩, List.mem_of_getElem? (i := 56) (by decide +kernel), List.mem_of_getElem? (i := 300) (by decide +kernel), List.mem_of_getElem? (i := 301) (by decide +kernel)⟩
theorem lw_p9 : lw_okq (⟨"SorrowSpots$Teller", "stopsBy", "(I)Z"⟩, 7) := ⟨⟨by decide +kernel, by decide +kernel⟩, List.mem_of_getElem? (i := 56) (by decide +kernel), List.mem_of_getElem? (i := 304) (by decide +kernel), List.mem_of_getElem? (i := 305) (by decide +kernel)⟩
theorem lw_p10 : lw_okq (⟨"SorrowSpots$Teller", "lineNamed", "()I"⟩, 7) := ⟨⟨by decide +kernel, by decide +kernel⟩, List.mem_of_getElem? (i := 56) (by decide +kernel), List.mem_of_getElem? (i := 308) (by decide +kernel), List.mem_of_getElem? (i := 309) (by decide +kernel)⟩
theorem lw_p11 : lw_okq (⟨"SorrowSpots$Tape", "isName", "(Ljava/lang/String;)Z"⟩, 6) := ⟨⟨by decide +kernel, by decide +kernel⟩, List.mem_of_getElem? (i := 26) (by decide +kernel), List.mem_of_getElem? (i := 313) (by decide +kernel), List.mem_of_getElem? (i := 314) (by decide +kernel)⟩
theorem lw_p12 : lw_okq (⟨"SorrowSpots$Teller", "hasRoomFor", "(I)Z"⟩, 7) := ⟨⟨by decide +kernel, by decide +kernel⟩, List.mem_of_getElem? (i := 56) (by decide +kernel), List.mem_of_getElem? (i := 370) (by decide +kernel), List.mem_of_getElem? (i := 371) (by decide +kernel)⟩
theorem lw_p13 : lw_okq (⟨"SorrowSpots$County", "hasRoomForOne", "()Z"⟩, 12) := ⟨⟨by decide +kernel, by decide +kernel⟩, List.mem_of_getElem? (i := 62) (by decide +kernel), List.mem_of_getElem? (i := 374) (by decide +kernel), List.mem_of_getElem? (i := 375) (by decide +kernel)⟩
theorem lw_p14 : lw_okq (⟨"SorrowSpots$County", "hasRoomForBeetle", "()Z"⟩, 12) := ⟨⟨by decide +kernel, by decide +kernel⟩, List.mem_of_getElem? (i := 62) (by decide +kernel), List.mem_of_getElem? (i := 378) (by decide +kernel), List.mem_of_getElem? (i := 379) (by decide +kernel)⟩
theorem lw_p15 : lw_okq (⟨"SorrowSpots$Teller", "takeNumber", "(II)Z"⟩, 7) := ⟨⟨by decide +kernel, by decide +kernel⟩, List.mem_of_getElem? (i := 56) (by decide +kernel), List.mem_of_getElem? (i := 385) (by decide +kernel), List.mem_of_getElem? (i := 386) (by decide +kernel)⟩
def lw_privs_1 : List (MethodName × Nat) := [(⟨"SorrowSpots$Tape", "append", "(I)Z"⟩, 6), (⟨"SorrowSpots$Teller", "takeText", "()Z"⟩, 7), (⟨"SorrowSpots$County", "clear", "()V"⟩, 12), (⟨"SorrowSpots$Tape", "rewind", "()V"⟩, 6), (⟨"SorrowSpots$Tape", "readToken", "()V"⟩, 6), (⟨"SorrowSpots$Tape", "readName", "()V"⟩, 6), (⟨"SorrowSpots$Tape", "readNumber", "()V"⟩, 6), (⟨"SorrowSpots$Teller", "takeLine", "()Z"⟩, 7), (⟨"SorrowSpots$Teller", "isTokenOf", "(I)Z"⟩, 7), (⟨"SorrowSpots$Teller", "stopsBy", "(I)Z"⟩, 7), (⟨"SorrowSpots$Teller", "lineNamed", "()I"⟩, 7), (⟨"SorrowSpots$Tape", "isName", "(Ljava/lang/String;)Z"⟩, 6), (⟨"SorrowSpots$Teller", "hasRoomFor", "(I)Z"⟩, 7), (⟨"SorrowSpots$County", "hasRoomForOne", "()Z"⟩, 12), (⟨"SorrowSpots$County", "hasRoomForBeetle", "()Z"⟩, 12), (⟨"SorrowSpots$Teller", "takeNumber", "(II)Z"⟩, 7)]
theorem lw_r1 : ∀ q ∈ lw_privs_1, lw_okq q := List.forall_mem_cons.mpr ⟨lw_p0, List.forall_mem_cons.mpr ⟨lw_p1, List.forall_mem_cons.mpr ⟨lw_p2, List.forall_mem_cons.mpr ⟨lw_p3, List.forall_mem_cons.mpr ⟨lw_p4, List.forall_mem_cons.mpr ⟨lw_p5, List.forall_mem_cons.mpr ⟨lw_p6, List.forall_mem_cons.mpr ⟨lw_p7, List.forall_mem_cons.mpr ⟨lw_p8, List.forall_mem_cons.mpr ⟨lw_p9, List.forall_mem_cons.mpr ⟨lw_p10, List.forall_mem_cons.mpr ⟨lw_p11, List.forall_mem_cons.mpr ⟨lw_p12, List.forall_mem_cons.mpr ⟨lw_p13, List.forall_mem_cons.mpr ⟨lw_p14, List.forall_mem_cons.mpr ⟨lw_p15, fun _ h => absurd h List.not_mem_nil⟩⟩⟩⟩⟩⟩⟩⟩⟩⟩⟩⟩⟩⟩⟩⟩
theorem lw_p16 : lw_okq (⟨"SorrowSpots$Teller", "take", "(I)V"⟩, 7) := ⟨⟨by decide +kernel, by decide +kernel⟩, List.mem_of_getElem? (i := 56) (by decide +kernel), List.mem_of_getElem? (i := 399) (by decide +kernel), List.mem_of_getElem? (i := 400) (by decide +kernel)⟩
theorem lw_p17 : lw_okq (⟨"SorrowSpots$County", "addOne", "(I)V"⟩, 12) := ⟨⟨by decide +kernel, by decide +kernel⟩, List.mem_of_getElem? (i := 62) (by decide +kernel), List.mem_of_getElem? (i := 403) (by decide +kernel), List.mem_of_getElem? (i := 404) (by decide +kernel)⟩
theorem lw_p18 : lw_okq (⟨"SorrowSpots$County", "addBeetle", "(IIII)V"⟩, 12) := ⟨⟨by decide +kernel, by decide +kernel⟩, List.mem_of_getElem? (i := 62) (by decide +kernel), List.mem_of_getElem? (i := 408) (by decide +kernel), List.mem_of_getElem? (i := 409) (by decide +kernel)⟩
theorem lw_p19 : lw_okq (⟨"SorrowSpots$Teller", "ownersAreThere", "()Z"⟩, 7) := ⟨⟨by decide +kernel, by decide +kernel⟩, List.mem_of_getElem? (i := 56) (by decide +kernel), List.mem_of_getElem? (i := 413) (by decide +kernel), List.mem_of_getElem? (i := 414) (by decide +kernel)⟩
theorem lw_p20 : lw_okq (⟨"SorrowSpots$County", "hasOne", "(I)Z"⟩, 12) := ⟨⟨by decide +kernel, by decide +kernel⟩, List.mem_of_getElem? (i := 62) (by decide +kernel), List.mem_of_getElem? (i := 417) (by decide +kernel), List.mem_of_getElem? (i := 418) (by decide +kernel)⟩
theorem lw_p21 : lw_okq (⟨"SorrowSpots$County", "copyFrom", "(LSorrowSpots$County;)V"⟩, 12) := ⟨⟨by decide +kernel, by decide +kernel⟩, List.mem_of_getElem? (i := 62) (by decide +kernel), List.mem_of_getElem? (i := 421) (by decide +kernel), List.mem_of_getElem? (i := 422) (by decide +kernel)⟩
theorem lw_p22 : lw_okq (⟨"SorrowSpots$County", "sitting", "()I"⟩, 12) := ⟨⟨by decide +kernel, by decide +kernel⟩, List.mem_of_getElem? (i := 62) (by decide +kernel), List.mem_of_getElem? (i := 436) (by decide +kernel), List.mem_of_getElem? (i := 437) (by decide +kernel)⟩
theorem lw_p23 : lw_okq (⟨"SorrowSpots$County", "sits", "(I)Z"⟩, 12) := ⟨⟨by decide +kernel, by decide +kernel⟩, List.mem_of_getElem? (i := 62) (by decide +kernel), List.mem_of_getElem? (i := 440) (by decide +kernel), List.mem_of_getElem? (i := 441) (by decide +kernel)⟩
theorem lw_p24 : lw_okq (⟨"SorrowSpots$County", "countedOfAll", "()I"⟩, 12) := ⟨⟨by decide +kernel, by decide +kernel⟩, List.mem_of_getElem? (i := 62) (by decide +kernel), List.mem_of_getElem? (i := 444) (by decide +kernel), List.mem_of_getElem? (i := 445) (by decide +kernel)⟩
theorem lw_p25 : lw_okq (⟨"SorrowSpots$County", "counted", "(I)I"⟩, 12) := ⟨⟨by decide +kernel, by decide +kernel⟩, List.mem_of_getElem? (i := 62) (by decide +kernel), List.mem_of_getElem? (i := 448) (by decide +kernel), List.mem_of_getElem? (i := 449) (by decide +kernel)⟩
theorem lw_p26 : lw_okq (⟨"SorrowSpots$County", "weight", "(I)I"⟩, 12) := ⟨⟨by decide +kernel, by decide +kernel⟩, List.mem_of_getElem? (i := 62) (by decide +kernel), List.mem_of_getElem? (i := 452) (by decide +kernel), List.mem_of_getElem? (i := 453) (by decide +kernel)⟩
theorem lw_p27 : lw_okq (⟨"SorrowSpots$County", "mostCounted", "()I"⟩, 12) := ⟨⟨by decide +kernel, by decide +kernel⟩, List.mem_of_getElem? (i := 62) (by decide +kernel), List.mem_of_getElem? (i := 456) (by decide +kernel), List.mem_of_getElem? (i := 457) (by decide +kernel)⟩
theorem lw_p28 : lw_okq (⟨"SorrowSpots$County", "sittersOn", "(I)I"⟩, 12) := ⟨⟨by decide +kernel, by decide +kernel⟩, List.mem_of_getElem? (i := 62) (by decide +kernel), List.mem_of_getElem? (i := 465) (by decide +kernel), List.mem_of_getElem? (i := 466) (by decide +kernel)⟩
theorem lw_p29 : lw_okq (⟨"SorrowSpots$County", "countedByPins", "(I)I"⟩, 12) := ⟨⟨by decide +kernel, by decide +kernel⟩, List.mem_of_getElem? (i := 62) (by decide +kernel), List.mem_of_getElem? (i := 470) (by decide +kernel), List.mem_of_getElem? (i := 471) (by decide +kernel)⟩
theorem lw_p30 : lw_okq (⟨"SorrowSpots$County", "hasBeetle", "(I)Z"⟩, 12) := ⟨⟨by decide +kernel, by decide +kernel⟩, List.mem_of_getElem? (i := 62) (by decide +kernel), List.mem_of_getElem? (i := 478) (by decide +kernel), List.mem_of_getElem? (i := 479) (by decide +kernel)⟩
theorem lw_p31 : lw_okq (⟨"SorrowSpots$County", "placeOf", "(I)I"⟩, 12) := ⟨⟨by decide +kernel, by decide +kernel⟩, List.mem_of_getElem? (i := 62) (by decide +kernel), List.mem_of_getElem? (i := 482) (by decide +kernel), List.mem_of_getElem? (i := 483) (by decide +kernel)⟩
def lw_privs_2 : List (MethodName × Nat) := [(⟨"SorrowSpots$Teller", "take", "(I)V"⟩, 7), (⟨"SorrowSpots$County", "addOne", "(I)V"⟩, 12), (⟨"SorrowSpots$County", "addBeetle", "(IIII)V"⟩, 12), (⟨"SorrowSpots$Teller", "ownersAreThere", "()Z"⟩, 7), (⟨"SorrowSpots$County", "hasOne", "(I)Z"⟩, 12), (⟨"SorrowSpots$County", "copyFrom", "(LSorrowSpots$County;)V"⟩, 12), (⟨"SorrowSpots$County", "sitting", "()I"⟩, 12), (⟨"SorrowSpots$County", "sits", "(I)Z"⟩, 12), (⟨"SorrowSpots$County", "countedOfAll", "()I"⟩, 12), (⟨"SorrowSpots$County", "counted", "(I)I"⟩, 12), (⟨"SorrowSpots$County", "weight", "(I)I"⟩, 12), (⟨"SorrowSpots$County", "mostCounted", "()I"⟩, 12), (⟨"SorrowSpots$County", "sittersOn", "(I)I"⟩, 12), (⟨"SorrowSpots$County", "countedByPins", "(I)I"⟩, 12), (⟨"SorrowSpots$County", "hasBeetle", "(I)Z"⟩, 12), (⟨"SorrowSpots$County", "placeOf", "(I)I"⟩, 12)]
theorem lw_r2 : ∀ q ∈ lw_privs_2, lw_okq q := List.forall_mem_cons.mpr ⟨lw_p16, List.forall_mem_cons.mpr ⟨lw_p17, List.forall_mem_cons.mpr ⟨lw_p18, List.forall_mem_cons.mpr ⟨lw_p19, List.forall_mem_cons.mpr ⟨lw_p20, List.forall_mem_cons.mpr ⟨lw_p21, List.forall_mem_cons.mpr ⟨lw_p22, List.forall_mem_cons.mpr ⟨lw_p23, List.forall_mem_cons.mpr ⟨lw_p24, List.forall_mem_cons.mpr ⟨lw_p25, List.forall_mem_cons.mpr ⟨lw_p26, List.forall_mem_cons.mpr ⟨lw_p27, List.forall_mem_cons.mpr ⟨lw_p28, List.forall_mem_cons.mpr ⟨lw_p29, List.forall_mem_cons.mpr ⟨lw_p30, List.forall_mem_cons.mpr ⟨lw_p31, fun _ h => absurd h List.not_mem_nil⟩⟩⟩⟩⟩⟩⟩⟩⟩⟩⟩⟩⟩⟩⟩⟩
theorem lw_p32 : lw_okq (⟨"SorrowSpots$County", "sought", "(I)I"⟩, 12) := ⟨⟨by decide +kernel, by decide +kernel⟩, List.mem_of_getElem? (i := 62) (by decide +kernel), List.mem_of_getElem? (i := 486) (by decide +kernel), List.mem_of_getElem? (i := 487) (by decide +kernel)⟩
theorem lw_p33 : lw_okq (⟨"SorrowSpots$County", "takeDabbed", "(III)I"⟩, 12) := ⟨⟨by decide +kernel, by decide +kernel⟩, List.mem_of_getElem? (i := 62) (by decide +kernel), List.mem_of_getElem? (i := 516) (by decide +kernel), List.mem_of_getElem? (i := 517) (by decide +kernel)⟩
theorem lw_p34 : lw_okq (⟨"SorrowSpots$County", "putInAir", "(II)V"⟩, 12) := ⟨⟨by decide +kernel, by decide +kernel⟩, List.mem_of_getElem? (i := 62) (by decide +kernel), List.mem_of_getElem? (i := 529) (by decide +kernel), List.mem_of_getElem? (i := 530) (by decide +kernel)⟩
theorem lw_p35 : lw_okq (⟨"SorrowSpots$County", "passDays", "(I)V"⟩, 12) := ⟨⟨by decide +kernel, by decide +kernel⟩, List.mem_of_getElem? (i := 62) (by decide +kernel), List.mem_of_getElem? (i := 537) (by decide +kernel), List.mem_of_getElem? (i := 538) (by decide +kernel)⟩
theorem lw_p36 : lw_okq (⟨"SorrowSpots$County", "windToday", "()I"⟩, 12) := ⟨⟨by decide +kernel, by decide +kernel⟩, List.mem_of_getElem? (i := 62) (by decide +kernel), List.mem_of_getElem? (i := 541) (by decide +kernel), List.mem_of_getElem? (i := 542) (by decide +kernel)⟩
theorem lw_p37 : lw_okq (⟨"SorrowSpots$County", "passDay", "(I)V"⟩, 12) := ⟨⟨by decide +kernel, by decide +kernel⟩, List.mem_of_getElem? (i := 62) (by decide +kernel), List.mem_of_getElem? (i := 545) (by decide +kernel), List.mem_of_getElem? (i := 546) (by decide +kernel)⟩
theorem lw_p38 : lw_okq (⟨"SorrowSpots$County", "blowOff", "(II)V"⟩, 12) := ⟨⟨by decide +kernel, by decide +kernel⟩, List.mem_of_getElem? (i := 62) (by decide +kernel), List.mem_of_getElem? (i := 549) (by decide +kernel), List.mem_of_getElem? (i := 550) (by decide +kernel)⟩
theorem lw_p39 : lw_okq (⟨"SorrowSpots$County", "flyTowards", "(II)V"⟩, 12) := ⟨⟨by decide +kernel, by decide +kernel⟩, List.mem_of_getElem? (i := 62) (by decide +kernel), List.mem_of_getElem? (i := 562) (by decide +kernel), List.mem_of_getElem? (i := 563) (by decide +kernel)⟩
theorem lw_p40 : lw_okq (⟨"SorrowSpots$County", "pace", "(I)I"⟩, 12) := ⟨⟨by decide +kernel, by decide +kernel⟩, List.mem_of_getElem? (i := 62) (by decide +kernel), List.mem_of_getElem? (i := 566) (by decide +kernel), List.mem_of_getElem? (i := 567) (by decide +kernel)⟩
theorem lw_p41 : lw_okq (⟨"SorrowSpots$County", "daysTillAllSit", "(I)I"⟩, 12) := ⟨⟨by decide +kernel, by decide +kernel⟩, List.mem_of_getElem? (i := 62) (by decide +kernel), List.mem_of_getElem? (i := 574) (by decide +kernel), List.mem_of_getElem? (i := 575) (by decide +kernel)⟩
theorem lw_p42 : lw_okq (⟨"SorrowSpots$County", "daysTillSits", "(II)I"⟩, 12) := ⟨⟨by decide +kernel, by decide +kernel⟩, List.mem_of_getElem? (i := 62) (by decide +kernel), List.mem_of_getElem? (i := 591) (by decide +kernel), List.mem_of_getElem? (i := 592) (by decide +kernel)⟩
theorem lw_p43 : lw_okq (⟨"SorrowSpots$County", "allMakeWayFor", "(I)Z"⟩, 12) := ⟨⟨by decide +kernel, by decide +kernel⟩, List.mem_of_getElem? (i := 62) (by decide +kernel), List.mem_of_getElem? (i := 615) (by decide +kernel), List.mem_of_getElem? (i := 616) (by decide +kernel)⟩
theorem lw_p44 : lw_okq (⟨"SorrowSpots$County", "takeAway", "(I)V"⟩, 12) := ⟨⟨by decide +kernel, by decide +kernel⟩, List.mem_of_getElem? (i := 62) (by decide +kernel), List.mem_of_getElem? (i := 623) (by decide +kernel), List.mem_of_getElem? (i := 624) (by decide +kernel)⟩
theorem lw_p45 : lw_okq (⟨"SorrowSpots", "byOdds", "(IIIZI)J"⟩, 10) := ⟨⟨by decide +kernel, by decide +kernel⟩, List.mem_of_getElem? (i := 18) (by decide +kernel), List.mem_of_getElem? (i := 631) (by decide +kernel), List.mem_of_getElem? (i := 632) (by decide +kernel)⟩
theorem lw_p46 : lw_okq (⟨"SorrowSpots$Seen", "append", "(III)Z"⟩, 4) := ⟨⟨by decide +kernel, by decide +kernel⟩, List.mem_of_getElem? (i := 148) (by decide +kernel), List.mem_of_getElem? (i := 655) (by decide +kernel), List.mem_of_getElem? (i := 656) (by decide +kernel)⟩
theorem lw_p47 : lw_okq (⟨"SorrowSpots", "fittingOwners", "(I)I"⟩, 10) := ⟨⟨by decide +kernel, by decide +kernel⟩, List.mem_of_getElem? (i := 18) (by decide +kernel), List.mem_of_getElem? (i := 667) (by decide +kernel), List.mem_of_getElem? (i := 668) (by decide +kernel)⟩
def lw_privs_3 : List (MethodName × Nat) := [(⟨"SorrowSpots$County", "sought", "(I)I"⟩, 12), (⟨"SorrowSpots$County", "takeDabbed", "(III)I"⟩, 12), (⟨"SorrowSpots$County", "putInAir", "(II)V"⟩, 12), (⟨"SorrowSpots$County", "passDays", "(I)V"⟩, 12), (⟨"SorrowSpots$County", "windToday", "()I"⟩, 12), (⟨"SorrowSpots$County", "passDay", "(I)V"⟩, 12), (⟨"SorrowSpots$County", "blowOff", "(II)V"⟩, 12), (⟨"SorrowSpots$County", "flyTowards", "(II)V"⟩, 12), (⟨"SorrowSpots$County", "pace", "(I)I"⟩, 12), (⟨"SorrowSpots$County", "daysTillAllSit", "(I)I"⟩, 12), (⟨"SorrowSpots$County", "daysTillSits", "(II)I"⟩, 12), (⟨"SorrowSpots$County", "allMakeWayFor", "(I)Z"⟩, 12), (⟨"SorrowSpots$County", "takeAway", "(I)V"⟩, 12), (⟨"SorrowSpots", "byOdds", "(IIIZI)J"⟩, 10), (⟨"SorrowSpots$Seen", "append", "(III)Z"⟩, 4), (⟨"SorrowSpots", "fittingOwners", "(I)I"⟩, 10)]
theorem lw_r3 : ∀ q ∈ lw_privs_3, lw_okq q := List.forall_mem_cons.mpr ⟨lw_p32, List.forall_mem_cons.mpr ⟨lw_p33, List.forall_mem_cons.mpr ⟨lw_p34, List.forall_mem_cons.mpr ⟨lw_p35, List.forall_mem_cons.mpr ⟨lw_p36, List.forall_mem_cons.mpr ⟨lw_p37, List.forall_mem_cons.mpr ⟨lw_p38, List.forall_mem_cons.mpr ⟨lw_p39, List.forall_mem_cons.mpr ⟨lw_p40, List.forall_mem_cons.mpr ⟨lw_p41, List.forall_mem_cons.mpr ⟨lw_p42, List.forall_mem_cons.mpr ⟨lw_p43, List.forall_mem_cons.mpr ⟨lw_p44, List.forall_mem_cons.mpr ⟨lw_p45, List.forall_mem_cons.mpr ⟨lw_p46, List.forall_mem_cons.mpr ⟨lw_p47, fun _ h => absurd h List.not_mem_nil⟩⟩⟩⟩⟩⟩⟩⟩⟩⟩⟩⟩⟩⟩⟩⟩
theorem lw_p48 : lw_okq (⟨"SorrowSpots$Seen", "isAsIn", "(LSorrowSpots$County;)Z"⟩, 4) := ⟨⟨by decide +kernel, by decide +kernel⟩, List.mem_of_getElem? (i := 148) (by decide +kernel), List.mem_of_getElem? (i := 671) (by decide +kernel), List.mem_of_getElem? (i := 672) (by decide +kernel)⟩
theorem lw_p49 : lw_okq (⟨"SorrowSpots", "mostLeftBy", "(II)I"⟩, 10) := ⟨⟨by decide +kernel, by decide +kernel⟩, List.mem_of_getElem? (i := 18) (by decide +kernel), List.mem_of_getElem? (i := 693) (by decide +kernel), List.mem_of_getElem? (i := 694) (by decide +kernel)⟩
theorem lw_p50 : lw_okq (⟨"SorrowSpots$Seen", "copyFrom", "(LSorrowSpots$Seen;)V"⟩, 4) := ⟨⟨by decide +kernel, by decide +kernel⟩, List.mem_of_getElem? (i := 148) (by decide +kernel), List.mem_of_getElem? (i := 707) (by decide +kernel), List.mem_of_getElem? (i := 708) (by decide +kernel)⟩
theorem lw_p51 : lw_okq (⟨"SorrowSpots$Sheet", "renew", "(II)V"⟩, 3) := ⟨⟨by decide +kernel, by decide +kernel⟩, List.mem_of_getElem? (i := 194) (by decide +kernel), List.mem_of_getElem? (i := 720) (by decide +kernel), List.mem_of_getElem? (i := 721) (by decide +kernel)⟩
theorem lw_p52 : lw_okq (⟨"SorrowSpots$Sheet", "faultAt", "(II)I"⟩, 3) := ⟨⟨by decide +kernel, by decide +kernel⟩, List.mem_of_getElem? (i := 194) (by decide +kernel), List.mem_of_getElem? (i := 729) (by decide +kernel), List.mem_of_getElem? (i := 730) (by decide +kernel)⟩
theorem lw_p53 : lw_okq (⟨"SorrowSpots$Sheet", "faultAt", "(III)I"⟩, 3) := ⟨⟨by decide +kernel, by decide +kernel⟩, List.mem_of_getElem? (i := 194) (by decide +kernel), List.mem_of_getElem? (i := 733) (by decide +kernel), List.mem_of_getElem? (i := 734) (by decide +kernel)⟩
theorem lw_p54 : lw_okq (⟨"SorrowSpots$Sheet", "put", "(II)V"⟩, 3) := ⟨⟨by decide +kernel, by decide +kernel⟩, List.mem_of_getElem? (i := 194) (by decide +kernel), List.mem_of_getElem? (i := 737) (by decide +kernel), List.mem_of_getElem? (i := 738) (by decide +kernel)⟩
theorem lw_p55 : lw_okq (⟨"SorrowSpots", "dabFromSheet", "(LSorrowSpots$Sheet;I)Z"⟩, 10) := ⟨⟨by decide +kernel, by decide +kernel⟩, List.mem_of_getElem? (i := 18) (by decide +kernel), List.mem_of_getElem? (i := 746) (by decide +kernel), List.mem_of_getElem? (i := 747) (by decide +kernel)⟩
theorem lw_p56 : lw_okq (⟨"SorrowSpots", "imagesKept", "()I"⟩, 10) := ⟨⟨by decide +kernel, by decide +kernel⟩, List.mem_of_getElem? (i := 18) (by decide +kernel), List.mem_of_getElem? (i := 758) (by decide +kernel), List.mem_of_getElem? (i := 759) (by decide +kernel)⟩
theorem lw_p57 : lw_okq (⟨"SorrowSpots$County", "spotsOfAll", "()I"⟩, 12) := ⟨⟨by decide +kernel, by decide +kernel⟩, List.mem_of_getElem? (i := 62) (by decide +kernel), List.mem_of_getElem? (i := 762) (by decide +kernel), List.mem_of_getElem? (i := 763) (by decide +kernel)⟩
theorem lw_p58 : lw_okq (⟨"SorrowSpots$County", "allWinds", "()I"⟩, 12) := ⟨⟨by decide +kernel, by decide +kernel⟩, List.mem_of_getElem? (i := 62) (by decide +kernel), List.mem_of_getElem? (i := 766) (by decide +kernel), List.mem_of_getElem? (i := 767) (by decide +kernel)⟩
theorem lw_p59 : lw_okq (⟨"SorrowSpotsModel", "firstDraft", "()V"⟩, 29) := ⟨⟨by decide +kernel, by decide +kernel⟩, List.mem_of_getElem? (i := 770) (by decide +kernel), List.mem_of_getElem? (i := 776) (by decide +kernel), List.mem_of_getElem? (i := 777) (by decide +kernel)⟩
theorem lw_p60 : lw_okq (⟨"SorrowSpotsModel", "keepDraft", "()V"⟩, 29) := ⟨⟨by decide +kernel, by decide +kernel⟩, List.mem_of_getElem? (i := 770) (by decide +kernel), List.mem_of_getElem? (i := 780) (by decide +kernel), List.mem_of_getElem? (i := 781) (by decide +kernel)⟩
theorem lw_p61 : lw_okq (⟨"SorrowSpotsModel", "takes", "()V"⟩, 29) := ⟨⟨by decide +kernel, by decide +kernel⟩, List.mem_of_getElem? (i := 770) (by decide +kernel), List.mem_of_getElem? (i := 889) (by decide +kernel), List.mem_of_getElem? (i := 890) (by decide +kernel)⟩
theorem lw_p62 : lw_okq (⟨"SorrowSpotsModel", "byteAt", "(I)I"⟩, 29) := ⟨⟨by decide +kernel, by decide +kernel⟩, List.mem_of_getElem? (i := 770) (by decide +kernel), List.mem_of_getElem? (i := 893) (by decide +kernel), List.mem_of_getElem? (i := 894) (by decide +kernel)⟩
theorem lw_p63 : lw_okq (⟨"SorrowSpotsModel", "needs", "(ZI)V"⟩, 29) := ⟨⟨by decide +kernel, by decide +kernel⟩, List.mem_of_getElem? (i := 770) (by decide +kernel), List.mem_of_getElem? (i := 901) (by decide +kernel), List.mem_of_getElem? (i := 902) (by decide +kernel)⟩
def lw_privs_4 : List (MethodName × Nat) := [(⟨"SorrowSpots$Seen", "isAsIn", "(LSorrowSpots$County;)Z"⟩, 4), (⟨"SorrowSpots", "mostLeftBy", "(II)I"⟩, 10), (⟨"SorrowSpots$Seen", "copyFrom", "(LSorrowSpots$Seen;)V"⟩, 4), (⟨"SorrowSpots$Sheet", "renew", "(II)V"⟩, 3), (⟨"SorrowSpots$Sheet", "faultAt", "(II)I"⟩, 3), (⟨"SorrowSpots$Sheet", "faultAt", "(III)I"⟩, 3), (⟨"SorrowSpots$Sheet", "put", "(II)V"⟩, 3), (⟨"SorrowSpots", "dabFromSheet", "(LSorrowSpots$Sheet;I)Z"⟩, 10), (⟨"SorrowSpots", "imagesKept", "()I"⟩, 10), (⟨"SorrowSpots$County", "spotsOfAll", "()I"⟩, 12), (⟨"SorrowSpots$County", "allWinds", "()I"⟩, 12), (⟨"SorrowSpotsModel", "firstDraft", "()V"⟩, 29), (⟨"SorrowSpotsModel", "keepDraft", "()V"⟩, 29), (⟨"SorrowSpotsModel", "takes", "()V"⟩, 29), (⟨"SorrowSpotsModel", "byteAt", "(I)I"⟩, 29), (⟨"SorrowSpotsModel", "needs", "(ZI)V"⟩, 29)]
theorem lw_r4 : ∀ q ∈ lw_privs_4, lw_okq q := List.forall_mem_cons.mpr ⟨lw_p48, List.forall_mem_cons.mpr ⟨lw_p49, List.forall_mem_cons.mpr ⟨lw_p50, List.forall_mem_cons.mpr ⟨lw_p51, List.forall_mem_cons.mpr ⟨lw_p52, List.forall_mem_cons.mpr ⟨lw_p53, List.forall_mem_cons.mpr ⟨lw_p54, List.forall_mem_cons.mpr ⟨lw_p55, List.forall_mem_cons.mpr ⟨lw_p56, List.forall_mem_cons.mpr ⟨lw_p57, List.forall_mem_cons.mpr ⟨lw_p58, List.forall_mem_cons.mpr ⟨lw_p59, List.forall_mem_cons.mpr ⟨lw_p60, List.forall_mem_cons.mpr ⟨lw_p61, List.forall_mem_cons.mpr ⟨lw_p62, List.forall_mem_cons.mpr ⟨lw_p63, fun _ h => absurd h List.not_mem_nil⟩⟩⟩⟩⟩⟩⟩⟩⟩⟩⟩⟩⟩⟩⟩⟩
theorem lw_p64 : lw_okq (⟨"SorrowSpotsModel", "readLine", "()V"⟩, 29) := ⟨⟨by decide +kernel, by decide +kernel⟩, List.mem_of_getElem? (i := 770) (by decide +kernel), List.mem_of_getElem? (i := 905) (by decide +kernel), List.mem_of_getElem? (i := 906) (by decide +kernel)⟩
theorem lw_p65 : lw_okq (⟨"SorrowSpotsModel", "lineNow", "()I"⟩, 29) := ⟨⟨by decide +kernel, by decide +kernel⟩, List.mem_of_getElem? (i := 770) (by decide +kernel), List.mem_of_getElem? (i := 909) (by decide +kernel), List.mem_of_getElem? (i := 910) (by decide +kernel)⟩
theorem lw_p66 : lw_okq (⟨"SorrowSpotsModel", "is", "(IIII)Z"⟩, 29) := ⟨⟨by decide +kernel, by decide +kernel⟩, List.mem_of_getElem? (i := 770) (by decide +kernel), List.mem_of_getElem? (i := 913) (by decide +kernel), List.mem_of_getElem? (i := 914) (by decide +kernel)⟩
theorem lw_p67 : lw_okq (⟨"SorrowSpotsModel", "ends", "(III)Z"⟩, 29) := ⟨⟨by decide +kernel, by decide +kernel⟩, List.mem_of_getElem? (i := 770) (by decide +kernel), List.mem_of_getElem? (i := 917) (by decide +kernel), List.mem_of_getElem? (i := 918) (by decide +kernel)⟩
theorem lw_p68 : lw_okq (⟨"SorrowSpotsModel", "readLineOf", "(I)V"⟩, 29) := ⟨⟨by decide +kernel, by decide +kernel⟩, List.mem_of_getElem? (i := 770) (by decide +kernel), List.mem_of_getElem? (i := 921) (by decide +kernel), List.mem_of_getElem? (i := 922) (by decide +kernel)⟩
theorem lw_p69 : lw_okq (⟨"SorrowSpotsModel", "readNumber", "(II)I"⟩, 29) := ⟨⟨by decide +kernel, by decide +kernel⟩, List.mem_of_getElem? (i := 770) (by decide +kernel), List.mem_of_getElem? (i := 925) (by decide +kernel), List.mem_of_getElem? (i := 926) (by decide +kernel)⟩
theorem lw_p70 : lw_okq (⟨"SorrowSpotsModel", "looked", "(II)I"⟩, 29) := ⟨⟨by decide +kernel, by decide +kernel⟩, List.mem_of_getElem? (i := 770) (by decide +kernel), List.mem_of_getElem? (i := 929) (by decide +kernel), List.mem_of_getElem? (i := 930) (by decide +kernel)⟩
theorem lw_p71 : lw_okq (⟨"SorrowSpotsModel", "readBeetle", "(I)V"⟩, 29) := ⟨⟨by decide +kernel, by decide +kernel⟩, List.mem_of_getElem? (i := 770) (by decide +kernel), List.mem_of_getElem? (i := 933) (by decide +kernel), List.mem_of_getElem? (i := 934) (by decide +kernel)⟩
theorem lw_p72 : lw_okq (⟨"SorrowSpotsModel", "starts", "()V"⟩, 29) := ⟨⟨by decide +kernel, by decide +kernel⟩, List.mem_of_getElem? (i := 770) (by decide +kernel), List.mem_of_getElem? (i := 945) (by decide +kernel), List.mem_of_getElem? (i := 946) (by decide +kernel)⟩
theorem lw_p73 : lw_okq (⟨"SorrowSpotsModel", "sitting", "()I"⟩, 29) := ⟨⟨by decide +kernel, by decide +kernel⟩, List.mem_of_getElem? (i := 770) (by decide +kernel), List.mem_of_getElem? (i := 949) (by decide +kernel), List.mem_of_getElem? (i := 950) (by decide +kernel)⟩
theorem lw_p74 : lw_okq (⟨"SorrowSpotsModel", "of", "(II)I"⟩, 29) := ⟨⟨by decide +kernel, by decide +kernel⟩, List.mem_of_getElem? (i := 770) (by decide +kernel), List.mem_of_getElem? (i := 953) (by decide +kernel), List.mem_of_getElem? (i := 954) (by decide +kernel)⟩
theorem lw_p75 : lw_okq (⟨"SorrowSpotsModel", "allCounted", "()I"⟩, 29) := ⟨⟨by decide +kernel, by decide +kernel⟩, List.mem_of_getElem? (i := 770) (by decide +kernel), List.mem_of_getElem? (i := 960) (by decide +kernel), List.mem_of_getElem? (i := 961) (by decide +kernel)⟩
theorem lw_p76 : lw_okq (⟨"SorrowSpotsModel", "counted", "(I)I"⟩, 29) := ⟨⟨by decide +kernel, by decide +kernel⟩, List.mem_of_getElem? (i := 770) (by decide +kernel), List.mem_of_getElem? (i := 964) (by decide +kernel), List.mem_of_getElem? (i := 965) (by decide +kernel)⟩
theorem lw_p77 : lw_okq (⟨"SorrowSpotsModel", "weight", "(I)I"⟩, 29) := ⟨⟨by decide +kernel, by decide +kernel⟩, List.mem_of_getElem? (i := 770) (by decide +kernel), List.mem_of_getElem? (i := 968) (by decide +kernel), List.mem_of_getElem? (i := 969) (by decide +kernel)⟩
theorem lw_p78 : lw_okq (⟨"SorrowSpotsModel", "mostCounted", "()I"⟩, 29) := ⟨⟨by decide +kernel, by decide +kernel⟩, List.mem_of_getElem? (i := 770) (by decide +kernel), List.mem_of_getElem? (i := 972) (by decide +kernel), List.mem_of_getElem? (i := 973) (by decide +kernel)⟩
theorem lw_p79 : lw_okq (⟨"SorrowSpotsModel", "isOne", "(I)Z"⟩, 29) := ⟨⟨by decide +kernel, by decide +kernel⟩, List.mem_of_getElem? (i := 770) (by decide +kernel), List.mem_of_getElem? (i := 980) (by decide +kernel), List.mem_of_getElem? (i := 981) (by decide +kernel)⟩
def lw_privs_5 : List (MethodName × Nat) := [(⟨"SorrowSpotsModel", "readLine", "()V"⟩, 29), (⟨"SorrowSpotsModel", "lineNow", "()I"⟩, 29), (⟨"SorrowSpotsModel", "is", "(IIII)Z"⟩, 29), (⟨"SorrowSpotsModel", "ends", "(III)Z"⟩, 29), (⟨"SorrowSpotsModel", "readLineOf", "(I)V"⟩, 29), (⟨"SorrowSpotsModel", "readNumber", "(II)I"⟩, 29), (⟨"SorrowSpotsModel", "looked", "(II)I"⟩, 29), (⟨"SorrowSpotsModel", "readBeetle", "(I)V"⟩, 29), (⟨"SorrowSpotsModel", "starts", "()V"⟩, 29), (⟨"SorrowSpotsModel", "sitting", "()I"⟩, 29), (⟨"SorrowSpotsModel", "of", "(II)I"⟩, 29), (⟨"SorrowSpotsModel", "allCounted", "()I"⟩, 29), (⟨"SorrowSpotsModel", "counted", "(I)I"⟩, 29), (⟨"SorrowSpotsModel", "weight", "(I)I"⟩, 29), (⟨"SorrowSpotsModel", "mostCounted", "()I"⟩, 29), (⟨"SorrowSpotsModel", "isOne", "(I)Z"⟩, 29)]
theorem lw_r5 : ∀ q ∈ lw_privs_5, lw_okq q := List.forall_mem_cons.mpr ⟨lw_p64, List.forall_mem_cons.mpr ⟨lw_p65, List.forall_mem_cons.mpr ⟨lw_p66, List.forall_mem_cons.mpr ⟨lw_p67, List.forall_mem_cons.mpr ⟨lw_p68, List.forall_mem_cons.mpr ⟨lw_p69, List.forall_mem_cons.mpr ⟨lw_p70, List.forall_mem_cons.mpr ⟨lw_p71, List.forall_mem_cons.mpr ⟨lw_p72, List.forall_mem_cons.mpr ⟨lw_p73, List.forall_mem_cons.mpr ⟨lw_p74, List.forall_mem_cons.mpr ⟨lw_p75, List.forall_mem_cons.mpr ⟨lw_p76, List.forall_mem_cons.mpr ⟨lw_p77, List.forall_mem_cons.mpr ⟨lw_p78, List.forall_mem_cons.mpr ⟨lw_p79, fun _ h => absurd h List.not_mem_nil⟩⟩⟩⟩⟩⟩⟩⟩⟩⟩⟩⟩⟩⟩⟩⟩
theorem lw_p80 : lw_okq (⟨"SorrowSpotsModel", "isBeetle", "(I)Z"⟩, 29) := ⟨⟨by decide +kernel, by decide +kernel⟩, List.mem_of_getElem? (i := 770) (by decide +kernel), List.mem_of_getElem? (i := 988) (by decide +kernel), List.mem_of_getElem? (i := 989) (by decide +kernel)⟩
theorem lw_p81 : lw_okq (⟨"SorrowSpotsModel", "placeOf", "(I)I"⟩, 29) := ⟨⟨by decide +kernel, by decide +kernel⟩, List.mem_of_getElem? (i := 770) (by decide +kernel), List.mem_of_getElem? (i := 992) (by decide +kernel), List.mem_of_getElem? (i := 993) (by decide +kernel)⟩
theorem lw_p82 : lw_okq (⟨"SorrowSpotsModel", "seeks", "(I)I"⟩, 29) := ⟨⟨by decide +kernel, by decide +kernel⟩, List.mem_of_getElem? (i := 770) (by decide +kernel), List.mem_of_getElem? (i := 996) (by decide +kernel), List.mem_of_getElem? (i := 997) (by decide +kernel)⟩
theorem lw_p83 : lw_okq (⟨"SorrowSpotsModel", "leastCounted", "()I"⟩, 29) := ⟨⟨by decide +kernel, by decide +kernel⟩, List.mem_of_getElem? (i := 770) (by decide +kernel), List.mem_of_getElem? (i := 1000) (by decide +kernel), List.mem_of_getElem? (i := 1001) (by decide +kernel)⟩
theorem lw_p84 : lw_okq (⟨"SorrowSpotsModel", "canBe", "(II)Z"⟩, 29) := ⟨⟨by decide +kernel, by decide +kernel⟩, List.mem_of_getElem? (i := 770) (by decide +kernel), List.mem_of_getElem? (i := 1017) (by decide +kernel), List.mem_of_getElem? (i := 1018) (by decide +kernel)⟩
theorem lw_p85 : lw_okq (⟨"SorrowSpotsModel", "becomes", "(II)I"⟩, 29) := ⟨⟨by decide +kernel, by decide +kernel⟩, List.mem_of_getElem? (i := 770) (by decide +kernel), List.mem_of_getElem? (i := 1023) (by decide +kernel), List.mem_of_getElem? (i := 1024) (by decide +kernel)⟩
theorem lw_p86 : lw_okq (⟨"SorrowSpotsModel", "daysGo", "(I)V"⟩, 29) := ⟨⟨by decide +kernel, by decide +kernel⟩, List.mem_of_getElem? (i := 770) (by decide +kernel), List.mem_of_getElem? (i := 1051) (by decide +kernel), List.mem_of_getElem? (i := 1052) (by decide +kernel)⟩
theorem lw_p87 : lw_okq (⟨"SorrowSpotsModel", "strengthNow", "()I"⟩, 29) := ⟨⟨by decide +kernel, by decide +kernel⟩, List.mem_of_getElem? (i := 770) (by decide +kernel), List.mem_of_getElem? (i := 1055) (by decide +kernel), List.mem_of_getElem? (i := 1056) (by decide +kernel)⟩
theorem lw_p88 : lw_okq (⟨"SorrowSpotsModel", "dayGoes", "(I)V"⟩, 29) := ⟨⟨by decide +kernel, by decide +kernel⟩, List.mem_of_getElem? (i := 770) (by decide +kernel), List.mem_of_getElem? (i := 1059) (by decide +kernel), List.mem_of_getElem? (i := 1060) (by decide +kernel)⟩
theorem lw_p89 : lw_okq (⟨"SorrowSpotsModel", "blownOff", "(II)V"⟩, 29) := ⟨⟨by decide +kernel, by decide +kernel⟩, List.mem_of_getElem? (i := 770) (by decide +kernel), List.mem_of_getElem? (i := 1063) (by decide +kernel), List.mem_of_getElem? (i := 1064) (by decide +kernel)⟩
theorem lw_p90 : lw_okq (⟨"SorrowSpotsModel", "becomesOf", "(III)V"⟩, 29) := ⟨⟨by decide +kernel, by decide +kernel⟩, List.mem_of_getElem? (i := 770) (by decide +kernel), List.mem_of_getElem? (i := 1067) (by decide +kernel), List.mem_of_getElem? (i := 1068) (by decide +kernel)⟩
theorem lw_p91 : lw_okq (⟨"SorrowSpotsModel", "goesOn", "(I)V"⟩, 29) := ⟨⟨by decide +kernel, by decide +kernel⟩, List.mem_of_getElem? (i := 770) (by decide +kernel), List.mem_of_getElem? (i := 1071) (by decide +kernel), List.mem_of_getElem? (i := 1072) (by decide +kernel)⟩
theorem lw_p92 : lw_okq (⟨"SorrowSpotsModel", "pace", "(I)I"⟩, 29) := ⟨⟨by decide +kernel, by decide +kernel⟩, List.mem_of_getElem? (i := 770) (by decide +kernel), List.mem_of_getElem? (i := 1075) (by decide +kernel), List.mem_of_getElem? (i := 1076) (by decide +kernel)⟩
theorem lw_p93 : lw_okq (⟨"SorrowSpotsModel", "settles", "()V"⟩, 29) := ⟨⟨by decide +kernel, by decide +kernel⟩, List.mem_of_getElem? (i := 770) (by decide +kernel), List.mem_of_getElem? (i := 1079) (by decide +kernel), List.mem_of_getElem? (i := 1080) (by decide +kernel)⟩
theorem lw_p94 : lw_okq (⟨"SorrowSpotsModel", "daysTo", "(I)I"⟩, 29) := ⟨⟨by decide +kernel, by decide +kernel⟩, List.mem_of_getElem? (i := 770) (by decide +kernel), List.mem_of_getElem? (i := 1103) (by decide +kernel), List.mem_of_getElem? (i := 1104) (by decide +kernel)⟩
theorem lw_p95 : lw_okq (⟨"SorrowSpotsModel", "isMadeWayFor", "(I)Z"⟩, 29) := ⟨⟨by decide +kernel, by decide +kernel⟩, List.mem_of_getElem? (i := 770) (by decide +kernel), List.mem_of_getElem? (i := 1134) (by decide +kernel), List.mem_of_getElem? (i := 1135) (by decide +kernel)⟩
def lw_privs_6 : List (MethodName × Nat) := [(⟨"SorrowSpotsModel", "isBeetle", "(I)Z"⟩, 29), (⟨"SorrowSpotsModel", "placeOf", "(I)I"⟩, 29), (⟨"SorrowSpotsModel", "seeks", "(I)I"⟩, 29), (⟨"SorrowSpotsModel", "leastCounted", "()I"⟩, 29), (⟨"SorrowSpotsModel", "canBe", "(II)Z"⟩, 29), (⟨"SorrowSpotsModel", "becomes", "(II)I"⟩, 29), (⟨"SorrowSpotsModel", "daysGo", "(I)V"⟩, 29), (⟨"SorrowSpotsModel", "strengthNow", "()I"⟩, 29), (⟨"SorrowSpotsModel", "dayGoes", "(I)V"⟩, 29), (⟨"SorrowSpotsModel", "blownOff", "(II)V"⟩, 29), (⟨"SorrowSpotsModel", "becomesOf", "(III)V"⟩, 29), (⟨"SorrowSpotsModel", "goesOn", "(I)V"⟩, 29), (⟨"SorrowSpotsModel", "pace", "(I)I"⟩, 29), (⟨"SorrowSpotsModel", "settles", "()V"⟩, 29), (⟨"SorrowSpotsModel", "daysTo", "(I)I"⟩, 29), (⟨"SorrowSpotsModel", "isMadeWayFor", "(I)Z"⟩, 29)]
theorem lw_r6 : ∀ q ∈ lw_privs_6, lw_okq q := List.forall_mem_cons.mpr ⟨lw_p80, List.forall_mem_cons.mpr ⟨lw_p81, List.forall_mem_cons.mpr ⟨lw_p82, List.forall_mem_cons.mpr ⟨lw_p83, List.forall_mem_cons.mpr ⟨lw_p84, List.forall_mem_cons.mpr ⟨lw_p85, List.forall_mem_cons.mpr ⟨lw_p86, List.forall_mem_cons.mpr ⟨lw_p87, List.forall_mem_cons.mpr ⟨lw_p88, List.forall_mem_cons.mpr ⟨lw_p89, List.forall_mem_cons.mpr ⟨lw_p90, List.forall_mem_cons.mpr ⟨lw_p91, List.forall_mem_cons.mpr ⟨lw_p92, List.forall_mem_cons.mpr ⟨lw_p93, List.forall_mem_cons.mpr ⟨lw_p94, List.forall_mem_cons.mpr ⟨lw_p95, fun _ h => absurd h List.not_mem_nil⟩⟩⟩⟩⟩⟩⟩⟩⟩⟩⟩⟩⟩⟩⟩⟩
theorem lw_p96 : lw_okq (⟨"SorrowSpotsModel", "findOdds", "(IIII)V"⟩, 29) := ⟨⟨by decide +kernel, by decide +kernel⟩, List.mem_of_getElem? (i := 770) (by decide +kernel), List.mem_of_getElem? (i := 1149) (by decide +kernel), List.mem_of_getElem? (i := 1150) (by decide +kernel)⟩
theorem lw_p97 : lw_okq (⟨"SorrowSpotsModel", "isSoWith", "(III)Z"⟩, 29) := ⟨⟨by decide +kernel, by decide +kernel⟩, List.mem_of_getElem? (i := 770) (by decide +kernel), List.mem_of_getElem? (i := 1177) (by decide +kernel), List.mem_of_getElem? (i := 1178) (by decide +kernel)⟩
theorem lw_p98 : lw_okq (⟨"SorrowSpotsModel", "copies", "(II)V"⟩, 29) := ⟨⟨by decide +kernel, by decide +kernel⟩, List.mem_of_getElem? (i := 770) (by decide +kernel), List.mem_of_getElem? (i := 1198) (by decide +kernel), List.mem_of_getElem? (i := 1199) (by decide +kernel)⟩
def lw_privs_7 : List (MethodName × Nat) := [(⟨"SorrowSpotsModel", "findOdds", "(IIII)V"⟩, 29), (⟨"SorrowSpotsModel", "isSoWith", "(III)Z"⟩, 29), (⟨"SorrowSpotsModel", "copies", "(II)V"⟩, 29)]
theorem lw_r7 : ∀ q ∈ lw_privs_7, lw_okq q := List.forall_mem_cons.mpr ⟨lw_p96, List.forall_mem_cons.mpr ⟨lw_p97, List.forall_mem_cons.mpr ⟨lw_p98, fun _ h => absurd h List.not_mem_nil⟩⟩⟩
def lw_privs : List (MethodName × Nat) := lw_privs_1 ++ (lw_privs_2 ++ (lw_privs_3 ++ (lw_privs_4 ++ (lw_privs_5 ++ (lw_privs_6 ++ (lw_privs_7))))))
def lw_tbl : List Cond := k2_sels lw_privs ++ tables_1
theorem lw_privs_ok : ∀ q ∈ lw_privs, lw_okq q := by
  show ∀ q ∈ lw_privs_1 ++ (lw_privs_2 ++ (lw_privs_3 ++ (lw_privs_4 ++ (lw_privs_5 ++ (lw_privs_6 ++ (lw_privs_7)))))), lw_okq q
  exact List.forall_mem_append.mpr ⟨lw_r1, List.forall_mem_append.mpr ⟨lw_r2, List.forall_mem_append.mpr ⟨lw_r3, List.forall_mem_append.mpr ⟨lw_r4, List.forall_mem_append.mpr ⟨lw_r5, List.forall_mem_append.mpr ⟨lw_r6, lw_r7⟩⟩⟩⟩⟩⟩

def RX0 : String := "SorrowSpots$County"
def TX0 : u_T := fun k => match k with
  | 0 => ("SorrowSpots$County", "people", "I", false)
  | 1 => ("SorrowSpots$County", "beetles", "I", false)
  | 2 => ("SorrowSpots$County", "day", "I", false)
  | 3 => ("SorrowSpots$County", "flights", "I", false)
  | 4 => ("SorrowSpots$County", "landings", "I", false)
  | 5 => ("SorrowSpots$County", "place", "[I", true)
  | 6 => ("SorrowSpots$County", "kind", "[I", true)
  | 7 => ("SorrowSpots$County", "spots", "[I", true)
  | 8 => ("SorrowSpots$County", "owner", "[I", true)
  | 9 => ("SorrowSpots$County", "on", "[I", true)
  | 10 => ("SorrowSpots$County", "airPlace", "[I", true)
  | _ => ("SorrowSpots$County", "wind", "[I", true)
def tyX0 : Nat → FieldType := fun k => match k with
  | 0 => .int
  | 1 => .int
  | 2 => .int
  | 3 => .int
  | 4 => .int
  | 5 => .array .int
  | 6 => .array .int
  | 7 => .array .int
  | 8 => .array .int
  | 9 => .array .int
  | 10 => .array .int
  | _ => .array .int
abbrev wsX00 : List Cond := u_ws RX0 TX0 12
theorem nmX0 : ∀ a, a < 12 → ∀ b, b < 12 → a ≠ b → (TX0 a).2.1 ≠ (TX0 b).2.1 := by decide +kernel
theorem tyX0_ok : ∀ k, k < 12 → parseFieldDescriptor (TX0 k).2.2.1 = some (tyX0 k) := by decide +kernel
abbrev cX0_init : ByteArray := prog_2_method_1_code
def yX0_init : MethodName := ⟨RX0, "<init>", "()V"⟩
abbrev cX0_clear : ByteArray := prog_2_method_2_code
def yX0_clear : MethodName := ⟨RX0, "clear", "()V"⟩
abbrev cX0_copyFrom : ByteArray := prog_2_method_3_code
def yX0_copyFrom : MethodName := ⟨RX0, "copyFrom", "(LSorrowSpots$County;)V"⟩
abbrev cX0_hasOne : ByteArray := prog_2_method_4_code
def yX0_hasOne : MethodName := ⟨RX0, "hasOne", "(I)Z"⟩
abbrev cX0_hasBeetle : ByteArray := prog_2_method_5_code
def yX0_hasBeetle : MethodName := ⟨RX0, "hasBeetle", "(I)Z"⟩
abbrev cX0_hasRoomForOne : ByteArray := prog_2_method_6_code
def yX0_hasRoomForOne : MethodName := ⟨RX0, "hasRoomForOne", "()Z"⟩
abbrev cX0_hasRoomForBeetle : ByteArray := prog_2_method_7_code
def yX0_hasRoomForBeetle : MethodName := ⟨RX0, "hasRoomForBeetle", "()Z"⟩
abbrev cX0_addOne : ByteArray := prog_2_method_8_code
def yX0_addOne : MethodName := ⟨RX0, "addOne", "(I)V"⟩
abbrev cX0_addBeetle : ByteArray := prog_2_method_9_code
def yX0_addBeetle : MethodName := ⟨RX0, "addBeetle", "(IIII)V"⟩
abbrev cX0_takeDabbed : ByteArray := prog_2_method_10_code
def yX0_takeDabbed : MethodName := ⟨RX0, "takeDabbed", "(III)I"⟩
abbrev cX0_takeAway : ByteArray := prog_2_method_11_code
def yX0_takeAway : MethodName := ⟨RX0, "takeAway", "(I)V"⟩
abbrev cX0_sits : ByteArray := prog_2_method_12_code
def yX0_sits : MethodName := ⟨RX0, "sits", "(I)Z"⟩
abbrev cX0_putInAir : ByteArray := prog_2_method_13_code
def yX0_putInAir : MethodName := ⟨RX0, "putInAir", "(II)V"⟩
abbrev cX0_placeOf : ByteArray := prog_2_method_14_code
def yX0_placeOf : MethodName := ⟨RX0, "placeOf", "(I)I"⟩
abbrev cX0_weight : ByteArray := prog_2_method_15_code
def yX0_weight : MethodName := ⟨RX0, "weight", "(I)I"⟩
abbrev cX0_pace : ByteArray := prog_2_method_16_code
def yX0_pace : MethodName := ⟨RX0, "pace", "(I)I"⟩
abbrev cX0_sought : ByteArray := prog_2_method_17_code
def yX0_sought : MethodName := ⟨RX0, "sought", "(I)I"⟩
abbrev cX0_counted : ByteArray := prog_2_method_18_code
def yX0_counted : MethodName := ⟨RX0, "counted", "(I)I"⟩
abbrev cX0_countedByPins : ByteArray := prog_2_method_19_code
def yX0_countedByPins : MethodName := ⟨RX0, "countedByPins", "(I)I"⟩
abbrev cX0_countedOfAll : ByteArray := prog_2_method_20_code
def yX0_countedOfAll : MethodName := ⟨RX0, "countedOfAll", "()I"⟩
abbrev cX0_mostCounted : ByteArray := prog_2_method_21_code
def yX0_mostCounted : MethodName := ⟨RX0, "mostCounted", "()I"⟩
abbrev cX0_allMakeWayFor : ByteArray := prog_2_method_22_code
def yX0_allMakeWayFor : MethodName := ⟨RX0, "allMakeWayFor", "(I)Z"⟩
abbrev cX0_sittersOn : ByteArray := prog_2_method_23_code
def yX0_sittersOn : MethodName := ⟨RX0, "sittersOn", "(I)I"⟩
abbrev cX0_sitting : ByteArray := prog_2_method_24_code
def yX0_sitting : MethodName := ⟨RX0, "sitting", "()I"⟩
abbrev cX0_spotsOfAll : ByteArray := prog_2_method_25_code
def yX0_spotsOfAll : MethodName := ⟨RX0, "spotsOfAll", "()I"⟩
abbrev cX0_allWinds : ByteArray := prog_2_method_26_code
def yX0_allWinds : MethodName := ⟨RX0, "allWinds", "()I"⟩
abbrev cX0_passDays : ByteArray := prog_2_method_27_code
def yX0_passDays : MethodName := ⟨RX0, "passDays", "(I)V"⟩
abbrev cX0_windToday : ByteArray := prog_2_method_28_code
def yX0_windToday : MethodName := ⟨RX0, "windToday", "()I"⟩
abbrev cX0_passDay : ByteArray := prog_2_method_29_code
def yX0_passDay : MethodName := ⟨RX0, "passDay", "(I)V"⟩
abbrev cX0_blowOff : ByteArray := prog_2_method_30_code
def yX0_blowOff : MethodName := ⟨RX0, "blowOff", "(II)V"⟩
abbrev cX0_flyTowards : ByteArray := prog_2_method_31_code
def yX0_flyTowards : MethodName := ⟨RX0, "flyTowards", "(II)V"⟩
abbrev cX0_daysTillSits : ByteArray := prog_2_method_32_code
def yX0_daysTillSits : MethodName := ⟨RX0, "daysTillSits", "(II)I"⟩
abbrev cX0_daysTillAllSit : ByteArray := prog_2_method_33_code
def yX0_daysTillAllSit : MethodName := ⟨RX0, "daysTillAllSit", "(I)I"⟩
def RX1 : String := "SorrowSpots$Image"
def TX1 : u_T := fun k => match k with
  | 0 => ("SorrowSpots$Image", "isKept", "Z", false)
  | 1 => ("SorrowSpots$Image", "county", "LSorrowSpots$County;", true)
  | _ => ("SorrowSpots$Image", "seen", "LSorrowSpots$Seen;", true)
def tyX1 : Nat → FieldType := fun k => match k with
  | 0 => .boolean
  | 1 => .object "SorrowSpots$County"
  | _ => .object "SorrowSpots$Seen"
abbrev wsX10 : List Cond := u_ws RX1 TX1 3
theorem nmX1 : ∀ a, a < 3 → ∀ b, b < 3 → a ≠ b → (TX1 a).2.1 ≠ (TX1 b).2.1 := by decide +kernel
theorem tyX1_ok : ∀ k, k < 3 → parseFieldDescriptor (TX1 k).2.2.1 = some (tyX1 k) := by decide +kernel
abbrev cX1_init : ByteArray := prog_3_method_1_code
def yX1_init : MethodName := ⟨RX1, "<init>", "()V"⟩
def RX2 : String := "SorrowSpots$Seen"
def TX2 : u_T := fun k => match k with
  | 0 => ("SorrowSpots$Seen", "many", "I", false)
  | 1 => ("SorrowSpots$Seen", "behind", "[I", true)
  | 2 => ("SorrowSpots$Seen", "who", "[I", true)
  | _ => ("SorrowSpots$Seen", "counted", "[I", true)
def tyX2 : Nat → FieldType := fun k => match k with
  | 0 => .int
  | 1 => .array .int
  | 2 => .array .int
  | _ => .array .int
abbrev wsX20 : List Cond := u_ws RX2 TX2 4
theorem nmX2 : ∀ a, a < 4 → ∀ b, b < 4 → a ≠ b → (TX2 a).2.1 ≠ (TX2 b).2.1 := by decide +kernel
theorem tyX2_ok : ∀ k, k < 4 → parseFieldDescriptor (TX2 k).2.2.1 = some (tyX2 k) := by decide +kernel
abbrev cX2_init : ByteArray := prog_4_method_1_code
def yX2_init : MethodName := ⟨RX2, "<init>", "()V"⟩
abbrev cX2_append : ByteArray := prog_4_method_2_code
def yX2_append : MethodName := ⟨RX2, "append", "(III)Z"⟩
abbrev cX2_copyFrom : ByteArray := prog_4_method_3_code
def yX2_copyFrom : MethodName := ⟨RX2, "copyFrom", "(LSorrowSpots$Seen;)V"⟩
abbrev cX2_isAsIn : ByteArray := prog_4_method_4_code
def yX2_isAsIn : MethodName := ⟨RX2, "isAsIn", "(LSorrowSpots$County;)Z"⟩
def RX3 : String := "SorrowSpots$Sheet"
def TX3 : u_T := fun k => match k with
  | 0 => ("SorrowSpots$Sheet", "lane", "I", false)
  | 1 => ("SorrowSpots$Sheet", "cells", "I", false)
  | _ => ("SorrowSpots$Sheet", "row", "[I", true)
def tyX3 : Nat → FieldType := fun k => match k with
  | 0 => .int
  | 1 => .int
  | _ => .array .int
abbrev wsX30 : List Cond := u_ws RX3 TX3 3
theorem nmX3 : ∀ a, a < 3 → ∀ b, b < 3 → a ≠ b → (TX3 a).2.1 ≠ (TX3 b).2.1 := by decide +kernel
theorem tyX3_ok : ∀ k, k < 3 → parseFieldDescriptor (TX3 k).2.2.1 = some (tyX3 k) := by decide +kernel
abbrev cX3_init : ByteArray := prog_5_method_1_code
def yX3_init : MethodName := ⟨RX3, "<init>", "()V"⟩
abbrev cX3_renew : ByteArray := prog_5_method_2_code
def yX3_renew : MethodName := ⟨RX3, "renew", "(II)V"⟩
abbrev cX3_faultAt : ByteArray := prog_5_method_3_code
def yX3_faultAt : MethodName := ⟨RX3, "faultAt", "(III)I"⟩
abbrev cX3_faultAt_ : ByteArray := prog_5_method_4_code
def yX3_faultAt_ : MethodName := ⟨RX3, "faultAt", "(II)I"⟩
abbrev cX3_put : ByteArray := prog_5_method_5_code
def yX3_put : MethodName := ⟨RX3, "put", "(II)V"⟩
def RX4 : String := "SorrowSpots$Tape"
def TX4 : u_T := fun k => match k with
  | 0 => ("SorrowSpots$Tape", "bytes", "[B", true)
  | 1 => ("SorrowSpots$Tape", "length", "I", false)
  | 2 => ("SorrowSpots$Tape", "sort", "I", false)
  | 3 => ("SorrowSpots$Tape", "start", "I", false)
  | 4 => ("SorrowSpots$Tape", "next", "I", false)
  | _ => ("SorrowSpots$Tape", "value", "I", false)
def tyX4 : Nat → FieldType := fun k => match k with
  | 0 => .array .byte
  | 1 => .int
  | 2 => .int
  | 3 => .int
  | 4 => .int
  | _ => .int
abbrev wsX40 : List Cond := u_ws RX4 TX4 6
theorem nmX4 : ∀ a, a < 6 → ∀ b, b < 6 → a ≠ b → (TX4 a).2.1 ≠ (TX4 b).2.1 := by decide +kernel
theorem tyX4_ok : ∀ k, k < 6 → parseFieldDescriptor (TX4 k).2.2.1 = some (tyX4 k) := by decide +kernel
abbrev cX4_init : ByteArray := prog_6_method_1_code
def yX4_init : MethodName := ⟨RX4, "<init>", "()V"⟩
abbrev cX4_append : ByteArray := prog_6_method_2_code
def yX4_append : MethodName := ⟨RX4, "append", "(I)Z"⟩
abbrev cX4_rewind : ByteArray := prog_6_method_3_code
def yX4_rewind : MethodName := ⟨RX4, "rewind", "()V"⟩
abbrev cX4_readToken : ByteArray := prog_6_method_4_code
def yX4_readToken : MethodName := ⟨RX4, "readToken", "()V"⟩
abbrev cX4_readName : ByteArray := prog_6_method_5_code
def yX4_readName : MethodName := ⟨RX4, "readName", "()V"⟩
abbrev cX4_readNumber : ByteArray := prog_6_method_6_code
def yX4_readNumber : MethodName := ⟨RX4, "readNumber", "()V"⟩
abbrev cX4_isName : ByteArray := prog_6_method_7_code
def yX4_isName : MethodName := ⟨RX4, "isName", "(Ljava/lang/String;)Z"⟩
abbrev cX4_isLetter : ByteArray := prog_6_method_8_code
def yX4_isLetter : MethodName := ⟨RX4, "isLetter", "(I)Z"⟩
abbrev cX4_isFigure : ByteArray := prog_6_method_9_code
def yX4_isFigure : MethodName := ⟨RX4, "isFigure", "(I)Z"⟩
def RX5 : String := "SorrowSpots$Teller"
def TX5 : u_T := fun k => match k with
  | 0 => ("SorrowSpots$Teller", "tape", "LSorrowSpots$Tape;", true)
  | 1 => ("SorrowSpots$Teller", "told", "LSorrowSpots$County;", true)
  | 2 => ("SorrowSpots$Teller", "numbers", "[I", true)
  | 3 => ("SorrowSpots$Teller", "windsTold", "I", false)
  | 4 => ("SorrowSpots$Teller", "lines", "I", false)
  | 5 => ("SorrowSpots$Teller", "fault", "I", false)
  | _ => ("SorrowSpots$Teller", "faultAt", "I", false)
def tyX5 : Nat → FieldType := fun k => match k with
  | 0 => .object "SorrowSpots$Tape"
  | 1 => .object "SorrowSpots$County"
  | 2 => .array .int
  | 3 => .int
  | 4 => .int
  | 5 => .int
  | _ => .int
abbrev wsX50 : List Cond := u_ws RX5 TX5 7
theorem nmX5 : ∀ a, a < 7 → ∀ b, b < 7 → a ≠ b → (TX5 a).2.1 ≠ (TX5 b).2.1 := by decide +kernel
theorem tyX5_ok : ∀ k, k < 7 → parseFieldDescriptor (TX5 k).2.2.1 = some (tyX5 k) := by decide +kernel
abbrev cX5_init : ByteArray := prog_7_method_1_code
def yX5_init : MethodName := ⟨RX5, "<init>", "(LSorrowSpots$Tape;)V"⟩
abbrev cX5_takeText : ByteArray := prog_7_method_2_code
def yX5_takeText : MethodName := ⟨RX5, "takeText", "()Z"⟩
abbrev cX5_takeLine : ByteArray := prog_7_method_3_code
def yX5_takeLine : MethodName := ⟨RX5, "takeLine", "()Z"⟩
abbrev cX5_takeNumber : ByteArray := prog_7_method_4_code
def yX5_takeNumber : MethodName := ⟨RX5, "takeNumber", "(II)Z"⟩
abbrev cX5_take : ByteArray := prog_7_method_5_code
def yX5_take : MethodName := ⟨RX5, "take", "(I)V"⟩
abbrev cX5_lineNamed : ByteArray := prog_7_method_6_code
def yX5_lineNamed : MethodName := ⟨RX5, "lineNamed", "()I"⟩
abbrev cX5_hasRoomFor : ByteArray := prog_7_method_7_code
def yX5_hasRoomFor : MethodName := ⟨RX5, "hasRoomFor", "(I)Z"⟩
abbrev cX5_numbersOf : ByteArray := prog_7_method_8_code
def yX5_numbersOf : MethodName := ⟨RX5, "numbersOf", "(I)I"⟩
abbrev cX5_leastOf : ByteArray := prog_7_method_9_code
def yX5_leastOf : MethodName := ⟨RX5, "leastOf", "(II)I"⟩
abbrev cX5_mostOf : ByteArray := prog_7_method_10_code
def yX5_mostOf : MethodName := ⟨RX5, "mostOf", "(II)I"⟩
abbrev cX5_ownersAreThere : ByteArray := prog_7_method_11_code
def yX5_ownersAreThere : MethodName := ⟨RX5, "ownersAreThere", "()Z"⟩
abbrev cX5_isTokenOf : ByteArray := prog_7_method_12_code
def yX5_isTokenOf : MethodName := ⟨RX5, "isTokenOf", "(I)Z"⟩
abbrev cX5_stopsBy : ByteArray := prog_7_method_13_code
def yX5_stopsBy : MethodName := ⟨RX5, "stopsBy", "(I)Z"⟩
def RX6 : String := "SorrowSpots"
def TX6 : u_T := fun k => match k with
  | 0 => ("SorrowSpots", "tape", "LSorrowSpots$Tape;", true)
  | 1 => ("SorrowSpots", "teller", "LSorrowSpots$Teller;", true)
  | 2 => ("SorrowSpots", "now", "LSorrowSpots$County;", true)
  | 3 => ("SorrowSpots", "seen", "LSorrowSpots$Seen;", true)
  | 4 => ("SorrowSpots", "trial", "LSorrowSpots$County;", true)
  | 5 => ("SorrowSpots", "futures", "[LSorrowSpots$County;", true)
  | 6 => ("SorrowSpots", "looks", "[I", true)
  | 7 => ("SorrowSpots", "images", "[LSorrowSpots$Image;", true)
  | 8 => ("SorrowSpots", "sheets", "[LSorrowSpots$Sheet;", true)
  | _ => ("SorrowSpots", "latestTear", "I", false)
def tyX6 : Nat → FieldType := fun k => match k with
  | 0 => .object "SorrowSpots$Tape"
  | 1 => .object "SorrowSpots$Teller"
  | 2 => .object "SorrowSpots$County"
  | 3 => .object "SorrowSpots$Seen"
  | 4 => .object "SorrowSpots$County"
  | 5 => .array (.object "SorrowSpots$County")
  | 6 => .array .int
  | 7 => .array (.object "SorrowSpots$Image")
  | 8 => .array (.object "SorrowSpots$Sheet")
  | _ => .int
abbrev wsX60 : List Cond := u_ws RX6 TX6 10
theorem nmX6 : ∀ a, a < 10 → ∀ b, b < 10 → a ≠ b → (TX6 a).2.1 ≠ (TX6 b).2.1 := by decide +kernel
theorem tyX6_ok : ∀ k, k < 10 → parseFieldDescriptor (TX6 k).2.2.1 = some (tyX6 k) := by decide +kernel
abbrev cX6_init : ByteArray := prog_1_method_1_code
def yX6_init : MethodName := ⟨RX6, "<init>", "()V"⟩
abbrev cX6_feed : ByteArray := prog_1_method_2_code
def yX6_feed : MethodName := ⟨RX6, "feed", "(I)I"⟩
abbrev cX6_end : ByteArray := prog_1_method_3_code
def yX6_end : MethodName := ⟨RX6, "end", "(I)I"⟩
abbrev cX6_text : ByteArray := prog_1_method_4_code
def yX6_text : MethodName := ⟨RX6, "text", "()I"⟩
abbrev cX6_fault : ByteArray := prog_1_method_5_code
def yX6_fault : MethodName := ⟨RX6, "fault", "()I"⟩
abbrev cX6_rule : ByteArray := prog_1_method_6_code
def yX6_rule : MethodName := ⟨RX6, "rule", "(I)I"⟩
abbrev cX6_one : ByteArray := prog_1_method_7_code
def yX6_one : MethodName := ⟨RX6, "one", "(II)I"⟩
abbrev cX6_beetle : ByteArray := prog_1_method_8_code
def yX6_beetle : MethodName := ⟨RX6, "beetle", "(II)I"⟩
abbrev cX6_wind : ByteArray := prog_1_method_9_code
def yX6_wind : MethodName := ⟨RX6, "wind", "(I)I"⟩
abbrev cX6_meet : ByteArray := prog_1_method_10_code
def yX6_meet : MethodName := ⟨RX6, "meet", "(II)I"⟩
abbrev cX6_alter : ByteArray := prog_1_method_11_code
def yX6_alter : MethodName := ⟨RX6, "alter", "(III)I"⟩
abbrev cX6_walk : ByteArray := prog_1_method_12_code
def yX6_walk : MethodName := ⟨RX6, "walk", "(II)I"⟩
abbrev cX6_blow : ByteArray := prog_1_method_13_code
def yX6_blow : MethodName := ⟨RX6, "blow", "(II)I"⟩
abbrev cX6_dab : ByteArray := prog_1_method_14_code
def yX6_dab : MethodName := ⟨RX6, "dab", "(III)I"⟩
abbrev cX6_lift : ByteArray := prog_1_method_15_code
def yX6_lift : MethodName := ⟨RX6, "lift", "(II)I"⟩
abbrev cX6_days : ByteArray := prog_1_method_16_code
def yX6_days : MethodName := ⟨RX6, "days", "(I)I"⟩
abbrev cX6_runs : ByteArray := prog_1_method_17_code
def yX6_runs : MethodName := ⟨RX6, "runs", "(II)I"⟩
abbrev cX6_ahead : ByteArray := prog_1_method_18_code
def yX6_ahead : MethodName := ⟨RX6, "ahead", "(II)I"⟩
abbrev cX6_where : ByteArray := prog_1_method_19_code
def yX6_where : MethodName := ⟨RX6, "where", "(II)I"⟩
abbrev cX6_home : ByteArray := prog_1_method_20_code
def yX6_home : MethodName := ⟨RX6, "home", "(I)I"⟩
abbrev cX6_shed : ByteArray := prog_1_method_21_code
def yX6_shed : MethodName := ⟨RX6, "shed", "(III)I"⟩
abbrev cX6_calm : ByteArray := prog_1_method_22_code
def yX6_calm : MethodName := ⟨RX6, "calm", "(II)I"⟩
abbrev cX6_kind : ByteArray := prog_1_method_23_code
def yX6_kind : MethodName := ⟨RX6, "kind", "(II)I"⟩
abbrev cX6_swap : ByteArray := prog_1_method_24_code
def yX6_swap : MethodName := ⟨RX6, "swap", "(II)I"⟩
abbrev cX6_need : ByteArray := prog_1_method_25_code
def yX6_need : MethodName := ⟨RX6, "need", "(III)I"⟩
abbrev cX6_off : ByteArray := prog_1_method_26_code
def yX6_off : MethodName := ⟨RX6, "off", "(III)I"⟩
abbrev cX6_luck : ByteArray := prog_1_method_27_code
def yX6_luck : MethodName := ⟨RX6, "luck", "(IIII)J"⟩
abbrev cX6_mean : ByteArray := prog_1_method_28_code
def yX6_mean : MethodName := ⟨RX6, "mean", "(IIII)J"⟩
abbrev cX6_see : ByteArray := prog_1_method_29_code
def yX6_see : MethodName := ⟨RX6, "see", "(III)I"⟩
abbrev cX6_forget : ByteArray := prog_1_method_30_code
def yX6_forget : MethodName := ⟨RX6, "forget", "(I)I"⟩
abbrev cX6_owners : ByteArray := prog_1_method_31_code
def yX6_owners : MethodName := ⟨RX6, "owners", "(I)I"⟩
abbrev cX6_kinds : ByteArray := prog_1_method_32_code
def yX6_kinds : MethodName := ⟨RX6, "kinds", "(I)I"⟩
abbrev cX6_ask : ByteArray := prog_1_method_33_code
def yX6_ask : MethodName := ⟨RX6, "ask", "(II)I"⟩
abbrev cX6_drift : ByteArray := prog_1_method_34_code
def yX6_drift : MethodName := ⟨RX6, "drift", "(III)I"⟩
abbrev cX6_keep : ByteArray := prog_1_method_35_code
def yX6_keep : MethodName := ⟨RX6, "keep", "(I)I"⟩
abbrev cX6_back : ByteArray := prog_1_method_36_code
def yX6_back : MethodName := ⟨RX6, "back", "(I)I"⟩
abbrev cX6_sheet : ByteArray := prog_1_method_37_code
def yX6_sheet : MethodName := ⟨RX6, "sheet", "(III)I"⟩
abbrev cX6_lay : ByteArray := prog_1_method_38_code
def yX6_lay : MethodName := ⟨RX6, "lay", "(III)I"⟩
abbrev cX6_read : ByteArray := prog_1_method_39_code
def yX6_read : MethodName := ⟨RX6, "read", "(IIII)I"⟩
abbrev cX6_torn : ByteArray := prog_1_method_40_code
def yX6_torn : MethodName := ⟨RX6, "torn", "()I"⟩
abbrev cX6_count : ByteArray := prog_1_method_41_code
def yX6_count : MethodName := ⟨RX6, "count", "(I)I"⟩
abbrev cX6_isWithin : ByteArray := prog_1_method_42_code
def yX6_isWithin : MethodName := ⟨RX6, "isWithin", "(III)Z"⟩
abbrev cX6_isKind : ByteArray := prog_1_method_43_code
def yX6_isKind : MethodName := ⟨RX6, "isKind", "(I)Z"⟩
abbrev cX6_fittingOwners : ByteArray := prog_1_method_44_code
def yX6_fittingOwners : MethodName := ⟨RX6, "fittingOwners", "(I)I"⟩
abbrev cX6_mostLeftBy : ByteArray := prog_1_method_45_code
def yX6_mostLeftBy : MethodName := ⟨RX6, "mostLeftBy", "(II)I"⟩
abbrev cX6_byOdds : ByteArray := prog_1_method_46_code
def yX6_byOdds : MethodName := ⟨RX6, "byOdds", "(IIIZI)J"⟩
abbrev cX6_sumOverFutures : ByteArray := prog_1_method_47_code
def yX6_sumOverFutures : MethodName := ⟨RX6, "sumOverFutures", "([LSorrowSpots$County;IIIZI)J"⟩
abbrev cX6_fractionOfTens : ByteArray := prog_1_method_48_code
def yX6_fractionOfTens : MethodName := ⟨RX6, "fractionOfTens", "(JII)J"⟩
abbrev cX6_dabFromSheet : ByteArray := prog_1_method_49_code
def yX6_dabFromSheet : MethodName := ⟨RX6, "dabFromSheet", "(LSorrowSpots$Sheet;I)Z"⟩
abbrev cX6_imagesKept : ByteArray := prog_1_method_50_code
def yX6_imagesKept : MethodName := ⟨RX6, "imagesKept", "()I"⟩
def RX7 : String := "SorrowSpotsModel"
def TX7 : u_T := fun k => match k with
  | 0 => ("SorrowSpotsModel", "st", "[I", true)
  | 1 => ("SorrowSpotsModel", "now", "[I", true)
  | 2 => ("SorrowSpotsModel", "isKept", "[Z", true)
  | 3 => ("SorrowSpotsModel", "people", "I", false)
  | 4 => ("SorrowSpotsModel", "draft", "[I", true)
  | 5 => ("SorrowSpotsModel", "dPeople", "I", false)
  | 6 => ("SorrowSpotsModel", "toldWinds", "I", false)
  | 7 => ("SorrowSpotsModel", "highest", "I", false)
  | 8 => ("SorrowSpotsModel", "tape", "[I", true)
  | 9 => ("SorrowSpotsModel", "taped", "I", false)
  | 10 => ("SorrowSpotsModel", "pos", "I", false)
  | 11 => ("SorrowSpotsModel", "begun", "I", false)
  | 12 => ("SorrowSpotsModel", "sort", "I", false)
  | 13 => ("SorrowSpotsModel", "value", "I", false)
  | 14 => ("SorrowSpotsModel", "fault", "I", false)
  | 15 => ("SorrowSpotsModel", "wrongAt", "I", false)
  | 16 => ("SorrowSpotsModel", "away", "I", false)
  | 17 => ("SorrowSpotsModel", "flights", "I", false)
  | 18 => ("SorrowSpotsModel", "landings", "I", false)
  | 19 => ("SorrowSpotsModel", "sitSum", "J", false)
  | 20 => ("SorrowSpotsModel", "countSum", "J", false)
  | 21 => ("SorrowSpotsModel", "allWays", "J", false)
  | 22 => ("SorrowSpotsModel", "shown", "[I", true)
  | 23 => ("SorrowSpotsModel", "byOwner", "[I", true)
  | 24 => ("SorrowSpotsModel", "lanes", "[I", true)
  | 25 => ("SorrowSpotsModel", "sizes", "[I", true)
  | 26 => ("SorrowSpotsModel", "cells", "[I", true)
  | 27 => ("SorrowSpotsModel", "torn", "I", false)
  | _ => ("SorrowSpotsModel", "before", "[I", true)
def tyX7 : Nat → FieldType := fun k => match k with
  | 0 => .array .int
  | 1 => .array .int
  | 2 => .array .boolean
  | 3 => .int
  | 4 => .array .int
  | 5 => .int
  | 6 => .int
  | 7 => .int
  | 8 => .array .int
  | 9 => .int
  | 10 => .int
  | 11 => .int
  | 12 => .int
  | 13 => .int
  | 14 => .int
  | 15 => .int
  | 16 => .int
  | 17 => .int
  | 18 => .int
  | 19 => .long
  | 20 => .long
  | 21 => .long
  | 22 => .array .int
  | 23 => .array .int
  | 24 => .array .int
  | 25 => .array .int
  | 26 => .array .int
  | 27 => .int
  | _ => .array .int
abbrev wsX70 : List Cond := u_ws RX7 TX7 29
theorem nmX7 : ∀ a, a < 29 → ∀ b, b < 29 → a ≠ b → (TX7 a).2.1 ≠ (TX7 b).2.1 := by decide +kernel
theorem tyX7_ok : ∀ k, k < 29 → parseFieldDescriptor (TX7 k).2.2.1 = some (tyX7 k) := by decide +kernel
abbrev cX7_init : ByteArray := prog_9_method_1_code
def yX7_init : MethodName := ⟨RX7, "<init>", "()V"⟩
abbrev cX7_in : ByteArray := prog_9_method_3_code
def yX7_in : MethodName := ⟨RX7, "in", "(JJJ)Z"⟩
abbrev cX7_flag : ByteArray := prog_9_method_4_code
def yX7_flag : MethodName := ⟨RX7, "flag", "(Z)I"⟩
abbrev cX7_lesser : ByteArray := prog_9_method_5_code
def yX7_lesser : MethodName := ⟨RX7, "lesser", "(II)I"⟩
abbrev cX7_firstDraft : ByteArray := prog_9_method_6_code
def yX7_firstDraft : MethodName := ⟨RX7, "firstDraft", "()V"⟩
abbrev cX7_keepDraft : ByteArray := prog_9_method_7_code
def yX7_keepDraft : MethodName := ⟨RX7, "keepDraft", "()V"⟩
abbrev cX7_feed : ByteArray := prog_9_method_8_code
def yX7_feed : MethodName := ⟨RX7, "feed", "(I)I"⟩
abbrev cX7_end : ByteArray := prog_9_method_9_code
def yX7_end : MethodName := ⟨RX7, "end", "(I)I"⟩
abbrev cX7_needs : ByteArray := prog_9_method_10_code
def yX7_needs : MethodName := ⟨RX7, "needs", "(ZI)V"⟩
abbrev cX7_byteAt : ByteArray := prog_9_method_11_code
def yX7_byteAt : MethodName := ⟨RX7, "byteAt", "(I)I"⟩
abbrev cX7_is : ByteArray := prog_9_method_12_code
def yX7_is : MethodName := ⟨RX7, "is", "(IIII)Z"⟩
abbrev cX7_ends : ByteArray := prog_9_method_13_code
def yX7_ends : MethodName := ⟨RX7, "ends", "(III)Z"⟩
abbrev cX7_lineNow : ByteArray := prog_9_method_14_code
def yX7_lineNow : MethodName := ⟨RX7, "lineNow", "()I"⟩
abbrev cX7_takes : ByteArray := prog_9_method_15_code
def yX7_takes : MethodName := ⟨RX7, "takes", "()V"⟩
abbrev cX7_looked : ByteArray := prog_9_method_16_code
def yX7_looked : MethodName := ⟨RX7, "looked", "(II)I"⟩
abbrev cX7_readNumber : ByteArray := prog_9_method_17_code
def yX7_readNumber : MethodName := ⟨RX7, "readNumber", "(II)I"⟩
abbrev cX7_readBeetle : ByteArray := prog_9_method_18_code
def yX7_readBeetle : MethodName := ⟨RX7, "readBeetle", "(I)V"⟩
abbrev cX7_readLineOf : ByteArray := prog_9_method_19_code
def yX7_readLineOf : MethodName := ⟨RX7, "readLineOf", "(I)V"⟩
abbrev cX7_readLine : ByteArray := prog_9_method_20_code
def yX7_readLine : MethodName := ⟨RX7, "readLine", "()V"⟩
abbrev cX7_text : ByteArray := prog_9_method_21_code
def yX7_text : MethodName := ⟨RX7, "text", "()I"⟩
abbrev cX7_fault : ByteArray := prog_9_method_22_code
def yX7_fault : MethodName := ⟨RX7, "fault", "()I"⟩
abbrev cX7_isOne : ByteArray := prog_9_method_23_code
def yX7_isOne : MethodName := ⟨RX7, "isOne", "(I)Z"⟩
abbrev cX7_isBeetle : ByteArray := prog_9_method_24_code
def yX7_isBeetle : MethodName := ⟨RX7, "isBeetle", "(I)Z"⟩
abbrev cX7_isPlace : ByteArray := prog_9_method_25_code
def yX7_isPlace : MethodName := ⟨RX7, "isPlace", "(I)Z"⟩
abbrev cX7_isPart : ByteArray := prog_9_method_26_code
def yX7_isPart : MethodName := ⟨RX7, "isPart", "(I)Z"⟩
abbrev cX7_starts : ByteArray := prog_9_method_27_code
def yX7_starts : MethodName := ⟨RX7, "starts", "()V"⟩
abbrev cX7_settles : ByteArray := prog_9_method_28_code
def yX7_settles : MethodName := ⟨RX7, "settles", "()V"⟩
abbrev cX7_of : ByteArray := prog_9_method_29_code
def yX7_of : MethodName := ⟨RX7, "of", "(II)I"⟩
abbrev cX7_becomesOf : ByteArray := prog_9_method_30_code
def yX7_becomesOf : MethodName := ⟨RX7, "becomesOf", "(III)V"⟩
abbrev cX7_weight : ByteArray := prog_9_method_31_code
def yX7_weight : MethodName := ⟨RX7, "weight", "(I)I"⟩
abbrev cX7_pace : ByteArray := prog_9_method_32_code
def yX7_pace : MethodName := ⟨RX7, "pace", "(I)I"⟩
abbrev cX7_counted : ByteArray := prog_9_method_33_code
def yX7_counted : MethodName := ⟨RX7, "counted", "(I)I"⟩
abbrev cX7_leastCounted : ByteArray := prog_9_method_34_code
def yX7_leastCounted : MethodName := ⟨RX7, "leastCounted", "()I"⟩
abbrev cX7_seeks : ByteArray := prog_9_method_35_code
def yX7_seeks : MethodName := ⟨RX7, "seeks", "(I)I"⟩
abbrev cX7_placeOf : ByteArray := prog_9_method_36_code
def yX7_placeOf : MethodName := ⟨RX7, "placeOf", "(I)I"⟩
abbrev cX7_blownOff : ByteArray := prog_9_method_37_code
def yX7_blownOff : MethodName := ⟨RX7, "blownOff", "(II)V"⟩
abbrev cX7_goesOn : ByteArray := prog_9_method_38_code
def yX7_goesOn : MethodName := ⟨RX7, "goesOn", "(I)V"⟩
abbrev cX7_dayGoes : ByteArray := prog_9_method_39_code
def yX7_dayGoes : MethodName := ⟨RX7, "dayGoes", "(I)V"⟩
abbrev cX7_strengthNow : ByteArray := prog_9_method_40_code
def yX7_strengthNow : MethodName := ⟨RX7, "strengthNow", "()I"⟩
abbrev cX7_daysGo : ByteArray := prog_9_method_41_code
def yX7_daysGo : MethodName := ⟨RX7, "daysGo", "(I)V"⟩
abbrev cX7_sitting : ByteArray := prog_9_method_42_code
def yX7_sitting : MethodName := ⟨RX7, "sitting", "()I"⟩
abbrev cX7_allCounted : ByteArray := prog_9_method_43_code
def yX7_allCounted : MethodName := ⟨RX7, "allCounted", "()I"⟩
abbrev cX7_mostCounted : ByteArray := prog_9_method_44_code
def yX7_mostCounted : MethodName := ⟨RX7, "mostCounted", "()I"⟩
abbrev cX7_rule : ByteArray := prog_9_method_45_code
def yX7_rule : MethodName := ⟨RX7, "rule", "(I)I"⟩
abbrev cX7_one : ByteArray := prog_9_method_46_code
def yX7_one : MethodName := ⟨RX7, "one", "(II)I"⟩
abbrev cX7_beetle : ByteArray := prog_9_method_47_code
def yX7_beetle : MethodName := ⟨RX7, "beetle", "(II)I"⟩
abbrev cX7_wind : ByteArray := prog_9_method_48_code
def yX7_wind : MethodName := ⟨RX7, "wind", "(I)I"⟩
abbrev cX7_meet : ByteArray := prog_9_method_49_code
def yX7_meet : MethodName := ⟨RX7, "meet", "(II)I"⟩
abbrev cX7_becomes : ByteArray := prog_9_method_50_code
def yX7_becomes : MethodName := ⟨RX7, "becomes", "(II)I"⟩
abbrev cX7_canBe : ByteArray := prog_9_method_51_code
def yX7_canBe : MethodName := ⟨RX7, "canBe", "(II)Z"⟩
abbrev cX7_alter : ByteArray := prog_9_method_52_code
def yX7_alter : MethodName := ⟨RX7, "alter", "(III)I"⟩
abbrev cX7_walk : ByteArray := prog_9_method_53_code
def yX7_walk : MethodName := ⟨RX7, "walk", "(II)I"⟩
abbrev cX7_blow : ByteArray := prog_9_method_54_code
def yX7_blow : MethodName := ⟨RX7, "blow", "(II)I"⟩
abbrev cX7_dab : ByteArray := prog_9_method_55_code
def yX7_dab : MethodName := ⟨RX7, "dab", "(III)I"⟩
abbrev cX7_lift : ByteArray := prog_9_method_56_code
def yX7_lift : MethodName := ⟨RX7, "lift", "(II)I"⟩
abbrev cX7_days : ByteArray := prog_9_method_57_code
def yX7_days : MethodName := ⟨RX7, "days", "(I)I"⟩
abbrev cX7_isFar : ByteArray := prog_9_method_58_code
def yX7_isFar : MethodName := ⟨RX7, "isFar", "(I)Z"⟩
abbrev cX7_runs : ByteArray := prog_9_method_59_code
def yX7_runs : MethodName := ⟨RX7, "runs", "(II)I"⟩
abbrev cX7_ahead : ByteArray := prog_9_method_60_code
def yX7_ahead : MethodName := ⟨RX7, "ahead", "(II)I"⟩
abbrev cX7_where : ByteArray := prog_9_method_61_code
def yX7_where : MethodName := ⟨RX7, "where", "(II)I"⟩
abbrev cX7_daysTo : ByteArray := prog_9_method_62_code
def yX7_daysTo : MethodName := ⟨RX7, "daysTo", "(I)I"⟩
abbrev cX7_home : ByteArray := prog_9_method_63_code
def yX7_home : MethodName := ⟨RX7, "home", "(I)I"⟩
abbrev cX7_shed : ByteArray := prog_9_method_64_code
def yX7_shed : MethodName := ⟨RX7, "shed", "(III)I"⟩
abbrev cX7_calm : ByteArray := prog_9_method_65_code
def yX7_calm : MethodName := ⟨RX7, "calm", "(II)I"⟩
abbrev cX7_kind : ByteArray := prog_9_method_66_code
def yX7_kind : MethodName := ⟨RX7, "kind", "(II)I"⟩
abbrev cX7_swap : ByteArray := prog_9_method_67_code
def yX7_swap : MethodName := ⟨RX7, "swap", "(II)I"⟩
abbrev cX7_isMadeWayFor : ByteArray := prog_9_method_68_code
def yX7_isMadeWayFor : MethodName := ⟨RX7, "isMadeWayFor", "(I)Z"⟩
abbrev cX7_need : ByteArray := prog_9_method_69_code
def yX7_need : MethodName := ⟨RX7, "need", "(III)I"⟩
abbrev cX7_off : ByteArray := prog_9_method_70_code
def yX7_off : MethodName := ⟨RX7, "off", "(III)I"⟩
abbrev cX7_common : ByteArray := prog_9_method_71_code
def yX7_common : MethodName := ⟨RX7, "common", "(JJ)J"⟩
abbrev cX7_told : ByteArray := prog_9_method_72_code
def yX7_told : MethodName := ⟨RX7, "told", "(JJI)J"⟩
abbrev cX7_findOdds : ByteArray := prog_9_method_73_code
def yX7_findOdds : MethodName := ⟨RX7, "findOdds", "(IIII)V"⟩
abbrev cX7_luck : ByteArray := prog_9_method_74_code
def yX7_luck : MethodName := ⟨RX7, "luck", "(IIII)J"⟩
abbrev cX7_mean : ByteArray := prog_9_method_75_code
def yX7_mean : MethodName := ⟨RX7, "mean", "(IIII)J"⟩
abbrev cX7_see : ByteArray := prog_9_method_76_code
def yX7_see : MethodName := ⟨RX7, "see", "(III)I"⟩
abbrev cX7_forget : ByteArray := prog_9_method_77_code
def yX7_forget : MethodName := ⟨RX7, "forget", "(I)I"⟩
abbrev cX7_isSoWith : ByteArray := prog_9_method_78_code
def yX7_isSoWith : MethodName := ⟨RX7, "isSoWith", "(III)Z"⟩
abbrev cX7_owners : ByteArray := prog_9_method_79_code
def yX7_owners : MethodName := ⟨RX7, "owners", "(I)I"⟩
abbrev cX7_kinds : ByteArray := prog_9_method_80_code
def yX7_kinds : MethodName := ⟨RX7, "kinds", "(I)I"⟩
abbrev cX7_ask : ByteArray := prog_9_method_81_code
def yX7_ask : MethodName := ⟨RX7, "ask", "(II)I"⟩
abbrev cX7_drift : ByteArray := prog_9_method_82_code
def yX7_drift : MethodName := ⟨RX7, "drift", "(III)I"⟩
abbrev cX7_copies : ByteArray := prog_9_method_83_code
def yX7_copies : MethodName := ⟨RX7, "copies", "(II)V"⟩
abbrev cX7_keep : ByteArray := prog_9_method_84_code
def yX7_keep : MethodName := ⟨RX7, "keep", "(I)I"⟩
abbrev cX7_back : ByteArray := prog_9_method_85_code
def yX7_back : MethodName := ⟨RX7, "back", "(I)I"⟩
abbrev cX7_isSheet : ByteArray := prog_9_method_86_code
def yX7_isSheet : MethodName := ⟨RX7, "isSheet", "(II)Z"⟩
abbrev cX7_sheet : ByteArray := prog_9_method_87_code
def yX7_sheet : MethodName := ⟨RX7, "sheet", "(III)I"⟩
abbrev cX7_lay : ByteArray := prog_9_method_88_code
def yX7_lay : MethodName := ⟨RX7, "lay", "(III)I"⟩
abbrev cX7_read : ByteArray := prog_9_method_89_code
def yX7_read : MethodName := ⟨RX7, "read", "(IIII)I"⟩
abbrev cX7_torn : ByteArray := prog_9_method_90_code
def yX7_torn : MethodName := ⟨RX7, "torn", "()I"⟩
abbrev cX7_count : ByteArray := prog_9_method_91_code
def yX7_count : MethodName := ⟨RX7, "count", "(I)I"⟩
def RJx145de : String := "java/io/Serializable"
def TJx145de : u_T := fun k => match k with
  | _ => ("", "", "", false)
def tyJx145de : Nat → FieldType := fun k => match k with
  | _ => .int
abbrev wsJx145de0 : List Cond := u_ws RJx145de TJx145de 0
theorem nmJx145de : ∀ a, a < 0 → ∀ b, b < 0 → a ≠ b → (TJx145de a).2.1 ≠ (TJx145de b).2.1 := by decide +kernel
theorem tyJx145de_ok : ∀ k, k < 0 → parseFieldDescriptor (TJx145de k).2.2.1 = some (tyJx145de k) := by decide +kernel
def RJx9f9b0 : String := "java/lang/CharSequence"
def TJx9f9b0 : u_T := fun k => match k with
  | _ => ("", "", "", false)
def tyJx9f9b0 : Nat → FieldType := fun k => match k with
  | _ => .int
abbrev wsJx9f9b00 : List Cond := u_ws RJx9f9b0 TJx9f9b0 0
theorem nmJx9f9b0 : ∀ a, a < 0 → ∀ b, b < 0 → a ≠ b → (TJx9f9b0 a).2.1 ≠ (TJx9f9b0 b).2.1 := by decide +kernel
theorem tyJx9f9b0_ok : ∀ k, k < 0 → parseFieldDescriptor (TJx9f9b0 k).2.2.1 = some (tyJx9f9b0 k) := by decide +kernel
def RJxb160c : String := "java/lang/Comparable"
def TJxb160c : u_T := fun k => match k with
  | _ => ("", "", "", false)
def tyJxb160c : Nat → FieldType := fun k => match k with
  | _ => .int
abbrev wsJxb160c0 : List Cond := u_ws RJxb160c TJxb160c 0
theorem nmJxb160c : ∀ a, a < 0 → ∀ b, b < 0 → a ≠ b → (TJxb160c a).2.1 ≠ (TJxb160c b).2.1 := by decide +kernel
theorem tyJxb160c_ok : ∀ k, k < 0 → parseFieldDescriptor (TJxb160c k).2.2.1 = some (tyJxb160c k) := by decide +kernel
def RJ6 : String := "java/lang/Integer"
def TJ6 : u_T := fun k => match k with
  | _ => ("", "", "", false)
def tyJ6 : Nat → FieldType := fun k => match k with
  | _ => .int
abbrev wsJ60 : List Cond := u_ws RJ6 TJ6 0
theorem nmJ6 : ∀ a, a < 0 → ∀ b, b < 0 → a ≠ b → (TJ6 a).2.1 ≠ (TJ6 b).2.1 := by decide +kernel
theorem tyJ6_ok : ∀ k, k < 0 → parseFieldDescriptor (TJ6 k).2.2.1 = some (tyJ6 k) := by decide +kernel
abbrev cJ6_bitCount_0f7a4 : ByteArray := prog_10_method_49_code
def yJ6_bitCount_0f7a4 : MethodName := ⟨RJ6, "bitCount", "(I)I"⟩
def RJ9 : String := "java/lang/Math"
def TJ9 : u_T := fun k => match k with
  | _ => ("", "", "", false)
def tyJ9 : Nat → FieldType := fun k => match k with
  | _ => .int
abbrev wsJ90 : List Cond := u_ws RJ9 TJ9 0
theorem nmJ9 : ∀ a, a < 0 → ∀ b, b < 0 → a ≠ b → (TJ9 a).2.1 ≠ (TJ9 b).2.1 := by decide +kernel
theorem tyJ9_ok : ∀ k, k < 0 → parseFieldDescriptor (TJ9 k).2.2.1 = some (tyJ9 k) := by decide +kernel
abbrev cJ9_max_7cf53 : ByteArray := prog_11_method_65_code
def yJ9_max_7cf53 : MethodName := ⟨RJ9, "max", "(II)I"⟩
abbrev cJ9_min_7cf53 : ByteArray := prog_11_method_69_code
def yJ9_min_7cf53 : MethodName := ⟨RJ9, "min", "(II)I"⟩
def RJ0 : String := "java/lang/String"
def TJ0 : u_T := fun k => match k with
  | _ => ("", "", "", false)
def tyJ0 : Nat → FieldType := fun k => match k with
  | _ => .int
abbrev wsJ00 : List Cond := u_ws RJ0 TJ0 0
theorem nmJ0 : ∀ a, a < 0 → ∀ b, b < 0 → a ≠ b → (TJ0 a).2.1 ≠ (TJ0 b).2.1 := by decide +kernel
theorem tyJ0_ok : ∀ k, k < 0 → parseFieldDescriptor (TJ0 k).2.2.1 = some (tyJ0 k) := by decide +kernel
abbrev cJ0_length_8abf5 : ByteArray := prog_12_method_54_code
def yJ0_length_8abf5 : MethodName := ⟨RJ0, "length", "()I"⟩
abbrev cJ0_charAt_5068e : ByteArray := prog_12_method_56_code
def yJ0_charAt_5068e : MethodName := ⟨RJ0, "charAt", "(I)C"⟩
abbrev cJ0_coder_7d493 : ByteArray := prog_12_method_152_code
def yJ0_coder_7d493 : MethodName := ⟨RJ0, "coder", "()B"⟩
abbrev cJ0_isLatin1_aae02 : ByteArray := prog_12_method_154_code
def yJ0_isLatin1_aae02 : MethodName := ⟨RJ0, "isLatin1", "()Z"⟩
abbrev cJ0_checkIndex_df160 : ByteArray := prog_12_method_155_code
def yJ0_checkIndex_df160 : MethodName := ⟨RJ0, "checkIndex", "(II)V"⟩
def RJ1 : String := "java/lang/StringLatin1"
def TJ1 : u_T := fun k => match k with
  | _ => ("", "", "", false)
def tyJ1 : Nat → FieldType := fun k => match k with
  | _ => .int
abbrev wsJ10 : List Cond := u_ws RJ1 TJ1 0
theorem nmJ1 : ∀ a, a < 0 → ∀ b, b < 0 → a ≠ b → (TJ1 a).2.1 ≠ (TJ1 b).2.1 := by decide +kernel
theorem tyJ1_ok : ∀ k, k < 0 → parseFieldDescriptor (TJ1 k).2.2.1 = some (tyJ1 k) := by decide +kernel
abbrev cJ1_charAt_3b067 : ByteArray := prog_13_method_2_code
def yJ1_charAt_3b067 : MethodName := ⟨RJ1, "charAt", "([BI)C"⟩
def RJ2 : String := "java/lang/StringUTF16"
def TJ2 : u_T := fun k => match k with
  | _ => ("", "", "", false)
def tyJ2 : Nat → FieldType := fun k => match k with
  | _ => .int
abbrev wsJ20 : List Cond := u_ws RJ2 TJ2 0
theorem nmJ2 : ∀ a, a < 0 → ∀ b, b < 0 → a ≠ b → (TJ2 a).2.1 ≠ (TJ2 b).2.1 := by decide +kernel
theorem tyJ2_ok : ∀ k, k < 0 → parseFieldDescriptor (TJ2 k).2.2.1 = some (tyJ2 k) := by decide +kernel
abbrev cJ2_getChar_3b067 : ByteArray := prog_14_method_5_code
def yJ2_getChar_3b067 : MethodName := ⟨RJ2, "getChar", "([BI)C"⟩
abbrev cJ2_length_9d52b : ByteArray := prog_14_method_6_code
def yJ2_length_9d52b : MethodName := ⟨RJ2, "length", "([B)I"⟩
abbrev cJ2_charAt_3b067 : ByteArray := prog_14_method_83_code
def yJ2_charAt_3b067 : MethodName := ⟨RJ2, "charAt", "([BI)C"⟩
abbrev cJ2_checkIndex_2214a : ByteArray := prog_14_method_91_code
def yJ2_checkIndex_2214a : MethodName := ⟨RJ2, "checkIndex", "(I[B)V"⟩
def RJ10 : String := "java/lang/System"
def TJ10 : u_T := fun k => match k with
  | _ => ("", "", "", false)
def tyJ10 : Nat → FieldType := fun k => match k with
  | _ => .int
abbrev wsJ100 : List Cond := u_ws RJ10 TJ10 0
theorem nmJ10 : ∀ a, a < 0 → ∀ b, b < 0 → a ≠ b → (TJ10 a).2.1 ≠ (TJ10 b).2.1 := by decide +kernel
theorem tyJ10_ok : ∀ k, k < 0 → parseFieldDescriptor (TJ10 k).2.2.1 = some (tyJ10 k) := by decide +kernel
def RJxfd54e : String := "java/lang/constant/Constable"
def TJxfd54e : u_T := fun k => match k with
  | _ => ("", "", "", false)
def tyJxfd54e : Nat → FieldType := fun k => match k with
  | _ => .int
abbrev wsJxfd54e0 : List Cond := u_ws RJxfd54e TJxfd54e 0
theorem nmJxfd54e : ∀ a, a < 0 → ∀ b, b < 0 → a ≠ b → (TJxfd54e a).2.1 ≠ (TJxfd54e b).2.1 := by decide +kernel
theorem tyJxfd54e_ok : ∀ k, k < 0 → parseFieldDescriptor (TJxfd54e k).2.2.1 = some (tyJxfd54e k) := by decide +kernel
def RJx3cf43 : String := "java/lang/constant/ConstantDesc"
def TJx3cf43 : u_T := fun k => match k with
  | _ => ("", "", "", false)
def tyJx3cf43 : Nat → FieldType := fun k => match k with
  | _ => .int
abbrev wsJx3cf430 : List Cond := u_ws RJx3cf43 TJx3cf43 0
theorem nmJx3cf43 : ∀ a, a < 0 → ∀ b, b < 0 → a ≠ b → (TJx3cf43 a).2.1 ≠ (TJx3cf43 b).2.1 := by decide +kernel
theorem tyJx3cf43_ok : ∀ k, k < 0 → parseFieldDescriptor (TJx3cf43 k).2.2.1 = some (tyJx3cf43 k) := by decide +kernel
def RJ7 : String := "java/util/Arrays"
def TJ7 : u_T := fun k => match k with
  | _ => ("", "", "", false)
def tyJ7 : Nat → FieldType := fun k => match k with
  | _ => .int
abbrev wsJ70 : List Cond := u_ws RJ7 TJ7 0
theorem nmJ7 : ∀ a, a < 0 → ∀ b, b < 0 → a ≠ b → (TJ7 a).2.1 ≠ (TJ7 b).2.1 := by decide +kernel
theorem tyJ7_ok : ∀ k, k < 0 → parseFieldDescriptor (TJ7 k).2.2.1 = some (tyJ7 k) := by decide +kernel
abbrev cJ7_fill_53178 : ByteArray := prog_16_method_103_code
def yJ7_fill_53178 : MethodName := ⟨RJ7, "fill", "([II)V"⟩
def RJ3 : String := "jdk/internal/util/Preconditions"
def TJ3 : u_T := fun k => match k with
  | _ => ("", "", "", false)
def tyJ3 : Nat → FieldType := fun k => match k with
  | _ => .int
abbrev wsJ30 : List Cond := u_ws RJ3 TJ3 0
theorem nmJ3 : ∀ a, a < 0 → ∀ b, b < 0 → a ≠ b → (TJ3 a).2.1 ≠ (TJ3 b).2.1 := by decide +kernel
theorem tyJ3_ok : ∀ k, k < 0 → parseFieldDescriptor (TJ3 k).2.2.1 = some (tyJ3 k) := by decide +kernel
abbrev cJ3_checkIndex_8e157 : ByteArray := prog_17_method_11_code
def yJ3_checkIndex_8e157 : MethodName := ⟨RJ3, "checkIndex", "(IILjava/util/function/BiFunction;)I"⟩
def RL : String := "SorrowSpotsLaw"
abbrev cL_law : ByteArray := code
def yL_law : MethodName := ⟨RL, "law", "([I)Z"⟩
abbrev vwCl : List vw_C := [(RX0, TX0, 12), (RX1, TX1, 3), (RX2, TX2, 4), (RX3, TX3, 3), (RX4, TX4, 6), (RX5, TX5, 7), (RX6, TX6, 10), (RX7, TX7, 29)]
end
section
theorem dX0_init_0 : decode cX0_init 0 = .ok (.aload_n 0, 1) := by decide +kernel
theorem dX0_init_1 : decode cX0_init 1 = .ok (.invokespecial 3, 3) := by decide +kernel
theorem dX0_init_4 : decode cX0_init 4 = .ok (.aload_n 0, 1) := by decide +kernel
theorem dX0_init_5 : decode cX0_init 5 = .ok (.iconst 0, 1) := by decide +kernel
theorem dX0_init_6 : decode cX0_init 6 = .ok (.putfield 9, 3) := by decide +kernel
theorem dX0_init_9 : decode cX0_init 9 = .ok (.aload_n 0, 1) := by decide +kernel
theorem dX0_init_10 : decode cX0_init 10 = .ok (.iconst 0, 1) := by decide +kernel
theorem dX0_init_11 : decode cX0_init 11 = .ok (.putfield 15, 3) := by decide +kernel
theorem dX0_init_14 : decode cX0_init 14 = .ok (.aload_n 0, 1) := by decide +kernel
theorem dX0_init_15 : decode cX0_init 15 = .ok (.iconst 0, 1) := by decide +kernel
theorem dX0_init_16 : decode cX0_init 16 = .ok (.putfield 18, 3) := by decide +kernel
theorem dX0_init_19 : decode cX0_init 19 = .ok (.aload_n 0, 1) := by decide +kernel
theorem dX0_init_20 : decode cX0_init 20 = .ok (.iconst 0, 1) := by decide +kernel
theorem dX0_init_21 : decode cX0_init 21 = .ok (.putfield 21, 3) := by decide +kernel
theorem dX0_init_24 : decode cX0_init 24 = .ok (.aload_n 0, 1) := by decide +kernel
theorem dX0_init_25 : decode cX0_init 25 = .ok (.iconst 0, 1) := by decide +kernel
theorem dX0_init_26 : decode cX0_init 26 = .ok (.putfield 24, 3) := by decide +kernel
theorem dX0_init_29 : decode cX0_init 29 = .ok (.aload_n 0, 1) := by decide +kernel
theorem dX0_init_30 : decode cX0_init 30 = .ok (.iconst 4, 1) := by decide +kernel
theorem dX0_init_31 : decode cX0_init 31 = .ok (.newarray .int, 2) := by decide +kernel
theorem dX0_init_33 : decode cX0_init 33 = .ok (.putfield 27, 3) := by decide +kernel
theorem dX0_init_36 : decode cX0_init 36 = .ok (.aload_n 0, 1) := by decide +kernel
theorem dX0_init_37 : decode cX0_init 37 = .ok (.bipush 6, 2) := by decide +kernel
theorem dX0_init_39 : decode cX0_init 39 = .ok (.newarray .int, 2) := by decide +kernel
theorem dX0_init_41 : decode cX0_init 41 = .ok (.putfield 31, 3) := by decide +kernel
theorem dX0_init_44 : decode cX0_init 44 = .ok (.aload_n 0, 1) := by decide +kernel
theorem dX0_init_45 : decode cX0_init 45 = .ok (.bipush 6, 2) := by decide +kernel
theorem dX0_init_47 : decode cX0_init 47 = .ok (.newarray .int, 2) := by decide +kernel
theorem dX0_init_49 : decode cX0_init 49 = .ok (.putfield 34, 3) := by decide +kernel
theorem dX0_init_52 : decode cX0_init 52 = .ok (.aload_n 0, 1) := by decide +kernel
theorem dX0_init_53 : decode cX0_init 53 = .ok (.bipush 6, 2) := by decide +kernel
theorem dX0_init_55 : decode cX0_init 55 = .ok (.newarray .int, 2) := by decide +kernel
theorem dX0_init_57 : decode cX0_init 57 = .ok (.putfield 37, 3) := by decide +kernel
theorem dX0_init_60 : decode cX0_init 60 = .ok (.aload_n 0, 1) := by decide +kernel
theorem dX0_init_61 : decode cX0_init 61 = .ok (.bipush 6, 2) := by decide +kernel
theorem dX0_init_63 : decode cX0_init 63 = .ok (.newarray .int, 2) := by decide +kernel
theorem dX0_init_65 : decode cX0_init 65 = .ok (.putfield 40, 3) := by decide +kernel
theorem dX0_init_68 : decode cX0_init 68 = .ok (.aload_n 0, 1) := by decide +kernel
theorem dX0_init_69 : decode cX0_init 69 = .ok (.bipush 6, 2) := by decide +kernel
theorem dX0_init_71 : decode cX0_init 71 = .ok (.newarray .int, 2) := by decide +kernel
theorem dX0_init_73 : decode cX0_init 73 = .ok (.putfield 43, 3) := by decide +kernel
theorem dX0_init_76 : decode cX0_init 76 = .ok (.aload_n 0, 1) := by decide +kernel
theorem dX0_init_77 : decode cX0_init 77 = .ok (.bipush 6, 2) := by decide +kernel
theorem dX0_init_79 : decode cX0_init 79 = .ok (.newarray .int, 2) := by decide +kernel
theorem dX0_init_81 : decode cX0_init 81 = .ok (.putfield 46, 3) := by decide +kernel
theorem dX0_init_84 : decode cX0_init 84 = .ok (.return_, 1) := by decide +kernel
theorem dX0_clear_0 : decode cX0_clear 0 = .ok (.aload_n 0, 1) := by decide +kernel
theorem dX0_clear_1 : decode cX0_clear 1 = .ok (.iconst 0, 1) := by decide +kernel
theorem dX0_clear_2 : decode cX0_clear 2 = .ok (.putfield 9, 3) := by decide +kernel
theorem dX0_clear_5 : decode cX0_clear 5 = .ok (.aload_n 0, 1) := by decide +kernel
theorem dX0_clear_6 : decode cX0_clear 6 = .ok (.iconst 0, 1) := by decide +kernel
theorem dX0_clear_7 : decode cX0_clear 7 = .ok (.putfield 15, 3) := by decide +kernel
theorem dX0_clear_10 : decode cX0_clear 10 = .ok (.aload_n 0, 1) := by decide +kernel
theorem dX0_clear_11 : decode cX0_clear 11 = .ok (.iconst 0, 1) := by decide +kernel
theorem dX0_clear_12 : decode cX0_clear 12 = .ok (.putfield 18, 3) := by decide +kernel
theorem dX0_clear_15 : decode cX0_clear 15 = .ok (.aload_n 0, 1) := by decide +kernel
theorem dX0_clear_16 : decode cX0_clear 16 = .ok (.iconst 0, 1) := by decide +kernel
theorem dX0_clear_17 : decode cX0_clear 17 = .ok (.putfield 21, 3) := by decide +kernel
theorem dX0_clear_20 : decode cX0_clear 20 = .ok (.aload_n 0, 1) := by decide +kernel
theorem dX0_clear_21 : decode cX0_clear 21 = .ok (.iconst 0, 1) := by decide +kernel
theorem dX0_clear_22 : decode cX0_clear 22 = .ok (.putfield 24, 3) := by decide +kernel
theorem dX0_clear_25 : decode cX0_clear 25 = .ok (.aload_n 0, 1) := by decide +kernel
theorem dX0_clear_26 : decode cX0_clear 26 = .ok (.getfield 46, 3) := by decide +kernel
theorem dX0_clear_29 : decode cX0_clear 29 = .ok (.iconst 0, 1) := by decide +kernel
theorem dX0_clear_30 : decode cX0_clear 30 = .ok (.invokestatic 49, 3) := by decide +kernel
theorem dX0_clear_33 : decode cX0_clear 33 = .ok (.return_, 1) := by decide +kernel
theorem dX0_copyFrom_0 : decode cX0_copyFrom 0 = .ok (.aload_n 0, 1) := by decide +kernel
theorem dX0_copyFrom_1 : decode cX0_copyFrom 1 = .ok (.aload_n 1, 1) := by decide +kernel
theorem dX0_copyFrom_2 : decode cX0_copyFrom 2 = .ok (.getfield 9, 3) := by decide +kernel
theorem dX0_copyFrom_5 : decode cX0_copyFrom 5 = .ok (.putfield 9, 3) := by decide +kernel
theorem dX0_copyFrom_8 : decode cX0_copyFrom 8 = .ok (.aload_n 0, 1) := by decide +kernel
theorem dX0_copyFrom_9 : decode cX0_copyFrom 9 = .ok (.aload_n 1, 1) := by decide +kernel
theorem dX0_copyFrom_10 : decode cX0_copyFrom 10 = .ok (.getfield 15, 3) := by decide +kernel
theorem dX0_copyFrom_13 : decode cX0_copyFrom 13 = .ok (.putfield 15, 3) := by decide +kernel
theorem dX0_copyFrom_16 : decode cX0_copyFrom 16 = .ok (.aload_n 0, 1) := by decide +kernel
theorem dX0_copyFrom_17 : decode cX0_copyFrom 17 = .ok (.aload_n 1, 1) := by decide +kernel
theorem dX0_copyFrom_18 : decode cX0_copyFrom 18 = .ok (.getfield 18, 3) := by decide +kernel
theorem dX0_copyFrom_21 : decode cX0_copyFrom 21 = .ok (.putfield 18, 3) := by decide +kernel
theorem dX0_copyFrom_24 : decode cX0_copyFrom 24 = .ok (.aload_n 0, 1) := by decide +kernel
theorem dX0_copyFrom_25 : decode cX0_copyFrom 25 = .ok (.iconst 0, 1) := by decide +kernel
theorem dX0_copyFrom_26 : decode cX0_copyFrom 26 = .ok (.putfield 21, 3) := by decide +kernel
theorem dX0_copyFrom_29 : decode cX0_copyFrom 29 = .ok (.aload_n 0, 1) := by decide +kernel
theorem dX0_copyFrom_30 : decode cX0_copyFrom 30 = .ok (.iconst 0, 1) := by decide +kernel
theorem dX0_copyFrom_31 : decode cX0_copyFrom 31 = .ok (.putfield 24, 3) := by decide +kernel
theorem dX0_copyFrom_34 : decode cX0_copyFrom 34 = .ok (.aload_n 1, 1) := by decide +kernel
theorem dX0_copyFrom_35 : decode cX0_copyFrom 35 = .ok (.getfield 27, 3) := by decide +kernel
theorem dX0_copyFrom_38 : decode cX0_copyFrom 38 = .ok (.iconst 0, 1) := by decide +kernel
theorem dX0_copyFrom_39 : decode cX0_copyFrom 39 = .ok (.aload_n 0, 1) := by decide +kernel
theorem dX0_copyFrom_40 : decode cX0_copyFrom 40 = .ok (.getfield 27, 3) := by decide +kernel
theorem dX0_copyFrom_43 : decode cX0_copyFrom 43 = .ok (.iconst 0, 1) := by decide +kernel
theorem dX0_copyFrom_44 : decode cX0_copyFrom 44 = .ok (.iconst 4, 1) := by decide +kernel
theorem dX0_copyFrom_45 : decode cX0_copyFrom 45 = .ok (.invokestatic 55, 3) := by decide +kernel
theorem dX0_copyFrom_48 : decode cX0_copyFrom 48 = .ok (.aload_n 1, 1) := by decide +kernel
theorem dX0_copyFrom_49 : decode cX0_copyFrom 49 = .ok (.getfield 31, 3) := by decide +kernel
theorem dX0_copyFrom_52 : decode cX0_copyFrom 52 = .ok (.iconst 0, 1) := by decide +kernel
theorem dX0_copyFrom_53 : decode cX0_copyFrom 53 = .ok (.aload_n 0, 1) := by decide +kernel
theorem dX0_copyFrom_54 : decode cX0_copyFrom 54 = .ok (.getfield 31, 3) := by decide +kernel
theorem dX0_copyFrom_57 : decode cX0_copyFrom 57 = .ok (.iconst 0, 1) := by decide +kernel
theorem dX0_copyFrom_58 : decode cX0_copyFrom 58 = .ok (.bipush 6, 2) := by decide +kernel
theorem dX0_copyFrom_60 : decode cX0_copyFrom 60 = .ok (.invokestatic 55, 3) := by decide +kernel
theorem dX0_copyFrom_63 : decode cX0_copyFrom 63 = .ok (.aload_n 1, 1) := by decide +kernel
theorem dX0_copyFrom_64 : decode cX0_copyFrom 64 = .ok (.getfield 34, 3) := by decide +kernel
theorem dX0_copyFrom_67 : decode cX0_copyFrom 67 = .ok (.iconst 0, 1) := by decide +kernel
theorem dX0_copyFrom_68 : decode cX0_copyFrom 68 = .ok (.aload_n 0, 1) := by decide +kernel
theorem dX0_copyFrom_69 : decode cX0_copyFrom 69 = .ok (.getfield 34, 3) := by decide +kernel
theorem dX0_copyFrom_72 : decode cX0_copyFrom 72 = .ok (.iconst 0, 1) := by decide +kernel
theorem dX0_copyFrom_73 : decode cX0_copyFrom 73 = .ok (.bipush 6, 2) := by decide +kernel
theorem dX0_copyFrom_75 : decode cX0_copyFrom 75 = .ok (.invokestatic 55, 3) := by decide +kernel
theorem dX0_copyFrom_78 : decode cX0_copyFrom 78 = .ok (.aload_n 1, 1) := by decide +kernel
theorem dX0_copyFrom_79 : decode cX0_copyFrom 79 = .ok (.getfield 37, 3) := by decide +kernel
theorem dX0_copyFrom_82 : decode cX0_copyFrom 82 = .ok (.iconst 0, 1) := by decide +kernel
theorem dX0_copyFrom_83 : decode cX0_copyFrom 83 = .ok (.aload_n 0, 1) := by decide +kernel
theorem dX0_copyFrom_84 : decode cX0_copyFrom 84 = .ok (.getfield 37, 3) := by decide +kernel
theorem dX0_copyFrom_87 : decode cX0_copyFrom 87 = .ok (.iconst 0, 1) := by decide +kernel
theorem dX0_copyFrom_88 : decode cX0_copyFrom 88 = .ok (.bipush 6, 2) := by decide +kernel
theorem dX0_copyFrom_90 : decode cX0_copyFrom 90 = .ok (.invokestatic 55, 3) := by decide +kernel
theorem dX0_copyFrom_93 : decode cX0_copyFrom 93 = .ok (.aload_n 1, 1) := by decide +kernel
theorem dX0_copyFrom_94 : decode cX0_copyFrom 94 = .ok (.getfield 40, 3) := by decide +kernel
theorem dX0_copyFrom_97 : decode cX0_copyFrom 97 = .ok (.iconst 0, 1) := by decide +kernel
theorem dX0_copyFrom_98 : decode cX0_copyFrom 98 = .ok (.aload_n 0, 1) := by decide +kernel
theorem dX0_copyFrom_99 : decode cX0_copyFrom 99 = .ok (.getfield 40, 3) := by decide +kernel
theorem dX0_copyFrom_102 : decode cX0_copyFrom 102 = .ok (.iconst 0, 1) := by decide +kernel
theorem dX0_copyFrom_103 : decode cX0_copyFrom 103 = .ok (.bipush 6, 2) := by decide +kernel
theorem dX0_copyFrom_105 : decode cX0_copyFrom 105 = .ok (.invokestatic 55, 3) := by decide +kernel
theorem dX0_copyFrom_108 : decode cX0_copyFrom 108 = .ok (.aload_n 1, 1) := by decide +kernel
theorem dX0_copyFrom_109 : decode cX0_copyFrom 109 = .ok (.getfield 43, 3) := by decide +kernel
theorem dX0_copyFrom_112 : decode cX0_copyFrom 112 = .ok (.iconst 0, 1) := by decide +kernel
theorem dX0_copyFrom_113 : decode cX0_copyFrom 113 = .ok (.aload_n 0, 1) := by decide +kernel
theorem dX0_copyFrom_114 : decode cX0_copyFrom 114 = .ok (.getfield 43, 3) := by decide +kernel
theorem dX0_copyFrom_117 : decode cX0_copyFrom 117 = .ok (.iconst 0, 1) := by decide +kernel
theorem dX0_copyFrom_118 : decode cX0_copyFrom 118 = .ok (.bipush 6, 2) := by decide +kernel
theorem dX0_copyFrom_120 : decode cX0_copyFrom 120 = .ok (.invokestatic 55, 3) := by decide +kernel
theorem dX0_copyFrom_123 : decode cX0_copyFrom 123 = .ok (.aload_n 1, 1) := by decide +kernel
theorem dX0_copyFrom_124 : decode cX0_copyFrom 124 = .ok (.getfield 46, 3) := by decide +kernel
theorem dX0_copyFrom_127 : decode cX0_copyFrom 127 = .ok (.iconst 0, 1) := by decide +kernel
theorem dX0_copyFrom_128 : decode cX0_copyFrom 128 = .ok (.aload_n 0, 1) := by decide +kernel
theorem dX0_copyFrom_129 : decode cX0_copyFrom 129 = .ok (.getfield 46, 3) := by decide +kernel
theorem dX0_copyFrom_132 : decode cX0_copyFrom 132 = .ok (.iconst 0, 1) := by decide +kernel
theorem dX0_copyFrom_133 : decode cX0_copyFrom 133 = .ok (.bipush 6, 2) := by decide +kernel
theorem dX0_copyFrom_135 : decode cX0_copyFrom 135 = .ok (.invokestatic 55, 3) := by decide +kernel
theorem dX0_copyFrom_138 : decode cX0_copyFrom 138 = .ok (.return_, 1) := by decide +kernel
theorem dX0_hasOne_0 : decode cX0_hasOne 0 = .ok (.iload_n 1, 1) := by decide +kernel
theorem dX0_hasOne_1 : decode cX0_hasOne 1 = .ok (.ifCond .lt 15, 3) := by decide +kernel
theorem dX0_hasOne_4 : decode cX0_hasOne 4 = .ok (.iload_n 1, 1) := by decide +kernel
theorem dX0_hasOne_5 : decode cX0_hasOne 5 = .ok (.aload_n 0, 1) := by decide +kernel
theorem dX0_hasOne_6 : decode cX0_hasOne 6 = .ok (.getfield 9, 3) := by decide +kernel
theorem dX0_hasOne_9 : decode cX0_hasOne 9 = .ok (.if_icmp .ge 7, 3) := by decide +kernel
theorem dX0_hasOne_12 : decode cX0_hasOne 12 = .ok (.iconst 1, 1) := by decide +kernel
theorem dX0_hasOne_13 : decode cX0_hasOne 13 = .ok (.goto 4, 3) := by decide +kernel
theorem dX0_hasOne_16 : decode cX0_hasOne 16 = .ok (.iconst 0, 1) := by decide +kernel
theorem dX0_hasOne_17 : decode cX0_hasOne 17 = .ok (.ireturn, 1) := by decide +kernel
theorem dX0_hasBeetle_0 : decode cX0_hasBeetle 0 = .ok (.iload_n 1, 1) := by decide +kernel
theorem dX0_hasBeetle_1 : decode cX0_hasBeetle 1 = .ok (.ifCond .lt 15, 3) := by decide +kernel
theorem dX0_hasBeetle_4 : decode cX0_hasBeetle 4 = .ok (.iload_n 1, 1) := by decide +kernel
theorem dX0_hasBeetle_5 : decode cX0_hasBeetle 5 = .ok (.aload_n 0, 1) := by decide +kernel
theorem dX0_hasBeetle_6 : decode cX0_hasBeetle 6 = .ok (.getfield 15, 3) := by decide +kernel
theorem dX0_hasBeetle_9 : decode cX0_hasBeetle 9 = .ok (.if_icmp .ge 7, 3) := by decide +kernel
theorem dX0_hasBeetle_12 : decode cX0_hasBeetle 12 = .ok (.iconst 1, 1) := by decide +kernel
theorem dX0_hasBeetle_13 : decode cX0_hasBeetle 13 = .ok (.goto 4, 3) := by decide +kernel
theorem dX0_hasBeetle_16 : decode cX0_hasBeetle 16 = .ok (.iconst 0, 1) := by decide +kernel
theorem dX0_hasBeetle_17 : decode cX0_hasBeetle 17 = .ok (.ireturn, 1) := by decide +kernel
theorem dX0_hasRoomForOne_0 : decode cX0_hasRoomForOne 0 = .ok (.aload_n 0, 1) := by decide +kernel
theorem dX0_hasRoomForOne_1 : decode cX0_hasRoomForOne 1 = .ok (.getfield 9, 3) := by decide +kernel
theorem dX0_hasRoomForOne_4 : decode cX0_hasRoomForOne 4 = .ok (.iconst 4, 1) := by decide +kernel
theorem dX0_hasRoomForOne_5 : decode cX0_hasRoomForOne 5 = .ok (.if_icmp .ge 7, 3) := by decide +kernel
theorem dX0_hasRoomForOne_8 : decode cX0_hasRoomForOne 8 = .ok (.iconst 1, 1) := by decide +kernel
theorem dX0_hasRoomForOne_9 : decode cX0_hasRoomForOne 9 = .ok (.goto 4, 3) := by decide +kernel
theorem dX0_hasRoomForOne_12 : decode cX0_hasRoomForOne 12 = .ok (.iconst 0, 1) := by decide +kernel
theorem dX0_hasRoomForOne_13 : decode cX0_hasRoomForOne 13 = .ok (.ireturn, 1) := by decide +kernel
theorem dX0_hasRoomForBeetle_0 : decode cX0_hasRoomForBeetle 0 = .ok (.aload_n 0, 1) := by decide +kernel
theorem dX0_hasRoomForBeetle_1 : decode cX0_hasRoomForBeetle 1 = .ok (.getfield 15, 3) := by decide +kernel
theorem dX0_hasRoomForBeetle_4 : decode cX0_hasRoomForBeetle 4 = .ok (.bipush 6, 2) := by decide +kernel
theorem dX0_hasRoomForBeetle_6 : decode cX0_hasRoomForBeetle 6 = .ok (.if_icmp .ge 7, 3) := by decide +kernel
theorem dX0_hasRoomForBeetle_9 : decode cX0_hasRoomForBeetle 9 = .ok (.iconst 1, 1) := by decide +kernel
theorem dX0_hasRoomForBeetle_10 : decode cX0_hasRoomForBeetle 10 = .ok (.goto 4, 3) := by decide +kernel
theorem dX0_hasRoomForBeetle_13 : decode cX0_hasRoomForBeetle 13 = .ok (.iconst 0, 1) := by decide +kernel
theorem dX0_hasRoomForBeetle_14 : decode cX0_hasRoomForBeetle 14 = .ok (.ireturn, 1) := by decide +kernel
theorem dX0_addOne_0 : decode cX0_addOne 0 = .ok (.aload_n 0, 1) := by decide +kernel
theorem dX0_addOne_1 : decode cX0_addOne 1 = .ok (.invokevirtual 61, 3) := by decide +kernel
theorem dX0_addOne_4 : decode cX0_addOne 4 = .ok (.ifCond .eq 23, 3) := by decide +kernel
theorem dX0_addOne_7 : decode cX0_addOne 7 = .ok (.aload_n 0, 1) := by decide +kernel
theorem dX0_addOne_8 : decode cX0_addOne 8 = .ok (.getfield 27, 3) := by decide +kernel
theorem dX0_addOne_11 : decode cX0_addOne 11 = .ok (.aload_n 0, 1) := by decide +kernel
theorem dX0_addOne_12 : decode cX0_addOne 12 = .ok (.getfield 9, 3) := by decide +kernel
theorem dX0_addOne_15 : decode cX0_addOne 15 = .ok (.iload_n 1, 1) := by decide +kernel
theorem dX0_addOne_16 : decode cX0_addOne 16 = .ok (.iastore, 1) := by decide +kernel
theorem dX0_addOne_17 : decode cX0_addOne 17 = .ok (.aload_n 0, 1) := by decide +kernel
theorem dX0_addOne_18 : decode cX0_addOne 18 = .ok (.dup, 1) := by decide +kernel
theorem dX0_addOne_19 : decode cX0_addOne 19 = .ok (.getfield 9, 3) := by decide +kernel
theorem dX0_addOne_22 : decode cX0_addOne 22 = .ok (.iconst 1, 1) := by decide +kernel
theorem dX0_addOne_23 : decode cX0_addOne 23 = .ok (.iadd, 1) := by decide +kernel
theorem dX0_addOne_24 : decode cX0_addOne 24 = .ok (.putfield 9, 3) := by decide +kernel
theorem dX0_addOne_27 : decode cX0_addOne 27 = .ok (.return_, 1) := by decide +kernel
theorem dX0_addBeetle_0 : decode cX0_addBeetle 0 = .ok (.aload_n 0, 1) := by decide +kernel
theorem dX0_addBeetle_1 : decode cX0_addBeetle 1 = .ok (.invokevirtual 65, 3) := by decide +kernel
theorem dX0_addBeetle_4 : decode cX0_addBeetle 4 = .ok (.ifCond .eq 65, 3) := by decide +kernel
theorem dX0_addBeetle_7 : decode cX0_addBeetle 7 = .ok (.aload_n 0, 1) := by decide +kernel
theorem dX0_addBeetle_8 : decode cX0_addBeetle 8 = .ok (.getfield 31, 3) := by decide +kernel
theorem dX0_addBeetle_11 : decode cX0_addBeetle 11 = .ok (.aload_n 0, 1) := by decide +kernel
theorem dX0_addBeetle_12 : decode cX0_addBeetle 12 = .ok (.getfield 15, 3) := by decide +kernel
theorem dX0_addBeetle_15 : decode cX0_addBeetle 15 = .ok (.iload_n 1, 1) := by decide +kernel
theorem dX0_addBeetle_16 : decode cX0_addBeetle 16 = .ok (.iastore, 1) := by decide +kernel
theorem dX0_addBeetle_17 : decode cX0_addBeetle 17 = .ok (.aload_n 0, 1) := by decide +kernel
theorem dX0_addBeetle_18 : decode cX0_addBeetle 18 = .ok (.getfield 34, 3) := by decide +kernel
theorem dX0_addBeetle_21 : decode cX0_addBeetle 21 = .ok (.aload_n 0, 1) := by decide +kernel
theorem dX0_addBeetle_22 : decode cX0_addBeetle 22 = .ok (.getfield 15, 3) := by decide +kernel
theorem dX0_addBeetle_25 : decode cX0_addBeetle 25 = .ok (.iload_n 2, 1) := by decide +kernel
theorem dX0_addBeetle_26 : decode cX0_addBeetle 26 = .ok (.iastore, 1) := by decide +kernel
theorem dX0_addBeetle_27 : decode cX0_addBeetle 27 = .ok (.aload_n 0, 1) := by decide +kernel
theorem dX0_addBeetle_28 : decode cX0_addBeetle 28 = .ok (.getfield 37, 3) := by decide +kernel
theorem dX0_addBeetle_31 : decode cX0_addBeetle 31 = .ok (.aload_n 0, 1) := by decide +kernel
theorem dX0_addBeetle_32 : decode cX0_addBeetle 32 = .ok (.getfield 15, 3) := by decide +kernel
theorem dX0_addBeetle_35 : decode cX0_addBeetle 35 = .ok (.iload_n 3, 1) := by decide +kernel
theorem dX0_addBeetle_36 : decode cX0_addBeetle 36 = .ok (.iastore, 1) := by decide +kernel
theorem dX0_addBeetle_37 : decode cX0_addBeetle 37 = .ok (.aload_n 0, 1) := by decide +kernel
theorem dX0_addBeetle_38 : decode cX0_addBeetle 38 = .ok (.getfield 40, 3) := by decide +kernel
theorem dX0_addBeetle_41 : decode cX0_addBeetle 41 = .ok (.aload_n 0, 1) := by decide +kernel
theorem dX0_addBeetle_42 : decode cX0_addBeetle 42 = .ok (.getfield 15, 3) := by decide +kernel
theorem dX0_addBeetle_45 : decode cX0_addBeetle 45 = .ok (.bipush (-4), 2) := by decide +kernel
theorem dX0_addBeetle_47 : decode cX0_addBeetle 47 = .ok (.iastore, 1) := by decide +kernel
theorem dX0_addBeetle_48 : decode cX0_addBeetle 48 = .ok (.aload_n 0, 1) := by decide +kernel
theorem dX0_addBeetle_49 : decode cX0_addBeetle 49 = .ok (.getfield 43, 3) := by decide +kernel
theorem dX0_addBeetle_52 : decode cX0_addBeetle 52 = .ok (.aload_n 0, 1) := by decide +kernel
theorem dX0_addBeetle_53 : decode cX0_addBeetle 53 = .ok (.getfield 15, 3) := by decide +kernel
theorem dX0_addBeetle_56 : decode cX0_addBeetle 56 = .ok (.iload 4, 2) := by decide +kernel
theorem dX0_addBeetle_58 : decode cX0_addBeetle 58 = .ok (.iastore, 1) := by decide +kernel
theorem dX0_addBeetle_59 : decode cX0_addBeetle 59 = .ok (.aload_n 0, 1) := by decide +kernel
theorem dX0_addBeetle_60 : decode cX0_addBeetle 60 = .ok (.dup, 1) := by decide +kernel
theorem dX0_addBeetle_61 : decode cX0_addBeetle 61 = .ok (.getfield 15, 3) := by decide +kernel
theorem dX0_addBeetle_64 : decode cX0_addBeetle 64 = .ok (.iconst 1, 1) := by decide +kernel
theorem dX0_addBeetle_65 : decode cX0_addBeetle 65 = .ok (.iadd, 1) := by decide +kernel
theorem dX0_addBeetle_66 : decode cX0_addBeetle 66 = .ok (.putfield 15, 3) := by decide +kernel
theorem dX0_addBeetle_69 : decode cX0_addBeetle 69 = .ok (.return_, 1) := by decide +kernel
theorem dX0_takeDabbed_0 : decode cX0_takeDabbed 0 = .ok (.iload_n 1, 1) := by decide +kernel
theorem dX0_takeDabbed_1 : decode cX0_takeDabbed 1 = .ok (.invokestatic 68, 3) := by decide +kernel
theorem dX0_takeDabbed_4 : decode cX0_takeDabbed 4 = .ok (.ifCond .eq 21, 3) := by decide +kernel
theorem dX0_takeDabbed_7 : decode cX0_takeDabbed 7 = .ok (.iload_n 2, 1) := by decide +kernel
theorem dX0_takeDabbed_8 : decode cX0_takeDabbed 8 = .ok (.iconst 1, 1) := by decide +kernel
theorem dX0_takeDabbed_9 : decode cX0_takeDabbed 9 = .ok (.bipush 9, 2) := by decide +kernel
theorem dX0_takeDabbed_11 : decode cX0_takeDabbed 11 = .ok (.invokestatic 72, 3) := by decide +kernel
theorem dX0_takeDabbed_14 : decode cX0_takeDabbed 14 = .ok (.ifCond .eq 11, 3) := by decide +kernel
theorem dX0_takeDabbed_17 : decode cX0_takeDabbed 17 = .ok (.aload_n 0, 1) := by decide +kernel
theorem dX0_takeDabbed_18 : decode cX0_takeDabbed 18 = .ok (.iload_n 3, 1) := by decide +kernel
theorem dX0_takeDabbed_19 : decode cX0_takeDabbed 19 = .ok (.invokevirtual 76, 3) := by decide +kernel
theorem dX0_takeDabbed_22 : decode cX0_takeDabbed 22 = .ok (.ifCond .ne 5, 3) := by decide +kernel
theorem dX0_takeDabbed_25 : decode cX0_takeDabbed 25 = .ok (.iconst (-1), 1) := by decide +kernel
theorem dX0_takeDabbed_26 : decode cX0_takeDabbed 26 = .ok (.ireturn, 1) := by decide +kernel
theorem dX0_takeDabbed_27 : decode cX0_takeDabbed 27 = .ok (.aload_n 0, 1) := by decide +kernel
theorem dX0_takeDabbed_28 : decode cX0_takeDabbed 28 = .ok (.invokevirtual 65, 3) := by decide +kernel
theorem dX0_takeDabbed_31 : decode cX0_takeDabbed 31 = .ok (.ifCond .ne 6, 3) := by decide +kernel
theorem dX0_takeDabbed_34 : decode cX0_takeDabbed 34 = .ok (.bipush (-3), 2) := by decide +kernel
theorem dX0_takeDabbed_36 : decode cX0_takeDabbed 36 = .ok (.ireturn, 1) := by decide +kernel
theorem dX0_takeDabbed_37 : decode cX0_takeDabbed 37 = .ok (.aload_n 0, 1) := by decide +kernel
theorem dX0_takeDabbed_38 : decode cX0_takeDabbed 38 = .ok (.getfield 15, 3) := by decide +kernel
theorem dX0_takeDabbed_41 : decode cX0_takeDabbed 41 = .ok (.istore 4, 2) := by decide +kernel
theorem dX0_takeDabbed_43 : decode cX0_takeDabbed 43 = .ok (.aload_n 0, 1) := by decide +kernel
theorem dX0_takeDabbed_44 : decode cX0_takeDabbed 44 = .ok (.iload_n 1, 1) := by decide +kernel
theorem dX0_takeDabbed_45 : decode cX0_takeDabbed 45 = .ok (.iload_n 2, 1) := by decide +kernel
theorem dX0_takeDabbed_46 : decode cX0_takeDabbed 46 = .ok (.iload_n 3, 1) := by decide +kernel
theorem dX0_takeDabbed_47 : decode cX0_takeDabbed 47 = .ok (.aload_n 0, 1) := by decide +kernel
theorem dX0_takeDabbed_48 : decode cX0_takeDabbed 48 = .ok (.getfield 27, 3) := by decide +kernel
theorem dX0_takeDabbed_51 : decode cX0_takeDabbed 51 = .ok (.iload_n 3, 1) := by decide +kernel
theorem dX0_takeDabbed_52 : decode cX0_takeDabbed 52 = .ok (.iaload, 1) := by decide +kernel
theorem dX0_takeDabbed_53 : decode cX0_takeDabbed 53 = .ok (.invokevirtual 79, 3) := by decide +kernel
theorem dX0_takeDabbed_56 : decode cX0_takeDabbed 56 = .ok (.aload_n 0, 1) := by decide +kernel
theorem dX0_takeDabbed_57 : decode cX0_takeDabbed 57 = .ok (.getfield 40, 3) := by decide +kernel
theorem dX0_takeDabbed_60 : decode cX0_takeDabbed 60 = .ok (.iload 4, 2) := by decide +kernel
theorem dX0_takeDabbed_62 : decode cX0_takeDabbed 62 = .ok (.iload_n 3, 1) := by decide +kernel
theorem dX0_takeDabbed_63 : decode cX0_takeDabbed 63 = .ok (.iastore, 1) := by decide +kernel
theorem dX0_takeDabbed_64 : decode cX0_takeDabbed 64 = .ok (.aload_n 0, 1) := by decide +kernel
theorem dX0_takeDabbed_65 : decode cX0_takeDabbed 65 = .ok (.getfield 15, 3) := by decide +kernel
theorem dX0_takeDabbed_68 : decode cX0_takeDabbed 68 = .ok (.ireturn, 1) := by decide +kernel
theorem dX0_takeAway_0 : decode cX0_takeAway 0 = .ok (.iload_n 1, 1) := by decide +kernel
theorem dX0_takeAway_1 : decode cX0_takeAway 1 = .ok (.istore_n 2, 1) := by decide +kernel
theorem dX0_takeAway_2 : decode cX0_takeAway 2 = .ok (.iload_n 2, 1) := by decide +kernel
theorem dX0_takeAway_3 : decode cX0_takeAway 3 = .ok (.iconst 1, 1) := by decide +kernel
theorem dX0_takeAway_4 : decode cX0_takeAway 4 = .ok (.iadd, 1) := by decide +kernel
theorem dX0_takeAway_5 : decode cX0_takeAway 5 = .ok (.aload_n 0, 1) := by decide +kernel
theorem dX0_takeAway_6 : decode cX0_takeAway 6 = .ok (.getfield 15, 3) := by decide +kernel
theorem dX0_takeAway_9 : decode cX0_takeAway 9 = .ok (.if_icmp .ge 79, 3) := by decide +kernel
theorem dX0_takeAway_12 : decode cX0_takeAway 12 = .ok (.aload_n 0, 1) := by decide +kernel
theorem dX0_takeAway_13 : decode cX0_takeAway 13 = .ok (.getfield 31, 3) := by decide +kernel
theorem dX0_takeAway_16 : decode cX0_takeAway 16 = .ok (.iload_n 2, 1) := by decide +kernel
theorem dX0_takeAway_17 : decode cX0_takeAway 17 = .ok (.aload_n 0, 1) := by decide +kernel
theorem dX0_takeAway_18 : decode cX0_takeAway 18 = .ok (.getfield 31, 3) := by decide +kernel
theorem dX0_takeAway_21 : decode cX0_takeAway 21 = .ok (.iload_n 2, 1) := by decide +kernel
theorem dX0_takeAway_22 : decode cX0_takeAway 22 = .ok (.iconst 1, 1) := by decide +kernel
theorem dX0_takeAway_23 : decode cX0_takeAway 23 = .ok (.iadd, 1) := by decide +kernel
theorem dX0_takeAway_24 : decode cX0_takeAway 24 = .ok (.iaload, 1) := by decide +kernel
theorem dX0_takeAway_25 : decode cX0_takeAway 25 = .ok (.iastore, 1) := by decide +kernel
theorem dX0_takeAway_26 : decode cX0_takeAway 26 = .ok (.aload_n 0, 1) := by decide +kernel
theorem dX0_takeAway_27 : decode cX0_takeAway 27 = .ok (.getfield 34, 3) := by decide +kernel
theorem dX0_takeAway_30 : decode cX0_takeAway 30 = .ok (.iload_n 2, 1) := by decide +kernel
theorem dX0_takeAway_31 : decode cX0_takeAway 31 = .ok (.aload_n 0, 1) := by decide +kernel
theorem dX0_takeAway_32 : decode cX0_takeAway 32 = .ok (.getfield 34, 3) := by decide +kernel
theorem dX0_takeAway_35 : decode cX0_takeAway 35 = .ok (.iload_n 2, 1) := by decide +kernel
theorem dX0_takeAway_36 : decode cX0_takeAway 36 = .ok (.iconst 1, 1) := by decide +kernel
theorem dX0_takeAway_37 : decode cX0_takeAway 37 = .ok (.iadd, 1) := by decide +kernel
theorem dX0_takeAway_38 : decode cX0_takeAway 38 = .ok (.iaload, 1) := by decide +kernel
theorem dX0_takeAway_39 : decode cX0_takeAway 39 = .ok (.iastore, 1) := by decide +kernel
theorem dX0_takeAway_40 : decode cX0_takeAway 40 = .ok (.aload_n 0, 1) := by decide +kernel
theorem dX0_takeAway_41 : decode cX0_takeAway 41 = .ok (.getfield 37, 3) := by decide +kernel
theorem dX0_takeAway_44 : decode cX0_takeAway 44 = .ok (.iload_n 2, 1) := by decide +kernel
theorem dX0_takeAway_45 : decode cX0_takeAway 45 = .ok (.aload_n 0, 1) := by decide +kernel
theorem dX0_takeAway_46 : decode cX0_takeAway 46 = .ok (.getfield 37, 3) := by decide +kernel
theorem dX0_takeAway_49 : decode cX0_takeAway 49 = .ok (.iload_n 2, 1) := by decide +kernel
theorem dX0_takeAway_50 : decode cX0_takeAway 50 = .ok (.iconst 1, 1) := by decide +kernel
theorem dX0_takeAway_51 : decode cX0_takeAway 51 = .ok (.iadd, 1) := by decide +kernel
theorem dX0_takeAway_52 : decode cX0_takeAway 52 = .ok (.iaload, 1) := by decide +kernel
theorem dX0_takeAway_53 : decode cX0_takeAway 53 = .ok (.iastore, 1) := by decide +kernel
theorem dX0_takeAway_54 : decode cX0_takeAway 54 = .ok (.aload_n 0, 1) := by decide +kernel
theorem dX0_takeAway_55 : decode cX0_takeAway 55 = .ok (.getfield 40, 3) := by decide +kernel
theorem dX0_takeAway_58 : decode cX0_takeAway 58 = .ok (.iload_n 2, 1) := by decide +kernel
theorem dX0_takeAway_59 : decode cX0_takeAway 59 = .ok (.aload_n 0, 1) := by decide +kernel
theorem dX0_takeAway_60 : decode cX0_takeAway 60 = .ok (.getfield 40, 3) := by decide +kernel
theorem dX0_takeAway_63 : decode cX0_takeAway 63 = .ok (.iload_n 2, 1) := by decide +kernel
theorem dX0_takeAway_64 : decode cX0_takeAway 64 = .ok (.iconst 1, 1) := by decide +kernel
theorem dX0_takeAway_65 : decode cX0_takeAway 65 = .ok (.iadd, 1) := by decide +kernel
theorem dX0_takeAway_66 : decode cX0_takeAway 66 = .ok (.iaload, 1) := by decide +kernel
theorem dX0_takeAway_67 : decode cX0_takeAway 67 = .ok (.iastore, 1) := by decide +kernel
theorem dX0_takeAway_68 : decode cX0_takeAway 68 = .ok (.aload_n 0, 1) := by decide +kernel
theorem dX0_takeAway_69 : decode cX0_takeAway 69 = .ok (.getfield 43, 3) := by decide +kernel
theorem dX0_takeAway_72 : decode cX0_takeAway 72 = .ok (.iload_n 2, 1) := by decide +kernel
theorem dX0_takeAway_73 : decode cX0_takeAway 73 = .ok (.aload_n 0, 1) := by decide +kernel
theorem dX0_takeAway_74 : decode cX0_takeAway 74 = .ok (.getfield 43, 3) := by decide +kernel
theorem dX0_takeAway_77 : decode cX0_takeAway 77 = .ok (.iload_n 2, 1) := by decide +kernel
theorem dX0_takeAway_78 : decode cX0_takeAway 78 = .ok (.iconst 1, 1) := by decide +kernel
theorem dX0_takeAway_79 : decode cX0_takeAway 79 = .ok (.iadd, 1) := by decide +kernel
theorem dX0_takeAway_80 : decode cX0_takeAway 80 = .ok (.iaload, 1) := by decide +kernel
theorem dX0_takeAway_81 : decode cX0_takeAway 81 = .ok (.iastore, 1) := by decide +kernel
theorem dX0_takeAway_82 : decode cX0_takeAway 82 = .ok (.iinc 2 1, 3) := by decide +kernel
theorem dX0_takeAway_85 : decode cX0_takeAway 85 = .ok (.goto (-83), 3) := by decide +kernel
theorem dX0_takeAway_88 : decode cX0_takeAway 88 = .ok (.aload_n 0, 1) := by decide +kernel
theorem dX0_takeAway_89 : decode cX0_takeAway 89 = .ok (.dup, 1) := by decide +kernel
theorem dX0_takeAway_90 : decode cX0_takeAway 90 = .ok (.getfield 15, 3) := by decide +kernel
theorem dX0_takeAway_93 : decode cX0_takeAway 93 = .ok (.iconst 1, 1) := by decide +kernel
theorem dX0_takeAway_94 : decode cX0_takeAway 94 = .ok (.isub, 1) := by decide +kernel
theorem dX0_takeAway_95 : decode cX0_takeAway 95 = .ok (.putfield 15, 3) := by decide +kernel
theorem dX0_takeAway_98 : decode cX0_takeAway 98 = .ok (.return_, 1) := by decide +kernel
theorem dX0_sits_0 : decode cX0_sits 0 = .ok (.aload_n 0, 1) := by decide +kernel
theorem dX0_sits_1 : decode cX0_sits 1 = .ok (.getfield 40, 3) := by decide +kernel
theorem dX0_sits_4 : decode cX0_sits 4 = .ok (.iload_n 1, 1) := by decide +kernel
theorem dX0_sits_5 : decode cX0_sits 5 = .ok (.iaload, 1) := by decide +kernel
theorem dX0_sits_6 : decode cX0_sits 6 = .ok (.bipush (-4), 2) := by decide +kernel
theorem dX0_sits_8 : decode cX0_sits 8 = .ok (.if_icmp .eq 7, 3) := by decide +kernel
theorem dX0_sits_11 : decode cX0_sits 11 = .ok (.iconst 1, 1) := by decide +kernel
theorem dX0_sits_12 : decode cX0_sits 12 = .ok (.goto 4, 3) := by decide +kernel
theorem dX0_sits_15 : decode cX0_sits 15 = .ok (.iconst 0, 1) := by decide +kernel
theorem dX0_sits_16 : decode cX0_sits 16 = .ok (.ireturn, 1) := by decide +kernel
theorem dX0_putInAir_0 : decode cX0_putInAir 0 = .ok (.aload_n 0, 1) := by decide +kernel
theorem dX0_putInAir_1 : decode cX0_putInAir 1 = .ok (.getfield 40, 3) := by decide +kernel
theorem dX0_putInAir_4 : decode cX0_putInAir 4 = .ok (.iload_n 1, 1) := by decide +kernel
theorem dX0_putInAir_5 : decode cX0_putInAir 5 = .ok (.bipush (-4), 2) := by decide +kernel
theorem dX0_putInAir_7 : decode cX0_putInAir 7 = .ok (.iastore, 1) := by decide +kernel
theorem dX0_putInAir_8 : decode cX0_putInAir 8 = .ok (.aload_n 0, 1) := by decide +kernel
theorem dX0_putInAir_9 : decode cX0_putInAir 9 = .ok (.getfield 43, 3) := by decide +kernel
theorem dX0_putInAir_12 : decode cX0_putInAir 12 = .ok (.iload_n 1, 1) := by decide +kernel
theorem dX0_putInAir_13 : decode cX0_putInAir 13 = .ok (.iload_n 2, 1) := by decide +kernel
theorem dX0_putInAir_14 : decode cX0_putInAir 14 = .ok (.iastore, 1) := by decide +kernel
theorem dX0_putInAir_15 : decode cX0_putInAir 15 = .ok (.return_, 1) := by decide +kernel
theorem dX0_placeOf_0 : decode cX0_placeOf 0 = .ok (.aload_n 0, 1) := by decide +kernel
theorem dX0_placeOf_1 : decode cX0_placeOf 1 = .ok (.iload_n 1, 1) := by decide +kernel
theorem dX0_placeOf_2 : decode cX0_placeOf 2 = .ok (.invokevirtual 83, 3) := by decide +kernel
theorem dX0_placeOf_5 : decode cX0_placeOf 5 = .ok (.ifCond .eq 17, 3) := by decide +kernel
theorem dX0_placeOf_8 : decode cX0_placeOf 8 = .ok (.aload_n 0, 1) := by decide +kernel
theorem dX0_placeOf_9 : decode cX0_placeOf 9 = .ok (.getfield 27, 3) := by decide +kernel
theorem dX0_placeOf_12 : decode cX0_placeOf 12 = .ok (.aload_n 0, 1) := by decide +kernel
theorem dX0_placeOf_13 : decode cX0_placeOf 13 = .ok (.getfield 40, 3) := by decide +kernel
theorem dX0_placeOf_16 : decode cX0_placeOf 16 = .ok (.iload_n 1, 1) := by decide +kernel
theorem dX0_placeOf_17 : decode cX0_placeOf 17 = .ok (.iaload, 1) := by decide +kernel
theorem dX0_placeOf_18 : decode cX0_placeOf 18 = .ok (.iaload, 1) := by decide +kernel
theorem dX0_placeOf_19 : decode cX0_placeOf 19 = .ok (.goto 9, 3) := by decide +kernel
theorem dX0_placeOf_22 : decode cX0_placeOf 22 = .ok (.aload_n 0, 1) := by decide +kernel
theorem dX0_placeOf_23 : decode cX0_placeOf 23 = .ok (.getfield 43, 3) := by decide +kernel
theorem dX0_placeOf_26 : decode cX0_placeOf 26 = .ok (.iload_n 1, 1) := by decide +kernel
theorem dX0_placeOf_27 : decode cX0_placeOf 27 = .ok (.iaload, 1) := by decide +kernel
theorem dX0_placeOf_28 : decode cX0_placeOf 28 = .ok (.ireturn, 1) := by decide +kernel
theorem dX0_weight_0 : decode cX0_weight 0 = .ok (.aload_n 0, 1) := by decide +kernel
theorem dX0_weight_1 : decode cX0_weight 1 = .ok (.getfield 34, 3) := by decide +kernel
theorem dX0_weight_4 : decode cX0_weight 4 = .ok (.iload_n 1, 1) := by decide +kernel
theorem dX0_weight_5 : decode cX0_weight 5 = .ok (.iaload, 1) := by decide +kernel
theorem dX0_weight_6 : decode cX0_weight 6 = .ok (.iconst 1, 1) := by decide +kernel
theorem dX0_weight_7 : decode cX0_weight 7 = .ok (.iadd, 1) := by decide +kernel
theorem dX0_weight_8 : decode cX0_weight 8 = .ok (.iconst 2, 1) := by decide +kernel
theorem dX0_weight_9 : decode cX0_weight 9 = .ok (.idiv, 1) := by decide +kernel
theorem dX0_weight_10 : decode cX0_weight 10 = .ok (.istore_n 2, 1) := by decide +kernel
theorem dX0_weight_11 : decode cX0_weight 11 = .ok (.aload_n 0, 1) := by decide +kernel
theorem dX0_weight_12 : decode cX0_weight 12 = .ok (.getfield 31, 3) := by decide +kernel
theorem dX0_weight_15 : decode cX0_weight 15 = .ok (.iload_n 1, 1) := by decide +kernel
theorem dX0_weight_16 : decode cX0_weight 16 = .ok (.iaload, 1) := by decide +kernel
theorem dX0_weight_17 : decode cX0_weight 17 = .ok (.tableswitch 42 1 3 #[27, 29, 33], 27) := by decide +kernel
theorem dX0_weight_44 : decode cX0_weight 44 = .ok (.iload_n 2, 1) := by decide +kernel
theorem dX0_weight_45 : decode cX0_weight 45 = .ok (.ireturn, 1) := by decide +kernel
theorem dX0_weight_46 : decode cX0_weight 46 = .ok (.iload_n 2, 1) := by decide +kernel
theorem dX0_weight_47 : decode cX0_weight 47 = .ok (.iconst 1, 1) := by decide +kernel
theorem dX0_weight_48 : decode cX0_weight 48 = .ok (.iadd, 1) := by decide +kernel
theorem dX0_weight_49 : decode cX0_weight 49 = .ok (.ireturn, 1) := by decide +kernel
theorem dX0_weight_50 : decode cX0_weight 50 = .ok (.iconst 2, 1) := by decide +kernel
theorem dX0_weight_51 : decode cX0_weight 51 = .ok (.aload_n 0, 1) := by decide +kernel
theorem dX0_weight_52 : decode cX0_weight 52 = .ok (.getfield 34, 3) := by decide +kernel
theorem dX0_weight_55 : decode cX0_weight 55 = .ok (.iload_n 1, 1) := by decide +kernel
theorem dX0_weight_56 : decode cX0_weight 56 = .ok (.iaload, 1) := by decide +kernel
theorem dX0_weight_57 : decode cX0_weight 57 = .ok (.imul, 1) := by decide +kernel
theorem dX0_weight_58 : decode cX0_weight 58 = .ok (.ireturn, 1) := by decide +kernel
theorem dX0_weight_59 : decode cX0_weight 59 = .ok (.aload_n 0, 1) := by decide +kernel
theorem dX0_weight_60 : decode cX0_weight 60 = .ok (.getfield 34, 3) := by decide +kernel
theorem dX0_weight_63 : decode cX0_weight 63 = .ok (.iload_n 1, 1) := by decide +kernel
theorem dX0_weight_64 : decode cX0_weight 64 = .ok (.iaload, 1) := by decide +kernel
theorem dX0_weight_65 : decode cX0_weight 65 = .ok (.ireturn, 1) := by decide +kernel
theorem dX0_pace_0 : decode cX0_pace 0 = .ok (.aload_n 0, 1) := by decide +kernel
theorem dX0_pace_1 : decode cX0_pace 1 = .ok (.getfield 31, 3) := by decide +kernel
theorem dX0_pace_4 : decode cX0_pace 4 = .ok (.iload_n 1, 1) := by decide +kernel
theorem dX0_pace_5 : decode cX0_pace 5 = .ok (.iaload, 1) := by decide +kernel
theorem dX0_pace_6 : decode cX0_pace 6 = .ok (.lookupswitch 30 #[(1, 26), (3, 28)], 26) := by decide +kernel
theorem dX0_pace_32 : decode cX0_pace 32 = .ok (.iconst 2, 1) := by decide +kernel
theorem dX0_pace_33 : decode cX0_pace 33 = .ok (.ireturn, 1) := by decide +kernel
theorem dX0_pace_34 : decode cX0_pace 34 = .ok (.iconst 3, 1) := by decide +kernel
theorem dX0_pace_35 : decode cX0_pace 35 = .ok (.ireturn, 1) := by decide +kernel
theorem dX0_pace_36 : decode cX0_pace 36 = .ok (.iconst 1, 1) := by decide +kernel
theorem dX0_pace_37 : decode cX0_pace 37 = .ok (.ireturn, 1) := by decide +kernel
theorem dX0_sought_0 : decode cX0_sought 0 = .ok (.aload_n 0, 1) := by decide +kernel
theorem dX0_sought_1 : decode cX0_sought 1 = .ok (.getfield 31, 3) := by decide +kernel
theorem dX0_sought_4 : decode cX0_sought 4 = .ok (.iload_n 1, 1) := by decide +kernel
theorem dX0_sought_5 : decode cX0_sought 5 = .ok (.iaload, 1) := by decide +kernel
theorem dX0_sought_6 : decode cX0_sought 6 = .ok (.iconst 1, 1) := by decide +kernel
theorem dX0_sought_7 : decode cX0_sought 7 = .ok (.if_icmp .ne 31, 3) := by decide +kernel
theorem dX0_sought_10 : decode cX0_sought 10 = .ok (.aload_n 0, 1) := by decide +kernel
theorem dX0_sought_11 : decode cX0_sought 11 = .ok (.getfield 37, 3) := by decide +kernel
theorem dX0_sought_14 : decode cX0_sought 14 = .ok (.iload_n 1, 1) := by decide +kernel
theorem dX0_sought_15 : decode cX0_sought 15 = .ok (.iaload, 1) := by decide +kernel
theorem dX0_sought_16 : decode cX0_sought 16 = .ok (.iconst 1, 1) := by decide +kernel
theorem dX0_sought_17 : decode cX0_sought 17 = .ok (.iadd, 1) := by decide +kernel
theorem dX0_sought_18 : decode cX0_sought 18 = .ok (.aload_n 0, 1) := by decide +kernel
theorem dX0_sought_19 : decode cX0_sought 19 = .ok (.getfield 9, 3) := by decide +kernel
theorem dX0_sought_22 : decode cX0_sought 22 = .ok (.if_icmp .ge 14, 3) := by decide +kernel
theorem dX0_sought_25 : decode cX0_sought 25 = .ok (.aload_n 0, 1) := by decide +kernel
theorem dX0_sought_26 : decode cX0_sought 26 = .ok (.getfield 37, 3) := by decide +kernel
theorem dX0_sought_29 : decode cX0_sought 29 = .ok (.iload_n 1, 1) := by decide +kernel
theorem dX0_sought_30 : decode cX0_sought 30 = .ok (.iaload, 1) := by decide +kernel
theorem dX0_sought_31 : decode cX0_sought 31 = .ok (.iconst 1, 1) := by decide +kernel
theorem dX0_sought_32 : decode cX0_sought 32 = .ok (.iadd, 1) := by decide +kernel
theorem dX0_sought_33 : decode cX0_sought 33 = .ok (.goto 4, 3) := by decide +kernel
theorem dX0_sought_36 : decode cX0_sought 36 = .ok (.iconst 0, 1) := by decide +kernel
theorem dX0_sought_37 : decode cX0_sought 37 = .ok (.ireturn, 1) := by decide +kernel
theorem dX0_sought_38 : decode cX0_sought 38 = .ok (.aload_n 0, 1) := by decide +kernel
theorem dX0_sought_39 : decode cX0_sought 39 = .ok (.getfield 31, 3) := by decide +kernel
theorem dX0_sought_42 : decode cX0_sought 42 = .ok (.iload_n 1, 1) := by decide +kernel
theorem dX0_sought_43 : decode cX0_sought 43 = .ok (.iaload, 1) := by decide +kernel
theorem dX0_sought_44 : decode cX0_sought 44 = .ok (.iconst 2, 1) := by decide +kernel
theorem dX0_sought_45 : decode cX0_sought 45 = .ok (.if_icmp .eq 10, 3) := by decide +kernel
theorem dX0_sought_48 : decode cX0_sought 48 = .ok (.aload_n 0, 1) := by decide +kernel
theorem dX0_sought_49 : decode cX0_sought 49 = .ok (.getfield 37, 3) := by decide +kernel
theorem dX0_sought_52 : decode cX0_sought 52 = .ok (.iload_n 1, 1) := by decide +kernel
theorem dX0_sought_53 : decode cX0_sought 53 = .ok (.iaload, 1) := by decide +kernel
theorem dX0_sought_54 : decode cX0_sought 54 = .ok (.ireturn, 1) := by decide +kernel
theorem dX0_sought_55 : decode cX0_sought 55 = .ok (.iconst 0, 1) := by decide +kernel
theorem dX0_sought_56 : decode cX0_sought 56 = .ok (.istore_n 2, 1) := by decide +kernel
theorem dX0_sought_57 : decode cX0_sought 57 = .ok (.aload_n 0, 1) := by decide +kernel
theorem dX0_sought_58 : decode cX0_sought 58 = .ok (.iload_n 2, 1) := by decide +kernel
theorem dX0_sought_59 : decode cX0_sought 59 = .ok (.invokevirtual 86, 3) := by decide +kernel
theorem dX0_sought_62 : decode cX0_sought 62 = .ok (.istore_n 3, 1) := by decide +kernel
theorem dX0_sought_63 : decode cX0_sought 63 = .ok (.iconst 1, 1) := by decide +kernel
theorem dX0_sought_64 : decode cX0_sought 64 = .ok (.istore 4, 2) := by decide +kernel
theorem dX0_sought_66 : decode cX0_sought 66 = .ok (.iload 4, 2) := by decide +kernel
theorem dX0_sought_68 : decode cX0_sought 68 = .ok (.aload_n 0, 1) := by decide +kernel
theorem dX0_sought_69 : decode cX0_sought 69 = .ok (.getfield 9, 3) := by decide +kernel
theorem dX0_sought_72 : decode cX0_sought 72 = .ok (.if_icmp .ge 29, 3) := by decide +kernel
theorem dX0_sought_75 : decode cX0_sought 75 = .ok (.aload_n 0, 1) := by decide +kernel
theorem dX0_sought_76 : decode cX0_sought 76 = .ok (.iload 4, 2) := by decide +kernel
theorem dX0_sought_78 : decode cX0_sought 78 = .ok (.invokevirtual 86, 3) := by decide +kernel
theorem dX0_sought_81 : decode cX0_sought 81 = .ok (.istore 5, 2) := by decide +kernel
theorem dX0_sought_83 : decode cX0_sought 83 = .ok (.iload 5, 2) := by decide +kernel
theorem dX0_sought_85 : decode cX0_sought 85 = .ok (.iload_n 3, 1) := by decide +kernel
theorem dX0_sought_86 : decode cX0_sought 86 = .ok (.if_icmp .ge 9, 3) := by decide +kernel
theorem dX0_sought_89 : decode cX0_sought 89 = .ok (.iload 4, 2) := by decide +kernel
theorem dX0_sought_91 : decode cX0_sought 91 = .ok (.istore_n 2, 1) := by decide +kernel
theorem dX0_sought_92 : decode cX0_sought 92 = .ok (.iload 5, 2) := by decide +kernel
theorem dX0_sought_94 : decode cX0_sought 94 = .ok (.istore_n 3, 1) := by decide +kernel
theorem dX0_sought_95 : decode cX0_sought 95 = .ok (.iinc 4 1, 3) := by decide +kernel
theorem dX0_sought_98 : decode cX0_sought 98 = .ok (.goto (-32), 3) := by decide +kernel
theorem dX0_sought_101 : decode cX0_sought 101 = .ok (.iload_n 2, 1) := by decide +kernel
theorem dX0_sought_102 : decode cX0_sought 102 = .ok (.ireturn, 1) := by decide +kernel
theorem dX0_counted_0 : decode cX0_counted 0 = .ok (.iconst 0, 1) := by decide +kernel
theorem dX0_counted_1 : decode cX0_counted 1 = .ok (.istore_n 2, 1) := by decide +kernel
theorem dX0_counted_2 : decode cX0_counted 2 = .ok (.iconst 0, 1) := by decide +kernel
theorem dX0_counted_3 : decode cX0_counted 3 = .ok (.istore_n 3, 1) := by decide +kernel
theorem dX0_counted_4 : decode cX0_counted 4 = .ok (.iload_n 3, 1) := by decide +kernel
theorem dX0_counted_5 : decode cX0_counted 5 = .ok (.aload_n 0, 1) := by decide +kernel
theorem dX0_counted_6 : decode cX0_counted 6 = .ok (.getfield 15, 3) := by decide +kernel
theorem dX0_counted_9 : decode cX0_counted 9 = .ok (.if_icmp .ge 27, 3) := by decide +kernel
theorem dX0_counted_12 : decode cX0_counted 12 = .ok (.aload_n 0, 1) := by decide +kernel
theorem dX0_counted_13 : decode cX0_counted 13 = .ok (.getfield 40, 3) := by decide +kernel
theorem dX0_counted_16 : decode cX0_counted 16 = .ok (.iload_n 3, 1) := by decide +kernel
theorem dX0_counted_17 : decode cX0_counted 17 = .ok (.iaload, 1) := by decide +kernel
theorem dX0_counted_18 : decode cX0_counted 18 = .ok (.iload_n 1, 1) := by decide +kernel
theorem dX0_counted_19 : decode cX0_counted 19 = .ok (.if_icmp .ne 11, 3) := by decide +kernel
theorem dX0_counted_22 : decode cX0_counted 22 = .ok (.iload_n 2, 1) := by decide +kernel
theorem dX0_counted_23 : decode cX0_counted 23 = .ok (.aload_n 0, 1) := by decide +kernel
theorem dX0_counted_24 : decode cX0_counted 24 = .ok (.iload_n 3, 1) := by decide +kernel
theorem dX0_counted_25 : decode cX0_counted 25 = .ok (.invokevirtual 90, 3) := by decide +kernel
theorem dX0_counted_28 : decode cX0_counted 28 = .ok (.iadd, 1) := by decide +kernel
theorem dX0_counted_29 : decode cX0_counted 29 = .ok (.istore_n 2, 1) := by decide +kernel
theorem dX0_counted_30 : decode cX0_counted 30 = .ok (.iinc 3 1, 3) := by decide +kernel
theorem dX0_counted_33 : decode cX0_counted 33 = .ok (.goto (-29), 3) := by decide +kernel
theorem dX0_counted_36 : decode cX0_counted 36 = .ok (.iload_n 2, 1) := by decide +kernel
theorem dX0_counted_37 : decode cX0_counted 37 = .ok (.ireturn, 1) := by decide +kernel
theorem dX0_countedByPins_0 : decode cX0_countedByPins 0 = .ok (.iconst 0, 1) := by decide +kernel
theorem dX0_countedByPins_1 : decode cX0_countedByPins 1 = .ok (.istore_n 2, 1) := by decide +kernel
theorem dX0_countedByPins_2 : decode cX0_countedByPins 2 = .ok (.iconst 0, 1) := by decide +kernel
theorem dX0_countedByPins_3 : decode cX0_countedByPins 3 = .ok (.istore_n 3, 1) := by decide +kernel
theorem dX0_countedByPins_4 : decode cX0_countedByPins 4 = .ok (.iload_n 3, 1) := by decide +kernel
theorem dX0_countedByPins_5 : decode cX0_countedByPins 5 = .ok (.aload_n 0, 1) := by decide +kernel
theorem dX0_countedByPins_6 : decode cX0_countedByPins 6 = .ok (.getfield 15, 3) := by decide +kernel
theorem dX0_countedByPins_9 : decode cX0_countedByPins 9 = .ok (.if_icmp .ge 37, 3) := by decide +kernel
theorem dX0_countedByPins_12 : decode cX0_countedByPins 12 = .ok (.aload_n 0, 1) := by decide +kernel
theorem dX0_countedByPins_13 : decode cX0_countedByPins 13 = .ok (.getfield 40, 3) := by decide +kernel
theorem dX0_countedByPins_16 : decode cX0_countedByPins 16 = .ok (.iload_n 3, 1) := by decide +kernel
theorem dX0_countedByPins_17 : decode cX0_countedByPins 17 = .ok (.iaload, 1) := by decide +kernel
theorem dX0_countedByPins_18 : decode cX0_countedByPins 18 = .ok (.iload_n 1, 1) := by decide +kernel
theorem dX0_countedByPins_19 : decode cX0_countedByPins 19 = .ok (.if_icmp .ne 21, 3) := by decide +kernel
theorem dX0_countedByPins_22 : decode cX0_countedByPins 22 = .ok (.aload_n 0, 1) := by decide +kernel
theorem dX0_countedByPins_23 : decode cX0_countedByPins 23 = .ok (.getfield 31, 3) := by decide +kernel
theorem dX0_countedByPins_26 : decode cX0_countedByPins 26 = .ok (.iload_n 3, 1) := by decide +kernel
theorem dX0_countedByPins_27 : decode cX0_countedByPins 27 = .ok (.iaload, 1) := by decide +kernel
theorem dX0_countedByPins_28 : decode cX0_countedByPins 28 = .ok (.iconst 3, 1) := by decide +kernel
theorem dX0_countedByPins_29 : decode cX0_countedByPins 29 = .ok (.if_icmp .ne 11, 3) := by decide +kernel
theorem dX0_countedByPins_32 : decode cX0_countedByPins 32 = .ok (.iload_n 2, 1) := by decide +kernel
theorem dX0_countedByPins_33 : decode cX0_countedByPins 33 = .ok (.aload_n 0, 1) := by decide +kernel
theorem dX0_countedByPins_34 : decode cX0_countedByPins 34 = .ok (.iload_n 3, 1) := by decide +kernel
theorem dX0_countedByPins_35 : decode cX0_countedByPins 35 = .ok (.invokevirtual 90, 3) := by decide +kernel
theorem dX0_countedByPins_38 : decode cX0_countedByPins 38 = .ok (.iadd, 1) := by decide +kernel
theorem dX0_countedByPins_39 : decode cX0_countedByPins 39 = .ok (.istore_n 2, 1) := by decide +kernel
theorem dX0_countedByPins_40 : decode cX0_countedByPins 40 = .ok (.iinc 3 1, 3) := by decide +kernel
theorem dX0_countedByPins_43 : decode cX0_countedByPins 43 = .ok (.goto (-39), 3) := by decide +kernel
theorem dX0_countedByPins_46 : decode cX0_countedByPins 46 = .ok (.iload_n 2, 1) := by decide +kernel
theorem dX0_countedByPins_47 : decode cX0_countedByPins 47 = .ok (.ireturn, 1) := by decide +kernel
theorem dX0_countedOfAll_0 : decode cX0_countedOfAll 0 = .ok (.iconst 0, 1) := by decide +kernel
theorem dX0_countedOfAll_1 : decode cX0_countedOfAll 1 = .ok (.istore_n 1, 1) := by decide +kernel
theorem dX0_countedOfAll_2 : decode cX0_countedOfAll 2 = .ok (.iconst 0, 1) := by decide +kernel
theorem dX0_countedOfAll_3 : decode cX0_countedOfAll 3 = .ok (.istore_n 2, 1) := by decide +kernel
theorem dX0_countedOfAll_4 : decode cX0_countedOfAll 4 = .ok (.iload_n 2, 1) := by decide +kernel
theorem dX0_countedOfAll_5 : decode cX0_countedOfAll 5 = .ok (.aload_n 0, 1) := by decide +kernel
theorem dX0_countedOfAll_6 : decode cX0_countedOfAll 6 = .ok (.getfield 9, 3) := by decide +kernel
theorem dX0_countedOfAll_9 : decode cX0_countedOfAll 9 = .ok (.if_icmp .ge 17, 3) := by decide +kernel
theorem dX0_countedOfAll_12 : decode cX0_countedOfAll 12 = .ok (.iload_n 1, 1) := by decide +kernel
theorem dX0_countedOfAll_13 : decode cX0_countedOfAll 13 = .ok (.aload_n 0, 1) := by decide +kernel
theorem dX0_countedOfAll_14 : decode cX0_countedOfAll 14 = .ok (.iload_n 2, 1) := by decide +kernel
theorem dX0_countedOfAll_15 : decode cX0_countedOfAll 15 = .ok (.invokevirtual 86, 3) := by decide +kernel
theorem dX0_countedOfAll_18 : decode cX0_countedOfAll 18 = .ok (.iadd, 1) := by decide +kernel
theorem dX0_countedOfAll_19 : decode cX0_countedOfAll 19 = .ok (.istore_n 1, 1) := by decide +kernel
theorem dX0_countedOfAll_20 : decode cX0_countedOfAll 20 = .ok (.iinc 2 1, 3) := by decide +kernel
theorem dX0_countedOfAll_23 : decode cX0_countedOfAll 23 = .ok (.goto (-19), 3) := by decide +kernel
theorem dX0_countedOfAll_26 : decode cX0_countedOfAll 26 = .ok (.iload_n 1, 1) := by decide +kernel
theorem dX0_countedOfAll_27 : decode cX0_countedOfAll 27 = .ok (.ireturn, 1) := by decide +kernel
theorem dX0_mostCounted_0 : decode cX0_mostCounted 0 = .ok (.bipush (-4), 2) := by decide +kernel
theorem dX0_mostCounted_2 : decode cX0_mostCounted 2 = .ok (.istore_n 1, 1) := by decide +kernel
theorem dX0_mostCounted_3 : decode cX0_mostCounted 3 = .ok (.iconst 0, 1) := by decide +kernel
theorem dX0_mostCounted_4 : decode cX0_mostCounted 4 = .ok (.istore_n 2, 1) := by decide +kernel
theorem dX0_mostCounted_5 : decode cX0_mostCounted 5 = .ok (.iconst 0, 1) := by decide +kernel
theorem dX0_mostCounted_6 : decode cX0_mostCounted 6 = .ok (.istore_n 3, 1) := by decide +kernel
theorem dX0_mostCounted_7 : decode cX0_mostCounted 7 = .ok (.iload_n 3, 1) := by decide +kernel
theorem dX0_mostCounted_8 : decode cX0_mostCounted 8 = .ok (.aload_n 0, 1) := by decide +kernel
theorem dX0_mostCounted_9 : decode cX0_mostCounted 9 = .ok (.getfield 9, 3) := by decide +kernel
theorem dX0_mostCounted_12 : decode cX0_mostCounted 12 = .ok (.if_icmp .ge 27, 3) := by decide +kernel
theorem dX0_mostCounted_15 : decode cX0_mostCounted 15 = .ok (.aload_n 0, 1) := by decide +kernel
theorem dX0_mostCounted_16 : decode cX0_mostCounted 16 = .ok (.iload_n 3, 1) := by decide +kernel
theorem dX0_mostCounted_17 : decode cX0_mostCounted 17 = .ok (.invokevirtual 86, 3) := by decide +kernel
theorem dX0_mostCounted_20 : decode cX0_mostCounted 20 = .ok (.istore 4, 2) := by decide +kernel
theorem dX0_mostCounted_22 : decode cX0_mostCounted 22 = .ok (.iload 4, 2) := by decide +kernel
theorem dX0_mostCounted_24 : decode cX0_mostCounted 24 = .ok (.iload_n 2, 1) := by decide +kernel
theorem dX0_mostCounted_25 : decode cX0_mostCounted 25 = .ok (.if_icmp .le 8, 3) := by decide +kernel
theorem dX0_mostCounted_28 : decode cX0_mostCounted 28 = .ok (.iload_n 3, 1) := by decide +kernel
theorem dX0_mostCounted_29 : decode cX0_mostCounted 29 = .ok (.istore_n 1, 1) := by decide +kernel
theorem dX0_mostCounted_30 : decode cX0_mostCounted 30 = .ok (.iload 4, 2) := by decide +kernel
theorem dX0_mostCounted_32 : decode cX0_mostCounted 32 = .ok (.istore_n 2, 1) := by decide +kernel
theorem dX0_mostCounted_33 : decode cX0_mostCounted 33 = .ok (.iinc 3 1, 3) := by decide +kernel
theorem dX0_mostCounted_36 : decode cX0_mostCounted 36 = .ok (.goto (-29), 3) := by decide +kernel
theorem dX0_mostCounted_39 : decode cX0_mostCounted 39 = .ok (.iload_n 1, 1) := by decide +kernel
theorem dX0_mostCounted_40 : decode cX0_mostCounted 40 = .ok (.ireturn, 1) := by decide +kernel
theorem dX0_allMakeWayFor_0 : decode cX0_allMakeWayFor 0 = .ok (.iconst 0, 1) := by decide +kernel
theorem dX0_allMakeWayFor_1 : decode cX0_allMakeWayFor 1 = .ok (.istore_n 2, 1) := by decide +kernel
theorem dX0_allMakeWayFor_2 : decode cX0_allMakeWayFor 2 = .ok (.iload_n 2, 1) := by decide +kernel
theorem dX0_allMakeWayFor_3 : decode cX0_allMakeWayFor 3 = .ok (.aload_n 0, 1) := by decide +kernel
theorem dX0_allMakeWayFor_4 : decode cX0_allMakeWayFor 4 = .ok (.getfield 9, 3) := by decide +kernel
theorem dX0_allMakeWayFor_7 : decode cX0_allMakeWayFor 7 = .ok (.if_icmp .ge 29, 3) := by decide +kernel
theorem dX0_allMakeWayFor_10 : decode cX0_allMakeWayFor 10 = .ok (.iload_n 2, 1) := by decide +kernel
theorem dX0_allMakeWayFor_11 : decode cX0_allMakeWayFor 11 = .ok (.iload_n 1, 1) := by decide +kernel
theorem dX0_allMakeWayFor_12 : decode cX0_allMakeWayFor 12 = .ok (.if_icmp .eq 18, 3) := by decide +kernel
theorem dX0_allMakeWayFor_15 : decode cX0_allMakeWayFor 15 = .ok (.aload_n 0, 1) := by decide +kernel
theorem dX0_allMakeWayFor_16 : decode cX0_allMakeWayFor 16 = .ok (.iload_n 2, 1) := by decide +kernel
theorem dX0_allMakeWayFor_17 : decode cX0_allMakeWayFor 17 = .ok (.invokevirtual 86, 3) := by decide +kernel
theorem dX0_allMakeWayFor_20 : decode cX0_allMakeWayFor 20 = .ok (.aload_n 0, 1) := by decide +kernel
theorem dX0_allMakeWayFor_21 : decode cX0_allMakeWayFor 21 = .ok (.iload_n 1, 1) := by decide +kernel
theorem dX0_allMakeWayFor_22 : decode cX0_allMakeWayFor 22 = .ok (.invokevirtual 86, 3) := by decide +kernel
theorem dX0_allMakeWayFor_25 : decode cX0_allMakeWayFor 25 = .ok (.if_icmp .lt 5, 3) := by decide +kernel
theorem dX0_allMakeWayFor_28 : decode cX0_allMakeWayFor 28 = .ok (.iconst 0, 1) := by decide +kernel
theorem dX0_allMakeWayFor_29 : decode cX0_allMakeWayFor 29 = .ok (.ireturn, 1) := by decide +kernel
theorem dX0_allMakeWayFor_30 : decode cX0_allMakeWayFor 30 = .ok (.iinc 2 1, 3) := by decide +kernel
theorem dX0_allMakeWayFor_33 : decode cX0_allMakeWayFor 33 = .ok (.goto (-31), 3) := by decide +kernel
theorem dX0_allMakeWayFor_36 : decode cX0_allMakeWayFor 36 = .ok (.iconst 1, 1) := by decide +kernel
theorem dX0_allMakeWayFor_37 : decode cX0_allMakeWayFor 37 = .ok (.ireturn, 1) := by decide +kernel
theorem dX0_sittersOn_0 : decode cX0_sittersOn 0 = .ok (.iconst 0, 1) := by decide +kernel
theorem dX0_sittersOn_1 : decode cX0_sittersOn 1 = .ok (.istore_n 2, 1) := by decide +kernel
theorem dX0_sittersOn_2 : decode cX0_sittersOn 2 = .ok (.iconst 0, 1) := by decide +kernel
theorem dX0_sittersOn_3 : decode cX0_sittersOn 3 = .ok (.istore_n 3, 1) := by decide +kernel
theorem dX0_sittersOn_4 : decode cX0_sittersOn 4 = .ok (.iload_n 3, 1) := by decide +kernel
theorem dX0_sittersOn_5 : decode cX0_sittersOn 5 = .ok (.aload_n 0, 1) := by decide +kernel
theorem dX0_sittersOn_6 : decode cX0_sittersOn 6 = .ok (.getfield 15, 3) := by decide +kernel
theorem dX0_sittersOn_9 : decode cX0_sittersOn 9 = .ok (.if_icmp .ge 25, 3) := by decide +kernel
theorem dX0_sittersOn_12 : decode cX0_sittersOn 12 = .ok (.aload_n 0, 1) := by decide +kernel
theorem dX0_sittersOn_13 : decode cX0_sittersOn 13 = .ok (.getfield 40, 3) := by decide +kernel
theorem dX0_sittersOn_16 : decode cX0_sittersOn 16 = .ok (.iload_n 3, 1) := by decide +kernel
theorem dX0_sittersOn_17 : decode cX0_sittersOn 17 = .ok (.iaload, 1) := by decide +kernel
theorem dX0_sittersOn_18 : decode cX0_sittersOn 18 = .ok (.iload_n 1, 1) := by decide +kernel
theorem dX0_sittersOn_19 : decode cX0_sittersOn 19 = .ok (.if_icmp .ne 9, 3) := by decide +kernel
theorem dX0_sittersOn_22 : decode cX0_sittersOn 22 = .ok (.iload_n 2, 1) := by decide +kernel
theorem dX0_sittersOn_23 : decode cX0_sittersOn 23 = .ok (.iconst 1, 1) := by decide +kernel
theorem dX0_sittersOn_24 : decode cX0_sittersOn 24 = .ok (.iload_n 3, 1) := by decide +kernel
theorem dX0_sittersOn_25 : decode cX0_sittersOn 25 = .ok (.ishl, 1) := by decide +kernel
theorem dX0_sittersOn_26 : decode cX0_sittersOn 26 = .ok (.ior, 1) := by decide +kernel
theorem dX0_sittersOn_27 : decode cX0_sittersOn 27 = .ok (.istore_n 2, 1) := by decide +kernel
theorem dX0_sittersOn_28 : decode cX0_sittersOn 28 = .ok (.iinc 3 1, 3) := by decide +kernel
theorem dX0_sittersOn_31 : decode cX0_sittersOn 31 = .ok (.goto (-27), 3) := by decide +kernel
theorem dX0_sittersOn_34 : decode cX0_sittersOn 34 = .ok (.iload_n 2, 1) := by decide +kernel
theorem dX0_sittersOn_35 : decode cX0_sittersOn 35 = .ok (.ireturn, 1) := by decide +kernel
theorem dX0_sitting_0 : decode cX0_sitting 0 = .ok (.iconst 0, 1) := by decide +kernel
theorem dX0_sitting_1 : decode cX0_sitting 1 = .ok (.istore_n 1, 1) := by decide +kernel
theorem dX0_sitting_2 : decode cX0_sitting 2 = .ok (.iconst 0, 1) := by decide +kernel
theorem dX0_sitting_3 : decode cX0_sitting 3 = .ok (.istore_n 2, 1) := by decide +kernel
theorem dX0_sitting_4 : decode cX0_sitting 4 = .ok (.iload_n 2, 1) := by decide +kernel
theorem dX0_sitting_5 : decode cX0_sitting 5 = .ok (.aload_n 0, 1) := by decide +kernel
theorem dX0_sitting_6 : decode cX0_sitting 6 = .ok (.getfield 15, 3) := by decide +kernel
theorem dX0_sitting_9 : decode cX0_sitting 9 = .ok (.if_icmp .ge 20, 3) := by decide +kernel
theorem dX0_sitting_12 : decode cX0_sitting 12 = .ok (.aload_n 0, 1) := by decide +kernel
theorem dX0_sitting_13 : decode cX0_sitting 13 = .ok (.iload_n 2, 1) := by decide +kernel
theorem dX0_sitting_14 : decode cX0_sitting 14 = .ok (.invokevirtual 83, 3) := by decide +kernel
theorem dX0_sitting_17 : decode cX0_sitting 17 = .ok (.ifCond .eq 6, 3) := by decide +kernel
theorem dX0_sitting_20 : decode cX0_sitting 20 = .ok (.iinc 1 1, 3) := by decide +kernel
theorem dX0_sitting_23 : decode cX0_sitting 23 = .ok (.iinc 2 1, 3) := by decide +kernel
theorem dX0_sitting_26 : decode cX0_sitting 26 = .ok (.goto (-22), 3) := by decide +kernel
theorem dX0_sitting_29 : decode cX0_sitting 29 = .ok (.iload_n 1, 1) := by decide +kernel
theorem dX0_sitting_30 : decode cX0_sitting 30 = .ok (.ireturn, 1) := by decide +kernel
theorem dX0_spotsOfAll_0 : decode cX0_spotsOfAll 0 = .ok (.iconst 0, 1) := by decide +kernel
theorem dX0_spotsOfAll_1 : decode cX0_spotsOfAll 1 = .ok (.istore_n 1, 1) := by decide +kernel
theorem dX0_spotsOfAll_2 : decode cX0_spotsOfAll 2 = .ok (.iconst 0, 1) := by decide +kernel
theorem dX0_spotsOfAll_3 : decode cX0_spotsOfAll 3 = .ok (.istore_n 2, 1) := by decide +kernel
theorem dX0_spotsOfAll_4 : decode cX0_spotsOfAll 4 = .ok (.iload_n 2, 1) := by decide +kernel
theorem dX0_spotsOfAll_5 : decode cX0_spotsOfAll 5 = .ok (.aload_n 0, 1) := by decide +kernel
theorem dX0_spotsOfAll_6 : decode cX0_spotsOfAll 6 = .ok (.getfield 15, 3) := by decide +kernel
theorem dX0_spotsOfAll_9 : decode cX0_spotsOfAll 9 = .ok (.if_icmp .ge 18, 3) := by decide +kernel
theorem dX0_spotsOfAll_12 : decode cX0_spotsOfAll 12 = .ok (.iload_n 1, 1) := by decide +kernel
theorem dX0_spotsOfAll_13 : decode cX0_spotsOfAll 13 = .ok (.aload_n 0, 1) := by decide +kernel
theorem dX0_spotsOfAll_14 : decode cX0_spotsOfAll 14 = .ok (.getfield 34, 3) := by decide +kernel
theorem dX0_spotsOfAll_17 : decode cX0_spotsOfAll 17 = .ok (.iload_n 2, 1) := by decide +kernel
theorem dX0_spotsOfAll_18 : decode cX0_spotsOfAll 18 = .ok (.iaload, 1) := by decide +kernel
theorem dX0_spotsOfAll_19 : decode cX0_spotsOfAll 19 = .ok (.iadd, 1) := by decide +kernel
theorem dX0_spotsOfAll_20 : decode cX0_spotsOfAll 20 = .ok (.istore_n 1, 1) := by decide +kernel
theorem dX0_spotsOfAll_21 : decode cX0_spotsOfAll 21 = .ok (.iinc 2 1, 3) := by decide +kernel
theorem dX0_spotsOfAll_24 : decode cX0_spotsOfAll 24 = .ok (.goto (-20), 3) := by decide +kernel
theorem dX0_spotsOfAll_27 : decode cX0_spotsOfAll 27 = .ok (.iload_n 1, 1) := by decide +kernel
theorem dX0_spotsOfAll_28 : decode cX0_spotsOfAll 28 = .ok (.ireturn, 1) := by decide +kernel
theorem dX0_allWinds_0 : decode cX0_allWinds 0 = .ok (.iconst 0, 1) := by decide +kernel
theorem dX0_allWinds_1 : decode cX0_allWinds 1 = .ok (.istore_n 1, 1) := by decide +kernel
theorem dX0_allWinds_2 : decode cX0_allWinds 2 = .ok (.iconst 0, 1) := by decide +kernel
theorem dX0_allWinds_3 : decode cX0_allWinds 3 = .ok (.istore_n 2, 1) := by decide +kernel
theorem dX0_allWinds_4 : decode cX0_allWinds 4 = .ok (.iload_n 2, 1) := by decide +kernel
theorem dX0_allWinds_5 : decode cX0_allWinds 5 = .ok (.bipush 6, 2) := by decide +kernel
theorem dX0_allWinds_7 : decode cX0_allWinds 7 = .ok (.if_icmp .ge 18, 3) := by decide +kernel
theorem dX0_allWinds_10 : decode cX0_allWinds 10 = .ok (.iload_n 1, 1) := by decide +kernel
theorem dX0_allWinds_11 : decode cX0_allWinds 11 = .ok (.aload_n 0, 1) := by decide +kernel
theorem dX0_allWinds_12 : decode cX0_allWinds 12 = .ok (.getfield 46, 3) := by decide +kernel
theorem dX0_allWinds_15 : decode cX0_allWinds 15 = .ok (.iload_n 2, 1) := by decide +kernel
theorem dX0_allWinds_16 : decode cX0_allWinds 16 = .ok (.iaload, 1) := by decide +kernel
theorem dX0_allWinds_17 : decode cX0_allWinds 17 = .ok (.iadd, 1) := by decide +kernel
theorem dX0_allWinds_18 : decode cX0_allWinds 18 = .ok (.istore_n 1, 1) := by decide +kernel
theorem dX0_allWinds_19 : decode cX0_allWinds 19 = .ok (.iinc 2 1, 3) := by decide +kernel
theorem dX0_allWinds_22 : decode cX0_allWinds 22 = .ok (.goto (-18), 3) := by decide +kernel
theorem dX0_allWinds_25 : decode cX0_allWinds 25 = .ok (.iload_n 1, 1) := by decide +kernel
theorem dX0_allWinds_26 : decode cX0_allWinds 26 = .ok (.ireturn, 1) := by decide +kernel
theorem dX0_passDays_0 : decode cX0_passDays 0 = .ok (.iconst 0, 1) := by decide +kernel
theorem dX0_passDays_1 : decode cX0_passDays 1 = .ok (.istore_n 2, 1) := by decide +kernel
theorem dX0_passDays_2 : decode cX0_passDays 2 = .ok (.iload_n 2, 1) := by decide +kernel
theorem dX0_passDays_3 : decode cX0_passDays 3 = .ok (.iload_n 1, 1) := by decide +kernel
theorem dX0_passDays_4 : decode cX0_passDays 4 = .ok (.if_icmp .ge 17, 3) := by decide +kernel
theorem dX0_passDays_7 : decode cX0_passDays 7 = .ok (.aload_n 0, 1) := by decide +kernel
theorem dX0_passDays_8 : decode cX0_passDays 8 = .ok (.aload_n 0, 1) := by decide +kernel
theorem dX0_passDays_9 : decode cX0_passDays 9 = .ok (.invokevirtual 93, 3) := by decide +kernel
theorem dX0_passDays_12 : decode cX0_passDays 12 = .ok (.invokevirtual 97, 3) := by decide +kernel
theorem dX0_passDays_15 : decode cX0_passDays 15 = .ok (.iinc 2 1, 3) := by decide +kernel
theorem dX0_passDays_18 : decode cX0_passDays 18 = .ok (.goto (-16), 3) := by decide +kernel
theorem dX0_passDays_21 : decode cX0_passDays 21 = .ok (.return_, 1) := by decide +kernel
theorem dX0_windToday_0 : decode cX0_windToday 0 = .ok (.aload_n 0, 1) := by decide +kernel
theorem dX0_windToday_1 : decode cX0_windToday 1 = .ok (.getfield 46, 3) := by decide +kernel
theorem dX0_windToday_4 : decode cX0_windToday 4 = .ok (.aload_n 0, 1) := by decide +kernel
theorem dX0_windToday_5 : decode cX0_windToday 5 = .ok (.getfield 18, 3) := by decide +kernel
theorem dX0_windToday_8 : decode cX0_windToday 8 = .ok (.bipush 6, 2) := by decide +kernel
theorem dX0_windToday_10 : decode cX0_windToday 10 = .ok (.irem, 1) := by decide +kernel
theorem dX0_windToday_11 : decode cX0_windToday 11 = .ok (.iaload, 1) := by decide +kernel
theorem dX0_windToday_12 : decode cX0_windToday 12 = .ok (.ireturn, 1) := by decide +kernel
theorem dX0_passDay_0 : decode cX0_passDay 0 = .ok (.iconst 0, 1) := by decide +kernel
theorem dX0_passDay_1 : decode cX0_passDay 1 = .ok (.istore_n 2, 1) := by decide +kernel
theorem dX0_passDay_2 : decode cX0_passDay 2 = .ok (.iload_n 2, 1) := by decide +kernel
theorem dX0_passDay_3 : decode cX0_passDay 3 = .ok (.aload_n 0, 1) := by decide +kernel
theorem dX0_passDay_4 : decode cX0_passDay 4 = .ok (.getfield 15, 3) := by decide +kernel
theorem dX0_passDay_7 : decode cX0_passDay 7 = .ok (.if_icmp .ge 33, 3) := by decide +kernel
theorem dX0_passDay_10 : decode cX0_passDay 10 = .ok (.aload_n 0, 1) := by decide +kernel
theorem dX0_passDay_11 : decode cX0_passDay 11 = .ok (.iload_n 2, 1) := by decide +kernel
theorem dX0_passDay_12 : decode cX0_passDay 12 = .ok (.invokevirtual 83, 3) := by decide +kernel
theorem dX0_passDay_15 : decode cX0_passDay 15 = .ok (.ifCond .eq 19, 3) := by decide +kernel
theorem dX0_passDay_18 : decode cX0_passDay 18 = .ok (.aload_n 0, 1) := by decide +kernel
theorem dX0_passDay_19 : decode cX0_passDay 19 = .ok (.getfield 34, 3) := by decide +kernel
theorem dX0_passDay_22 : decode cX0_passDay 22 = .ok (.iload_n 2, 1) := by decide +kernel
theorem dX0_passDay_23 : decode cX0_passDay 23 = .ok (.iaload, 1) := by decide +kernel
theorem dX0_passDay_24 : decode cX0_passDay 24 = .ok (.iload_n 1, 1) := by decide +kernel
theorem dX0_passDay_25 : decode cX0_passDay 25 = .ok (.if_icmp .ge 9, 3) := by decide +kernel
theorem dX0_passDay_28 : decode cX0_passDay 28 = .ok (.aload_n 0, 1) := by decide +kernel
theorem dX0_passDay_29 : decode cX0_passDay 29 = .ok (.iload_n 2, 1) := by decide +kernel
theorem dX0_passDay_30 : decode cX0_passDay 30 = .ok (.iload_n 1, 1) := by decide +kernel
theorem dX0_passDay_31 : decode cX0_passDay 31 = .ok (.invokevirtual 101, 3) := by decide +kernel
theorem dX0_passDay_34 : decode cX0_passDay 34 = .ok (.iinc 2 1, 3) := by decide +kernel
theorem dX0_passDay_37 : decode cX0_passDay 37 = .ok (.goto (-35), 3) := by decide +kernel
theorem dX0_passDay_40 : decode cX0_passDay 40 = .ok (.iconst 0, 1) := by decide +kernel
theorem dX0_passDay_41 : decode cX0_passDay 41 = .ok (.istore_n 2, 1) := by decide +kernel
theorem dX0_passDay_42 : decode cX0_passDay 42 = .ok (.iload_n 2, 1) := by decide +kernel
theorem dX0_passDay_43 : decode cX0_passDay 43 = .ok (.aload_n 0, 1) := by decide +kernel
theorem dX0_passDay_44 : decode cX0_passDay 44 = .ok (.getfield 15, 3) := by decide +kernel
theorem dX0_passDay_47 : decode cX0_passDay 47 = .ok (.if_icmp .ge 27, 3) := by decide +kernel
theorem dX0_passDay_50 : decode cX0_passDay 50 = .ok (.aload_n 0, 1) := by decide +kernel
theorem dX0_passDay_51 : decode cX0_passDay 51 = .ok (.iload_n 2, 1) := by decide +kernel
theorem dX0_passDay_52 : decode cX0_passDay 52 = .ok (.invokevirtual 83, 3) := by decide +kernel
theorem dX0_passDay_55 : decode cX0_passDay 55 = .ok (.ifCond .ne 13, 3) := by decide +kernel
theorem dX0_passDay_58 : decode cX0_passDay 58 = .ok (.aload_n 0, 1) := by decide +kernel
theorem dX0_passDay_59 : decode cX0_passDay 59 = .ok (.iload_n 2, 1) := by decide +kernel
theorem dX0_passDay_60 : decode cX0_passDay 60 = .ok (.aload_n 0, 1) := by decide +kernel
theorem dX0_passDay_61 : decode cX0_passDay 61 = .ok (.iload_n 2, 1) := by decide +kernel
theorem dX0_passDay_62 : decode cX0_passDay 62 = .ok (.invokevirtual 105, 3) := by decide +kernel
theorem dX0_passDay_65 : decode cX0_passDay 65 = .ok (.invokevirtual 108, 3) := by decide +kernel
theorem dX0_passDay_68 : decode cX0_passDay 68 = .ok (.iinc 2 1, 3) := by decide +kernel
theorem dX0_passDay_71 : decode cX0_passDay 71 = .ok (.goto (-29), 3) := by decide +kernel
theorem dX0_passDay_74 : decode cX0_passDay 74 = .ok (.aload_n 0, 1) := by decide +kernel
theorem dX0_passDay_75 : decode cX0_passDay 75 = .ok (.dup, 1) := by decide +kernel
theorem dX0_passDay_76 : decode cX0_passDay 76 = .ok (.getfield 18, 3) := by decide +kernel
theorem dX0_passDay_79 : decode cX0_passDay 79 = .ok (.iconst 1, 1) := by decide +kernel
theorem dX0_passDay_80 : decode cX0_passDay 80 = .ok (.iadd, 1) := by decide +kernel
theorem dX0_passDay_81 : decode cX0_passDay 81 = .ok (.putfield 18, 3) := by decide +kernel
theorem dX0_passDay_84 : decode cX0_passDay 84 = .ok (.return_, 1) := by decide +kernel
theorem dX0_blowOff_0 : decode cX0_blowOff 0 = .ok (.aload_n 0, 1) := by decide +kernel
theorem dX0_blowOff_1 : decode cX0_blowOff 1 = .ok (.iload_n 1, 1) := by decide +kernel
theorem dX0_blowOff_2 : decode cX0_blowOff 2 = .ok (.invokevirtual 111, 3) := by decide +kernel
theorem dX0_blowOff_5 : decode cX0_blowOff 5 = .ok (.istore_n 3, 1) := by decide +kernel
theorem dX0_blowOff_6 : decode cX0_blowOff 6 = .ok (.aload_n 0, 1) := by decide +kernel
theorem dX0_blowOff_7 : decode cX0_blowOff 7 = .ok (.getfield 18, 3) := by decide +kernel
theorem dX0_blowOff_10 : decode cX0_blowOff 10 = .ok (.iconst 2, 1) := by decide +kernel
theorem dX0_blowOff_11 : decode cX0_blowOff 11 = .ok (.irem, 1) := by decide +kernel
theorem dX0_blowOff_12 : decode cX0_blowOff 12 = .ok (.ifCond .ne 19, 3) := by decide +kernel
theorem dX0_blowOff_15 : decode cX0_blowOff 15 = .ok (.aload_n 0, 1) := by decide +kernel
theorem dX0_blowOff_16 : decode cX0_blowOff 16 = .ok (.iload_n 1, 1) := by decide +kernel
theorem dX0_blowOff_17 : decode cX0_blowOff 17 = .ok (.iload_n 3, 1) := by decide +kernel
theorem dX0_blowOff_18 : decode cX0_blowOff 18 = .ok (.iload_n 2, 1) := by decide +kernel
theorem dX0_blowOff_19 : decode cX0_blowOff 19 = .ok (.iadd, 1) := by decide +kernel
theorem dX0_blowOff_20 : decode cX0_blowOff 20 = .ok (.bipush 9, 2) := by decide +kernel
theorem dX0_blowOff_22 : decode cX0_blowOff 22 = .ok (.invokestatic 114, 3) := by decide +kernel
theorem dX0_blowOff_25 : decode cX0_blowOff 25 = .ok (.invokevirtual 120, 3) := by decide +kernel
theorem dX0_blowOff_28 : decode cX0_blowOff 28 = .ok (.goto 15, 3) := by decide +kernel
theorem dX0_blowOff_31 : decode cX0_blowOff 31 = .ok (.aload_n 0, 1) := by decide +kernel
theorem dX0_blowOff_32 : decode cX0_blowOff 32 = .ok (.iload_n 1, 1) := by decide +kernel
theorem dX0_blowOff_33 : decode cX0_blowOff 33 = .ok (.iload_n 3, 1) := by decide +kernel
theorem dX0_blowOff_34 : decode cX0_blowOff 34 = .ok (.iload_n 2, 1) := by decide +kernel
theorem dX0_blowOff_35 : decode cX0_blowOff 35 = .ok (.isub, 1) := by decide +kernel
theorem dX0_blowOff_36 : decode cX0_blowOff 36 = .ok (.iconst 0, 1) := by decide +kernel
theorem dX0_blowOff_37 : decode cX0_blowOff 37 = .ok (.invokestatic 123, 3) := by decide +kernel
theorem dX0_blowOff_40 : decode cX0_blowOff 40 = .ok (.invokevirtual 120, 3) := by decide +kernel
theorem dX0_blowOff_43 : decode cX0_blowOff 43 = .ok (.aload_n 0, 1) := by decide +kernel
theorem dX0_blowOff_44 : decode cX0_blowOff 44 = .ok (.dup, 1) := by decide +kernel
theorem dX0_blowOff_45 : decode cX0_blowOff 45 = .ok (.getfield 21, 3) := by decide +kernel
theorem dX0_blowOff_48 : decode cX0_blowOff 48 = .ok (.iconst 1, 1) := by decide +kernel
theorem dX0_blowOff_49 : decode cX0_blowOff 49 = .ok (.iadd, 1) := by decide +kernel
theorem dX0_blowOff_50 : decode cX0_blowOff 50 = .ok (.putfield 21, 3) := by decide +kernel
theorem dX0_blowOff_53 : decode cX0_blowOff 53 = .ok (.return_, 1) := by decide +kernel
theorem dX0_flyTowards_0 : decode cX0_flyTowards 0 = .ok (.aload_n 0, 1) := by decide +kernel
theorem dX0_flyTowards_1 : decode cX0_flyTowards 1 = .ok (.getfield 27, 3) := by decide +kernel
theorem dX0_flyTowards_4 : decode cX0_flyTowards 4 = .ok (.iload_n 2, 1) := by decide +kernel
theorem dX0_flyTowards_5 : decode cX0_flyTowards 5 = .ok (.iaload, 1) := by decide +kernel
theorem dX0_flyTowards_6 : decode cX0_flyTowards 6 = .ok (.aload_n 0, 1) := by decide +kernel
theorem dX0_flyTowards_7 : decode cX0_flyTowards 7 = .ok (.getfield 43, 3) := by decide +kernel
theorem dX0_flyTowards_10 : decode cX0_flyTowards 10 = .ok (.iload_n 1, 1) := by decide +kernel
theorem dX0_flyTowards_11 : decode cX0_flyTowards 11 = .ok (.iaload, 1) := by decide +kernel
theorem dX0_flyTowards_12 : decode cX0_flyTowards 12 = .ok (.isub, 1) := by decide +kernel
theorem dX0_flyTowards_13 : decode cX0_flyTowards 13 = .ok (.istore_n 3, 1) := by decide +kernel
theorem dX0_flyTowards_14 : decode cX0_flyTowards 14 = .ok (.aload_n 0, 1) := by decide +kernel
theorem dX0_flyTowards_15 : decode cX0_flyTowards 15 = .ok (.iload_n 1, 1) := by decide +kernel
theorem dX0_flyTowards_16 : decode cX0_flyTowards 16 = .ok (.invokevirtual 126, 3) := by decide +kernel
theorem dX0_flyTowards_19 : decode cX0_flyTowards 19 = .ok (.istore 4, 2) := by decide +kernel
theorem dX0_flyTowards_21 : decode cX0_flyTowards 21 = .ok (.aload_n 0, 1) := by decide +kernel
theorem dX0_flyTowards_22 : decode cX0_flyTowards 22 = .ok (.getfield 43, 3) := by decide +kernel
theorem dX0_flyTowards_25 : decode cX0_flyTowards 25 = .ok (.iload_n 1, 1) := by decide +kernel
theorem dX0_flyTowards_26 : decode cX0_flyTowards 26 = .ok (.dup2, 1) := by decide +kernel
theorem dX0_flyTowards_27 : decode cX0_flyTowards 27 = .ok (.iaload, 1) := by decide +kernel
theorem dX0_flyTowards_28 : decode cX0_flyTowards 28 = .ok (.iload 4, 2) := by decide +kernel
theorem dX0_flyTowards_30 : decode cX0_flyTowards 30 = .ok (.ineg, 1) := by decide +kernel
theorem dX0_flyTowards_31 : decode cX0_flyTowards 31 = .ok (.iload_n 3, 1) := by decide +kernel
theorem dX0_flyTowards_32 : decode cX0_flyTowards 32 = .ok (.iload 4, 2) := by decide +kernel
theorem dX0_flyTowards_34 : decode cX0_flyTowards 34 = .ok (.invokestatic 114, 3) := by decide +kernel
theorem dX0_flyTowards_37 : decode cX0_flyTowards 37 = .ok (.invokestatic 123, 3) := by decide +kernel
theorem dX0_flyTowards_40 : decode cX0_flyTowards 40 = .ok (.iadd, 1) := by decide +kernel
theorem dX0_flyTowards_41 : decode cX0_flyTowards 41 = .ok (.iastore, 1) := by decide +kernel
theorem dX0_flyTowards_42 : decode cX0_flyTowards 42 = .ok (.aload_n 0, 1) := by decide +kernel
theorem dX0_flyTowards_43 : decode cX0_flyTowards 43 = .ok (.getfield 43, 3) := by decide +kernel
theorem dX0_flyTowards_46 : decode cX0_flyTowards 46 = .ok (.iload_n 1, 1) := by decide +kernel
theorem dX0_flyTowards_47 : decode cX0_flyTowards 47 = .ok (.iaload, 1) := by decide +kernel
theorem dX0_flyTowards_48 : decode cX0_flyTowards 48 = .ok (.aload_n 0, 1) := by decide +kernel
theorem dX0_flyTowards_49 : decode cX0_flyTowards 49 = .ok (.getfield 27, 3) := by decide +kernel
theorem dX0_flyTowards_52 : decode cX0_flyTowards 52 = .ok (.iload_n 2, 1) := by decide +kernel
theorem dX0_flyTowards_53 : decode cX0_flyTowards 53 = .ok (.iaload, 1) := by decide +kernel
theorem dX0_flyTowards_54 : decode cX0_flyTowards 54 = .ok (.if_icmp .ne 20, 3) := by decide +kernel
theorem dX0_flyTowards_57 : decode cX0_flyTowards 57 = .ok (.aload_n 0, 1) := by decide +kernel
theorem dX0_flyTowards_58 : decode cX0_flyTowards 58 = .ok (.getfield 40, 3) := by decide +kernel
theorem dX0_flyTowards_61 : decode cX0_flyTowards 61 = .ok (.iload_n 1, 1) := by decide +kernel
theorem dX0_flyTowards_62 : decode cX0_flyTowards 62 = .ok (.iload_n 2, 1) := by decide +kernel
theorem dX0_flyTowards_63 : decode cX0_flyTowards 63 = .ok (.iastore, 1) := by decide +kernel
theorem dX0_flyTowards_64 : decode cX0_flyTowards 64 = .ok (.aload_n 0, 1) := by decide +kernel
theorem dX0_flyTowards_65 : decode cX0_flyTowards 65 = .ok (.dup, 1) := by decide +kernel
theorem dX0_flyTowards_66 : decode cX0_flyTowards 66 = .ok (.getfield 24, 3) := by decide +kernel
theorem dX0_flyTowards_69 : decode cX0_flyTowards 69 = .ok (.iconst 1, 1) := by decide +kernel
theorem dX0_flyTowards_70 : decode cX0_flyTowards 70 = .ok (.iadd, 1) := by decide +kernel
theorem dX0_flyTowards_71 : decode cX0_flyTowards 71 = .ok (.putfield 24, 3) := by decide +kernel
theorem dX0_flyTowards_74 : decode cX0_flyTowards 74 = .ok (.return_, 1) := by decide +kernel
theorem dX0_daysTillSits_0 : decode cX0_daysTillSits 0 = .ok (.iconst 0, 1) := by decide +kernel
theorem dX0_daysTillSits_1 : decode cX0_daysTillSits 1 = .ok (.istore_n 3, 1) := by decide +kernel
theorem dX0_daysTillSits_2 : decode cX0_daysTillSits 2 = .ok (.iload_n 3, 1) := by decide +kernel
theorem dX0_daysTillSits_3 : decode cX0_daysTillSits 3 = .ok (.iload_n 2, 1) := by decide +kernel
theorem dX0_daysTillSits_4 : decode cX0_daysTillSits 4 = .ok (.if_icmp .gt 27, 3) := by decide +kernel
theorem dX0_daysTillSits_7 : decode cX0_daysTillSits 7 = .ok (.aload_n 0, 1) := by decide +kernel
theorem dX0_daysTillSits_8 : decode cX0_daysTillSits 8 = .ok (.iload_n 1, 1) := by decide +kernel
theorem dX0_daysTillSits_9 : decode cX0_daysTillSits 9 = .ok (.invokevirtual 83, 3) := by decide +kernel
theorem dX0_daysTillSits_12 : decode cX0_daysTillSits 12 = .ok (.ifCond .eq 5, 3) := by decide +kernel
theorem dX0_daysTillSits_15 : decode cX0_daysTillSits 15 = .ok (.iload_n 3, 1) := by decide +kernel
theorem dX0_daysTillSits_16 : decode cX0_daysTillSits 16 = .ok (.ireturn, 1) := by decide +kernel
theorem dX0_daysTillSits_17 : decode cX0_daysTillSits 17 = .ok (.aload_n 0, 1) := by decide +kernel
theorem dX0_daysTillSits_18 : decode cX0_daysTillSits 18 = .ok (.aload_n 0, 1) := by decide +kernel
theorem dX0_daysTillSits_19 : decode cX0_daysTillSits 19 = .ok (.invokevirtual 93, 3) := by decide +kernel
theorem dX0_daysTillSits_22 : decode cX0_daysTillSits 22 = .ok (.invokevirtual 97, 3) := by decide +kernel
theorem dX0_daysTillSits_25 : decode cX0_daysTillSits 25 = .ok (.iinc 3 1, 3) := by decide +kernel
theorem dX0_daysTillSits_28 : decode cX0_daysTillSits 28 = .ok (.goto (-26), 3) := by decide +kernel
theorem dX0_daysTillSits_31 : decode cX0_daysTillSits 31 = .ok (.bipush (-4), 2) := by decide +kernel
theorem dX0_daysTillSits_33 : decode cX0_daysTillSits 33 = .ok (.ireturn, 1) := by decide +kernel
theorem dX0_daysTillAllSit_0 : decode cX0_daysTillAllSit 0 = .ok (.iconst 0, 1) := by decide +kernel
theorem dX0_daysTillAllSit_1 : decode cX0_daysTillAllSit 1 = .ok (.istore_n 2, 1) := by decide +kernel
theorem dX0_daysTillAllSit_2 : decode cX0_daysTillAllSit 2 = .ok (.iload_n 2, 1) := by decide +kernel
theorem dX0_daysTillAllSit_3 : decode cX0_daysTillAllSit 3 = .ok (.iload_n 1, 1) := by decide +kernel
theorem dX0_daysTillAllSit_4 : decode cX0_daysTillAllSit 4 = .ok (.if_icmp .gt 30, 3) := by decide +kernel
theorem dX0_daysTillAllSit_7 : decode cX0_daysTillAllSit 7 = .ok (.aload_n 0, 1) := by decide +kernel
theorem dX0_daysTillAllSit_8 : decode cX0_daysTillAllSit 8 = .ok (.invokevirtual 129, 3) := by decide +kernel
theorem dX0_daysTillAllSit_11 : decode cX0_daysTillAllSit 11 = .ok (.aload_n 0, 1) := by decide +kernel
theorem dX0_daysTillAllSit_12 : decode cX0_daysTillAllSit 12 = .ok (.getfield 15, 3) := by decide +kernel
theorem dX0_daysTillAllSit_15 : decode cX0_daysTillAllSit 15 = .ok (.if_icmp .ne 5, 3) := by decide +kernel
theorem dX0_daysTillAllSit_18 : decode cX0_daysTillAllSit 18 = .ok (.iload_n 2, 1) := by decide +kernel
theorem dX0_daysTillAllSit_19 : decode cX0_daysTillAllSit 19 = .ok (.ireturn, 1) := by decide +kernel
theorem dX0_daysTillAllSit_20 : decode cX0_daysTillAllSit 20 = .ok (.aload_n 0, 1) := by decide +kernel
theorem dX0_daysTillAllSit_21 : decode cX0_daysTillAllSit 21 = .ok (.aload_n 0, 1) := by decide +kernel
theorem dX0_daysTillAllSit_22 : decode cX0_daysTillAllSit 22 = .ok (.invokevirtual 93, 3) := by decide +kernel
theorem dX0_daysTillAllSit_25 : decode cX0_daysTillAllSit 25 = .ok (.invokevirtual 97, 3) := by decide +kernel
theorem dX0_daysTillAllSit_28 : decode cX0_daysTillAllSit 28 = .ok (.iinc 2 1, 3) := by decide +kernel
theorem dX0_daysTillAllSit_31 : decode cX0_daysTillAllSit 31 = .ok (.goto (-29), 3) := by decide +kernel
theorem dX0_daysTillAllSit_34 : decode cX0_daysTillAllSit 34 = .ok (.bipush (-4), 2) := by decide +kernel
theorem dX0_daysTillAllSit_36 : decode cX0_daysTillAllSit 36 = .ok (.ireturn, 1) := by decide +kernel
theorem dX1_init_0 : decode cX1_init 0 = .ok (.aload_n 0, 1) := by decide +kernel
theorem dX1_init_1 : decode cX1_init 1 = .ok (.invokespecial 1, 3) := by decide +kernel
theorem dX1_init_4 : decode cX1_init 4 = .ok (.aload_n 0, 1) := by decide +kernel
theorem dX1_init_5 : decode cX1_init 5 = .ok (.iconst 0, 1) := by decide +kernel
theorem dX1_init_6 : decode cX1_init 6 = .ok (.putfield 7, 3) := by decide +kernel
theorem dX1_init_9 : decode cX1_init 9 = .ok (.aload_n 0, 1) := by decide +kernel
theorem dX1_init_10 : decode cX1_init 10 = .ok (.new 13, 3) := by decide +kernel
theorem dX1_init_13 : decode cX1_init 13 = .ok (.dup, 1) := by decide +kernel
theorem dX1_init_14 : decode cX1_init 14 = .ok (.invokespecial 15, 3) := by decide +kernel
theorem dX1_init_17 : decode cX1_init 17 = .ok (.putfield 16, 3) := by decide +kernel
theorem dX1_init_20 : decode cX1_init 20 = .ok (.aload_n 0, 1) := by decide +kernel
theorem dX1_init_21 : decode cX1_init 21 = .ok (.new 20, 3) := by decide +kernel
theorem dX1_init_24 : decode cX1_init 24 = .ok (.dup, 1) := by decide +kernel
theorem dX1_init_25 : decode cX1_init 25 = .ok (.invokespecial 22, 3) := by decide +kernel
theorem dX1_init_28 : decode cX1_init 28 = .ok (.putfield 23, 3) := by decide +kernel
theorem dX1_init_31 : decode cX1_init 31 = .ok (.return_, 1) := by decide +kernel
theorem dX2_init_0 : decode cX2_init 0 = .ok (.aload_n 0, 1) := by decide +kernel
theorem dX2_init_1 : decode cX2_init 1 = .ok (.invokespecial 3, 3) := by decide +kernel
theorem dX2_init_4 : decode cX2_init 4 = .ok (.aload_n 0, 1) := by decide +kernel
theorem dX2_init_5 : decode cX2_init 5 = .ok (.iconst 0, 1) := by decide +kernel
theorem dX2_init_6 : decode cX2_init 6 = .ok (.putfield 9, 3) := by decide +kernel
theorem dX2_init_9 : decode cX2_init 9 = .ok (.aload_n 0, 1) := by decide +kernel
theorem dX2_init_10 : decode cX2_init 10 = .ok (.bipush 6, 2) := by decide +kernel
theorem dX2_init_12 : decode cX2_init 12 = .ok (.newarray .int, 2) := by decide +kernel
theorem dX2_init_14 : decode cX2_init 14 = .ok (.putfield 15, 3) := by decide +kernel
theorem dX2_init_17 : decode cX2_init 17 = .ok (.aload_n 0, 1) := by decide +kernel
theorem dX2_init_18 : decode cX2_init 18 = .ok (.bipush 6, 2) := by decide +kernel
theorem dX2_init_20 : decode cX2_init 20 = .ok (.newarray .int, 2) := by decide +kernel
theorem dX2_init_22 : decode cX2_init 22 = .ok (.putfield 19, 3) := by decide +kernel
theorem dX2_init_25 : decode cX2_init 25 = .ok (.aload_n 0, 1) := by decide +kernel
theorem dX2_init_26 : decode cX2_init 26 = .ok (.bipush 6, 2) := by decide +kernel
theorem dX2_init_28 : decode cX2_init 28 = .ok (.newarray .int, 2) := by decide +kernel
theorem dX2_init_30 : decode cX2_init 30 = .ok (.putfield 22, 3) := by decide +kernel
theorem dX2_init_33 : decode cX2_init 33 = .ok (.return_, 1) := by decide +kernel
theorem dX2_append_0 : decode cX2_append 0 = .ok (.aload_n 0, 1) := by decide +kernel
theorem dX2_append_1 : decode cX2_append 1 = .ok (.getfield 9, 3) := by decide +kernel
theorem dX2_append_4 : decode cX2_append 4 = .ok (.bipush 6, 2) := by decide +kernel
theorem dX2_append_6 : decode cX2_append 6 = .ok (.if_icmp .lt 5, 3) := by decide +kernel
theorem dX2_append_9 : decode cX2_append 9 = .ok (.iconst 0, 1) := by decide +kernel
theorem dX2_append_10 : decode cX2_append 10 = .ok (.ireturn, 1) := by decide +kernel
theorem dX2_append_11 : decode cX2_append 11 = .ok (.aload_n 0, 1) := by decide +kernel
theorem dX2_append_12 : decode cX2_append 12 = .ok (.getfield 15, 3) := by decide +kernel
theorem dX2_append_15 : decode cX2_append 15 = .ok (.aload_n 0, 1) := by decide +kernel
theorem dX2_append_16 : decode cX2_append 16 = .ok (.getfield 9, 3) := by decide +kernel
theorem dX2_append_19 : decode cX2_append 19 = .ok (.iload_n 1, 1) := by decide +kernel
theorem dX2_append_20 : decode cX2_append 20 = .ok (.iastore, 1) := by decide +kernel
theorem dX2_append_21 : decode cX2_append 21 = .ok (.aload_n 0, 1) := by decide +kernel
theorem dX2_append_22 : decode cX2_append 22 = .ok (.getfield 19, 3) := by decide +kernel
theorem dX2_append_25 : decode cX2_append 25 = .ok (.aload_n 0, 1) := by decide +kernel
theorem dX2_append_26 : decode cX2_append 26 = .ok (.getfield 9, 3) := by decide +kernel
theorem dX2_append_29 : decode cX2_append 29 = .ok (.iload_n 2, 1) := by decide +kernel
theorem dX2_append_30 : decode cX2_append 30 = .ok (.iastore, 1) := by decide +kernel
theorem dX2_append_31 : decode cX2_append 31 = .ok (.aload_n 0, 1) := by decide +kernel
theorem dX2_append_32 : decode cX2_append 32 = .ok (.getfield 22, 3) := by decide +kernel
theorem dX2_append_35 : decode cX2_append 35 = .ok (.aload_n 0, 1) := by decide +kernel
theorem dX2_append_36 : decode cX2_append 36 = .ok (.getfield 9, 3) := by decide +kernel
theorem dX2_append_39 : decode cX2_append 39 = .ok (.iload_n 3, 1) := by decide +kernel
theorem dX2_append_40 : decode cX2_append 40 = .ok (.iastore, 1) := by decide +kernel
theorem dX2_append_41 : decode cX2_append 41 = .ok (.aload_n 0, 1) := by decide +kernel
theorem dX2_append_42 : decode cX2_append 42 = .ok (.dup, 1) := by decide +kernel
theorem dX2_append_43 : decode cX2_append 43 = .ok (.getfield 9, 3) := by decide +kernel
theorem dX2_append_46 : decode cX2_append 46 = .ok (.iconst 1, 1) := by decide +kernel
theorem dX2_append_47 : decode cX2_append 47 = .ok (.iadd, 1) := by decide +kernel
theorem dX2_append_48 : decode cX2_append 48 = .ok (.putfield 9, 3) := by decide +kernel
theorem dX2_append_51 : decode cX2_append 51 = .ok (.iconst 1, 1) := by decide +kernel
theorem dX2_append_52 : decode cX2_append 52 = .ok (.ireturn, 1) := by decide +kernel
theorem dX2_copyFrom_0 : decode cX2_copyFrom 0 = .ok (.aload_n 0, 1) := by decide +kernel
theorem dX2_copyFrom_1 : decode cX2_copyFrom 1 = .ok (.aload_n 1, 1) := by decide +kernel
theorem dX2_copyFrom_2 : decode cX2_copyFrom 2 = .ok (.getfield 9, 3) := by decide +kernel
theorem dX2_copyFrom_5 : decode cX2_copyFrom 5 = .ok (.putfield 9, 3) := by decide +kernel
theorem dX2_copyFrom_8 : decode cX2_copyFrom 8 = .ok (.aload_n 1, 1) := by decide +kernel
theorem dX2_copyFrom_9 : decode cX2_copyFrom 9 = .ok (.getfield 15, 3) := by decide +kernel
theorem dX2_copyFrom_12 : decode cX2_copyFrom 12 = .ok (.iconst 0, 1) := by decide +kernel
theorem dX2_copyFrom_13 : decode cX2_copyFrom 13 = .ok (.aload_n 0, 1) := by decide +kernel
theorem dX2_copyFrom_14 : decode cX2_copyFrom 14 = .ok (.getfield 15, 3) := by decide +kernel
theorem dX2_copyFrom_17 : decode cX2_copyFrom 17 = .ok (.iconst 0, 1) := by decide +kernel
theorem dX2_copyFrom_18 : decode cX2_copyFrom 18 = .ok (.bipush 6, 2) := by decide +kernel
theorem dX2_copyFrom_20 : decode cX2_copyFrom 20 = .ok (.invokestatic 25, 3) := by decide +kernel
theorem dX2_copyFrom_23 : decode cX2_copyFrom 23 = .ok (.aload_n 1, 1) := by decide +kernel
theorem dX2_copyFrom_24 : decode cX2_copyFrom 24 = .ok (.getfield 19, 3) := by decide +kernel
theorem dX2_copyFrom_27 : decode cX2_copyFrom 27 = .ok (.iconst 0, 1) := by decide +kernel
theorem dX2_copyFrom_28 : decode cX2_copyFrom 28 = .ok (.aload_n 0, 1) := by decide +kernel
theorem dX2_copyFrom_29 : decode cX2_copyFrom 29 = .ok (.getfield 19, 3) := by decide +kernel
theorem dX2_copyFrom_32 : decode cX2_copyFrom 32 = .ok (.iconst 0, 1) := by decide +kernel
theorem dX2_copyFrom_33 : decode cX2_copyFrom 33 = .ok (.bipush 6, 2) := by decide +kernel
theorem dX2_copyFrom_35 : decode cX2_copyFrom 35 = .ok (.invokestatic 25, 3) := by decide +kernel
theorem dX2_copyFrom_38 : decode cX2_copyFrom 38 = .ok (.aload_n 1, 1) := by decide +kernel
theorem dX2_copyFrom_39 : decode cX2_copyFrom 39 = .ok (.getfield 22, 3) := by decide +kernel
theorem dX2_copyFrom_42 : decode cX2_copyFrom 42 = .ok (.iconst 0, 1) := by decide +kernel
theorem dX2_copyFrom_43 : decode cX2_copyFrom 43 = .ok (.aload_n 0, 1) := by decide +kernel
theorem dX2_copyFrom_44 : decode cX2_copyFrom 44 = .ok (.getfield 22, 3) := by decide +kernel
theorem dX2_copyFrom_47 : decode cX2_copyFrom 47 = .ok (.iconst 0, 1) := by decide +kernel
theorem dX2_copyFrom_48 : decode cX2_copyFrom 48 = .ok (.bipush 6, 2) := by decide +kernel
theorem dX2_copyFrom_50 : decode cX2_copyFrom 50 = .ok (.invokestatic 25, 3) := by decide +kernel
theorem dX2_copyFrom_53 : decode cX2_copyFrom 53 = .ok (.return_, 1) := by decide +kernel
theorem dX2_isAsIn_0 : decode cX2_isAsIn 0 = .ok (.iconst 0, 1) := by decide +kernel
theorem dX2_isAsIn_1 : decode cX2_isAsIn 1 = .ok (.istore_n 2, 1) := by decide +kernel
theorem dX2_isAsIn_2 : decode cX2_isAsIn 2 = .ok (.iconst 0, 1) := by decide +kernel
theorem dX2_isAsIn_3 : decode cX2_isAsIn 3 = .ok (.istore_n 3, 1) := by decide +kernel
theorem dX2_isAsIn_4 : decode cX2_isAsIn 4 = .ok (.iload_n 3, 1) := by decide +kernel
theorem dX2_isAsIn_5 : decode cX2_isAsIn 5 = .ok (.aload_n 0, 1) := by decide +kernel
theorem dX2_isAsIn_6 : decode cX2_isAsIn 6 = .ok (.getfield 9, 3) := by decide +kernel
theorem dX2_isAsIn_9 : decode cX2_isAsIn 9 = .ok (.if_icmp .ge 20, 3) := by decide +kernel
theorem dX2_isAsIn_12 : decode cX2_isAsIn 12 = .ok (.iload_n 2, 1) := by decide +kernel
theorem dX2_isAsIn_13 : decode cX2_isAsIn 13 = .ok (.aload_n 0, 1) := by decide +kernel
theorem dX2_isAsIn_14 : decode cX2_isAsIn 14 = .ok (.getfield 15, 3) := by decide +kernel
theorem dX2_isAsIn_17 : decode cX2_isAsIn 17 = .ok (.iload_n 3, 1) := by decide +kernel
theorem dX2_isAsIn_18 : decode cX2_isAsIn 18 = .ok (.iaload, 1) := by decide +kernel
theorem dX2_isAsIn_19 : decode cX2_isAsIn 19 = .ok (.invokestatic 31, 3) := by decide +kernel
theorem dX2_isAsIn_22 : decode cX2_isAsIn 22 = .ok (.istore_n 2, 1) := by decide +kernel
theorem dX2_isAsIn_23 : decode cX2_isAsIn 23 = .ok (.iinc 3 1, 3) := by decide +kernel
theorem dX2_isAsIn_26 : decode cX2_isAsIn 26 = .ok (.goto (-22), 3) := by decide +kernel
theorem dX2_isAsIn_29 : decode cX2_isAsIn 29 = .ok (.iconst 0, 1) := by decide +kernel
theorem dX2_isAsIn_30 : decode cX2_isAsIn 30 = .ok (.istore_n 3, 1) := by decide +kernel
theorem dX2_isAsIn_31 : decode cX2_isAsIn 31 = .ok (.iload_n 3, 1) := by decide +kernel
theorem dX2_isAsIn_32 : decode cX2_isAsIn 32 = .ok (.iload_n 2, 1) := by decide +kernel
theorem dX2_isAsIn_33 : decode cX2_isAsIn 33 = .ok (.if_icmp .gt 69, 3) := by decide +kernel
theorem dX2_isAsIn_36 : decode cX2_isAsIn 36 = .ok (.iconst 0, 1) := by decide +kernel
theorem dX2_isAsIn_37 : decode cX2_isAsIn 37 = .ok (.istore 4, 2) := by decide +kernel
theorem dX2_isAsIn_39 : decode cX2_isAsIn 39 = .ok (.iload 4, 2) := by decide +kernel
theorem dX2_isAsIn_41 : decode cX2_isAsIn 41 = .ok (.aload_n 0, 1) := by decide +kernel
theorem dX2_isAsIn_42 : decode cX2_isAsIn 42 = .ok (.getfield 9, 3) := by decide +kernel
theorem dX2_isAsIn_45 : decode cX2_isAsIn 45 = .ok (.if_icmp .ge 43, 3) := by decide +kernel
theorem dX2_isAsIn_48 : decode cX2_isAsIn 48 = .ok (.aload_n 0, 1) := by decide +kernel
theorem dX2_isAsIn_49 : decode cX2_isAsIn 49 = .ok (.getfield 15, 3) := by decide +kernel
theorem dX2_isAsIn_52 : decode cX2_isAsIn 52 = .ok (.iload 4, 2) := by decide +kernel
theorem dX2_isAsIn_54 : decode cX2_isAsIn 54 = .ok (.iaload, 1) := by decide +kernel
theorem dX2_isAsIn_55 : decode cX2_isAsIn 55 = .ok (.iload_n 3, 1) := by decide +kernel
theorem dX2_isAsIn_56 : decode cX2_isAsIn 56 = .ok (.if_icmp .ne 26, 3) := by decide +kernel
theorem dX2_isAsIn_59 : decode cX2_isAsIn 59 = .ok (.aload_n 1, 1) := by decide +kernel
theorem dX2_isAsIn_60 : decode cX2_isAsIn 60 = .ok (.aload_n 0, 1) := by decide +kernel
theorem dX2_isAsIn_61 : decode cX2_isAsIn 61 = .ok (.getfield 19, 3) := by decide +kernel
theorem dX2_isAsIn_64 : decode cX2_isAsIn 64 = .ok (.iload 4, 2) := by decide +kernel
theorem dX2_isAsIn_66 : decode cX2_isAsIn 66 = .ok (.iaload, 1) := by decide +kernel
theorem dX2_isAsIn_67 : decode cX2_isAsIn 67 = .ok (.invokevirtual 37, 3) := by decide +kernel
theorem dX2_isAsIn_70 : decode cX2_isAsIn 70 = .ok (.aload_n 0, 1) := by decide +kernel
theorem dX2_isAsIn_71 : decode cX2_isAsIn 71 = .ok (.getfield 22, 3) := by decide +kernel
theorem dX2_isAsIn_74 : decode cX2_isAsIn 74 = .ok (.iload 4, 2) := by decide +kernel
theorem dX2_isAsIn_76 : decode cX2_isAsIn 76 = .ok (.iaload, 1) := by decide +kernel
theorem dX2_isAsIn_77 : decode cX2_isAsIn 77 = .ok (.if_icmp .eq 5, 3) := by decide +kernel
theorem dX2_isAsIn_80 : decode cX2_isAsIn 80 = .ok (.iconst 0, 1) := by decide +kernel
theorem dX2_isAsIn_81 : decode cX2_isAsIn 81 = .ok (.ireturn, 1) := by decide +kernel
theorem dX2_isAsIn_82 : decode cX2_isAsIn 82 = .ok (.iinc 4 1, 3) := by decide +kernel
theorem dX2_isAsIn_85 : decode cX2_isAsIn 85 = .ok (.goto (-46), 3) := by decide +kernel
theorem dX2_isAsIn_88 : decode cX2_isAsIn 88 = .ok (.aload_n 1, 1) := by decide +kernel
theorem dX2_isAsIn_89 : decode cX2_isAsIn 89 = .ok (.aload_n 1, 1) := by decide +kernel
theorem dX2_isAsIn_90 : decode cX2_isAsIn 90 = .ok (.invokevirtual 42, 3) := by decide +kernel
theorem dX2_isAsIn_93 : decode cX2_isAsIn 93 = .ok (.invokevirtual 46, 3) := by decide +kernel
theorem dX2_isAsIn_96 : decode cX2_isAsIn 96 = .ok (.iinc 3 1, 3) := by decide +kernel
theorem dX2_isAsIn_99 : decode cX2_isAsIn 99 = .ok (.goto (-68), 3) := by decide +kernel
theorem dX2_isAsIn_102 : decode cX2_isAsIn 102 = .ok (.iconst 1, 1) := by decide +kernel
theorem dX2_isAsIn_103 : decode cX2_isAsIn 103 = .ok (.ireturn, 1) := by decide +kernel
theorem dX3_init_0 : decode cX3_init 0 = .ok (.aload_n 0, 1) := by decide +kernel
theorem dX3_init_1 : decode cX3_init 1 = .ok (.invokespecial 3, 3) := by decide +kernel
theorem dX3_init_4 : decode cX3_init 4 = .ok (.aload_n 0, 1) := by decide +kernel
theorem dX3_init_5 : decode cX3_init 5 = .ok (.iconst 0, 1) := by decide +kernel
theorem dX3_init_6 : decode cX3_init 6 = .ok (.putfield 9, 3) := by decide +kernel
theorem dX3_init_9 : decode cX3_init 9 = .ok (.aload_n 0, 1) := by decide +kernel
theorem dX3_init_10 : decode cX3_init 10 = .ok (.bipush (-4), 2) := by decide +kernel
theorem dX3_init_12 : decode cX3_init 12 = .ok (.putfield 15, 3) := by decide +kernel
theorem dX3_init_15 : decode cX3_init 15 = .ok (.aload_n 0, 1) := by decide +kernel
theorem dX3_init_16 : decode cX3_init 16 = .ok (.bipush 40, 2) := by decide +kernel
theorem dX3_init_18 : decode cX3_init 18 = .ok (.newarray .int, 2) := by decide +kernel
theorem dX3_init_20 : decode cX3_init 20 = .ok (.putfield 18, 3) := by decide +kernel
theorem dX3_init_23 : decode cX3_init 23 = .ok (.return_, 1) := by decide +kernel
theorem dX3_renew_0 : decode cX3_renew 0 = .ok (.aload_n 0, 1) := by decide +kernel
theorem dX3_renew_1 : decode cX3_renew 1 = .ok (.iload_n 1, 1) := by decide +kernel
theorem dX3_renew_2 : decode cX3_renew 2 = .ok (.putfield 9, 3) := by decide +kernel
theorem dX3_renew_5 : decode cX3_renew 5 = .ok (.aload_n 0, 1) := by decide +kernel
theorem dX3_renew_6 : decode cX3_renew 6 = .ok (.iload_n 2, 1) := by decide +kernel
theorem dX3_renew_7 : decode cX3_renew 7 = .ok (.putfield 15, 3) := by decide +kernel
theorem dX3_renew_10 : decode cX3_renew 10 = .ok (.aload_n 0, 1) := by decide +kernel
theorem dX3_renew_11 : decode cX3_renew 11 = .ok (.getfield 18, 3) := by decide +kernel
theorem dX3_renew_14 : decode cX3_renew 14 = .ok (.iconst 0, 1) := by decide +kernel
theorem dX3_renew_15 : decode cX3_renew 15 = .ok (.invokestatic 22, 3) := by decide +kernel
theorem dX3_renew_18 : decode cX3_renew 18 = .ok (.return_, 1) := by decide +kernel
theorem dX3_faultAt_0 : decode cX3_faultAt 0 = .ok (.aload_n 0, 1) := by decide +kernel
theorem dX3_faultAt_1 : decode cX3_faultAt 1 = .ok (.getfield 15, 3) := by decide +kernel
theorem dX3_faultAt_4 : decode cX3_faultAt 4 = .ok (.bipush (-4), 2) := by decide +kernel
theorem dX3_faultAt_6 : decode cX3_faultAt 6 = .ok (.if_icmp .ne 5, 3) := by decide +kernel
theorem dX3_faultAt_9 : decode cX3_faultAt 9 = .ok (.iconst 1, 1) := by decide +kernel
theorem dX3_faultAt_10 : decode cX3_faultAt 10 = .ok (.ireturn, 1) := by decide +kernel
theorem dX3_faultAt_11 : decode cX3_faultAt 11 = .ok (.iload_n 1, 1) := by decide +kernel
theorem dX3_faultAt_12 : decode cX3_faultAt 12 = .ok (.aload_n 0, 1) := by decide +kernel
theorem dX3_faultAt_13 : decode cX3_faultAt 13 = .ok (.getfield 9, 3) := by decide +kernel
theorem dX3_faultAt_16 : decode cX3_faultAt 16 = .ok (.if_icmp .eq 5, 3) := by decide +kernel
theorem dX3_faultAt_19 : decode cX3_faultAt 19 = .ok (.iconst 3, 1) := by decide +kernel
theorem dX3_faultAt_20 : decode cX3_faultAt 20 = .ok (.ireturn, 1) := by decide +kernel
theorem dX3_faultAt_21 : decode cX3_faultAt 21 = .ok (.iload_n 2, 1) := by decide +kernel
theorem dX3_faultAt_22 : decode cX3_faultAt 22 = .ok (.ifCond .lt 13, 3) := by decide +kernel
theorem dX3_faultAt_25 : decode cX3_faultAt 25 = .ok (.iload_n 2, 1) := by decide +kernel
theorem dX3_faultAt_26 : decode cX3_faultAt 26 = .ok (.aload_n 0, 1) := by decide +kernel
theorem dX3_faultAt_27 : decode cX3_faultAt 27 = .ok (.getfield 15, 3) := by decide +kernel
theorem dX3_faultAt_30 : decode cX3_faultAt 30 = .ok (.iload_n 3, 1) := by decide +kernel
theorem dX3_faultAt_31 : decode cX3_faultAt 31 = .ok (.isub, 1) := by decide +kernel
theorem dX3_faultAt_32 : decode cX3_faultAt 32 = .ok (.if_icmp .le 7, 3) := by decide +kernel
theorem dX3_faultAt_35 : decode cX3_faultAt 35 = .ok (.iconst 2, 1) := by decide +kernel
theorem dX3_faultAt_36 : decode cX3_faultAt 36 = .ok (.goto 4, 3) := by decide +kernel
theorem dX3_faultAt_39 : decode cX3_faultAt 39 = .ok (.iconst 0, 1) := by decide +kernel
theorem dX3_faultAt_40 : decode cX3_faultAt 40 = .ok (.ireturn, 1) := by decide +kernel
theorem dX3_faultAt__0 : decode cX3_faultAt_ 0 = .ok (.aload_n 0, 1) := by decide +kernel
theorem dX3_faultAt__1 : decode cX3_faultAt_ 1 = .ok (.iload_n 1, 1) := by decide +kernel
theorem dX3_faultAt__2 : decode cX3_faultAt_ 2 = .ok (.iload_n 2, 1) := by decide +kernel
theorem dX3_faultAt__3 : decode cX3_faultAt_ 3 = .ok (.iconst 1, 1) := by decide +kernel
theorem dX3_faultAt__4 : decode cX3_faultAt_ 4 = .ok (.invokevirtual 28, 3) := by decide +kernel
theorem dX3_faultAt__7 : decode cX3_faultAt_ 7 = .ok (.ireturn, 1) := by decide +kernel
theorem dX3_put_0 : decode cX3_put 0 = .ok (.aload_n 0, 1) := by decide +kernel
theorem dX3_put_1 : decode cX3_put 1 = .ok (.getfield 9, 3) := by decide +kernel
theorem dX3_put_4 : decode cX3_put 4 = .ok (.ifCond .ne 14, 3) := by decide +kernel
theorem dX3_put_7 : decode cX3_put 7 = .ok (.aload_n 0, 1) := by decide +kernel
theorem dX3_put_8 : decode cX3_put 8 = .ok (.getfield 18, 3) := by decide +kernel
theorem dX3_put_11 : decode cX3_put 11 = .ok (.iload_n 1, 1) := by decide +kernel
theorem dX3_put_12 : decode cX3_put 12 = .ok (.iload_n 2, 1) := by decide +kernel
theorem dX3_put_13 : decode cX3_put 13 = .ok (.i2b, 1) := by decide +kernel
theorem dX3_put_14 : decode cX3_put 14 = .ok (.iastore, 1) := by decide +kernel
theorem dX3_put_15 : decode cX3_put 15 = .ok (.goto 29, 3) := by decide +kernel
theorem dX3_put_18 : decode cX3_put 18 = .ok (.aload_n 0, 1) := by decide +kernel
theorem dX3_put_19 : decode cX3_put 19 = .ok (.getfield 9, 3) := by decide +kernel
theorem dX3_put_22 : decode cX3_put 22 = .ok (.iconst 1, 1) := by decide +kernel
theorem dX3_put_23 : decode cX3_put 23 = .ok (.if_icmp .ne 14, 3) := by decide +kernel
theorem dX3_put_26 : decode cX3_put 26 = .ok (.aload_n 0, 1) := by decide +kernel
theorem dX3_put_27 : decode cX3_put 27 = .ok (.getfield 18, 3) := by decide +kernel
theorem dX3_put_30 : decode cX3_put 30 = .ok (.iload_n 1, 1) := by decide +kernel
theorem dX3_put_31 : decode cX3_put 31 = .ok (.iload_n 2, 1) := by decide +kernel
theorem dX3_put_32 : decode cX3_put 32 = .ok (.i2s, 1) := by decide +kernel
theorem dX3_put_33 : decode cX3_put 33 = .ok (.iastore, 1) := by decide +kernel
theorem dX3_put_34 : decode cX3_put 34 = .ok (.goto 10, 3) := by decide +kernel
theorem dX3_put_37 : decode cX3_put 37 = .ok (.aload_n 0, 1) := by decide +kernel
theorem dX3_put_38 : decode cX3_put 38 = .ok (.getfield 18, 3) := by decide +kernel
theorem dX3_put_41 : decode cX3_put 41 = .ok (.iload_n 1, 1) := by decide +kernel
theorem dX3_put_42 : decode cX3_put 42 = .ok (.iload_n 2, 1) := by decide +kernel
theorem dX3_put_43 : decode cX3_put 43 = .ok (.iastore, 1) := by decide +kernel
theorem dX3_put_44 : decode cX3_put 44 = .ok (.return_, 1) := by decide +kernel
theorem dX4_init_0 : decode cX4_init 0 = .ok (.aload_n 0, 1) := by decide +kernel
theorem dX4_init_1 : decode cX4_init 1 = .ok (.invokespecial 3, 3) := by decide +kernel
theorem dX4_init_4 : decode cX4_init 4 = .ok (.aload_n 0, 1) := by decide +kernel
theorem dX4_init_5 : decode cX4_init 5 = .ok (.sipush 160, 3) := by decide +kernel
theorem dX4_init_8 : decode cX4_init 8 = .ok (.newarray .byte, 2) := by decide +kernel
theorem dX4_init_10 : decode cX4_init 10 = .ok (.putfield 9, 3) := by decide +kernel
theorem dX4_init_13 : decode cX4_init 13 = .ok (.aload_n 0, 1) := by decide +kernel
theorem dX4_init_14 : decode cX4_init 14 = .ok (.iconst 0, 1) := by decide +kernel
theorem dX4_init_15 : decode cX4_init 15 = .ok (.putfield 15, 3) := by decide +kernel
theorem dX4_init_18 : decode cX4_init 18 = .ok (.aload_n 0, 1) := by decide +kernel
theorem dX4_init_19 : decode cX4_init 19 = .ok (.iconst 0, 1) := by decide +kernel
theorem dX4_init_20 : decode cX4_init 20 = .ok (.putfield 19, 3) := by decide +kernel
theorem dX4_init_23 : decode cX4_init 23 = .ok (.aload_n 0, 1) := by decide +kernel
theorem dX4_init_24 : decode cX4_init 24 = .ok (.iconst 0, 1) := by decide +kernel
theorem dX4_init_25 : decode cX4_init 25 = .ok (.putfield 22, 3) := by decide +kernel
theorem dX4_init_28 : decode cX4_init 28 = .ok (.aload_n 0, 1) := by decide +kernel
theorem dX4_init_29 : decode cX4_init 29 = .ok (.iconst 0, 1) := by decide +kernel
theorem dX4_init_30 : decode cX4_init 30 = .ok (.putfield 25, 3) := by decide +kernel
theorem dX4_init_33 : decode cX4_init 33 = .ok (.aload_n 0, 1) := by decide +kernel
theorem dX4_init_34 : decode cX4_init 34 = .ok (.iconst 0, 1) := by decide +kernel
theorem dX4_init_35 : decode cX4_init 35 = .ok (.putfield 28, 3) := by decide +kernel
theorem dX4_init_38 : decode cX4_init 38 = .ok (.return_, 1) := by decide +kernel
theorem dX4_append_0 : decode cX4_append 0 = .ok (.aload_n 0, 1) := by decide +kernel
theorem dX4_append_1 : decode cX4_append 1 = .ok (.getfield 15, 3) := by decide +kernel
theorem dX4_append_4 : decode cX4_append 4 = .ok (.sipush 160, 3) := by decide +kernel
theorem dX4_append_7 : decode cX4_append 7 = .ok (.if_icmp .lt 5, 3) := by decide +kernel
theorem dX4_append_10 : decode cX4_append 10 = .ok (.iconst 0, 1) := by decide +kernel
theorem dX4_append_11 : decode cX4_append 11 = .ok (.ireturn, 1) := by decide +kernel
theorem dX4_append_12 : decode cX4_append 12 = .ok (.aload_n 0, 1) := by decide +kernel
theorem dX4_append_13 : decode cX4_append 13 = .ok (.getfield 9, 3) := by decide +kernel
theorem dX4_append_16 : decode cX4_append 16 = .ok (.aload_n 0, 1) := by decide +kernel
theorem dX4_append_17 : decode cX4_append 17 = .ok (.getfield 15, 3) := by decide +kernel
theorem dX4_append_20 : decode cX4_append 20 = .ok (.iload_n 1, 1) := by decide +kernel
theorem dX4_append_21 : decode cX4_append 21 = .ok (.i2b, 1) := by decide +kernel
theorem dX4_append_22 : decode cX4_append 22 = .ok (.bastore, 1) := by decide +kernel
theorem dX4_append_23 : decode cX4_append 23 = .ok (.aload_n 0, 1) := by decide +kernel
theorem dX4_append_24 : decode cX4_append 24 = .ok (.dup, 1) := by decide +kernel
theorem dX4_append_25 : decode cX4_append 25 = .ok (.getfield 15, 3) := by decide +kernel
theorem dX4_append_28 : decode cX4_append 28 = .ok (.iconst 1, 1) := by decide +kernel
theorem dX4_append_29 : decode cX4_append 29 = .ok (.iadd, 1) := by decide +kernel
theorem dX4_append_30 : decode cX4_append 30 = .ok (.putfield 15, 3) := by decide +kernel
theorem dX4_append_33 : decode cX4_append 33 = .ok (.iconst 1, 1) := by decide +kernel
theorem dX4_append_34 : decode cX4_append 34 = .ok (.ireturn, 1) := by decide +kernel
theorem dX4_rewind_0 : decode cX4_rewind 0 = .ok (.aload_n 0, 1) := by decide +kernel
theorem dX4_rewind_1 : decode cX4_rewind 1 = .ok (.iconst 0, 1) := by decide +kernel
theorem dX4_rewind_2 : decode cX4_rewind 2 = .ok (.putfield 25, 3) := by decide +kernel
theorem dX4_rewind_5 : decode cX4_rewind 5 = .ok (.return_, 1) := by decide +kernel
theorem dX4_readToken_0 : decode cX4_readToken 0 = .ok (.aload_n 0, 1) := by decide +kernel
theorem dX4_readToken_1 : decode cX4_readToken 1 = .ok (.getfield 25, 3) := by decide +kernel
theorem dX4_readToken_4 : decode cX4_readToken 4 = .ok (.aload_n 0, 1) := by decide +kernel
theorem dX4_readToken_5 : decode cX4_readToken 5 = .ok (.getfield 15, 3) := by decide +kernel
theorem dX4_readToken_8 : decode cX4_readToken 8 = .ok (.if_icmp .ge 30, 3) := by decide +kernel
theorem dX4_readToken_11 : decode cX4_readToken 11 = .ok (.aload_n 0, 1) := by decide +kernel
theorem dX4_readToken_12 : decode cX4_readToken 12 = .ok (.getfield 9, 3) := by decide +kernel
theorem dX4_readToken_15 : decode cX4_readToken 15 = .ok (.aload_n 0, 1) := by decide +kernel
theorem dX4_readToken_16 : decode cX4_readToken 16 = .ok (.getfield 25, 3) := by decide +kernel
theorem dX4_readToken_19 : decode cX4_readToken 19 = .ok (.baload, 1) := by decide +kernel
theorem dX4_readToken_20 : decode cX4_readToken 20 = .ok (.bipush 32, 2) := by decide +kernel
theorem dX4_readToken_22 : decode cX4_readToken 22 = .ok (.if_icmp .ne 16, 3) := by decide +kernel
theorem dX4_readToken_25 : decode cX4_readToken 25 = .ok (.aload_n 0, 1) := by decide +kernel
theorem dX4_readToken_26 : decode cX4_readToken 26 = .ok (.dup, 1) := by decide +kernel
theorem dX4_readToken_27 : decode cX4_readToken 27 = .ok (.getfield 25, 3) := by decide +kernel
theorem dX4_readToken_30 : decode cX4_readToken 30 = .ok (.iconst 1, 1) := by decide +kernel
theorem dX4_readToken_31 : decode cX4_readToken 31 = .ok (.iadd, 1) := by decide +kernel
theorem dX4_readToken_32 : decode cX4_readToken 32 = .ok (.putfield 25, 3) := by decide +kernel
theorem dX4_readToken_35 : decode cX4_readToken 35 = .ok (.goto (-35), 3) := by decide +kernel
theorem dX4_readToken_38 : decode cX4_readToken 38 = .ok (.aload_n 0, 1) := by decide +kernel
theorem dX4_readToken_39 : decode cX4_readToken 39 = .ok (.aload_n 0, 1) := by decide +kernel
theorem dX4_readToken_40 : decode cX4_readToken 40 = .ok (.getfield 25, 3) := by decide +kernel
theorem dX4_readToken_43 : decode cX4_readToken 43 = .ok (.putfield 22, 3) := by decide +kernel
theorem dX4_readToken_46 : decode cX4_readToken 46 = .ok (.aload_n 0, 1) := by decide +kernel
theorem dX4_readToken_47 : decode cX4_readToken 47 = .ok (.getfield 22, 3) := by decide +kernel
theorem dX4_readToken_50 : decode cX4_readToken 50 = .ok (.aload_n 0, 1) := by decide +kernel
theorem dX4_readToken_51 : decode cX4_readToken 51 = .ok (.getfield 15, 3) := by decide +kernel
theorem dX4_readToken_54 : decode cX4_readToken 54 = .ok (.if_icmp .lt 11, 3) := by decide +kernel
theorem dX4_readToken_57 : decode cX4_readToken 57 = .ok (.aload_n 0, 1) := by decide +kernel
theorem dX4_readToken_58 : decode cX4_readToken 58 = .ok (.iconst 0, 1) := by decide +kernel
theorem dX4_readToken_59 : decode cX4_readToken 59 = .ok (.putfield 19, 3) := by decide +kernel
theorem dX4_readToken_62 : decode cX4_readToken 62 = .ok (.goto 80, 3) := by decide +kernel
theorem dX4_readToken_65 : decode cX4_readToken 65 = .ok (.aload_n 0, 1) := by decide +kernel
theorem dX4_readToken_66 : decode cX4_readToken 66 = .ok (.getfield 9, 3) := by decide +kernel
theorem dX4_readToken_69 : decode cX4_readToken 69 = .ok (.aload_n 0, 1) := by decide +kernel
theorem dX4_readToken_70 : decode cX4_readToken 70 = .ok (.getfield 22, 3) := by decide +kernel
theorem dX4_readToken_73 : decode cX4_readToken 73 = .ok (.baload, 1) := by decide +kernel
theorem dX4_readToken_74 : decode cX4_readToken 74 = .ok (.invokestatic 31, 3) := by decide +kernel
theorem dX4_readToken_77 : decode cX4_readToken 77 = .ok (.ifCond .eq 10, 3) := by decide +kernel
theorem dX4_readToken_80 : decode cX4_readToken 80 = .ok (.aload_n 0, 1) := by decide +kernel
theorem dX4_readToken_81 : decode cX4_readToken 81 = .ok (.invokevirtual 35, 3) := by decide +kernel
theorem dX4_readToken_84 : decode cX4_readToken 84 = .ok (.goto 58, 3) := by decide +kernel
theorem dX4_readToken_87 : decode cX4_readToken 87 = .ok (.aload_n 0, 1) := by decide +kernel
theorem dX4_readToken_88 : decode cX4_readToken 88 = .ok (.getfield 9, 3) := by decide +kernel
theorem dX4_readToken_91 : decode cX4_readToken 91 = .ok (.aload_n 0, 1) := by decide +kernel
theorem dX4_readToken_92 : decode cX4_readToken 92 = .ok (.getfield 22, 3) := by decide +kernel
theorem dX4_readToken_95 : decode cX4_readToken 95 = .ok (.baload, 1) := by decide +kernel
theorem dX4_readToken_96 : decode cX4_readToken 96 = .ok (.invokestatic 38, 3) := by decide +kernel
theorem dX4_readToken_99 : decode cX4_readToken 99 = .ok (.ifCond .eq 10, 3) := by decide +kernel
theorem dX4_readToken_102 : decode cX4_readToken 102 = .ok (.aload_n 0, 1) := by decide +kernel
theorem dX4_readToken_103 : decode cX4_readToken 103 = .ok (.invokevirtual 41, 3) := by decide +kernel
theorem dX4_readToken_106 : decode cX4_readToken 106 = .ok (.goto 36, 3) := by decide +kernel
theorem dX4_readToken_109 : decode cX4_readToken 109 = .ok (.aload_n 0, 1) := by decide +kernel
theorem dX4_readToken_110 : decode cX4_readToken 110 = .ok (.aload_n 0, 1) := by decide +kernel
theorem dX4_readToken_111 : decode cX4_readToken 111 = .ok (.getfield 9, 3) := by decide +kernel
theorem dX4_readToken_114 : decode cX4_readToken 114 = .ok (.aload_n 0, 1) := by decide +kernel
theorem dX4_readToken_115 : decode cX4_readToken 115 = .ok (.getfield 22, 3) := by decide +kernel
theorem dX4_readToken_118 : decode cX4_readToken 118 = .ok (.baload, 1) := by decide +kernel
theorem dX4_readToken_119 : decode cX4_readToken 119 = .ok (.bipush 59, 2) := by decide +kernel
theorem dX4_readToken_121 : decode cX4_readToken 121 = .ok (.if_icmp .ne 7, 3) := by decide +kernel
theorem dX4_readToken_124 : decode cX4_readToken 124 = .ok (.iconst 3, 1) := by decide +kernel
theorem dX4_readToken_125 : decode cX4_readToken 125 = .ok (.goto 4, 3) := by decide +kernel
theorem dX4_readToken_128 : decode cX4_readToken 128 = .ok (.iconst 4, 1) := by decide +kernel
theorem dX4_readToken_129 : decode cX4_readToken 129 = .ok (.putfield 19, 3) := by decide +kernel
theorem dX4_readToken_132 : decode cX4_readToken 132 = .ok (.aload_n 0, 1) := by decide +kernel
theorem dX4_readToken_133 : decode cX4_readToken 133 = .ok (.dup, 1) := by decide +kernel
theorem dX4_readToken_134 : decode cX4_readToken 134 = .ok (.getfield 25, 3) := by decide +kernel
theorem dX4_readToken_137 : decode cX4_readToken 137 = .ok (.iconst 1, 1) := by decide +kernel
theorem dX4_readToken_138 : decode cX4_readToken 138 = .ok (.iadd, 1) := by decide +kernel
theorem dX4_readToken_139 : decode cX4_readToken 139 = .ok (.putfield 25, 3) := by decide +kernel
theorem dX4_readToken_142 : decode cX4_readToken 142 = .ok (.return_, 1) := by decide +kernel
theorem dX4_readName_0 : decode cX4_readName 0 = .ok (.aload_n 0, 1) := by decide +kernel
theorem dX4_readName_1 : decode cX4_readName 1 = .ok (.iconst 1, 1) := by decide +kernel
theorem dX4_readName_2 : decode cX4_readName 2 = .ok (.putfield 19, 3) := by decide +kernel
theorem dX4_readName_5 : decode cX4_readName 5 = .ok (.aload_n 0, 1) := by decide +kernel
theorem dX4_readName_6 : decode cX4_readName 6 = .ok (.getfield 25, 3) := by decide +kernel
theorem dX4_readName_9 : decode cX4_readName 9 = .ok (.aload_n 0, 1) := by decide +kernel
theorem dX4_readName_10 : decode cX4_readName 10 = .ok (.getfield 15, 3) := by decide +kernel
theorem dX4_readName_13 : decode cX4_readName 13 = .ok (.if_icmp .ge 31, 3) := by decide +kernel
theorem dX4_readName_16 : decode cX4_readName 16 = .ok (.aload_n 0, 1) := by decide +kernel
theorem dX4_readName_17 : decode cX4_readName 17 = .ok (.getfield 9, 3) := by decide +kernel
theorem dX4_readName_20 : decode cX4_readName 20 = .ok (.aload_n 0, 1) := by decide +kernel
theorem dX4_readName_21 : decode cX4_readName 21 = .ok (.getfield 25, 3) := by decide +kernel
theorem dX4_readName_24 : decode cX4_readName 24 = .ok (.baload, 1) := by decide +kernel
theorem dX4_readName_25 : decode cX4_readName 25 = .ok (.invokestatic 31, 3) := by decide +kernel
theorem dX4_readName_28 : decode cX4_readName 28 = .ok (.ifCond .eq 16, 3) := by decide +kernel
theorem dX4_readName_31 : decode cX4_readName 31 = .ok (.aload_n 0, 1) := by decide +kernel
theorem dX4_readName_32 : decode cX4_readName 32 = .ok (.dup, 1) := by decide +kernel
theorem dX4_readName_33 : decode cX4_readName 33 = .ok (.getfield 25, 3) := by decide +kernel
theorem dX4_readName_36 : decode cX4_readName 36 = .ok (.iconst 1, 1) := by decide +kernel
theorem dX4_readName_37 : decode cX4_readName 37 = .ok (.iadd, 1) := by decide +kernel
theorem dX4_readName_38 : decode cX4_readName 38 = .ok (.putfield 25, 3) := by decide +kernel
theorem dX4_readName_41 : decode cX4_readName 41 = .ok (.goto (-36), 3) := by decide +kernel
theorem dX4_readName_44 : decode cX4_readName 44 = .ok (.return_, 1) := by decide +kernel
theorem dX4_readNumber_0 : decode cX4_readNumber 0 = .ok (.aload_n 0, 1) := by decide +kernel
theorem dX4_readNumber_1 : decode cX4_readNumber 1 = .ok (.iconst 0, 1) := by decide +kernel
theorem dX4_readNumber_2 : decode cX4_readNumber 2 = .ok (.putfield 28, 3) := by decide +kernel
theorem dX4_readNumber_5 : decode cX4_readNumber 5 = .ok (.aload_n 0, 1) := by decide +kernel
theorem dX4_readNumber_6 : decode cX4_readNumber 6 = .ok (.getfield 25, 3) := by decide +kernel
theorem dX4_readNumber_9 : decode cX4_readNumber 9 = .ok (.aload_n 0, 1) := by decide +kernel
theorem dX4_readNumber_10 : decode cX4_readNumber 10 = .ok (.getfield 15, 3) := by decide +kernel
theorem dX4_readNumber_13 : decode cX4_readNumber 13 = .ok (.if_icmp .ge 68, 3) := by decide +kernel
theorem dX4_readNumber_16 : decode cX4_readNumber 16 = .ok (.aload_n 0, 1) := by decide +kernel
theorem dX4_readNumber_17 : decode cX4_readNumber 17 = .ok (.getfield 9, 3) := by decide +kernel
theorem dX4_readNumber_20 : decode cX4_readNumber 20 = .ok (.aload_n 0, 1) := by decide +kernel
theorem dX4_readNumber_21 : decode cX4_readNumber 21 = .ok (.getfield 25, 3) := by decide +kernel
theorem dX4_readNumber_24 : decode cX4_readNumber 24 = .ok (.baload, 1) := by decide +kernel
theorem dX4_readNumber_25 : decode cX4_readNumber 25 = .ok (.invokestatic 38, 3) := by decide +kernel
theorem dX4_readNumber_28 : decode cX4_readNumber 28 = .ok (.ifCond .eq 53, 3) := by decide +kernel
theorem dX4_readNumber_31 : decode cX4_readNumber 31 = .ok (.aload_n 0, 1) := by decide +kernel
theorem dX4_readNumber_32 : decode cX4_readNumber 32 = .ok (.getfield 25, 3) := by decide +kernel
theorem dX4_readNumber_35 : decode cX4_readNumber 35 = .ok (.aload_n 0, 1) := by decide +kernel
theorem dX4_readNumber_36 : decode cX4_readNumber 36 = .ok (.getfield 22, 3) := by decide +kernel
theorem dX4_readNumber_39 : decode cX4_readNumber 39 = .ok (.isub, 1) := by decide +kernel
theorem dX4_readNumber_40 : decode cX4_readNumber 40 = .ok (.iconst 2, 1) := by decide +kernel
theorem dX4_readNumber_41 : decode cX4_readNumber 41 = .ok (.if_icmp .ge 27, 3) := by decide +kernel
theorem dX4_readNumber_44 : decode cX4_readNumber 44 = .ok (.aload_n 0, 1) := by decide +kernel
theorem dX4_readNumber_45 : decode cX4_readNumber 45 = .ok (.bipush 10, 2) := by decide +kernel
theorem dX4_readNumber_47 : decode cX4_readNumber 47 = .ok (.aload_n 0, 1) := by decide +kernel
theorem dX4_readNumber_48 : decode cX4_readNumber 48 = .ok (.getfield 28, 3) := by decide +kernel
theorem dX4_readNumber_51 : decode cX4_readNumber 51 = .ok (.imul, 1) := by decide +kernel
theorem dX4_readNumber_52 : decode cX4_readNumber 52 = .ok (.aload_n 0, 1) := by decide +kernel
theorem dX4_readNumber_53 : decode cX4_readNumber 53 = .ok (.getfield 9, 3) := by decide +kernel
theorem dX4_readNumber_56 : decode cX4_readNumber 56 = .ok (.aload_n 0, 1) := by decide +kernel
theorem dX4_readNumber_57 : decode cX4_readNumber 57 = .ok (.getfield 25, 3) := by decide +kernel
theorem dX4_readNumber_60 : decode cX4_readNumber 60 = .ok (.baload, 1) := by decide +kernel
theorem dX4_readNumber_61 : decode cX4_readNumber 61 = .ok (.iadd, 1) := by decide +kernel
theorem dX4_readNumber_62 : decode cX4_readNumber 62 = .ok (.bipush 48, 2) := by decide +kernel
theorem dX4_readNumber_64 : decode cX4_readNumber 64 = .ok (.isub, 1) := by decide +kernel
theorem dX4_readNumber_65 : decode cX4_readNumber 65 = .ok (.putfield 28, 3) := by decide +kernel
theorem dX4_readNumber_68 : decode cX4_readNumber 68 = .ok (.aload_n 0, 1) := by decide +kernel
theorem dX4_readNumber_69 : decode cX4_readNumber 69 = .ok (.dup, 1) := by decide +kernel
theorem dX4_readNumber_70 : decode cX4_readNumber 70 = .ok (.getfield 25, 3) := by decide +kernel
theorem dX4_readNumber_73 : decode cX4_readNumber 73 = .ok (.iconst 1, 1) := by decide +kernel
theorem dX4_readNumber_74 : decode cX4_readNumber 74 = .ok (.iadd, 1) := by decide +kernel
theorem dX4_readNumber_75 : decode cX4_readNumber 75 = .ok (.putfield 25, 3) := by decide +kernel
theorem dX4_readNumber_78 : decode cX4_readNumber 78 = .ok (.goto (-73), 3) := by decide +kernel
theorem dX4_readNumber_81 : decode cX4_readNumber 81 = .ok (.aload_n 0, 1) := by decide +kernel
theorem dX4_readNumber_82 : decode cX4_readNumber 82 = .ok (.aload_n 0, 1) := by decide +kernel
theorem dX4_readNumber_83 : decode cX4_readNumber 83 = .ok (.getfield 25, 3) := by decide +kernel
theorem dX4_readNumber_86 : decode cX4_readNumber 86 = .ok (.aload_n 0, 1) := by decide +kernel
theorem dX4_readNumber_87 : decode cX4_readNumber 87 = .ok (.getfield 22, 3) := by decide +kernel
theorem dX4_readNumber_90 : decode cX4_readNumber 90 = .ok (.isub, 1) := by decide +kernel
theorem dX4_readNumber_91 : decode cX4_readNumber 91 = .ok (.iconst 2, 1) := by decide +kernel
theorem dX4_readNumber_92 : decode cX4_readNumber 92 = .ok (.if_icmp .le 7, 3) := by decide +kernel
theorem dX4_readNumber_95 : decode cX4_readNumber 95 = .ok (.iconst 4, 1) := by decide +kernel
theorem dX4_readNumber_96 : decode cX4_readNumber 96 = .ok (.goto 4, 3) := by decide +kernel
theorem dX4_readNumber_99 : decode cX4_readNumber 99 = .ok (.iconst 2, 1) := by decide +kernel
theorem dX4_readNumber_100 : decode cX4_readNumber 100 = .ok (.putfield 19, 3) := by decide +kernel
theorem dX4_readNumber_103 : decode cX4_readNumber 103 = .ok (.return_, 1) := by decide +kernel
theorem dX4_isName_0 : decode cX4_isName 0 = .ok (.aload_n 0, 1) := by decide +kernel
theorem dX4_isName_1 : decode cX4_isName 1 = .ok (.getfield 19, 3) := by decide +kernel
theorem dX4_isName_4 : decode cX4_isName 4 = .ok (.iconst 1, 1) := by decide +kernel
theorem dX4_isName_5 : decode cX4_isName 5 = .ok (.if_icmp .ne 19, 3) := by decide +kernel
theorem dX4_isName_8 : decode cX4_isName 8 = .ok (.aload_n 0, 1) := by decide +kernel
theorem dX4_isName_9 : decode cX4_isName 9 = .ok (.getfield 25, 3) := by decide +kernel
theorem dX4_isName_12 : decode cX4_isName 12 = .ok (.aload_n 0, 1) := by decide +kernel
theorem dX4_isName_13 : decode cX4_isName 13 = .ok (.getfield 22, 3) := by decide +kernel
theorem dX4_isName_16 : decode cX4_isName 16 = .ok (.isub, 1) := by decide +kernel
theorem dX4_isName_17 : decode cX4_isName 17 = .ok (.aload_n 1, 1) := by decide +kernel
theorem dX4_isName_18 : decode cX4_isName 18 = .ok (.invokevirtual 44, 3) := by decide +kernel
theorem dX4_isName_21 : decode cX4_isName 21 = .ok (.if_icmp .eq 5, 3) := by decide +kernel
theorem dX4_isName_24 : decode cX4_isName 24 = .ok (.iconst 0, 1) := by decide +kernel
theorem dX4_isName_25 : decode cX4_isName 25 = .ok (.ireturn, 1) := by decide +kernel
theorem dX4_isName_26 : decode cX4_isName 26 = .ok (.iconst 0, 1) := by decide +kernel
theorem dX4_isName_27 : decode cX4_isName 27 = .ok (.istore_n 2, 1) := by decide +kernel
theorem dX4_isName_28 : decode cX4_isName 28 = .ok (.iload_n 2, 1) := by decide +kernel
theorem dX4_isName_29 : decode cX4_isName 29 = .ok (.aload_n 1, 1) := by decide +kernel
theorem dX4_isName_30 : decode cX4_isName 30 = .ok (.invokevirtual 44, 3) := by decide +kernel
theorem dX4_isName_33 : decode cX4_isName 33 = .ok (.if_icmp .ge 30, 3) := by decide +kernel
theorem dX4_isName_36 : decode cX4_isName 36 = .ok (.aload_n 0, 1) := by decide +kernel
theorem dX4_isName_37 : decode cX4_isName 37 = .ok (.getfield 9, 3) := by decide +kernel
theorem dX4_isName_40 : decode cX4_isName 40 = .ok (.aload_n 0, 1) := by decide +kernel
theorem dX4_isName_41 : decode cX4_isName 41 = .ok (.getfield 22, 3) := by decide +kernel
theorem dX4_isName_44 : decode cX4_isName 44 = .ok (.iload_n 2, 1) := by decide +kernel
theorem dX4_isName_45 : decode cX4_isName 45 = .ok (.iadd, 1) := by decide +kernel
theorem dX4_isName_46 : decode cX4_isName 46 = .ok (.baload, 1) := by decide +kernel
theorem dX4_isName_47 : decode cX4_isName 47 = .ok (.aload_n 1, 1) := by decide +kernel
theorem dX4_isName_48 : decode cX4_isName 48 = .ok (.iload_n 2, 1) := by decide +kernel
theorem dX4_isName_49 : decode cX4_isName 49 = .ok (.invokevirtual 49, 3) := by decide +kernel
theorem dX4_isName_52 : decode cX4_isName 52 = .ok (.if_icmp .eq 5, 3) := by decide +kernel
theorem dX4_isName_55 : decode cX4_isName 55 = .ok (.iconst 0, 1) := by decide +kernel
theorem dX4_isName_56 : decode cX4_isName 56 = .ok (.ireturn, 1) := by decide +kernel
theorem dX4_isName_57 : decode cX4_isName 57 = .ok (.iinc 2 1, 3) := by decide +kernel
theorem dX4_isName_60 : decode cX4_isName 60 = .ok (.goto (-32), 3) := by decide +kernel
theorem dX4_isName_63 : decode cX4_isName 63 = .ok (.iconst 1, 1) := by decide +kernel
theorem dX4_isName_64 : decode cX4_isName 64 = .ok (.ireturn, 1) := by decide +kernel
theorem dX4_isLetter_0 : decode cX4_isLetter 0 = .ok (.iload_n 0, 1) := by decide +kernel
theorem dX4_isLetter_1 : decode cX4_isLetter 1 = .ok (.bipush 97, 2) := by decide +kernel
theorem dX4_isLetter_3 : decode cX4_isLetter 3 = .ok (.if_icmp .lt 13, 3) := by decide +kernel
theorem dX4_isLetter_6 : decode cX4_isLetter 6 = .ok (.iload_n 0, 1) := by decide +kernel
theorem dX4_isLetter_7 : decode cX4_isLetter 7 = .ok (.bipush 122, 2) := by decide +kernel
theorem dX4_isLetter_9 : decode cX4_isLetter 9 = .ok (.if_icmp .gt 7, 3) := by decide +kernel
theorem dX4_isLetter_12 : decode cX4_isLetter 12 = .ok (.iconst 1, 1) := by decide +kernel
theorem dX4_isLetter_13 : decode cX4_isLetter 13 = .ok (.goto 4, 3) := by decide +kernel
theorem dX4_isLetter_16 : decode cX4_isLetter 16 = .ok (.iconst 0, 1) := by decide +kernel
theorem dX4_isLetter_17 : decode cX4_isLetter 17 = .ok (.ireturn, 1) := by decide +kernel
theorem dX4_isFigure_0 : decode cX4_isFigure 0 = .ok (.iload_n 0, 1) := by decide +kernel
theorem dX4_isFigure_1 : decode cX4_isFigure 1 = .ok (.bipush 48, 2) := by decide +kernel
theorem dX4_isFigure_3 : decode cX4_isFigure 3 = .ok (.if_icmp .lt 13, 3) := by decide +kernel
theorem dX4_isFigure_6 : decode cX4_isFigure 6 = .ok (.iload_n 0, 1) := by decide +kernel
theorem dX4_isFigure_7 : decode cX4_isFigure 7 = .ok (.bipush 57, 2) := by decide +kernel
theorem dX4_isFigure_9 : decode cX4_isFigure 9 = .ok (.if_icmp .gt 7, 3) := by decide +kernel
theorem dX4_isFigure_12 : decode cX4_isFigure 12 = .ok (.iconst 1, 1) := by decide +kernel
theorem dX4_isFigure_13 : decode cX4_isFigure 13 = .ok (.goto 4, 3) := by decide +kernel
theorem dX4_isFigure_16 : decode cX4_isFigure 16 = .ok (.iconst 0, 1) := by decide +kernel
theorem dX4_isFigure_17 : decode cX4_isFigure 17 = .ok (.ireturn, 1) := by decide +kernel
theorem dX5_init_0 : decode cX5_init 0 = .ok (.aload_n 0, 1) := by decide +kernel
theorem dX5_init_1 : decode cX5_init 1 = .ok (.invokespecial 3, 3) := by decide +kernel
theorem dX5_init_4 : decode cX5_init 4 = .ok (.aload_n 0, 1) := by decide +kernel
theorem dX5_init_5 : decode cX5_init 5 = .ok (.new 9, 3) := by decide +kernel
theorem dX5_init_8 : decode cX5_init 8 = .ok (.dup, 1) := by decide +kernel
theorem dX5_init_9 : decode cX5_init 9 = .ok (.invokespecial 11, 3) := by decide +kernel
theorem dX5_init_12 : decode cX5_init 12 = .ok (.putfield 12, 3) := by decide +kernel
theorem dX5_init_15 : decode cX5_init 15 = .ok (.aload_n 0, 1) := by decide +kernel
theorem dX5_init_16 : decode cX5_init 16 = .ok (.iconst 3, 1) := by decide +kernel
theorem dX5_init_17 : decode cX5_init 17 = .ok (.newarray .int, 2) := by decide +kernel
theorem dX5_init_19 : decode cX5_init 19 = .ok (.putfield 18, 3) := by decide +kernel
theorem dX5_init_22 : decode cX5_init 22 = .ok (.aload_n 0, 1) := by decide +kernel
theorem dX5_init_23 : decode cX5_init 23 = .ok (.iconst 0, 1) := by decide +kernel
theorem dX5_init_24 : decode cX5_init 24 = .ok (.putfield 22, 3) := by decide +kernel
theorem dX5_init_27 : decode cX5_init 27 = .ok (.aload_n 0, 1) := by decide +kernel
theorem dX5_init_28 : decode cX5_init 28 = .ok (.iconst 0, 1) := by decide +kernel
theorem dX5_init_29 : decode cX5_init 29 = .ok (.putfield 26, 3) := by decide +kernel
theorem dX5_init_32 : decode cX5_init 32 = .ok (.aload_n 0, 1) := by decide +kernel
theorem dX5_init_33 : decode cX5_init 33 = .ok (.iconst 0, 1) := by decide +kernel
theorem dX5_init_34 : decode cX5_init 34 = .ok (.putfield 29, 3) := by decide +kernel
theorem dX5_init_37 : decode cX5_init 37 = .ok (.aload_n 0, 1) := by decide +kernel
theorem dX5_init_38 : decode cX5_init 38 = .ok (.iconst 0, 1) := by decide +kernel
theorem dX5_init_39 : decode cX5_init 39 = .ok (.putfield 32, 3) := by decide +kernel
theorem dX5_init_42 : decode cX5_init 42 = .ok (.aload_n 0, 1) := by decide +kernel
theorem dX5_init_43 : decode cX5_init 43 = .ok (.aload_n 1, 1) := by decide +kernel
theorem dX5_init_44 : decode cX5_init 44 = .ok (.putfield 35, 3) := by decide +kernel
theorem dX5_init_47 : decode cX5_init 47 = .ok (.return_, 1) := by decide +kernel
theorem dX5_takeText_0 : decode cX5_takeText 0 = .ok (.aload_n 0, 1) := by decide +kernel
theorem dX5_takeText_1 : decode cX5_takeText 1 = .ok (.getfield 12, 3) := by decide +kernel
theorem dX5_takeText_4 : decode cX5_takeText 4 = .ok (.invokevirtual 39, 3) := by decide +kernel
theorem dX5_takeText_7 : decode cX5_takeText 7 = .ok (.aload_n 0, 1) := by decide +kernel
theorem dX5_takeText_8 : decode cX5_takeText 8 = .ok (.iconst 0, 1) := by decide +kernel
theorem dX5_takeText_9 : decode cX5_takeText 9 = .ok (.putfield 22, 3) := by decide +kernel
theorem dX5_takeText_12 : decode cX5_takeText 12 = .ok (.aload_n 0, 1) := by decide +kernel
theorem dX5_takeText_13 : decode cX5_takeText 13 = .ok (.iconst 0, 1) := by decide +kernel
theorem dX5_takeText_14 : decode cX5_takeText 14 = .ok (.putfield 26, 3) := by decide +kernel
theorem dX5_takeText_17 : decode cX5_takeText 17 = .ok (.aload_n 0, 1) := by decide +kernel
theorem dX5_takeText_18 : decode cX5_takeText 18 = .ok (.iconst 0, 1) := by decide +kernel
theorem dX5_takeText_19 : decode cX5_takeText 19 = .ok (.putfield 29, 3) := by decide +kernel
theorem dX5_takeText_22 : decode cX5_takeText 22 = .ok (.aload_n 0, 1) := by decide +kernel
theorem dX5_takeText_23 : decode cX5_takeText 23 = .ok (.getfield 35, 3) := by decide +kernel
theorem dX5_takeText_26 : decode cX5_takeText 26 = .ok (.invokevirtual 42, 3) := by decide +kernel
theorem dX5_takeText_29 : decode cX5_takeText 29 = .ok (.aload_n 0, 1) := by decide +kernel
theorem dX5_takeText_30 : decode cX5_takeText 30 = .ok (.getfield 35, 3) := by decide +kernel
theorem dX5_takeText_33 : decode cX5_takeText 33 = .ok (.invokevirtual 47, 3) := by decide +kernel
theorem dX5_takeText_36 : decode cX5_takeText 36 = .ok (.iconst 0, 1) := by decide +kernel
theorem dX5_takeText_37 : decode cX5_takeText 37 = .ok (.istore_n 1, 1) := by decide +kernel
theorem dX5_takeText_38 : decode cX5_takeText 38 = .ok (.iload_n 1, 1) := by decide +kernel
theorem dX5_takeText_39 : decode cX5_takeText 39 = .ok (.sipush 160, 3) := by decide +kernel
theorem dX5_takeText_42 : decode cX5_takeText 42 = .ok (.if_icmp .ge 45, 3) := by decide +kernel
theorem dX5_takeText_45 : decode cX5_takeText 45 = .ok (.aload_n 0, 1) := by decide +kernel
theorem dX5_takeText_46 : decode cX5_takeText 46 = .ok (.getfield 35, 3) := by decide +kernel
theorem dX5_takeText_49 : decode cX5_takeText 49 = .ok (.getfield 50, 3) := by decide +kernel
theorem dX5_takeText_52 : decode cX5_takeText 52 = .ok (.ifCond .eq 35, 3) := by decide +kernel
theorem dX5_takeText_55 : decode cX5_takeText 55 = .ok (.aload_n 0, 1) := by decide +kernel
theorem dX5_takeText_56 : decode cX5_takeText 56 = .ok (.invokevirtual 53, 3) := by decide +kernel
theorem dX5_takeText_59 : decode cX5_takeText 59 = .ok (.ifCond .ne 5, 3) := by decide +kernel
theorem dX5_takeText_62 : decode cX5_takeText 62 = .ok (.iconst 0, 1) := by decide +kernel
theorem dX5_takeText_63 : decode cX5_takeText 63 = .ok (.ireturn, 1) := by decide +kernel
theorem dX5_takeText_64 : decode cX5_takeText 64 = .ok (.aload_n 0, 1) := by decide +kernel
theorem dX5_takeText_65 : decode cX5_takeText 65 = .ok (.dup, 1) := by decide +kernel
theorem dX5_takeText_66 : decode cX5_takeText 66 = .ok (.getfield 26, 3) := by decide +kernel
theorem dX5_takeText_69 : decode cX5_takeText 69 = .ok (.iconst 1, 1) := by decide +kernel
theorem dX5_takeText_70 : decode cX5_takeText 70 = .ok (.iadd, 1) := by decide +kernel
theorem dX5_takeText_71 : decode cX5_takeText 71 = .ok (.putfield 26, 3) := by decide +kernel
theorem dX5_takeText_74 : decode cX5_takeText 74 = .ok (.aload_n 0, 1) := by decide +kernel
theorem dX5_takeText_75 : decode cX5_takeText 75 = .ok (.getfield 35, 3) := by decide +kernel
theorem dX5_takeText_78 : decode cX5_takeText 78 = .ok (.invokevirtual 47, 3) := by decide +kernel
theorem dX5_takeText_81 : decode cX5_takeText 81 = .ok (.iinc 1 1, 3) := by decide +kernel
theorem dX5_takeText_84 : decode cX5_takeText 84 = .ok (.goto (-46), 3) := by decide +kernel
theorem dX5_takeText_87 : decode cX5_takeText 87 = .ok (.aload_n 0, 1) := by decide +kernel
theorem dX5_takeText_88 : decode cX5_takeText 88 = .ok (.invokevirtual 57, 3) := by decide +kernel
theorem dX5_takeText_91 : decode cX5_takeText 91 = .ok (.ifCond .ne 12, 3) := by decide +kernel
theorem dX5_takeText_94 : decode cX5_takeText 94 = .ok (.aload_n 0, 1) := by decide +kernel
theorem dX5_takeText_95 : decode cX5_takeText 95 = .ok (.bipush 6, 2) := by decide +kernel
theorem dX5_takeText_97 : decode cX5_takeText 97 = .ok (.invokevirtual 60, 3) := by decide +kernel
theorem dX5_takeText_100 : decode cX5_takeText 100 = .ok (.ifCond .eq 7, 3) := by decide +kernel
theorem dX5_takeText_103 : decode cX5_takeText 103 = .ok (.iconst 1, 1) := by decide +kernel
theorem dX5_takeText_104 : decode cX5_takeText 104 = .ok (.goto 4, 3) := by decide +kernel
theorem dX5_takeText_107 : decode cX5_takeText 107 = .ok (.iconst 0, 1) := by decide +kernel
theorem dX5_takeText_108 : decode cX5_takeText 108 = .ok (.ireturn, 1) := by decide +kernel
theorem dX5_takeLine_0 : decode cX5_takeLine 0 = .ok (.aload_n 0, 1) := by decide +kernel
theorem dX5_takeLine_1 : decode cX5_takeLine 1 = .ok (.iconst 1, 1) := by decide +kernel
theorem dX5_takeLine_2 : decode cX5_takeLine 2 = .ok (.invokevirtual 64, 3) := by decide +kernel
theorem dX5_takeLine_5 : decode cX5_takeLine 5 = .ok (.ifCond .ne 5, 3) := by decide +kernel
theorem dX5_takeLine_8 : decode cX5_takeLine 8 = .ok (.iconst 0, 1) := by decide +kernel
theorem dX5_takeLine_9 : decode cX5_takeLine 9 = .ok (.ireturn, 1) := by decide +kernel
theorem dX5_takeLine_10 : decode cX5_takeLine 10 = .ok (.aload_n 0, 1) := by decide +kernel
theorem dX5_takeLine_11 : decode cX5_takeLine 11 = .ok (.invokevirtual 67, 3) := by decide +kernel
theorem dX5_takeLine_14 : decode cX5_takeLine 14 = .ok (.istore_n 1, 1) := by decide +kernel
theorem dX5_takeLine_15 : decode cX5_takeLine 15 = .ok (.iload_n 1, 1) := by decide +kernel
theorem dX5_takeLine_16 : decode cX5_takeLine 16 = .ok (.bipush 6, 2) := by decide +kernel
theorem dX5_takeLine_18 : decode cX5_takeLine 18 = .ok (.if_icmp .ne 9, 3) := by decide +kernel
theorem dX5_takeLine_21 : decode cX5_takeLine 21 = .ok (.aload_n 0, 1) := by decide +kernel
theorem dX5_takeLine_22 : decode cX5_takeLine 22 = .ok (.iconst 2, 1) := by decide +kernel
theorem dX5_takeLine_23 : decode cX5_takeLine 23 = .ok (.invokevirtual 60, 3) := by decide +kernel
theorem dX5_takeLine_26 : decode cX5_takeLine 26 = .ok (.ireturn, 1) := by decide +kernel
theorem dX5_takeLine_27 : decode cX5_takeLine 27 = .ok (.aload_n 0, 1) := by decide +kernel
theorem dX5_takeLine_28 : decode cX5_takeLine 28 = .ok (.iload_n 1, 1) := by decide +kernel
theorem dX5_takeLine_29 : decode cX5_takeLine 29 = .ok (.invokevirtual 71, 3) := by decide +kernel
theorem dX5_takeLine_32 : decode cX5_takeLine 32 = .ok (.ifCond .ne 9, 3) := by decide +kernel
theorem dX5_takeLine_35 : decode cX5_takeLine 35 = .ok (.aload_n 0, 1) := by decide +kernel
theorem dX5_takeLine_36 : decode cX5_takeLine 36 = .ok (.iconst 5, 1) := by decide +kernel
theorem dX5_takeLine_37 : decode cX5_takeLine 37 = .ok (.invokevirtual 60, 3) := by decide +kernel
theorem dX5_takeLine_40 : decode cX5_takeLine 40 = .ok (.ireturn, 1) := by decide +kernel
theorem dX5_takeLine_41 : decode cX5_takeLine 41 = .ok (.iconst 0, 1) := by decide +kernel
theorem dX5_takeLine_42 : decode cX5_takeLine 42 = .ok (.istore_n 2, 1) := by decide +kernel
theorem dX5_takeLine_43 : decode cX5_takeLine 43 = .ok (.iload_n 2, 1) := by decide +kernel
theorem dX5_takeLine_44 : decode cX5_takeLine 44 = .ok (.iload_n 1, 1) := by decide +kernel
theorem dX5_takeLine_45 : decode cX5_takeLine 45 = .ok (.invokestatic 74, 3) := by decide +kernel
theorem dX5_takeLine_48 : decode cX5_takeLine 48 = .ok (.if_icmp .ge 20, 3) := by decide +kernel
theorem dX5_takeLine_51 : decode cX5_takeLine 51 = .ok (.aload_n 0, 1) := by decide +kernel
theorem dX5_takeLine_52 : decode cX5_takeLine 52 = .ok (.iload_n 1, 1) := by decide +kernel
theorem dX5_takeLine_53 : decode cX5_takeLine 53 = .ok (.iload_n 2, 1) := by decide +kernel
theorem dX5_takeLine_54 : decode cX5_takeLine 54 = .ok (.invokevirtual 78, 3) := by decide +kernel
theorem dX5_takeLine_57 : decode cX5_takeLine 57 = .ok (.ifCond .ne 5, 3) := by decide +kernel
theorem dX5_takeLine_60 : decode cX5_takeLine 60 = .ok (.iconst 0, 1) := by decide +kernel
theorem dX5_takeLine_61 : decode cX5_takeLine 61 = .ok (.ireturn, 1) := by decide +kernel
theorem dX5_takeLine_62 : decode cX5_takeLine 62 = .ok (.iinc 2 1, 3) := by decide +kernel
theorem dX5_takeLine_65 : decode cX5_takeLine 65 = .ok (.goto (-22), 3) := by decide +kernel
theorem dX5_takeLine_68 : decode cX5_takeLine 68 = .ok (.aload_n 0, 1) := by decide +kernel
theorem dX5_takeLine_69 : decode cX5_takeLine 69 = .ok (.getfield 35, 3) := by decide +kernel
theorem dX5_takeLine_72 : decode cX5_takeLine 72 = .ok (.invokevirtual 47, 3) := by decide +kernel
theorem dX5_takeLine_75 : decode cX5_takeLine 75 = .ok (.aload_n 0, 1) := by decide +kernel
theorem dX5_takeLine_76 : decode cX5_takeLine 76 = .ok (.iconst 3, 1) := by decide +kernel
theorem dX5_takeLine_77 : decode cX5_takeLine 77 = .ok (.invokevirtual 64, 3) := by decide +kernel
theorem dX5_takeLine_80 : decode cX5_takeLine 80 = .ok (.ifCond .ne 5, 3) := by decide +kernel
theorem dX5_takeLine_83 : decode cX5_takeLine 83 = .ok (.iconst 0, 1) := by decide +kernel
theorem dX5_takeLine_84 : decode cX5_takeLine 84 = .ok (.ireturn, 1) := by decide +kernel
theorem dX5_takeLine_85 : decode cX5_takeLine 85 = .ok (.aload_n 0, 1) := by decide +kernel
theorem dX5_takeLine_86 : decode cX5_takeLine 86 = .ok (.iload_n 1, 1) := by decide +kernel
theorem dX5_takeLine_87 : decode cX5_takeLine 87 = .ok (.invokevirtual 82, 3) := by decide +kernel
theorem dX5_takeLine_90 : decode cX5_takeLine 90 = .ok (.iconst 1, 1) := by decide +kernel
theorem dX5_takeLine_91 : decode cX5_takeLine 91 = .ok (.ireturn, 1) := by decide +kernel
theorem dX5_takeNumber_0 : decode cX5_takeNumber 0 = .ok (.aload_n 0, 1) := by decide +kernel
theorem dX5_takeNumber_1 : decode cX5_takeNumber 1 = .ok (.getfield 35, 3) := by decide +kernel
theorem dX5_takeNumber_4 : decode cX5_takeNumber 4 = .ok (.invokevirtual 47, 3) := by decide +kernel
theorem dX5_takeNumber_7 : decode cX5_takeNumber 7 = .ok (.aload_n 0, 1) := by decide +kernel
theorem dX5_takeNumber_8 : decode cX5_takeNumber 8 = .ok (.iconst 2, 1) := by decide +kernel
theorem dX5_takeNumber_9 : decode cX5_takeNumber 9 = .ok (.invokevirtual 64, 3) := by decide +kernel
theorem dX5_takeNumber_12 : decode cX5_takeNumber 12 = .ok (.ifCond .ne 5, 3) := by decide +kernel
theorem dX5_takeNumber_15 : decode cX5_takeNumber 15 = .ok (.iconst 0, 1) := by decide +kernel
theorem dX5_takeNumber_16 : decode cX5_takeNumber 16 = .ok (.ireturn, 1) := by decide +kernel
theorem dX5_takeNumber_17 : decode cX5_takeNumber 17 = .ok (.aload_n 0, 1) := by decide +kernel
theorem dX5_takeNumber_18 : decode cX5_takeNumber 18 = .ok (.getfield 35, 3) := by decide +kernel
theorem dX5_takeNumber_21 : decode cX5_takeNumber 21 = .ok (.getfield 86, 3) := by decide +kernel
theorem dX5_takeNumber_24 : decode cX5_takeNumber 24 = .ok (.iload_n 1, 1) := by decide +kernel
theorem dX5_takeNumber_25 : decode cX5_takeNumber 25 = .ok (.iload_n 2, 1) := by decide +kernel
theorem dX5_takeNumber_26 : decode cX5_takeNumber 26 = .ok (.invokestatic 89, 3) := by decide +kernel
theorem dX5_takeNumber_29 : decode cX5_takeNumber 29 = .ok (.iload_n 1, 1) := by decide +kernel
theorem dX5_takeNumber_30 : decode cX5_takeNumber 30 = .ok (.iload_n 2, 1) := by decide +kernel
theorem dX5_takeNumber_31 : decode cX5_takeNumber 31 = .ok (.invokestatic 93, 3) := by decide +kernel
theorem dX5_takeNumber_34 : decode cX5_takeNumber 34 = .ok (.invokestatic 96, 3) := by decide +kernel
theorem dX5_takeNumber_37 : decode cX5_takeNumber 37 = .ok (.ifCond .ne 9, 3) := by decide +kernel
theorem dX5_takeNumber_40 : decode cX5_takeNumber 40 = .ok (.aload_n 0, 1) := by decide +kernel
theorem dX5_takeNumber_41 : decode cX5_takeNumber 41 = .ok (.iconst 3, 1) := by decide +kernel
theorem dX5_takeNumber_42 : decode cX5_takeNumber 42 = .ok (.invokevirtual 60, 3) := by decide +kernel
theorem dX5_takeNumber_45 : decode cX5_takeNumber 45 = .ok (.ireturn, 1) := by decide +kernel
theorem dX5_takeNumber_46 : decode cX5_takeNumber 46 = .ok (.iload_n 1, 1) := by decide +kernel
theorem dX5_takeNumber_47 : decode cX5_takeNumber 47 = .ok (.iconst 5, 1) := by decide +kernel
theorem dX5_takeNumber_48 : decode cX5_takeNumber 48 = .ok (.if_icmp .ne 31, 3) := by decide +kernel
theorem dX5_takeNumber_51 : decode cX5_takeNumber 51 = .ok (.iload_n 2, 1) := by decide +kernel
theorem dX5_takeNumber_52 : decode cX5_takeNumber 52 = .ok (.ifCond .ne 27, 3) := by decide +kernel
theorem dX5_takeNumber_55 : decode cX5_takeNumber 55 = .ok (.aload_n 0, 1) := by decide +kernel
theorem dX5_takeNumber_56 : decode cX5_takeNumber 56 = .ok (.getfield 22, 3) := by decide +kernel
theorem dX5_takeNumber_59 : decode cX5_takeNumber 59 = .ok (.aload_n 0, 1) := by decide +kernel
theorem dX5_takeNumber_60 : decode cX5_takeNumber 60 = .ok (.getfield 35, 3) := by decide +kernel
theorem dX5_takeNumber_63 : decode cX5_takeNumber 63 = .ok (.getfield 86, 3) := by decide +kernel
theorem dX5_takeNumber_66 : decode cX5_takeNumber 66 = .ok (.ishr, 1) := by decide +kernel
theorem dX5_takeNumber_67 : decode cX5_takeNumber 67 = .ok (.iconst 1, 1) := by decide +kernel
theorem dX5_takeNumber_68 : decode cX5_takeNumber 68 = .ok (.iand, 1) := by decide +kernel
theorem dX5_takeNumber_69 : decode cX5_takeNumber 69 = .ok (.iconst 1, 1) := by decide +kernel
theorem dX5_takeNumber_70 : decode cX5_takeNumber 70 = .ok (.if_icmp .ne 9, 3) := by decide +kernel
theorem dX5_takeNumber_73 : decode cX5_takeNumber 73 = .ok (.aload_n 0, 1) := by decide +kernel
theorem dX5_takeNumber_74 : decode cX5_takeNumber 74 = .ok (.iconst 4, 1) := by decide +kernel
theorem dX5_takeNumber_75 : decode cX5_takeNumber 75 = .ok (.invokevirtual 60, 3) := by decide +kernel
theorem dX5_takeNumber_78 : decode cX5_takeNumber 78 = .ok (.ireturn, 1) := by decide +kernel
theorem dX5_takeNumber_79 : decode cX5_takeNumber 79 = .ok (.aload_n 0, 1) := by decide +kernel
theorem dX5_takeNumber_80 : decode cX5_takeNumber 80 = .ok (.getfield 18, 3) := by decide +kernel
theorem dX5_takeNumber_83 : decode cX5_takeNumber 83 = .ok (.iload_n 2, 1) := by decide +kernel
theorem dX5_takeNumber_84 : decode cX5_takeNumber 84 = .ok (.aload_n 0, 1) := by decide +kernel
theorem dX5_takeNumber_85 : decode cX5_takeNumber 85 = .ok (.getfield 35, 3) := by decide +kernel
theorem dX5_takeNumber_88 : decode cX5_takeNumber 88 = .ok (.getfield 86, 3) := by decide +kernel
theorem dX5_takeNumber_91 : decode cX5_takeNumber 91 = .ok (.iastore, 1) := by decide +kernel
theorem dX5_takeNumber_92 : decode cX5_takeNumber 92 = .ok (.iconst 1, 1) := by decide +kernel
theorem dX5_takeNumber_93 : decode cX5_takeNumber 93 = .ok (.ireturn, 1) := by decide +kernel
theorem dX5_take_0 : decode cX5_take 0 = .ok (.iload_n 1, 1) := by decide +kernel
theorem dX5_take_1 : decode cX5_take 1 = .ok (.iconst 4, 1) := by decide +kernel
theorem dX5_take_2 : decode cX5_take 2 = .ok (.if_icmp .ne 19, 3) := by decide +kernel
theorem dX5_take_5 : decode cX5_take 5 = .ok (.aload_n 0, 1) := by decide +kernel
theorem dX5_take_6 : decode cX5_take 6 = .ok (.getfield 12, 3) := by decide +kernel
theorem dX5_take_9 : decode cX5_take 9 = .ok (.aload_n 0, 1) := by decide +kernel
theorem dX5_take_10 : decode cX5_take 10 = .ok (.getfield 18, 3) := by decide +kernel
theorem dX5_take_13 : decode cX5_take 13 = .ok (.iconst 0, 1) := by decide +kernel
theorem dX5_take_14 : decode cX5_take 14 = .ok (.iaload, 1) := by decide +kernel
theorem dX5_take_15 : decode cX5_take 15 = .ok (.invokevirtual 100, 3) := by decide +kernel
theorem dX5_take_18 : decode cX5_take 18 = .ok (.goto 74, 3) := by decide +kernel
theorem dX5_take_21 : decode cX5_take 21 = .ok (.iload_n 1, 1) := by decide +kernel
theorem dX5_take_22 : decode cX5_take 22 = .ok (.iconst 5, 1) := by decide +kernel
theorem dX5_take_23 : decode cX5_take 23 = .ok (.if_icmp .ne 43, 3) := by decide +kernel
theorem dX5_take_26 : decode cX5_take 26 = .ok (.aload_n 0, 1) := by decide +kernel
theorem dX5_take_27 : decode cX5_take 27 = .ok (.getfield 12, 3) := by decide +kernel
theorem dX5_take_30 : decode cX5_take 30 = .ok (.getfield 103, 3) := by decide +kernel
theorem dX5_take_33 : decode cX5_take 33 = .ok (.aload_n 0, 1) := by decide +kernel
theorem dX5_take_34 : decode cX5_take 34 = .ok (.getfield 18, 3) := by decide +kernel
theorem dX5_take_37 : decode cX5_take 37 = .ok (.iconst 0, 1) := by decide +kernel
theorem dX5_take_38 : decode cX5_take 38 = .ok (.iaload, 1) := by decide +kernel
theorem dX5_take_39 : decode cX5_take 39 = .ok (.aload_n 0, 1) := by decide +kernel
theorem dX5_take_40 : decode cX5_take 40 = .ok (.getfield 18, 3) := by decide +kernel
theorem dX5_take_43 : decode cX5_take 43 = .ok (.iconst 1, 1) := by decide +kernel
theorem dX5_take_44 : decode cX5_take 44 = .ok (.iaload, 1) := by decide +kernel
theorem dX5_take_45 : decode cX5_take 45 = .ok (.iastore, 1) := by decide +kernel
theorem dX5_take_46 : decode cX5_take 46 = .ok (.aload_n 0, 1) := by decide +kernel
theorem dX5_take_47 : decode cX5_take 47 = .ok (.dup, 1) := by decide +kernel
theorem dX5_take_48 : decode cX5_take 48 = .ok (.getfield 22, 3) := by decide +kernel
theorem dX5_take_51 : decode cX5_take 51 = .ok (.iconst 1, 1) := by decide +kernel
theorem dX5_take_52 : decode cX5_take 52 = .ok (.aload_n 0, 1) := by decide +kernel
theorem dX5_take_53 : decode cX5_take 53 = .ok (.getfield 18, 3) := by decide +kernel
theorem dX5_take_56 : decode cX5_take 56 = .ok (.iconst 0, 1) := by decide +kernel
theorem dX5_take_57 : decode cX5_take 57 = .ok (.iaload, 1) := by decide +kernel
theorem dX5_take_58 : decode cX5_take 58 = .ok (.ishl, 1) := by decide +kernel
theorem dX5_take_59 : decode cX5_take 59 = .ok (.ior, 1) := by decide +kernel
theorem dX5_take_60 : decode cX5_take 60 = .ok (.putfield 22, 3) := by decide +kernel
theorem dX5_take_63 : decode cX5_take 63 = .ok (.goto 29, 3) := by decide +kernel
theorem dX5_take_66 : decode cX5_take 66 = .ok (.aload_n 0, 1) := by decide +kernel
theorem dX5_take_67 : decode cX5_take 67 = .ok (.getfield 12, 3) := by decide +kernel
theorem dX5_take_70 : decode cX5_take 70 = .ok (.iload_n 1, 1) := by decide +kernel
theorem dX5_take_71 : decode cX5_take 71 = .ok (.aload_n 0, 1) := by decide +kernel
theorem dX5_take_72 : decode cX5_take 72 = .ok (.getfield 18, 3) := by decide +kernel
theorem dX5_take_75 : decode cX5_take 75 = .ok (.iconst 0, 1) := by decide +kernel
theorem dX5_take_76 : decode cX5_take 76 = .ok (.iaload, 1) := by decide +kernel
theorem dX5_take_77 : decode cX5_take 77 = .ok (.aload_n 0, 1) := by decide +kernel
theorem dX5_take_78 : decode cX5_take 78 = .ok (.getfield 18, 3) := by decide +kernel
theorem dX5_take_81 : decode cX5_take 81 = .ok (.iconst 1, 1) := by decide +kernel
theorem dX5_take_82 : decode cX5_take 82 = .ok (.iaload, 1) := by decide +kernel
theorem dX5_take_83 : decode cX5_take 83 = .ok (.aload_n 0, 1) := by decide +kernel
theorem dX5_take_84 : decode cX5_take 84 = .ok (.getfield 18, 3) := by decide +kernel
theorem dX5_take_87 : decode cX5_take 87 = .ok (.iconst 2, 1) := by decide +kernel
theorem dX5_take_88 : decode cX5_take 88 = .ok (.iaload, 1) := by decide +kernel
theorem dX5_take_89 : decode cX5_take 89 = .ok (.invokevirtual 106, 3) := by decide +kernel
theorem dX5_take_92 : decode cX5_take 92 = .ok (.return_, 1) := by decide +kernel
theorem dX5_lineNamed_0 : decode cX5_lineNamed 0 = .ok (.aload_n 0, 1) := by decide +kernel
theorem dX5_lineNamed_1 : decode cX5_lineNamed 1 = .ok (.getfield 35, 3) := by decide +kernel
theorem dX5_lineNamed_4 : decode cX5_lineNamed 4 = .ok (.ldc 110, 2) := by decide +kernel
theorem dX5_lineNamed_6 : decode cX5_lineNamed 6 = .ok (.invokevirtual 112, 3) := by decide +kernel
theorem dX5_lineNamed_9 : decode cX5_lineNamed 9 = .ok (.ifCond .eq 5, 3) := by decide +kernel
theorem dX5_lineNamed_12 : decode cX5_lineNamed 12 = .ok (.iconst 4, 1) := by decide +kernel
theorem dX5_lineNamed_13 : decode cX5_lineNamed 13 = .ok (.ireturn, 1) := by decide +kernel
theorem dX5_lineNamed_14 : decode cX5_lineNamed 14 = .ok (.aload_n 0, 1) := by decide +kernel
theorem dX5_lineNamed_15 : decode cX5_lineNamed 15 = .ok (.getfield 35, 3) := by decide +kernel
theorem dX5_lineNamed_18 : decode cX5_lineNamed 18 = .ok (.ldc 116, 2) := by decide +kernel
theorem dX5_lineNamed_20 : decode cX5_lineNamed 20 = .ok (.invokevirtual 112, 3) := by decide +kernel
theorem dX5_lineNamed_23 : decode cX5_lineNamed 23 = .ok (.ifCond .eq 5, 3) := by decide +kernel
theorem dX5_lineNamed_26 : decode cX5_lineNamed 26 = .ok (.iconst 0, 1) := by decide +kernel
theorem dX5_lineNamed_27 : decode cX5_lineNamed 27 = .ok (.ireturn, 1) := by decide +kernel
theorem dX5_lineNamed_28 : decode cX5_lineNamed 28 = .ok (.aload_n 0, 1) := by decide +kernel
theorem dX5_lineNamed_29 : decode cX5_lineNamed 29 = .ok (.getfield 35, 3) := by decide +kernel
theorem dX5_lineNamed_32 : decode cX5_lineNamed 32 = .ok (.ldc 118, 2) := by decide +kernel
theorem dX5_lineNamed_34 : decode cX5_lineNamed 34 = .ok (.invokevirtual 112, 3) := by decide +kernel
theorem dX5_lineNamed_37 : decode cX5_lineNamed 37 = .ok (.ifCond .eq 5, 3) := by decide +kernel
theorem dX5_lineNamed_40 : decode cX5_lineNamed 40 = .ok (.iconst 1, 1) := by decide +kernel
theorem dX5_lineNamed_41 : decode cX5_lineNamed 41 = .ok (.ireturn, 1) := by decide +kernel
theorem dX5_lineNamed_42 : decode cX5_lineNamed 42 = .ok (.aload_n 0, 1) := by decide +kernel
theorem dX5_lineNamed_43 : decode cX5_lineNamed 43 = .ok (.getfield 35, 3) := by decide +kernel
theorem dX5_lineNamed_46 : decode cX5_lineNamed 46 = .ok (.ldc 120, 2) := by decide +kernel
theorem dX5_lineNamed_48 : decode cX5_lineNamed 48 = .ok (.invokevirtual 112, 3) := by decide +kernel
theorem dX5_lineNamed_51 : decode cX5_lineNamed 51 = .ok (.ifCond .eq 5, 3) := by decide +kernel
theorem dX5_lineNamed_54 : decode cX5_lineNamed 54 = .ok (.iconst 2, 1) := by decide +kernel
theorem dX5_lineNamed_55 : decode cX5_lineNamed 55 = .ok (.ireturn, 1) := by decide +kernel
theorem dX5_lineNamed_56 : decode cX5_lineNamed 56 = .ok (.aload_n 0, 1) := by decide +kernel
theorem dX5_lineNamed_57 : decode cX5_lineNamed 57 = .ok (.getfield 35, 3) := by decide +kernel
theorem dX5_lineNamed_60 : decode cX5_lineNamed 60 = .ok (.ldc 122, 2) := by decide +kernel
theorem dX5_lineNamed_62 : decode cX5_lineNamed 62 = .ok (.invokevirtual 112, 3) := by decide +kernel
theorem dX5_lineNamed_65 : decode cX5_lineNamed 65 = .ok (.ifCond .eq 5, 3) := by decide +kernel
theorem dX5_lineNamed_68 : decode cX5_lineNamed 68 = .ok (.iconst 3, 1) := by decide +kernel
theorem dX5_lineNamed_69 : decode cX5_lineNamed 69 = .ok (.ireturn, 1) := by decide +kernel
theorem dX5_lineNamed_70 : decode cX5_lineNamed 70 = .ok (.aload_n 0, 1) := by decide +kernel
theorem dX5_lineNamed_71 : decode cX5_lineNamed 71 = .ok (.getfield 35, 3) := by decide +kernel
theorem dX5_lineNamed_74 : decode cX5_lineNamed 74 = .ok (.ldc 124, 2) := by decide +kernel
theorem dX5_lineNamed_76 : decode cX5_lineNamed 76 = .ok (.invokevirtual 112, 3) := by decide +kernel
theorem dX5_lineNamed_79 : decode cX5_lineNamed 79 = .ok (.ifCond .eq 7, 3) := by decide +kernel
theorem dX5_lineNamed_82 : decode cX5_lineNamed 82 = .ok (.iconst 5, 1) := by decide +kernel
theorem dX5_lineNamed_83 : decode cX5_lineNamed 83 = .ok (.goto 5, 3) := by decide +kernel
theorem dX5_lineNamed_86 : decode cX5_lineNamed 86 = .ok (.bipush 6, 2) := by decide +kernel
theorem dX5_lineNamed_88 : decode cX5_lineNamed 88 = .ok (.ireturn, 1) := by decide +kernel
theorem dX5_hasRoomFor_0 : decode cX5_hasRoomFor 0 = .ok (.iload_n 1, 1) := by decide +kernel
theorem dX5_hasRoomFor_1 : decode cX5_hasRoomFor 1 = .ok (.iconst 5, 1) := by decide +kernel
theorem dX5_hasRoomFor_2 : decode cX5_hasRoomFor 2 = .ok (.if_icmp .ne 5, 3) := by decide +kernel
theorem dX5_hasRoomFor_5 : decode cX5_hasRoomFor 5 = .ok (.iconst 1, 1) := by decide +kernel
theorem dX5_hasRoomFor_6 : decode cX5_hasRoomFor 6 = .ok (.ireturn, 1) := by decide +kernel
theorem dX5_hasRoomFor_7 : decode cX5_hasRoomFor 7 = .ok (.iload_n 1, 1) := by decide +kernel
theorem dX5_hasRoomFor_8 : decode cX5_hasRoomFor 8 = .ok (.iconst 4, 1) := by decide +kernel
theorem dX5_hasRoomFor_9 : decode cX5_hasRoomFor 9 = .ok (.if_icmp .ne 13, 3) := by decide +kernel
theorem dX5_hasRoomFor_12 : decode cX5_hasRoomFor 12 = .ok (.aload_n 0, 1) := by decide +kernel
theorem dX5_hasRoomFor_13 : decode cX5_hasRoomFor 13 = .ok (.getfield 12, 3) := by decide +kernel
theorem dX5_hasRoomFor_16 : decode cX5_hasRoomFor 16 = .ok (.invokevirtual 125, 3) := by decide +kernel
theorem dX5_hasRoomFor_19 : decode cX5_hasRoomFor 19 = .ok (.goto 10, 3) := by decide +kernel
theorem dX5_hasRoomFor_22 : decode cX5_hasRoomFor 22 = .ok (.aload_n 0, 1) := by decide +kernel
theorem dX5_hasRoomFor_23 : decode cX5_hasRoomFor 23 = .ok (.getfield 12, 3) := by decide +kernel
theorem dX5_hasRoomFor_26 : decode cX5_hasRoomFor 26 = .ok (.invokevirtual 128, 3) := by decide +kernel
theorem dX5_hasRoomFor_29 : decode cX5_hasRoomFor 29 = .ok (.ireturn, 1) := by decide +kernel
theorem dX5_numbersOf_0 : decode cX5_numbersOf 0 = .ok (.iload_n 0, 1) := by decide +kernel
theorem dX5_numbersOf_1 : decode cX5_numbersOf 1 = .ok (.iconst 4, 1) := by decide +kernel
theorem dX5_numbersOf_2 : decode cX5_numbersOf 2 = .ok (.if_icmp .ne 5, 3) := by decide +kernel
theorem dX5_numbersOf_5 : decode cX5_numbersOf 5 = .ok (.iconst 1, 1) := by decide +kernel
theorem dX5_numbersOf_6 : decode cX5_numbersOf 6 = .ok (.ireturn, 1) := by decide +kernel
theorem dX5_numbersOf_7 : decode cX5_numbersOf 7 = .ok (.iload_n 0, 1) := by decide +kernel
theorem dX5_numbersOf_8 : decode cX5_numbersOf 8 = .ok (.iconst 5, 1) := by decide +kernel
theorem dX5_numbersOf_9 : decode cX5_numbersOf 9 = .ok (.if_icmp .ne 7, 3) := by decide +kernel
theorem dX5_numbersOf_12 : decode cX5_numbersOf 12 = .ok (.iconst 2, 1) := by decide +kernel
theorem dX5_numbersOf_13 : decode cX5_numbersOf 13 = .ok (.goto 4, 3) := by decide +kernel
theorem dX5_numbersOf_16 : decode cX5_numbersOf 16 = .ok (.iconst 3, 1) := by decide +kernel
theorem dX5_numbersOf_17 : decode cX5_numbersOf 17 = .ok (.ireturn, 1) := by decide +kernel
theorem dX5_leastOf_0 : decode cX5_leastOf 0 = .ok (.iload_n 0, 1) := by decide +kernel
theorem dX5_leastOf_1 : decode cX5_leastOf 1 = .ok (.invokestatic 131, 3) := by decide +kernel
theorem dX5_leastOf_4 : decode cX5_leastOf 4 = .ok (.ifCond .eq 11, 3) := by decide +kernel
theorem dX5_leastOf_7 : decode cX5_leastOf 7 = .ok (.iload_n 1, 1) := by decide +kernel
theorem dX5_leastOf_8 : decode cX5_leastOf 8 = .ok (.ifCond .ne 7, 3) := by decide +kernel
theorem dX5_leastOf_11 : decode cX5_leastOf 11 = .ok (.iconst 1, 1) := by decide +kernel
theorem dX5_leastOf_12 : decode cX5_leastOf 12 = .ok (.goto 4, 3) := by decide +kernel
theorem dX5_leastOf_15 : decode cX5_leastOf 15 = .ok (.iconst 0, 1) := by decide +kernel
theorem dX5_leastOf_16 : decode cX5_leastOf 16 = .ok (.ireturn, 1) := by decide +kernel
theorem dX5_mostOf_0 : decode cX5_mostOf 0 = .ok (.iload_n 0, 1) := by decide +kernel
theorem dX5_mostOf_1 : decode cX5_mostOf 1 = .ok (.iconst 5, 1) := by decide +kernel
theorem dX5_mostOf_2 : decode cX5_mostOf 2 = .ok (.if_icmp .ne 14, 3) := by decide +kernel
theorem dX5_mostOf_5 : decode cX5_mostOf 5 = .ok (.iload_n 1, 1) := by decide +kernel
theorem dX5_mostOf_6 : decode cX5_mostOf 6 = .ok (.ifCond .ne 7, 3) := by decide +kernel
theorem dX5_mostOf_9 : decode cX5_mostOf 9 = .ok (.iconst 5, 1) := by decide +kernel
theorem dX5_mostOf_10 : decode cX5_mostOf 10 = .ok (.goto 5, 3) := by decide +kernel
theorem dX5_mostOf_13 : decode cX5_mostOf 13 = .ok (.bipush 9, 2) := by decide +kernel
theorem dX5_mostOf_15 : decode cX5_mostOf 15 = .ok (.ireturn, 1) := by decide +kernel
theorem dX5_mostOf_16 : decode cX5_mostOf 16 = .ok (.iload_n 0, 1) := by decide +kernel
theorem dX5_mostOf_17 : decode cX5_mostOf 17 = .ok (.invokestatic 131, 3) := by decide +kernel
theorem dX5_mostOf_20 : decode cX5_mostOf 20 = .ok (.ifCond .eq 10, 3) := by decide +kernel
theorem dX5_mostOf_23 : decode cX5_mostOf 23 = .ok (.iload_n 1, 1) := by decide +kernel
theorem dX5_mostOf_24 : decode cX5_mostOf 24 = .ok (.ifCond .ne 6, 3) := by decide +kernel
theorem dX5_mostOf_27 : decode cX5_mostOf 27 = .ok (.bipush 9, 2) := by decide +kernel
theorem dX5_mostOf_29 : decode cX5_mostOf 29 = .ok (.ireturn, 1) := by decide +kernel
theorem dX5_mostOf_30 : decode cX5_mostOf 30 = .ok (.iload_n 0, 1) := by decide +kernel
theorem dX5_mostOf_31 : decode cX5_mostOf 31 = .ok (.invokestatic 131, 3) := by decide +kernel
theorem dX5_mostOf_34 : decode cX5_mostOf 34 = .ok (.ifCond .eq 12, 3) := by decide +kernel
theorem dX5_mostOf_37 : decode cX5_mostOf 37 = .ok (.iload_n 1, 1) := by decide +kernel
theorem dX5_mostOf_38 : decode cX5_mostOf 38 = .ok (.iconst 1, 1) := by decide +kernel
theorem dX5_mostOf_39 : decode cX5_mostOf 39 = .ok (.if_icmp .ne 7, 3) := by decide +kernel
theorem dX5_mostOf_42 : decode cX5_mostOf 42 = .ok (.iconst 3, 1) := by decide +kernel
theorem dX5_mostOf_43 : decode cX5_mostOf 43 = .ok (.goto 5, 3) := by decide +kernel
theorem dX5_mostOf_46 : decode cX5_mostOf 46 = .ok (.bipush 9, 2) := by decide +kernel
theorem dX5_mostOf_48 : decode cX5_mostOf 48 = .ok (.ireturn, 1) := by decide +kernel
theorem dX5_ownersAreThere_0 : decode cX5_ownersAreThere 0 = .ok (.iconst 0, 1) := by decide +kernel
theorem dX5_ownersAreThere_1 : decode cX5_ownersAreThere 1 = .ok (.istore_n 1, 1) := by decide +kernel
theorem dX5_ownersAreThere_2 : decode cX5_ownersAreThere 2 = .ok (.iload_n 1, 1) := by decide +kernel
theorem dX5_ownersAreThere_3 : decode cX5_ownersAreThere 3 = .ok (.aload_n 0, 1) := by decide +kernel
theorem dX5_ownersAreThere_4 : decode cX5_ownersAreThere 4 = .ok (.getfield 12, 3) := by decide +kernel
theorem dX5_ownersAreThere_7 : decode cX5_ownersAreThere 7 = .ok (.getfield 134, 3) := by decide +kernel
theorem dX5_ownersAreThere_10 : decode cX5_ownersAreThere 10 = .ok (.if_icmp .ge 30, 3) := by decide +kernel
theorem dX5_ownersAreThere_13 : decode cX5_ownersAreThere 13 = .ok (.aload_n 0, 1) := by decide +kernel
theorem dX5_ownersAreThere_14 : decode cX5_ownersAreThere 14 = .ok (.getfield 12, 3) := by decide +kernel
theorem dX5_ownersAreThere_17 : decode cX5_ownersAreThere 17 = .ok (.aload_n 0, 1) := by decide +kernel
theorem dX5_ownersAreThere_18 : decode cX5_ownersAreThere 18 = .ok (.getfield 12, 3) := by decide +kernel
theorem dX5_ownersAreThere_21 : decode cX5_ownersAreThere 21 = .ok (.getfield 137, 3) := by decide +kernel
theorem dX5_ownersAreThere_24 : decode cX5_ownersAreThere 24 = .ok (.iload_n 1, 1) := by decide +kernel
theorem dX5_ownersAreThere_25 : decode cX5_ownersAreThere 25 = .ok (.iaload, 1) := by decide +kernel
theorem dX5_ownersAreThere_26 : decode cX5_ownersAreThere 26 = .ok (.invokevirtual 140, 3) := by decide +kernel
theorem dX5_ownersAreThere_29 : decode cX5_ownersAreThere 29 = .ok (.ifCond .ne 5, 3) := by decide +kernel
theorem dX5_ownersAreThere_32 : decode cX5_ownersAreThere 32 = .ok (.iconst 0, 1) := by decide +kernel
theorem dX5_ownersAreThere_33 : decode cX5_ownersAreThere 33 = .ok (.ireturn, 1) := by decide +kernel
theorem dX5_ownersAreThere_34 : decode cX5_ownersAreThere 34 = .ok (.iinc 1 1, 3) := by decide +kernel
theorem dX5_ownersAreThere_37 : decode cX5_ownersAreThere 37 = .ok (.goto (-35), 3) := by decide +kernel
theorem dX5_ownersAreThere_40 : decode cX5_ownersAreThere 40 = .ok (.iconst 1, 1) := by decide +kernel
theorem dX5_ownersAreThere_41 : decode cX5_ownersAreThere 41 = .ok (.ireturn, 1) := by decide +kernel
theorem dX5_isTokenOf_0 : decode cX5_isTokenOf 0 = .ok (.aload_n 0, 1) := by decide +kernel
theorem dX5_isTokenOf_1 : decode cX5_isTokenOf 1 = .ok (.getfield 35, 3) := by decide +kernel
theorem dX5_isTokenOf_4 : decode cX5_isTokenOf 4 = .ok (.getfield 50, 3) := by decide +kernel
theorem dX5_isTokenOf_7 : decode cX5_isTokenOf 7 = .ok (.iconst 4, 1) := by decide +kernel
theorem dX5_isTokenOf_8 : decode cX5_isTokenOf 8 = .ok (.if_icmp .ne 9, 3) := by decide +kernel
theorem dX5_isTokenOf_11 : decode cX5_isTokenOf 11 = .ok (.aload_n 0, 1) := by decide +kernel
theorem dX5_isTokenOf_12 : decode cX5_isTokenOf 12 = .ok (.iconst 1, 1) := by decide +kernel
theorem dX5_isTokenOf_13 : decode cX5_isTokenOf 13 = .ok (.invokevirtual 60, 3) := by decide +kernel
theorem dX5_isTokenOf_16 : decode cX5_isTokenOf 16 = .ok (.ireturn, 1) := by decide +kernel
theorem dX5_isTokenOf_17 : decode cX5_isTokenOf 17 = .ok (.aload_n 0, 1) := by decide +kernel
theorem dX5_isTokenOf_18 : decode cX5_isTokenOf 18 = .ok (.getfield 35, 3) := by decide +kernel
theorem dX5_isTokenOf_21 : decode cX5_isTokenOf 21 = .ok (.getfield 50, 3) := by decide +kernel
theorem dX5_isTokenOf_24 : decode cX5_isTokenOf 24 = .ok (.iload_n 1, 1) := by decide +kernel
theorem dX5_isTokenOf_25 : decode cX5_isTokenOf 25 = .ok (.if_icmp .eq 11, 3) := by decide +kernel
theorem dX5_isTokenOf_28 : decode cX5_isTokenOf 28 = .ok (.aload_n 0, 1) := by decide +kernel
theorem dX5_isTokenOf_29 : decode cX5_isTokenOf 29 = .ok (.iconst 2, 1) := by decide +kernel
theorem dX5_isTokenOf_30 : decode cX5_isTokenOf 30 = .ok (.invokevirtual 60, 3) := by decide +kernel
theorem dX5_isTokenOf_33 : decode cX5_isTokenOf 33 = .ok (.ifCond .eq 7, 3) := by decide +kernel
theorem dX5_isTokenOf_36 : decode cX5_isTokenOf 36 = .ok (.iconst 1, 1) := by decide +kernel
theorem dX5_isTokenOf_37 : decode cX5_isTokenOf 37 = .ok (.goto 4, 3) := by decide +kernel
theorem dX5_isTokenOf_40 : decode cX5_isTokenOf 40 = .ok (.iconst 0, 1) := by decide +kernel
theorem dX5_isTokenOf_41 : decode cX5_isTokenOf 41 = .ok (.ireturn, 1) := by decide +kernel
theorem dX5_stopsBy_0 : decode cX5_stopsBy 0 = .ok (.aload_n 0, 1) := by decide +kernel
theorem dX5_stopsBy_1 : decode cX5_stopsBy 1 = .ok (.iload_n 1, 1) := by decide +kernel
theorem dX5_stopsBy_2 : decode cX5_stopsBy 2 = .ok (.putfield 29, 3) := by decide +kernel
theorem dX5_stopsBy_5 : decode cX5_stopsBy 5 = .ok (.aload_n 0, 1) := by decide +kernel
theorem dX5_stopsBy_6 : decode cX5_stopsBy 6 = .ok (.aload_n 0, 1) := by decide +kernel
theorem dX5_stopsBy_7 : decode cX5_stopsBy 7 = .ok (.getfield 35, 3) := by decide +kernel
theorem dX5_stopsBy_10 : decode cX5_stopsBy 10 = .ok (.getfield 143, 3) := by decide +kernel
theorem dX5_stopsBy_13 : decode cX5_stopsBy 13 = .ok (.putfield 32, 3) := by decide +kernel
theorem dX5_stopsBy_16 : decode cX5_stopsBy 16 = .ok (.iconst 0, 1) := by decide +kernel
theorem dX5_stopsBy_17 : decode cX5_stopsBy 17 = .ok (.ireturn, 1) := by decide +kernel
theorem dX6_init_0 : decode cX6_init 0 = .ok (.aload_n 0, 1) := by decide +kernel
theorem dX6_init_1 : decode cX6_init 1 = .ok (.invokespecial 1, 3) := by decide +kernel
theorem dX6_init_4 : decode cX6_init 4 = .ok (.aload_n 0, 1) := by decide +kernel
theorem dX6_init_5 : decode cX6_init 5 = .ok (.new 7, 3) := by decide +kernel
theorem dX6_init_8 : decode cX6_init 8 = .ok (.dup, 1) := by decide +kernel
theorem dX6_init_9 : decode cX6_init 9 = .ok (.invokespecial 9, 3) := by decide +kernel
theorem dX6_init_12 : decode cX6_init 12 = .ok (.putfield 10, 3) := by decide +kernel
theorem dX6_init_15 : decode cX6_init 15 = .ok (.aload_n 0, 1) := by decide +kernel
theorem dX6_init_16 : decode cX6_init 16 = .ok (.new 16, 3) := by decide +kernel
theorem dX6_init_19 : decode cX6_init 19 = .ok (.dup, 1) := by decide +kernel
theorem dX6_init_20 : decode cX6_init 20 = .ok (.aload_n 0, 1) := by decide +kernel
theorem dX6_init_21 : decode cX6_init 21 = .ok (.getfield 10, 3) := by decide +kernel
theorem dX6_init_24 : decode cX6_init 24 = .ok (.invokespecial 18, 3) := by decide +kernel
theorem dX6_init_27 : decode cX6_init 27 = .ok (.putfield 21, 3) := by decide +kernel
theorem dX6_init_30 : decode cX6_init 30 = .ok (.aload_n 0, 1) := by decide +kernel
theorem dX6_init_31 : decode cX6_init 31 = .ok (.new 25, 3) := by decide +kernel
theorem dX6_init_34 : decode cX6_init 34 = .ok (.dup, 1) := by decide +kernel
theorem dX6_init_35 : decode cX6_init 35 = .ok (.invokespecial 27, 3) := by decide +kernel
theorem dX6_init_38 : decode cX6_init 38 = .ok (.putfield 28, 3) := by decide +kernel
theorem dX6_init_41 : decode cX6_init 41 = .ok (.aload_n 0, 1) := by decide +kernel
theorem dX6_init_42 : decode cX6_init 42 = .ok (.new 32, 3) := by decide +kernel
theorem dX6_init_45 : decode cX6_init 45 = .ok (.dup, 1) := by decide +kernel
theorem dX6_init_46 : decode cX6_init 46 = .ok (.invokespecial 34, 3) := by decide +kernel
theorem dX6_init_49 : decode cX6_init 49 = .ok (.putfield 35, 3) := by decide +kernel
theorem dX6_init_52 : decode cX6_init 52 = .ok (.aload_n 0, 1) := by decide +kernel
theorem dX6_init_53 : decode cX6_init 53 = .ok (.new 25, 3) := by decide +kernel
theorem dX6_init_56 : decode cX6_init 56 = .ok (.dup, 1) := by decide +kernel
theorem dX6_init_57 : decode cX6_init 57 = .ok (.invokespecial 27, 3) := by decide +kernel
theorem dX6_init_60 : decode cX6_init 60 = .ok (.putfield 39, 3) := by decide +kernel
theorem dX6_init_63 : decode cX6_init 63 = .ok (.aload_n 0, 1) := by decide +kernel
theorem dX6_init_64 : decode cX6_init 64 = .ok (.bipush 9, 2) := by decide +kernel
theorem dX6_init_66 : decode cX6_init 66 = .ok (.anewarray 25, 3) := by decide +kernel
theorem dX6_init_69 : decode cX6_init 69 = .ok (.putfield 42, 3) := by decide +kernel
theorem dX6_init_72 : decode cX6_init 72 = .ok (.aload_n 0, 1) := by decide +kernel
theorem dX6_init_73 : decode cX6_init 73 = .ok (.iconst 4, 1) := by decide +kernel
theorem dX6_init_74 : decode cX6_init 74 = .ok (.newarray .int, 2) := by decide +kernel
theorem dX6_init_76 : decode cX6_init 76 = .ok (.putfield 46, 3) := by decide +kernel
theorem dX6_init_79 : decode cX6_init 79 = .ok (.aload_n 0, 1) := by decide +kernel
theorem dX6_init_80 : decode cX6_init 80 = .ok (.iconst 2, 1) := by decide +kernel
theorem dX6_init_81 : decode cX6_init 81 = .ok (.anewarray 50, 3) := by decide +kernel
theorem dX6_init_84 : decode cX6_init 84 = .ok (.putfield 52, 3) := by decide +kernel
theorem dX6_init_87 : decode cX6_init 87 = .ok (.aload_n 0, 1) := by decide +kernel
theorem dX6_init_88 : decode cX6_init 88 = .ok (.iconst 4, 1) := by decide +kernel
theorem dX6_init_89 : decode cX6_init 89 = .ok (.anewarray 56, 3) := by decide +kernel
theorem dX6_init_92 : decode cX6_init 92 = .ok (.putfield 58, 3) := by decide +kernel
end
section
theorem dX6_init_95 : decode cX6_init 95 = .ok (.aload_n 0, 1) := by decide +kernel
theorem dX6_init_96 : decode cX6_init 96 = .ok (.iconst 0, 1) := by decide +kernel
theorem dX6_init_97 : decode cX6_init 97 = .ok (.putfield 62, 3) := by decide +kernel
theorem dX6_init_100 : decode cX6_init 100 = .ok (.iconst 0, 1) := by decide +kernel
theorem dX6_init_101 : decode cX6_init 101 = .ok (.istore_n 1, 1) := by decide +kernel
theorem dX6_init_102 : decode cX6_init 102 = .ok (.iload_n 1, 1) := by decide +kernel
theorem dX6_init_103 : decode cX6_init 103 = .ok (.aload_n 0, 1) := by decide +kernel
theorem dX6_init_104 : decode cX6_init 104 = .ok (.getfield 42, 3) := by decide +kernel
theorem dX6_init_107 : decode cX6_init 107 = .ok (.arraylength, 1) := by decide +kernel
theorem dX6_init_108 : decode cX6_init 108 = .ok (.if_icmp .ge 22, 3) := by decide +kernel
theorem dX6_init_111 : decode cX6_init 111 = .ok (.aload_n 0, 1) := by decide +kernel
theorem dX6_init_112 : decode cX6_init 112 = .ok (.getfield 42, 3) := by decide +kernel
theorem dX6_init_115 : decode cX6_init 115 = .ok (.iload_n 1, 1) := by decide +kernel
theorem dX6_init_116 : decode cX6_init 116 = .ok (.new 25, 3) := by decide +kernel
theorem dX6_init_119 : decode cX6_init 119 = .ok (.dup, 1) := by decide +kernel
theorem dX6_init_120 : decode cX6_init 120 = .ok (.invokespecial 27, 3) := by decide +kernel
theorem dX6_init_123 : decode cX6_init 123 = .ok (.aastore, 1) := by decide +kernel
theorem dX6_init_124 : decode cX6_init 124 = .ok (.iinc 1 1, 3) := by decide +kernel
theorem dX6_init_127 : decode cX6_init 127 = .ok (.goto (-25), 3) := by decide +kernel
theorem dX6_init_130 : decode cX6_init 130 = .ok (.iconst 0, 1) := by decide +kernel
theorem dX6_init_131 : decode cX6_init 131 = .ok (.istore_n 1, 1) := by decide +kernel
theorem dX6_init_132 : decode cX6_init 132 = .ok (.iload_n 1, 1) := by decide +kernel
theorem dX6_init_133 : decode cX6_init 133 = .ok (.aload_n 0, 1) := by decide +kernel
theorem dX6_init_134 : decode cX6_init 134 = .ok (.getfield 52, 3) := by decide +kernel
theorem dX6_init_137 : decode cX6_init 137 = .ok (.arraylength, 1) := by decide +kernel
theorem dX6_init_138 : decode cX6_init 138 = .ok (.if_icmp .ge 22, 3) := by decide +kernel
theorem dX6_init_141 : decode cX6_init 141 = .ok (.aload_n 0, 1) := by decide +kernel
theorem dX6_init_142 : decode cX6_init 142 = .ok (.getfield 52, 3) := by decide +kernel
theorem dX6_init_145 : decode cX6_init 145 = .ok (.iload_n 1, 1) := by decide +kernel
theorem dX6_init_146 : decode cX6_init 146 = .ok (.new 50, 3) := by decide +kernel
theorem dX6_init_149 : decode cX6_init 149 = .ok (.dup, 1) := by decide +kernel
theorem dX6_init_150 : decode cX6_init 150 = .ok (.invokespecial 66, 3) := by decide +kernel
theorem dX6_init_153 : decode cX6_init 153 = .ok (.aastore, 1) := by decide +kernel
theorem dX6_init_154 : decode cX6_init 154 = .ok (.iinc 1 1, 3) := by decide +kernel
theorem dX6_init_157 : decode cX6_init 157 = .ok (.goto (-25), 3) := by decide +kernel
theorem dX6_init_160 : decode cX6_init 160 = .ok (.iconst 0, 1) := by decide +kernel
theorem dX6_init_161 : decode cX6_init 161 = .ok (.istore_n 1, 1) := by decide +kernel
theorem dX6_init_162 : decode cX6_init 162 = .ok (.iload_n 1, 1) := by decide +kernel
theorem dX6_init_163 : decode cX6_init 163 = .ok (.aload_n 0, 1) := by decide +kernel
theorem dX6_init_164 : decode cX6_init 164 = .ok (.getfield 58, 3) := by decide +kernel
theorem dX6_init_167 : decode cX6_init 167 = .ok (.arraylength, 1) := by decide +kernel
theorem dX6_init_168 : decode cX6_init 168 = .ok (.if_icmp .ge 22, 3) := by decide +kernel
theorem dX6_init_171 : decode cX6_init 171 = .ok (.aload_n 0, 1) := by decide +kernel
theorem dX6_init_172 : decode cX6_init 172 = .ok (.getfield 58, 3) := by decide +kernel
theorem dX6_init_175 : decode cX6_init 175 = .ok (.iload_n 1, 1) := by decide +kernel
theorem dX6_init_176 : decode cX6_init 176 = .ok (.new 56, 3) := by decide +kernel
theorem dX6_init_179 : decode cX6_init 179 = .ok (.dup, 1) := by decide +kernel
theorem dX6_init_180 : decode cX6_init 180 = .ok (.invokespecial 67, 3) := by decide +kernel
theorem dX6_init_183 : decode cX6_init 183 = .ok (.aastore, 1) := by decide +kernel
theorem dX6_init_184 : decode cX6_init 184 = .ok (.iinc 1 1, 3) := by decide +kernel
theorem dX6_init_187 : decode cX6_init 187 = .ok (.goto (-25), 3) := by decide +kernel
theorem dX6_init_190 : decode cX6_init 190 = .ok (.return_, 1) := by decide +kernel
theorem dX6_feed_0 : decode cX6_feed 0 = .ok (.iload_n 1, 1) := by decide +kernel
theorem dX6_feed_1 : decode cX6_feed 1 = .ok (.iconst 0, 1) := by decide +kernel
theorem dX6_feed_2 : decode cX6_feed 2 = .ok (.bipush 127, 2) := by decide +kernel
theorem dX6_feed_4 : decode cX6_feed 4 = .ok (.invokestatic 68, 3) := by decide +kernel
theorem dX6_feed_7 : decode cX6_feed 7 = .ok (.ifCond .ne 5, 3) := by decide +kernel
theorem dX6_feed_10 : decode cX6_feed 10 = .ok (.iconst (-1), 1) := by decide +kernel
theorem dX6_feed_11 : decode cX6_feed 11 = .ok (.ireturn, 1) := by decide +kernel
theorem dX6_feed_12 : decode cX6_feed 12 = .ok (.aload_n 0, 1) := by decide +kernel
theorem dX6_feed_13 : decode cX6_feed 13 = .ok (.getfield 10, 3) := by decide +kernel
theorem dX6_feed_16 : decode cX6_feed 16 = .ok (.iload_n 1, 1) := by decide +kernel
theorem dX6_feed_17 : decode cX6_feed 17 = .ok (.invokevirtual 72, 3) := by decide +kernel
theorem dX6_feed_20 : decode cX6_feed 20 = .ok (.ifCond .eq 13, 3) := by decide +kernel
theorem dX6_feed_23 : decode cX6_feed 23 = .ok (.aload_n 0, 1) := by decide +kernel
theorem dX6_feed_24 : decode cX6_feed 24 = .ok (.getfield 10, 3) := by decide +kernel
theorem dX6_feed_27 : decode cX6_feed 27 = .ok (.getfield 76, 3) := by decide +kernel
theorem dX6_feed_30 : decode cX6_feed 30 = .ok (.goto 5, 3) := by decide +kernel
theorem dX6_feed_33 : decode cX6_feed 33 = .ok (.bipush (-3), 2) := by decide +kernel
theorem dX6_feed_35 : decode cX6_feed 35 = .ok (.ireturn, 1) := by decide +kernel
theorem dX6_end_0 : decode cX6_end 0 = .ok (.iload_n 1, 1) := by decide +kernel
theorem dX6_end_1 : decode cX6_end 1 = .ok (.iconst 0, 1) := by decide +kernel
theorem dX6_end_2 : decode cX6_end 2 = .ok (.aload_n 0, 1) := by decide +kernel
theorem dX6_end_3 : decode cX6_end 3 = .ok (.getfield 10, 3) := by decide +kernel
theorem dX6_end_6 : decode cX6_end 6 = .ok (.getfield 76, 3) := by decide +kernel
theorem dX6_end_9 : decode cX6_end 9 = .ok (.invokestatic 68, 3) := by decide +kernel
theorem dX6_end_12 : decode cX6_end 12 = .ok (.ifCond .ne 5, 3) := by decide +kernel
theorem dX6_end_15 : decode cX6_end 15 = .ok (.iconst (-1), 1) := by decide +kernel
theorem dX6_end_16 : decode cX6_end 16 = .ok (.ireturn, 1) := by decide +kernel
theorem dX6_end_17 : decode cX6_end 17 = .ok (.aload_n 0, 1) := by decide +kernel
theorem dX6_end_18 : decode cX6_end 18 = .ok (.getfield 10, 3) := by decide +kernel
theorem dX6_end_21 : decode cX6_end 21 = .ok (.getfield 76, 3) := by decide +kernel
theorem dX6_end_24 : decode cX6_end 24 = .ok (.istore_n 2, 1) := by decide +kernel
theorem dX6_end_25 : decode cX6_end 25 = .ok (.aload_n 0, 1) := by decide +kernel
theorem dX6_end_26 : decode cX6_end 26 = .ok (.getfield 10, 3) := by decide +kernel
theorem dX6_end_29 : decode cX6_end 29 = .ok (.iload_n 1, 1) := by decide +kernel
theorem dX6_end_30 : decode cX6_end 30 = .ok (.putfield 76, 3) := by decide +kernel
theorem dX6_end_33 : decode cX6_end 33 = .ok (.iload_n 2, 1) := by decide +kernel
theorem dX6_end_34 : decode cX6_end 34 = .ok (.ireturn, 1) := by decide +kernel
theorem dX6_text_0 : decode cX6_text 0 = .ok (.aload_n 0, 1) := by decide +kernel
theorem dX6_text_1 : decode cX6_text 1 = .ok (.getfield 21, 3) := by decide +kernel
theorem dX6_text_4 : decode cX6_text 4 = .ok (.invokevirtual 79, 3) := by decide +kernel
theorem dX6_text_7 : decode cX6_text 7 = .ok (.istore_n 1, 1) := by decide +kernel
theorem dX6_text_8 : decode cX6_text 8 = .ok (.aload_n 0, 1) := by decide +kernel
theorem dX6_text_9 : decode cX6_text 9 = .ok (.getfield 10, 3) := by decide +kernel
theorem dX6_text_12 : decode cX6_text 12 = .ok (.iconst 0, 1) := by decide +kernel
theorem dX6_text_13 : decode cX6_text 13 = .ok (.putfield 76, 3) := by decide +kernel
theorem dX6_text_16 : decode cX6_text 16 = .ok (.iload_n 1, 1) := by decide +kernel
theorem dX6_text_17 : decode cX6_text 17 = .ok (.ifCond .ne 14, 3) := by decide +kernel
theorem dX6_text_20 : decode cX6_text 20 = .ok (.bipush (-10), 2) := by decide +kernel
theorem dX6_text_22 : decode cX6_text 22 = .ok (.aload_n 0, 1) := by decide +kernel
theorem dX6_text_23 : decode cX6_text 23 = .ok (.getfield 21, 3) := by decide +kernel
theorem dX6_text_26 : decode cX6_text 26 = .ok (.getfield 83, 3) := by decide +kernel
theorem dX6_text_29 : decode cX6_text 29 = .ok (.isub, 1) := by decide +kernel
theorem dX6_text_30 : decode cX6_text 30 = .ok (.ireturn, 1) := by decide +kernel
theorem dX6_text_31 : decode cX6_text 31 = .ok (.aload_n 0, 1) := by decide +kernel
theorem dX6_text_32 : decode cX6_text 32 = .ok (.getfield 28, 3) := by decide +kernel
theorem dX6_text_35 : decode cX6_text 35 = .ok (.aload_n 0, 1) := by decide +kernel
theorem dX6_text_36 : decode cX6_text 36 = .ok (.getfield 21, 3) := by decide +kernel
theorem dX6_text_39 : decode cX6_text 39 = .ok (.getfield 86, 3) := by decide +kernel
theorem dX6_text_42 : decode cX6_text 42 = .ok (.invokevirtual 89, 3) := by decide +kernel
theorem dX6_text_45 : decode cX6_text 45 = .ok (.aload_n 0, 1) := by decide +kernel
theorem dX6_text_46 : decode cX6_text 46 = .ok (.getfield 35, 3) := by decide +kernel
theorem dX6_text_49 : decode cX6_text 49 = .ok (.iconst 0, 1) := by decide +kernel
theorem dX6_text_50 : decode cX6_text 50 = .ok (.putfield 93, 3) := by decide +kernel
theorem dX6_text_53 : decode cX6_text 53 = .ok (.iconst 0, 1) := by decide +kernel
theorem dX6_text_54 : decode cX6_text 54 = .ok (.istore_n 2, 1) := by decide +kernel
theorem dX6_text_55 : decode cX6_text 55 = .ok (.iload_n 2, 1) := by decide +kernel
theorem dX6_text_56 : decode cX6_text 56 = .ok (.aload_n 0, 1) := by decide +kernel
theorem dX6_text_57 : decode cX6_text 57 = .ok (.getfield 52, 3) := by decide +kernel
theorem dX6_text_60 : decode cX6_text 60 = .ok (.arraylength, 1) := by decide +kernel
theorem dX6_text_61 : decode cX6_text 61 = .ok (.if_icmp .ge 19, 3) := by decide +kernel
theorem dX6_text_64 : decode cX6_text 64 = .ok (.aload_n 0, 1) := by decide +kernel
theorem dX6_text_65 : decode cX6_text 65 = .ok (.getfield 52, 3) := by decide +kernel
theorem dX6_text_68 : decode cX6_text 68 = .ok (.iload_n 2, 1) := by decide +kernel
theorem dX6_text_69 : decode cX6_text 69 = .ok (.aaload, 1) := by decide +kernel
theorem dX6_text_70 : decode cX6_text 70 = .ok (.iconst 0, 1) := by decide +kernel
theorem dX6_text_71 : decode cX6_text 71 = .ok (.putfield 96, 3) := by decide +kernel
theorem dX6_text_74 : decode cX6_text 74 = .ok (.iinc 2 1, 3) := by decide +kernel
theorem dX6_text_77 : decode cX6_text 77 = .ok (.goto (-22), 3) := by decide +kernel
theorem dX6_text_80 : decode cX6_text 80 = .ok (.aload_n 0, 1) := by decide +kernel
theorem dX6_text_81 : decode cX6_text 81 = .ok (.getfield 21, 3) := by decide +kernel
theorem dX6_text_84 : decode cX6_text 84 = .ok (.getfield 100, 3) := by decide +kernel
theorem dX6_text_87 : decode cX6_text 87 = .ok (.ireturn, 1) := by decide +kernel
theorem dX6_fault_0 : decode cX6_fault 0 = .ok (.aload_n 0, 1) := by decide +kernel
theorem dX6_fault_1 : decode cX6_fault 1 = .ok (.getfield 21, 3) := by decide +kernel
theorem dX6_fault_4 : decode cX6_fault 4 = .ok (.getfield 103, 3) := by decide +kernel
theorem dX6_fault_7 : decode cX6_fault 7 = .ok (.ireturn, 1) := by decide +kernel
theorem dX6_rule_0 : decode cX6_rule 0 = .ok (.iload_n 1, 1) := by decide +kernel
theorem dX6_rule_1 : decode cX6_rule 1 = .ok (.tableswitch 87 0 5 #[39, 47, 55, 63, 71, 79], 39) := by decide +kernel
theorem dX6_rule_40 : decode cX6_rule 40 = .ok (.aload_n 0, 1) := by decide +kernel
theorem dX6_rule_41 : decode cX6_rule 41 = .ok (.getfield 28, 3) := by decide +kernel
theorem dX6_rule_44 : decode cX6_rule 44 = .ok (.getfield 106, 3) := by decide +kernel
theorem dX6_rule_47 : decode cX6_rule 47 = .ok (.ireturn, 1) := by decide +kernel
theorem dX6_rule_48 : decode cX6_rule 48 = .ok (.aload_n 0, 1) := by decide +kernel
theorem dX6_rule_49 : decode cX6_rule 49 = .ok (.getfield 28, 3) := by decide +kernel
theorem dX6_rule_52 : decode cX6_rule 52 = .ok (.getfield 109, 3) := by decide +kernel
theorem dX6_rule_55 : decode cX6_rule 55 = .ok (.ireturn, 1) := by decide +kernel
theorem dX6_rule_56 : decode cX6_rule 56 = .ok (.aload_n 0, 1) := by decide +kernel
theorem dX6_rule_57 : decode cX6_rule 57 = .ok (.getfield 28, 3) := by decide +kernel
theorem dX6_rule_60 : decode cX6_rule 60 = .ok (.getfield 112, 3) := by decide +kernel
theorem dX6_rule_63 : decode cX6_rule 63 = .ok (.ireturn, 1) := by decide +kernel
theorem dX6_rule_64 : decode cX6_rule 64 = .ok (.aload_n 0, 1) := by decide +kernel
theorem dX6_rule_65 : decode cX6_rule 65 = .ok (.getfield 28, 3) := by decide +kernel
theorem dX6_rule_68 : decode cX6_rule 68 = .ok (.invokevirtual 115, 3) := by decide +kernel
theorem dX6_rule_71 : decode cX6_rule 71 = .ok (.ireturn, 1) := by decide +kernel
theorem dX6_rule_72 : decode cX6_rule 72 = .ok (.aload_n 0, 1) := by decide +kernel
theorem dX6_rule_73 : decode cX6_rule 73 = .ok (.getfield 28, 3) := by decide +kernel
theorem dX6_rule_76 : decode cX6_rule 76 = .ok (.invokevirtual 119, 3) := by decide +kernel
theorem dX6_rule_79 : decode cX6_rule 79 = .ok (.ireturn, 1) := by decide +kernel
theorem dX6_rule_80 : decode cX6_rule 80 = .ok (.aload_n 0, 1) := by decide +kernel
theorem dX6_rule_81 : decode cX6_rule 81 = .ok (.getfield 28, 3) := by decide +kernel
theorem dX6_rule_84 : decode cX6_rule 84 = .ok (.invokevirtual 122, 3) := by decide +kernel
theorem dX6_rule_87 : decode cX6_rule 87 = .ok (.ireturn, 1) := by decide +kernel
theorem dX6_rule_88 : decode cX6_rule 88 = .ok (.iconst (-1), 1) := by decide +kernel
theorem dX6_rule_89 : decode cX6_rule 89 = .ok (.ireturn, 1) := by decide +kernel
theorem dX6_one_0 : decode cX6_one 0 = .ok (.aload_n 0, 1) := by decide +kernel
theorem dX6_one_1 : decode cX6_one 1 = .ok (.getfield 28, 3) := by decide +kernel
theorem dX6_one_4 : decode cX6_one 4 = .ok (.iload_n 1, 1) := by decide +kernel
theorem dX6_one_5 : decode cX6_one 5 = .ok (.invokevirtual 125, 3) := by decide +kernel
theorem dX6_one_8 : decode cX6_one 8 = .ok (.ifCond .ne 5, 3) := by decide +kernel
theorem dX6_one_11 : decode cX6_one 11 = .ok (.iconst (-1), 1) := by decide +kernel
theorem dX6_one_12 : decode cX6_one 12 = .ok (.ireturn, 1) := by decide +kernel
theorem dX6_one_13 : decode cX6_one 13 = .ok (.iload_n 2, 1) := by decide +kernel
theorem dX6_one_14 : decode cX6_one 14 = .ok (.tableswitch 67 0 3 #[30, 40, 49, 58], 30) := by decide +kernel
theorem dX6_one_44 : decode cX6_one 44 = .ok (.aload_n 0, 1) := by decide +kernel
theorem dX6_one_45 : decode cX6_one 45 = .ok (.getfield 28, 3) := by decide +kernel
theorem dX6_one_48 : decode cX6_one 48 = .ok (.getfield 128, 3) := by decide +kernel
theorem dX6_one_51 : decode cX6_one 51 = .ok (.iload_n 1, 1) := by decide +kernel
theorem dX6_one_52 : decode cX6_one 52 = .ok (.iaload, 1) := by decide +kernel
theorem dX6_one_53 : decode cX6_one 53 = .ok (.ireturn, 1) := by decide +kernel
theorem dX6_one_54 : decode cX6_one 54 = .ok (.aload_n 0, 1) := by decide +kernel
theorem dX6_one_55 : decode cX6_one 55 = .ok (.getfield 28, 3) := by decide +kernel
theorem dX6_one_58 : decode cX6_one 58 = .ok (.iload_n 1, 1) := by decide +kernel
theorem dX6_one_59 : decode cX6_one 59 = .ok (.invokevirtual 131, 3) := by decide +kernel
theorem dX6_one_62 : decode cX6_one 62 = .ok (.ireturn, 1) := by decide +kernel
theorem dX6_one_63 : decode cX6_one 63 = .ok (.aload_n 0, 1) := by decide +kernel
theorem dX6_one_64 : decode cX6_one 64 = .ok (.getfield 28, 3) := by decide +kernel
theorem dX6_one_67 : decode cX6_one 67 = .ok (.iload_n 1, 1) := by decide +kernel
theorem dX6_one_68 : decode cX6_one 68 = .ok (.invokevirtual 135, 3) := by decide +kernel
theorem dX6_one_71 : decode cX6_one 71 = .ok (.ireturn, 1) := by decide +kernel
theorem dX6_one_72 : decode cX6_one 72 = .ok (.aload_n 0, 1) := by decide +kernel
theorem dX6_one_73 : decode cX6_one 73 = .ok (.getfield 28, 3) := by decide +kernel
theorem dX6_one_76 : decode cX6_one 76 = .ok (.iload_n 1, 1) := by decide +kernel
theorem dX6_one_77 : decode cX6_one 77 = .ok (.invokevirtual 138, 3) := by decide +kernel
theorem dX6_one_80 : decode cX6_one 80 = .ok (.ireturn, 1) := by decide +kernel
theorem dX6_one_81 : decode cX6_one 81 = .ok (.iconst (-1), 1) := by decide +kernel
theorem dX6_one_82 : decode cX6_one 82 = .ok (.ireturn, 1) := by decide +kernel
theorem dX6_beetle_0 : decode cX6_beetle 0 = .ok (.aload_n 0, 1) := by decide +kernel
theorem dX6_beetle_1 : decode cX6_beetle 1 = .ok (.getfield 28, 3) := by decide +kernel
theorem dX6_beetle_4 : decode cX6_beetle 4 = .ok (.iload_n 1, 1) := by decide +kernel
theorem dX6_beetle_5 : decode cX6_beetle 5 = .ok (.invokevirtual 141, 3) := by decide +kernel
theorem dX6_beetle_8 : decode cX6_beetle 8 = .ok (.ifCond .ne 5, 3) := by decide +kernel
theorem dX6_beetle_11 : decode cX6_beetle 11 = .ok (.iconst (-1), 1) := by decide +kernel
theorem dX6_beetle_12 : decode cX6_beetle 12 = .ok (.ireturn, 1) := by decide +kernel
theorem dX6_beetle_13 : decode cX6_beetle 13 = .ok (.iload_n 2, 1) := by decide +kernel
theorem dX6_beetle_14 : decode cX6_beetle 14 = .ok (.tableswitch 109 0 6 #[42, 52, 62, 72, 81, 91, 100], 42) := by decide +kernel
theorem dX6_beetle_56 : decode cX6_beetle 56 = .ok (.aload_n 0, 1) := by decide +kernel
theorem dX6_beetle_57 : decode cX6_beetle 57 = .ok (.getfield 28, 3) := by decide +kernel
theorem dX6_beetle_60 : decode cX6_beetle 60 = .ok (.getfield 144, 3) := by decide +kernel
theorem dX6_beetle_63 : decode cX6_beetle 63 = .ok (.iload_n 1, 1) := by decide +kernel
theorem dX6_beetle_64 : decode cX6_beetle 64 = .ok (.iaload, 1) := by decide +kernel
theorem dX6_beetle_65 : decode cX6_beetle 65 = .ok (.ireturn, 1) := by decide +kernel
theorem dX6_beetle_66 : decode cX6_beetle 66 = .ok (.aload_n 0, 1) := by decide +kernel
theorem dX6_beetle_67 : decode cX6_beetle 67 = .ok (.getfield 28, 3) := by decide +kernel
theorem dX6_beetle_70 : decode cX6_beetle 70 = .ok (.getfield 147, 3) := by decide +kernel
theorem dX6_beetle_73 : decode cX6_beetle 73 = .ok (.iload_n 1, 1) := by decide +kernel
theorem dX6_beetle_74 : decode cX6_beetle 74 = .ok (.iaload, 1) := by decide +kernel
theorem dX6_beetle_75 : decode cX6_beetle 75 = .ok (.ireturn, 1) := by decide +kernel
theorem dX6_beetle_76 : decode cX6_beetle 76 = .ok (.aload_n 0, 1) := by decide +kernel
theorem dX6_beetle_77 : decode cX6_beetle 77 = .ok (.getfield 28, 3) := by decide +kernel
theorem dX6_beetle_80 : decode cX6_beetle 80 = .ok (.getfield 150, 3) := by decide +kernel
theorem dX6_beetle_83 : decode cX6_beetle 83 = .ok (.iload_n 1, 1) := by decide +kernel
theorem dX6_beetle_84 : decode cX6_beetle 84 = .ok (.iaload, 1) := by decide +kernel
theorem dX6_beetle_85 : decode cX6_beetle 85 = .ok (.ireturn, 1) := by decide +kernel
theorem dX6_beetle_86 : decode cX6_beetle 86 = .ok (.aload_n 0, 1) := by decide +kernel
theorem dX6_beetle_87 : decode cX6_beetle 87 = .ok (.getfield 28, 3) := by decide +kernel
theorem dX6_beetle_90 : decode cX6_beetle 90 = .ok (.iload_n 1, 1) := by decide +kernel
theorem dX6_beetle_91 : decode cX6_beetle 91 = .ok (.invokevirtual 153, 3) := by decide +kernel
theorem dX6_beetle_94 : decode cX6_beetle 94 = .ok (.ireturn, 1) := by decide +kernel
theorem dX6_beetle_95 : decode cX6_beetle 95 = .ok (.aload_n 0, 1) := by decide +kernel
theorem dX6_beetle_96 : decode cX6_beetle 96 = .ok (.getfield 28, 3) := by decide +kernel
theorem dX6_beetle_99 : decode cX6_beetle 99 = .ok (.getfield 156, 3) := by decide +kernel
theorem dX6_beetle_102 : decode cX6_beetle 102 = .ok (.iload_n 1, 1) := by decide +kernel
theorem dX6_beetle_103 : decode cX6_beetle 103 = .ok (.iaload, 1) := by decide +kernel
theorem dX6_beetle_104 : decode cX6_beetle 104 = .ok (.ireturn, 1) := by decide +kernel
theorem dX6_beetle_105 : decode cX6_beetle 105 = .ok (.aload_n 0, 1) := by decide +kernel
theorem dX6_beetle_106 : decode cX6_beetle 106 = .ok (.getfield 28, 3) := by decide +kernel
theorem dX6_beetle_109 : decode cX6_beetle 109 = .ok (.iload_n 1, 1) := by decide +kernel
theorem dX6_beetle_110 : decode cX6_beetle 110 = .ok (.invokevirtual 159, 3) := by decide +kernel
theorem dX6_beetle_113 : decode cX6_beetle 113 = .ok (.ireturn, 1) := by decide +kernel
theorem dX6_beetle_114 : decode cX6_beetle 114 = .ok (.aload_n 0, 1) := by decide +kernel
theorem dX6_beetle_115 : decode cX6_beetle 115 = .ok (.getfield 28, 3) := by decide +kernel
theorem dX6_beetle_118 : decode cX6_beetle 118 = .ok (.iload_n 1, 1) := by decide +kernel
theorem dX6_beetle_119 : decode cX6_beetle 119 = .ok (.invokevirtual 162, 3) := by decide +kernel
theorem dX6_beetle_122 : decode cX6_beetle 122 = .ok (.ireturn, 1) := by decide +kernel
theorem dX6_beetle_123 : decode cX6_beetle 123 = .ok (.iconst (-1), 1) := by decide +kernel
theorem dX6_beetle_124 : decode cX6_beetle 124 = .ok (.ireturn, 1) := by decide +kernel
theorem dX6_wind_0 : decode cX6_wind 0 = .ok (.iload_n 1, 1) := by decide +kernel
theorem dX6_wind_1 : decode cX6_wind 1 = .ok (.iconst 0, 1) := by decide +kernel
theorem dX6_wind_2 : decode cX6_wind 2 = .ok (.iconst 5, 1) := by decide +kernel
theorem dX6_wind_3 : decode cX6_wind 3 = .ok (.invokestatic 68, 3) := by decide +kernel
theorem dX6_wind_6 : decode cX6_wind 6 = .ok (.ifCond .eq 15, 3) := by decide +kernel
theorem dX6_wind_9 : decode cX6_wind 9 = .ok (.aload_n 0, 1) := by decide +kernel
theorem dX6_wind_10 : decode cX6_wind 10 = .ok (.getfield 28, 3) := by decide +kernel
theorem dX6_wind_13 : decode cX6_wind 13 = .ok (.getfield 165, 3) := by decide +kernel
theorem dX6_wind_16 : decode cX6_wind 16 = .ok (.iload_n 1, 1) := by decide +kernel
theorem dX6_wind_17 : decode cX6_wind 17 = .ok (.iaload, 1) := by decide +kernel
theorem dX6_wind_18 : decode cX6_wind 18 = .ok (.goto 4, 3) := by decide +kernel
theorem dX6_wind_21 : decode cX6_wind 21 = .ok (.iconst (-1), 1) := by decide +kernel
theorem dX6_wind_22 : decode cX6_wind 22 = .ok (.ireturn, 1) := by decide +kernel
theorem dX6_meet_0 : decode cX6_meet 0 = .ok (.aload_n 0, 1) := by decide +kernel
theorem dX6_meet_1 : decode cX6_meet 1 = .ok (.getfield 28, 3) := by decide +kernel
theorem dX6_meet_4 : decode cX6_meet 4 = .ok (.iload_n 1, 1) := by decide +kernel
theorem dX6_meet_5 : decode cX6_meet 5 = .ok (.invokevirtual 125, 3) := by decide +kernel
theorem dX6_meet_8 : decode cX6_meet 8 = .ok (.ifCond .eq 19, 3) := by decide +kernel
theorem dX6_meet_11 : decode cX6_meet 11 = .ok (.aload_n 0, 1) := by decide +kernel
theorem dX6_meet_12 : decode cX6_meet 12 = .ok (.getfield 28, 3) := by decide +kernel
theorem dX6_meet_15 : decode cX6_meet 15 = .ok (.iload_n 2, 1) := by decide +kernel
theorem dX6_meet_16 : decode cX6_meet 16 = .ok (.invokevirtual 125, 3) := by decide +kernel
theorem dX6_meet_19 : decode cX6_meet 19 = .ok (.ifCond .eq 8, 3) := by decide +kernel
theorem dX6_meet_22 : decode cX6_meet 22 = .ok (.iload_n 1, 1) := by decide +kernel
theorem dX6_meet_23 : decode cX6_meet 23 = .ok (.iload_n 2, 1) := by decide +kernel
theorem dX6_meet_24 : decode cX6_meet 24 = .ok (.if_icmp .ne 5, 3) := by decide +kernel
theorem dX6_meet_27 : decode cX6_meet 27 = .ok (.iconst (-1), 1) := by decide +kernel
theorem dX6_meet_28 : decode cX6_meet 28 = .ok (.ireturn, 1) := by decide +kernel
theorem dX6_meet_29 : decode cX6_meet 29 = .ok (.aload_n 0, 1) := by decide +kernel
theorem dX6_meet_30 : decode cX6_meet 30 = .ok (.getfield 28, 3) := by decide +kernel
theorem dX6_meet_33 : decode cX6_meet 33 = .ok (.iload_n 1, 1) := by decide +kernel
theorem dX6_meet_34 : decode cX6_meet 34 = .ok (.invokevirtual 135, 3) := by decide +kernel
theorem dX6_meet_37 : decode cX6_meet 37 = .ok (.istore_n 3, 1) := by decide +kernel
theorem dX6_meet_38 : decode cX6_meet 38 = .ok (.aload_n 0, 1) := by decide +kernel
theorem dX6_meet_39 : decode cX6_meet 39 = .ok (.getfield 28, 3) := by decide +kernel
theorem dX6_meet_42 : decode cX6_meet 42 = .ok (.iload_n 2, 1) := by decide +kernel
theorem dX6_meet_43 : decode cX6_meet 43 = .ok (.invokevirtual 135, 3) := by decide +kernel
theorem dX6_meet_46 : decode cX6_meet 46 = .ok (.istore 4, 2) := by decide +kernel
theorem dX6_meet_48 : decode cX6_meet 48 = .ok (.iload_n 3, 1) := by decide +kernel
theorem dX6_meet_49 : decode cX6_meet 49 = .ok (.iload 4, 2) := by decide +kernel
theorem dX6_meet_51 : decode cX6_meet 51 = .ok (.if_icmp .ne 6, 3) := by decide +kernel
theorem dX6_meet_54 : decode cX6_meet 54 = .ok (.bipush (-4), 2) := by decide +kernel
theorem dX6_meet_56 : decode cX6_meet 56 = .ok (.ireturn, 1) := by decide +kernel
theorem dX6_meet_57 : decode cX6_meet 57 = .ok (.iload_n 3, 1) := by decide +kernel
theorem dX6_meet_58 : decode cX6_meet 58 = .ok (.iload 4, 2) := by decide +kernel
theorem dX6_meet_60 : decode cX6_meet 60 = .ok (.if_icmp .ge 7, 3) := by decide +kernel
theorem dX6_meet_63 : decode cX6_meet 63 = .ok (.iload_n 1, 1) := by decide +kernel
theorem dX6_meet_64 : decode cX6_meet 64 = .ok (.goto 4, 3) := by decide +kernel
theorem dX6_meet_67 : decode cX6_meet 67 = .ok (.iload_n 2, 1) := by decide +kernel
theorem dX6_meet_68 : decode cX6_meet 68 = .ok (.ireturn, 1) := by decide +kernel
theorem dX6_alter_0 : decode cX6_alter 0 = .ok (.aload_n 0, 1) := by decide +kernel
theorem dX6_alter_1 : decode cX6_alter 1 = .ok (.getfield 28, 3) := by decide +kernel
theorem dX6_alter_4 : decode cX6_alter 4 = .ok (.iload_n 1, 1) := by decide +kernel
theorem dX6_alter_5 : decode cX6_alter 5 = .ok (.invokevirtual 141, 3) := by decide +kernel
theorem dX6_alter_8 : decode cX6_alter 8 = .ok (.ifCond .ne 5, 3) := by decide +kernel
theorem dX6_alter_11 : decode cX6_alter 11 = .ok (.iconst (-1), 1) := by decide +kernel
theorem dX6_alter_12 : decode cX6_alter 12 = .ok (.ireturn, 1) := by decide +kernel
theorem dX6_alter_13 : decode cX6_alter 13 = .ok (.iload_n 2, 1) := by decide +kernel
theorem dX6_alter_14 : decode cX6_alter 14 = .ok (.ifCond .ne 34, 3) := by decide +kernel
theorem dX6_alter_17 : decode cX6_alter 17 = .ok (.iload_n 3, 1) := by decide +kernel
theorem dX6_alter_18 : decode cX6_alter 18 = .ok (.invokestatic 168, 3) := by decide +kernel
theorem dX6_alter_21 : decode cX6_alter 21 = .ok (.ifCond .eq 27, 3) := by decide +kernel
theorem dX6_alter_24 : decode cX6_alter 24 = .ok (.aload_n 0, 1) := by decide +kernel
theorem dX6_alter_25 : decode cX6_alter 25 = .ok (.getfield 28, 3) := by decide +kernel
theorem dX6_alter_28 : decode cX6_alter 28 = .ok (.getfield 144, 3) := by decide +kernel
theorem dX6_alter_31 : decode cX6_alter 31 = .ok (.iload_n 1, 1) := by decide +kernel
theorem dX6_alter_32 : decode cX6_alter 32 = .ok (.iaload, 1) := by decide +kernel
theorem dX6_alter_33 : decode cX6_alter 33 = .ok (.istore 4, 2) := by decide +kernel
theorem dX6_alter_35 : decode cX6_alter 35 = .ok (.aload_n 0, 1) := by decide +kernel
theorem dX6_alter_36 : decode cX6_alter 36 = .ok (.getfield 28, 3) := by decide +kernel
theorem dX6_alter_39 : decode cX6_alter 39 = .ok (.getfield 144, 3) := by decide +kernel
theorem dX6_alter_42 : decode cX6_alter 42 = .ok (.iload_n 1, 1) := by decide +kernel
theorem dX6_alter_43 : decode cX6_alter 43 = .ok (.iload_n 3, 1) := by decide +kernel
theorem dX6_alter_44 : decode cX6_alter 44 = .ok (.iastore, 1) := by decide +kernel
theorem dX6_alter_45 : decode cX6_alter 45 = .ok (.goto 84, 3) := by decide +kernel
theorem dX6_alter_48 : decode cX6_alter 48 = .ok (.iload_n 2, 1) := by decide +kernel
theorem dX6_alter_49 : decode cX6_alter 49 = .ok (.iconst 1, 1) := by decide +kernel
theorem dX6_alter_50 : decode cX6_alter 50 = .ok (.if_icmp .ne 37, 3) := by decide +kernel
theorem dX6_alter_53 : decode cX6_alter 53 = .ok (.iload_n 3, 1) := by decide +kernel
theorem dX6_alter_54 : decode cX6_alter 54 = .ok (.iconst 1, 1) := by decide +kernel
theorem dX6_alter_55 : decode cX6_alter 55 = .ok (.bipush 9, 2) := by decide +kernel
theorem dX6_alter_57 : decode cX6_alter 57 = .ok (.invokestatic 68, 3) := by decide +kernel
theorem dX6_alter_60 : decode cX6_alter 60 = .ok (.ifCond .eq 27, 3) := by decide +kernel
theorem dX6_alter_63 : decode cX6_alter 63 = .ok (.aload_n 0, 1) := by decide +kernel
theorem dX6_alter_64 : decode cX6_alter 64 = .ok (.getfield 28, 3) := by decide +kernel
theorem dX6_alter_67 : decode cX6_alter 67 = .ok (.getfield 147, 3) := by decide +kernel
theorem dX6_alter_70 : decode cX6_alter 70 = .ok (.iload_n 1, 1) := by decide +kernel
theorem dX6_alter_71 : decode cX6_alter 71 = .ok (.iaload, 1) := by decide +kernel
theorem dX6_alter_72 : decode cX6_alter 72 = .ok (.istore 4, 2) := by decide +kernel
theorem dX6_alter_74 : decode cX6_alter 74 = .ok (.aload_n 0, 1) := by decide +kernel
theorem dX6_alter_75 : decode cX6_alter 75 = .ok (.getfield 28, 3) := by decide +kernel
theorem dX6_alter_78 : decode cX6_alter 78 = .ok (.getfield 147, 3) := by decide +kernel
theorem dX6_alter_81 : decode cX6_alter 81 = .ok (.iload_n 1, 1) := by decide +kernel
theorem dX6_alter_82 : decode cX6_alter 82 = .ok (.iload_n 3, 1) := by decide +kernel
theorem dX6_alter_83 : decode cX6_alter 83 = .ok (.iastore, 1) := by decide +kernel
theorem dX6_alter_84 : decode cX6_alter 84 = .ok (.goto 45, 3) := by decide +kernel
theorem dX6_alter_87 : decode cX6_alter 87 = .ok (.iload_n 2, 1) := by decide +kernel
theorem dX6_alter_88 : decode cX6_alter 88 = .ok (.iconst 2, 1) := by decide +kernel
theorem dX6_alter_89 : decode cX6_alter 89 = .ok (.if_icmp .ne 38, 3) := by decide +kernel
theorem dX6_alter_92 : decode cX6_alter 92 = .ok (.aload_n 0, 1) := by decide +kernel
theorem dX6_alter_93 : decode cX6_alter 93 = .ok (.getfield 28, 3) := by decide +kernel
theorem dX6_alter_96 : decode cX6_alter 96 = .ok (.iload_n 3, 1) := by decide +kernel
theorem dX6_alter_97 : decode cX6_alter 97 = .ok (.invokevirtual 125, 3) := by decide +kernel
theorem dX6_alter_100 : decode cX6_alter 100 = .ok (.ifCond .eq 27, 3) := by decide +kernel
theorem dX6_alter_103 : decode cX6_alter 103 = .ok (.aload_n 0, 1) := by decide +kernel
theorem dX6_alter_104 : decode cX6_alter 104 = .ok (.getfield 28, 3) := by decide +kernel
theorem dX6_alter_107 : decode cX6_alter 107 = .ok (.getfield 150, 3) := by decide +kernel
theorem dX6_alter_110 : decode cX6_alter 110 = .ok (.iload_n 1, 1) := by decide +kernel
theorem dX6_alter_111 : decode cX6_alter 111 = .ok (.iaload, 1) := by decide +kernel
theorem dX6_alter_112 : decode cX6_alter 112 = .ok (.istore 4, 2) := by decide +kernel
theorem dX6_alter_114 : decode cX6_alter 114 = .ok (.aload_n 0, 1) := by decide +kernel
theorem dX6_alter_115 : decode cX6_alter 115 = .ok (.getfield 28, 3) := by decide +kernel
theorem dX6_alter_118 : decode cX6_alter 118 = .ok (.getfield 150, 3) := by decide +kernel
theorem dX6_alter_121 : decode cX6_alter 121 = .ok (.iload_n 1, 1) := by decide +kernel
theorem dX6_alter_122 : decode cX6_alter 122 = .ok (.iload_n 3, 1) := by decide +kernel
theorem dX6_alter_123 : decode cX6_alter 123 = .ok (.iastore, 1) := by decide +kernel
theorem dX6_alter_124 : decode cX6_alter 124 = .ok (.goto 5, 3) := by decide +kernel
theorem dX6_alter_127 : decode cX6_alter 127 = .ok (.iconst (-1), 1) := by decide +kernel
theorem dX6_alter_128 : decode cX6_alter 128 = .ok (.ireturn, 1) := by decide +kernel
theorem dX6_alter_129 : decode cX6_alter 129 = .ok (.iload 4, 2) := by decide +kernel
theorem dX6_alter_131 : decode cX6_alter 131 = .ok (.ireturn, 1) := by decide +kernel
theorem dX6_walk_0 : decode cX6_walk 0 = .ok (.aload_n 0, 1) := by decide +kernel
theorem dX6_walk_1 : decode cX6_walk 1 = .ok (.getfield 28, 3) := by decide +kernel
theorem dX6_walk_4 : decode cX6_walk 4 = .ok (.iload_n 1, 1) := by decide +kernel
theorem dX6_walk_5 : decode cX6_walk 5 = .ok (.invokevirtual 125, 3) := by decide +kernel
theorem dX6_walk_8 : decode cX6_walk 8 = .ok (.ifCond .eq 13, 3) := by decide +kernel
theorem dX6_walk_11 : decode cX6_walk 11 = .ok (.iload_n 2, 1) := by decide +kernel
theorem dX6_walk_12 : decode cX6_walk 12 = .ok (.iconst 0, 1) := by decide +kernel
theorem dX6_walk_13 : decode cX6_walk 13 = .ok (.bipush 9, 2) := by decide +kernel
theorem dX6_walk_15 : decode cX6_walk 15 = .ok (.invokestatic 68, 3) := by decide +kernel
theorem dX6_walk_18 : decode cX6_walk 18 = .ok (.ifCond .ne 5, 3) := by decide +kernel
theorem dX6_walk_21 : decode cX6_walk 21 = .ok (.iconst (-1), 1) := by decide +kernel
theorem dX6_walk_22 : decode cX6_walk 22 = .ok (.ireturn, 1) := by decide +kernel
theorem dX6_walk_23 : decode cX6_walk 23 = .ok (.aload_n 0, 1) := by decide +kernel
theorem dX6_walk_24 : decode cX6_walk 24 = .ok (.getfield 28, 3) := by decide +kernel
theorem dX6_walk_27 : decode cX6_walk 27 = .ok (.getfield 128, 3) := by decide +kernel
theorem dX6_walk_30 : decode cX6_walk 30 = .ok (.iload_n 1, 1) := by decide +kernel
theorem dX6_walk_31 : decode cX6_walk 31 = .ok (.iaload, 1) := by decide +kernel
theorem dX6_walk_32 : decode cX6_walk 32 = .ok (.istore_n 3, 1) := by decide +kernel
theorem dX6_walk_33 : decode cX6_walk 33 = .ok (.aload_n 0, 1) := by decide +kernel
theorem dX6_walk_34 : decode cX6_walk 34 = .ok (.getfield 28, 3) := by decide +kernel
theorem dX6_walk_37 : decode cX6_walk 37 = .ok (.getfield 128, 3) := by decide +kernel
theorem dX6_walk_40 : decode cX6_walk 40 = .ok (.iload_n 1, 1) := by decide +kernel
theorem dX6_walk_41 : decode cX6_walk 41 = .ok (.iload_n 2, 1) := by decide +kernel
theorem dX6_walk_42 : decode cX6_walk 42 = .ok (.iastore, 1) := by decide +kernel
theorem dX6_walk_43 : decode cX6_walk 43 = .ok (.iload_n 3, 1) := by decide +kernel
theorem dX6_walk_44 : decode cX6_walk 44 = .ok (.ireturn, 1) := by decide +kernel
theorem dX6_blow_0 : decode cX6_blow 0 = .ok (.iload_n 1, 1) := by decide +kernel
theorem dX6_blow_1 : decode cX6_blow 1 = .ok (.iconst 0, 1) := by decide +kernel
theorem dX6_blow_2 : decode cX6_blow 2 = .ok (.iconst 5, 1) := by decide +kernel
theorem dX6_blow_3 : decode cX6_blow 3 = .ok (.invokestatic 68, 3) := by decide +kernel
theorem dX6_blow_6 : decode cX6_blow 6 = .ok (.ifCond .eq 13, 3) := by decide +kernel
theorem dX6_blow_9 : decode cX6_blow 9 = .ok (.iload_n 2, 1) := by decide +kernel
theorem dX6_blow_10 : decode cX6_blow 10 = .ok (.iconst 0, 1) := by decide +kernel
theorem dX6_blow_11 : decode cX6_blow 11 = .ok (.bipush 9, 2) := by decide +kernel
theorem dX6_blow_13 : decode cX6_blow 13 = .ok (.invokestatic 68, 3) := by decide +kernel
theorem dX6_blow_16 : decode cX6_blow 16 = .ok (.ifCond .ne 5, 3) := by decide +kernel
theorem dX6_blow_19 : decode cX6_blow 19 = .ok (.iconst (-1), 1) := by decide +kernel
theorem dX6_blow_20 : decode cX6_blow 20 = .ok (.ireturn, 1) := by decide +kernel
theorem dX6_blow_21 : decode cX6_blow 21 = .ok (.aload_n 0, 1) := by decide +kernel
theorem dX6_blow_22 : decode cX6_blow 22 = .ok (.getfield 28, 3) := by decide +kernel
theorem dX6_blow_25 : decode cX6_blow 25 = .ok (.getfield 165, 3) := by decide +kernel
theorem dX6_blow_28 : decode cX6_blow 28 = .ok (.iload_n 1, 1) := by decide +kernel
theorem dX6_blow_29 : decode cX6_blow 29 = .ok (.iaload, 1) := by decide +kernel
theorem dX6_blow_30 : decode cX6_blow 30 = .ok (.istore_n 3, 1) := by decide +kernel
theorem dX6_blow_31 : decode cX6_blow 31 = .ok (.aload_n 0, 1) := by decide +kernel
theorem dX6_blow_32 : decode cX6_blow 32 = .ok (.getfield 28, 3) := by decide +kernel
theorem dX6_blow_35 : decode cX6_blow 35 = .ok (.getfield 165, 3) := by decide +kernel
theorem dX6_blow_38 : decode cX6_blow 38 = .ok (.iload_n 1, 1) := by decide +kernel
theorem dX6_blow_39 : decode cX6_blow 39 = .ok (.iload_n 2, 1) := by decide +kernel
theorem dX6_blow_40 : decode cX6_blow 40 = .ok (.iastore, 1) := by decide +kernel
theorem dX6_blow_41 : decode cX6_blow 41 = .ok (.iload_n 3, 1) := by decide +kernel
theorem dX6_blow_42 : decode cX6_blow 42 = .ok (.ireturn, 1) := by decide +kernel
theorem dX6_dab_0 : decode cX6_dab 0 = .ok (.aload_n 0, 1) := by decide +kernel
theorem dX6_dab_1 : decode cX6_dab 1 = .ok (.getfield 28, 3) := by decide +kernel
theorem dX6_dab_4 : decode cX6_dab 4 = .ok (.iload_n 1, 1) := by decide +kernel
theorem dX6_dab_5 : decode cX6_dab 5 = .ok (.iload_n 2, 1) := by decide +kernel
theorem dX6_dab_6 : decode cX6_dab 6 = .ok (.iload_n 3, 1) := by decide +kernel
theorem dX6_dab_7 : decode cX6_dab 7 = .ok (.invokevirtual 171, 3) := by decide +kernel
theorem dX6_dab_10 : decode cX6_dab 10 = .ok (.ireturn, 1) := by decide +kernel
theorem dX6_lift_0 : decode cX6_lift 0 = .ok (.aload_n 0, 1) := by decide +kernel
theorem dX6_lift_1 : decode cX6_lift 1 = .ok (.getfield 28, 3) := by decide +kernel
theorem dX6_lift_4 : decode cX6_lift 4 = .ok (.iload_n 1, 1) := by decide +kernel
theorem dX6_lift_5 : decode cX6_lift 5 = .ok (.invokevirtual 141, 3) := by decide +kernel
theorem dX6_lift_8 : decode cX6_lift 8 = .ok (.ifCond .eq 13, 3) := by decide +kernel
theorem dX6_lift_11 : decode cX6_lift 11 = .ok (.iload_n 2, 1) := by decide +kernel
theorem dX6_lift_12 : decode cX6_lift 12 = .ok (.iconst 0, 1) := by decide +kernel
theorem dX6_lift_13 : decode cX6_lift 13 = .ok (.bipush 9, 2) := by decide +kernel
theorem dX6_lift_15 : decode cX6_lift 15 = .ok (.invokestatic 68, 3) := by decide +kernel
theorem dX6_lift_18 : decode cX6_lift 18 = .ok (.ifCond .ne 5, 3) := by decide +kernel
theorem dX6_lift_21 : decode cX6_lift 21 = .ok (.iconst (-1), 1) := by decide +kernel
theorem dX6_lift_22 : decode cX6_lift 22 = .ok (.ireturn, 1) := by decide +kernel
theorem dX6_lift_23 : decode cX6_lift 23 = .ok (.aload_n 0, 1) := by decide +kernel
theorem dX6_lift_24 : decode cX6_lift 24 = .ok (.getfield 28, 3) := by decide +kernel
theorem dX6_lift_27 : decode cX6_lift 27 = .ok (.iload_n 1, 1) := by decide +kernel
theorem dX6_lift_28 : decode cX6_lift 28 = .ok (.invokevirtual 175, 3) := by decide +kernel
theorem dX6_lift_31 : decode cX6_lift 31 = .ok (.ifCond .ne 6, 3) := by decide +kernel
theorem dX6_lift_34 : decode cX6_lift 34 = .ok (.bipush (-2), 2) := by decide +kernel
theorem dX6_lift_36 : decode cX6_lift 36 = .ok (.ireturn, 1) := by decide +kernel
theorem dX6_lift_37 : decode cX6_lift 37 = .ok (.aload_n 0, 1) := by decide +kernel
theorem dX6_lift_38 : decode cX6_lift 38 = .ok (.getfield 28, 3) := by decide +kernel
theorem dX6_lift_41 : decode cX6_lift 41 = .ok (.getfield 156, 3) := by decide +kernel
theorem dX6_lift_44 : decode cX6_lift 44 = .ok (.iload_n 1, 1) := by decide +kernel
theorem dX6_lift_45 : decode cX6_lift 45 = .ok (.iaload, 1) := by decide +kernel
theorem dX6_lift_46 : decode cX6_lift 46 = .ok (.istore_n 3, 1) := by decide +kernel
theorem dX6_lift_47 : decode cX6_lift 47 = .ok (.aload_n 0, 1) := by decide +kernel
theorem dX6_lift_48 : decode cX6_lift 48 = .ok (.getfield 28, 3) := by decide +kernel
theorem dX6_lift_51 : decode cX6_lift 51 = .ok (.iload_n 1, 1) := by decide +kernel
theorem dX6_lift_52 : decode cX6_lift 52 = .ok (.iload_n 2, 1) := by decide +kernel
theorem dX6_lift_53 : decode cX6_lift 53 = .ok (.invokevirtual 178, 3) := by decide +kernel
theorem dX6_lift_56 : decode cX6_lift 56 = .ok (.iload_n 3, 1) := by decide +kernel
theorem dX6_lift_57 : decode cX6_lift 57 = .ok (.ireturn, 1) := by decide +kernel
theorem dX6_days_0 : decode cX6_days 0 = .ok (.iload_n 1, 1) := by decide +kernel
theorem dX6_days_1 : decode cX6_days 1 = .ok (.iconst 0, 1) := by decide +kernel
theorem dX6_days_2 : decode cX6_days 2 = .ok (.bipush 30, 2) := by decide +kernel
theorem dX6_days_4 : decode cX6_days 4 = .ok (.invokestatic 68, 3) := by decide +kernel
theorem dX6_days_7 : decode cX6_days 7 = .ok (.ifCond .ne 5, 3) := by decide +kernel
theorem dX6_days_10 : decode cX6_days 10 = .ok (.iconst (-1), 1) := by decide +kernel
theorem dX6_days_11 : decode cX6_days 11 = .ok (.ireturn, 1) := by decide +kernel
theorem dX6_days_12 : decode cX6_days 12 = .ok (.aload_n 0, 1) := by decide +kernel
theorem dX6_days_13 : decode cX6_days 13 = .ok (.getfield 28, 3) := by decide +kernel
theorem dX6_days_16 : decode cX6_days 16 = .ok (.getfield 112, 3) := by decide +kernel
theorem dX6_days_19 : decode cX6_days 19 = .ok (.iload_n 1, 1) := by decide +kernel
theorem dX6_days_20 : decode cX6_days 20 = .ok (.iadd, 1) := by decide +kernel
theorem dX6_days_21 : decode cX6_days 21 = .ok (.sipush 1000, 3) := by decide +kernel
theorem dX6_days_24 : decode cX6_days 24 = .ok (.if_icmp .lt 6, 3) := by decide +kernel
theorem dX6_days_27 : decode cX6_days 27 = .ok (.bipush (-3), 2) := by decide +kernel
theorem dX6_days_29 : decode cX6_days 29 = .ok (.ireturn, 1) := by decide +kernel
theorem dX6_days_30 : decode cX6_days 30 = .ok (.aload_n 0, 1) := by decide +kernel
theorem dX6_days_31 : decode cX6_days 31 = .ok (.getfield 28, 3) := by decide +kernel
theorem dX6_days_34 : decode cX6_days 34 = .ok (.iconst 0, 1) := by decide +kernel
theorem dX6_days_35 : decode cX6_days 35 = .ok (.putfield 182, 3) := by decide +kernel
theorem dX6_days_38 : decode cX6_days 38 = .ok (.aload_n 0, 1) := by decide +kernel
theorem dX6_days_39 : decode cX6_days 39 = .ok (.getfield 28, 3) := by decide +kernel
theorem dX6_days_42 : decode cX6_days 42 = .ok (.iload_n 1, 1) := by decide +kernel
theorem dX6_days_43 : decode cX6_days 43 = .ok (.invokevirtual 185, 3) := by decide +kernel
theorem dX6_days_46 : decode cX6_days 46 = .ok (.aload_n 0, 1) := by decide +kernel
theorem dX6_days_47 : decode cX6_days 47 = .ok (.getfield 28, 3) := by decide +kernel
theorem dX6_days_50 : decode cX6_days 50 = .ok (.getfield 182, 3) := by decide +kernel
theorem dX6_days_53 : decode cX6_days 53 = .ok (.ireturn, 1) := by decide +kernel
theorem dX6_runs_0 : decode cX6_runs 0 = .ok (.iload_n 1, 1) := by decide +kernel
theorem dX6_runs_1 : decode cX6_runs 1 = .ok (.iconst 0, 1) := by decide +kernel
theorem dX6_runs_2 : decode cX6_runs 2 = .ok (.bipush 60, 2) := by decide +kernel
theorem dX6_runs_4 : decode cX6_runs 4 = .ok (.invokestatic 68, 3) := by decide +kernel
theorem dX6_runs_7 : decode cX6_runs 7 = .ok (.ifCond .eq 12, 3) := by decide +kernel
theorem dX6_runs_10 : decode cX6_runs 10 = .ok (.iload_n 2, 1) := by decide +kernel
theorem dX6_runs_11 : decode cX6_runs 11 = .ok (.iconst 0, 1) := by decide +kernel
theorem dX6_runs_12 : decode cX6_runs 12 = .ok (.iconst 3, 1) := by decide +kernel
theorem dX6_runs_13 : decode cX6_runs 13 = .ok (.invokestatic 68, 3) := by decide +kernel
theorem dX6_runs_16 : decode cX6_runs 16 = .ok (.ifCond .ne 5, 3) := by decide +kernel
theorem dX6_runs_19 : decode cX6_runs 19 = .ok (.iconst (-1), 1) := by decide +kernel
theorem dX6_runs_20 : decode cX6_runs 20 = .ok (.ireturn, 1) := by decide +kernel
theorem dX6_runs_21 : decode cX6_runs 21 = .ok (.aload_n 0, 1) := by decide +kernel
theorem dX6_runs_22 : decode cX6_runs 22 = .ok (.getfield 39, 3) := by decide +kernel
theorem dX6_runs_25 : decode cX6_runs 25 = .ok (.aload_n 0, 1) := by decide +kernel
theorem dX6_runs_26 : decode cX6_runs 26 = .ok (.getfield 28, 3) := by decide +kernel
theorem dX6_runs_29 : decode cX6_runs 29 = .ok (.invokevirtual 89, 3) := by decide +kernel
theorem dX6_runs_32 : decode cX6_runs 32 = .ok (.iload_n 2, 1) := by decide +kernel
theorem dX6_runs_33 : decode cX6_runs 33 = .ok (.iconst 3, 1) := by decide +kernel
theorem dX6_runs_34 : decode cX6_runs 34 = .ok (.if_icmp .ne 12, 3) := by decide +kernel
theorem dX6_runs_37 : decode cX6_runs 37 = .ok (.aload_n 0, 1) := by decide +kernel
theorem dX6_runs_38 : decode cX6_runs 38 = .ok (.getfield 39, 3) := by decide +kernel
theorem dX6_runs_41 : decode cX6_runs 41 = .ok (.iload_n 1, 1) := by decide +kernel
theorem dX6_runs_42 : decode cX6_runs 42 = .ok (.invokevirtual 189, 3) := by decide +kernel
theorem dX6_runs_45 : decode cX6_runs 45 = .ok (.ireturn, 1) := by decide +kernel
theorem dX6_runs_46 : decode cX6_runs 46 = .ok (.aload_n 0, 1) := by decide +kernel
theorem dX6_runs_47 : decode cX6_runs 47 = .ok (.getfield 39, 3) := by decide +kernel
theorem dX6_runs_50 : decode cX6_runs 50 = .ok (.iload_n 1, 1) := by decide +kernel
theorem dX6_runs_51 : decode cX6_runs 51 = .ok (.invokevirtual 185, 3) := by decide +kernel
theorem dX6_runs_54 : decode cX6_runs 54 = .ok (.iload_n 2, 1) := by decide +kernel
theorem dX6_runs_55 : decode cX6_runs 55 = .ok (.ifCond .ne 11, 3) := by decide +kernel
theorem dX6_runs_58 : decode cX6_runs 58 = .ok (.aload_n 0, 1) := by decide +kernel
theorem dX6_runs_59 : decode cX6_runs 59 = .ok (.getfield 39, 3) := by decide +kernel
theorem dX6_runs_62 : decode cX6_runs 62 = .ok (.invokevirtual 115, 3) := by decide +kernel
theorem dX6_runs_65 : decode cX6_runs 65 = .ok (.ireturn, 1) := by decide +kernel
theorem dX6_runs_66 : decode cX6_runs 66 = .ok (.iload_n 2, 1) := by decide +kernel
theorem dX6_runs_67 : decode cX6_runs 67 = .ok (.iconst 1, 1) := by decide +kernel
theorem dX6_runs_68 : decode cX6_runs 68 = .ok (.if_icmp .ne 13, 3) := by decide +kernel
theorem dX6_runs_71 : decode cX6_runs 71 = .ok (.aload_n 0, 1) := by decide +kernel
theorem dX6_runs_72 : decode cX6_runs 72 = .ok (.getfield 39, 3) := by decide +kernel
theorem dX6_runs_75 : decode cX6_runs 75 = .ok (.invokevirtual 119, 3) := by decide +kernel
theorem dX6_runs_78 : decode cX6_runs 78 = .ok (.goto 10, 3) := by decide +kernel
theorem dX6_runs_81 : decode cX6_runs 81 = .ok (.aload_n 0, 1) := by decide +kernel
theorem dX6_runs_82 : decode cX6_runs 82 = .ok (.getfield 39, 3) := by decide +kernel
theorem dX6_runs_85 : decode cX6_runs 85 = .ok (.getfield 192, 3) := by decide +kernel
theorem dX6_runs_88 : decode cX6_runs 88 = .ok (.ireturn, 1) := by decide +kernel
theorem dX6_ahead_0 : decode cX6_ahead 0 = .ok (.aload_n 0, 1) := by decide +kernel
theorem dX6_ahead_1 : decode cX6_ahead 1 = .ok (.getfield 28, 3) := by decide +kernel
theorem dX6_ahead_4 : decode cX6_ahead 4 = .ok (.iload_n 1, 1) := by decide +kernel
theorem dX6_ahead_5 : decode cX6_ahead 5 = .ok (.invokevirtual 125, 3) := by decide +kernel
theorem dX6_ahead_8 : decode cX6_ahead 8 = .ok (.ifCond .eq 13, 3) := by decide +kernel
theorem dX6_ahead_11 : decode cX6_ahead 11 = .ok (.iload_n 2, 1) := by decide +kernel
theorem dX6_ahead_12 : decode cX6_ahead 12 = .ok (.iconst 0, 1) := by decide +kernel
theorem dX6_ahead_13 : decode cX6_ahead 13 = .ok (.bipush 60, 2) := by decide +kernel
theorem dX6_ahead_15 : decode cX6_ahead 15 = .ok (.invokestatic 68, 3) := by decide +kernel
theorem dX6_ahead_18 : decode cX6_ahead 18 = .ok (.ifCond .ne 5, 3) := by decide +kernel
theorem dX6_ahead_21 : decode cX6_ahead 21 = .ok (.iconst (-1), 1) := by decide +kernel
theorem dX6_ahead_22 : decode cX6_ahead 22 = .ok (.ireturn, 1) := by decide +kernel
theorem dX6_ahead_23 : decode cX6_ahead 23 = .ok (.aload_n 0, 1) := by decide +kernel
theorem dX6_ahead_24 : decode cX6_ahead 24 = .ok (.getfield 39, 3) := by decide +kernel
theorem dX6_ahead_27 : decode cX6_ahead 27 = .ok (.aload_n 0, 1) := by decide +kernel
theorem dX6_ahead_28 : decode cX6_ahead 28 = .ok (.getfield 28, 3) := by decide +kernel
theorem dX6_ahead_31 : decode cX6_ahead 31 = .ok (.invokevirtual 89, 3) := by decide +kernel
theorem dX6_ahead_34 : decode cX6_ahead 34 = .ok (.aload_n 0, 1) := by decide +kernel
theorem dX6_ahead_35 : decode cX6_ahead 35 = .ok (.getfield 39, 3) := by decide +kernel
theorem dX6_ahead_38 : decode cX6_ahead 38 = .ok (.iload_n 2, 1) := by decide +kernel
theorem dX6_ahead_39 : decode cX6_ahead 39 = .ok (.invokevirtual 185, 3) := by decide +kernel
theorem dX6_ahead_42 : decode cX6_ahead 42 = .ok (.aload_n 0, 1) := by decide +kernel
theorem dX6_ahead_43 : decode cX6_ahead 43 = .ok (.getfield 39, 3) := by decide +kernel
theorem dX6_ahead_46 : decode cX6_ahead 46 = .ok (.iload_n 1, 1) := by decide +kernel
theorem dX6_ahead_47 : decode cX6_ahead 47 = .ok (.invokevirtual 135, 3) := by decide +kernel
theorem dX6_ahead_50 : decode cX6_ahead 50 = .ok (.ireturn, 1) := by decide +kernel
theorem dX6_where_0 : decode cX6_where 0 = .ok (.aload_n 0, 1) := by decide +kernel
theorem dX6_where_1 : decode cX6_where 1 = .ok (.getfield 28, 3) := by decide +kernel
theorem dX6_where_4 : decode cX6_where 4 = .ok (.iload_n 1, 1) := by decide +kernel
theorem dX6_where_5 : decode cX6_where 5 = .ok (.invokevirtual 141, 3) := by decide +kernel
theorem dX6_where_8 : decode cX6_where 8 = .ok (.ifCond .eq 13, 3) := by decide +kernel
theorem dX6_where_11 : decode cX6_where 11 = .ok (.iload_n 2, 1) := by decide +kernel
theorem dX6_where_12 : decode cX6_where 12 = .ok (.iconst 0, 1) := by decide +kernel
theorem dX6_where_13 : decode cX6_where 13 = .ok (.bipush 60, 2) := by decide +kernel
theorem dX6_where_15 : decode cX6_where 15 = .ok (.invokestatic 68, 3) := by decide +kernel
theorem dX6_where_18 : decode cX6_where 18 = .ok (.ifCond .ne 5, 3) := by decide +kernel
theorem dX6_where_21 : decode cX6_where 21 = .ok (.iconst (-1), 1) := by decide +kernel
theorem dX6_where_22 : decode cX6_where 22 = .ok (.ireturn, 1) := by decide +kernel
theorem dX6_where_23 : decode cX6_where 23 = .ok (.aload_n 0, 1) := by decide +kernel
theorem dX6_where_24 : decode cX6_where 24 = .ok (.getfield 39, 3) := by decide +kernel
theorem dX6_where_27 : decode cX6_where 27 = .ok (.aload_n 0, 1) := by decide +kernel
theorem dX6_where_28 : decode cX6_where 28 = .ok (.getfield 28, 3) := by decide +kernel
theorem dX6_where_31 : decode cX6_where 31 = .ok (.invokevirtual 89, 3) := by decide +kernel
theorem dX6_where_34 : decode cX6_where 34 = .ok (.aload_n 0, 1) := by decide +kernel
theorem dX6_where_35 : decode cX6_where 35 = .ok (.getfield 39, 3) := by decide +kernel
theorem dX6_where_38 : decode cX6_where 38 = .ok (.iload_n 2, 1) := by decide +kernel
theorem dX6_where_39 : decode cX6_where 39 = .ok (.invokevirtual 185, 3) := by decide +kernel
theorem dX6_where_42 : decode cX6_where 42 = .ok (.aload_n 0, 1) := by decide +kernel
theorem dX6_where_43 : decode cX6_where 43 = .ok (.getfield 39, 3) := by decide +kernel
theorem dX6_where_46 : decode cX6_where 46 = .ok (.iload_n 1, 1) := by decide +kernel
theorem dX6_where_47 : decode cX6_where 47 = .ok (.invokevirtual 175, 3) := by decide +kernel
theorem dX6_where_50 : decode cX6_where 50 = .ok (.ifCond .eq 15, 3) := by decide +kernel
theorem dX6_where_53 : decode cX6_where 53 = .ok (.aload_n 0, 1) := by decide +kernel
theorem dX6_where_54 : decode cX6_where 54 = .ok (.getfield 39, 3) := by decide +kernel
theorem dX6_where_57 : decode cX6_where 57 = .ok (.getfield 156, 3) := by decide +kernel
theorem dX6_where_60 : decode cX6_where 60 = .ok (.iload_n 1, 1) := by decide +kernel
theorem dX6_where_61 : decode cX6_where 61 = .ok (.iaload, 1) := by decide +kernel
theorem dX6_where_62 : decode cX6_where 62 = .ok (.goto 14, 3) := by decide +kernel
theorem dX6_where_65 : decode cX6_where 65 = .ok (.bipush (-10), 2) := by decide +kernel
theorem dX6_where_67 : decode cX6_where 67 = .ok (.aload_n 0, 1) := by decide +kernel
theorem dX6_where_68 : decode cX6_where 68 = .ok (.getfield 39, 3) := by decide +kernel
theorem dX6_where_71 : decode cX6_where 71 = .ok (.iload_n 1, 1) := by decide +kernel
theorem dX6_where_72 : decode cX6_where 72 = .ok (.invokevirtual 153, 3) := by decide +kernel
theorem dX6_where_75 : decode cX6_where 75 = .ok (.isub, 1) := by decide +kernel
theorem dX6_where_76 : decode cX6_where 76 = .ok (.ireturn, 1) := by decide +kernel
theorem dX6_home_0 : decode cX6_home 0 = .ok (.aload_n 0, 1) := by decide +kernel
theorem dX6_home_1 : decode cX6_home 1 = .ok (.getfield 28, 3) := by decide +kernel
theorem dX6_home_4 : decode cX6_home 4 = .ok (.iload_n 1, 1) := by decide +kernel
theorem dX6_home_5 : decode cX6_home 5 = .ok (.invokevirtual 141, 3) := by decide +kernel
theorem dX6_home_8 : decode cX6_home 8 = .ok (.ifCond .ne 5, 3) := by decide +kernel
theorem dX6_home_11 : decode cX6_home 11 = .ok (.iconst (-1), 1) := by decide +kernel
theorem dX6_home_12 : decode cX6_home 12 = .ok (.ireturn, 1) := by decide +kernel
theorem dX6_home_13 : decode cX6_home 13 = .ok (.aload_n 0, 1) := by decide +kernel
theorem dX6_home_14 : decode cX6_home 14 = .ok (.getfield 39, 3) := by decide +kernel
theorem dX6_home_17 : decode cX6_home 17 = .ok (.aload_n 0, 1) := by decide +kernel
theorem dX6_home_18 : decode cX6_home 18 = .ok (.getfield 28, 3) := by decide +kernel
theorem dX6_home_21 : decode cX6_home 21 = .ok (.invokevirtual 89, 3) := by decide +kernel
theorem dX6_home_24 : decode cX6_home 24 = .ok (.aload_n 0, 1) := by decide +kernel
theorem dX6_home_25 : decode cX6_home 25 = .ok (.getfield 39, 3) := by decide +kernel
theorem dX6_home_28 : decode cX6_home 28 = .ok (.iload_n 1, 1) := by decide +kernel
theorem dX6_home_29 : decode cX6_home 29 = .ok (.bipush 60, 2) := by decide +kernel
theorem dX6_home_31 : decode cX6_home 31 = .ok (.invokevirtual 195, 3) := by decide +kernel
theorem dX6_home_34 : decode cX6_home 34 = .ok (.ireturn, 1) := by decide +kernel
theorem dX6_shed_0 : decode cX6_shed 0 = .ok (.aload_n 0, 1) := by decide +kernel
theorem dX6_shed_1 : decode cX6_shed 1 = .ok (.getfield 28, 3) := by decide +kernel
theorem dX6_shed_4 : decode cX6_shed 4 = .ok (.iload_n 1, 1) := by decide +kernel
theorem dX6_shed_5 : decode cX6_shed 5 = .ok (.invokevirtual 125, 3) := by decide +kernel
theorem dX6_shed_8 : decode cX6_shed 8 = .ok (.ifCond .eq 22, 3) := by decide +kernel
theorem dX6_shed_11 : decode cX6_shed 11 = .ok (.iload_n 2, 1) := by decide +kernel
theorem dX6_shed_12 : decode cX6_shed 12 = .ok (.iconst 0, 1) := by decide +kernel
theorem dX6_shed_13 : decode cX6_shed 13 = .ok (.bipush 60, 2) := by decide +kernel
theorem dX6_shed_15 : decode cX6_shed 15 = .ok (.invokestatic 68, 3) := by decide +kernel
theorem dX6_shed_18 : decode cX6_shed 18 = .ok (.ifCond .eq 12, 3) := by decide +kernel
theorem dX6_shed_21 : decode cX6_shed 21 = .ok (.iload_n 3, 1) := by decide +kernel
theorem dX6_shed_22 : decode cX6_shed 22 = .ok (.iconst 0, 1) := by decide +kernel
theorem dX6_shed_23 : decode cX6_shed 23 = .ok (.iconst 1, 1) := by decide +kernel
theorem dX6_shed_24 : decode cX6_shed 24 = .ok (.invokestatic 68, 3) := by decide +kernel
theorem dX6_shed_27 : decode cX6_shed 27 = .ok (.ifCond .ne 5, 3) := by decide +kernel
theorem dX6_shed_30 : decode cX6_shed 30 = .ok (.iconst (-1), 1) := by decide +kernel
theorem dX6_shed_31 : decode cX6_shed 31 = .ok (.ireturn, 1) := by decide +kernel
theorem dX6_shed_32 : decode cX6_shed 32 = .ok (.bipush (-4), 2) := by decide +kernel
theorem dX6_shed_34 : decode cX6_shed 34 = .ok (.istore 4, 2) := by decide +kernel
theorem dX6_shed_36 : decode cX6_shed 36 = .ok (.iconst 0, 1) := by decide +kernel
theorem dX6_shed_37 : decode cX6_shed 37 = .ok (.istore 5, 2) := by decide +kernel
theorem dX6_shed_39 : decode cX6_shed 39 = .ok (.iconst 0, 1) := by decide +kernel
theorem dX6_shed_40 : decode cX6_shed 40 = .ok (.istore 6, 2) := by decide +kernel
theorem dX6_shed_42 : decode cX6_shed 42 = .ok (.iload 6, 2) := by decide +kernel
theorem dX6_shed_44 : decode cX6_shed 44 = .ok (.bipush 9, 2) := by decide +kernel
theorem dX6_shed_46 : decode cX6_shed 46 = .ok (.if_icmp .gt 71, 3) := by decide +kernel
theorem dX6_shed_49 : decode cX6_shed 49 = .ok (.aload_n 0, 1) := by decide +kernel
theorem dX6_shed_50 : decode cX6_shed 50 = .ok (.getfield 39, 3) := by decide +kernel
theorem dX6_shed_53 : decode cX6_shed 53 = .ok (.aload_n 0, 1) := by decide +kernel
theorem dX6_shed_54 : decode cX6_shed 54 = .ok (.getfield 28, 3) := by decide +kernel
theorem dX6_shed_57 : decode cX6_shed 57 = .ok (.invokevirtual 89, 3) := by decide +kernel
theorem dX6_shed_60 : decode cX6_shed 60 = .ok (.aload_n 0, 1) := by decide +kernel
theorem dX6_shed_61 : decode cX6_shed 61 = .ok (.getfield 39, 3) := by decide +kernel
theorem dX6_shed_64 : decode cX6_shed 64 = .ok (.getfield 128, 3) := by decide +kernel
theorem dX6_shed_67 : decode cX6_shed 67 = .ok (.iload_n 1, 1) := by decide +kernel
theorem dX6_shed_68 : decode cX6_shed 68 = .ok (.iload 6, 2) := by decide +kernel
theorem dX6_shed_70 : decode cX6_shed 70 = .ok (.iastore, 1) := by decide +kernel
theorem dX6_shed_71 : decode cX6_shed 71 = .ok (.aload_n 0, 1) := by decide +kernel
theorem dX6_shed_72 : decode cX6_shed 72 = .ok (.getfield 39, 3) := by decide +kernel
theorem dX6_shed_75 : decode cX6_shed 75 = .ok (.iload_n 2, 1) := by decide +kernel
theorem dX6_shed_76 : decode cX6_shed 76 = .ok (.invokevirtual 185, 3) := by decide +kernel
theorem dX6_shed_79 : decode cX6_shed 79 = .ok (.aload_n 0, 1) := by decide +kernel
theorem dX6_shed_80 : decode cX6_shed 80 = .ok (.getfield 39, 3) := by decide +kernel
theorem dX6_shed_83 : decode cX6_shed 83 = .ok (.iload_n 1, 1) := by decide +kernel
theorem dX6_shed_84 : decode cX6_shed 84 = .ok (.invokevirtual 135, 3) := by decide +kernel
theorem dX6_shed_87 : decode cX6_shed 87 = .ok (.istore 7, 2) := by decide +kernel
theorem dX6_shed_89 : decode cX6_shed 89 = .ok (.iload 4, 2) := by decide +kernel
theorem dX6_shed_91 : decode cX6_shed 91 = .ok (.bipush (-4), 2) := by decide +kernel
theorem dX6_shed_93 : decode cX6_shed 93 = .ok (.if_icmp .eq 10, 3) := by decide +kernel
theorem dX6_shed_96 : decode cX6_shed 96 = .ok (.iload 7, 2) := by decide +kernel
theorem dX6_shed_98 : decode cX6_shed 98 = .ok (.iload 5, 2) := by decide +kernel
theorem dX6_shed_100 : decode cX6_shed 100 = .ok (.if_icmp .ge 11, 3) := by decide +kernel
theorem dX6_shed_103 : decode cX6_shed 103 = .ok (.iload 6, 2) := by decide +kernel
theorem dX6_shed_105 : decode cX6_shed 105 = .ok (.istore 4, 2) := by decide +kernel
theorem dX6_shed_107 : decode cX6_shed 107 = .ok (.iload 7, 2) := by decide +kernel
theorem dX6_shed_109 : decode cX6_shed 109 = .ok (.istore 5, 2) := by decide +kernel
theorem dX6_shed_111 : decode cX6_shed 111 = .ok (.iinc 6 1, 3) := by decide +kernel
theorem dX6_shed_114 : decode cX6_shed 114 = .ok (.goto (-72), 3) := by decide +kernel
theorem dX6_shed_117 : decode cX6_shed 117 = .ok (.iload_n 3, 1) := by decide +kernel
theorem dX6_shed_118 : decode cX6_shed 118 = .ok (.ifCond .ne 8, 3) := by decide +kernel
theorem dX6_shed_121 : decode cX6_shed 121 = .ok (.iload 4, 2) := by decide +kernel
theorem dX6_shed_123 : decode cX6_shed 123 = .ok (.goto 5, 3) := by decide +kernel
theorem dX6_shed_126 : decode cX6_shed 126 = .ok (.iload 5, 2) := by decide +kernel
theorem dX6_shed_128 : decode cX6_shed 128 = .ok (.ireturn, 1) := by decide +kernel
theorem dX6_calm_0 : decode cX6_calm 0 = .ok (.iload_n 1, 1) := by decide +kernel
theorem dX6_calm_1 : decode cX6_calm 1 = .ok (.iconst 0, 1) := by decide +kernel
theorem dX6_calm_2 : decode cX6_calm 2 = .ok (.bipush 60, 2) := by decide +kernel
theorem dX6_calm_4 : decode cX6_calm 4 = .ok (.invokestatic 68, 3) := by decide +kernel
theorem dX6_calm_7 : decode cX6_calm 7 = .ok (.ifCond .eq 12, 3) := by decide +kernel
theorem dX6_calm_10 : decode cX6_calm 10 = .ok (.iload_n 2, 1) := by decide +kernel
theorem dX6_calm_11 : decode cX6_calm 11 = .ok (.iconst 0, 1) := by decide +kernel
theorem dX6_calm_12 : decode cX6_calm 12 = .ok (.iconst 1, 1) := by decide +kernel
theorem dX6_calm_13 : decode cX6_calm 13 = .ok (.invokestatic 68, 3) := by decide +kernel
theorem dX6_calm_16 : decode cX6_calm 16 = .ok (.ifCond .ne 5, 3) := by decide +kernel
theorem dX6_calm_19 : decode cX6_calm 19 = .ok (.iconst (-1), 1) := by decide +kernel
theorem dX6_calm_20 : decode cX6_calm 20 = .ok (.ireturn, 1) := by decide +kernel
theorem dX6_calm_21 : decode cX6_calm 21 = .ok (.aload_n 0, 1) := by decide +kernel
theorem dX6_calm_22 : decode cX6_calm 22 = .ok (.getfield 39, 3) := by decide +kernel
theorem dX6_calm_25 : decode cX6_calm 25 = .ok (.aload_n 0, 1) := by decide +kernel
theorem dX6_calm_26 : decode cX6_calm 26 = .ok (.getfield 28, 3) := by decide +kernel
theorem dX6_calm_29 : decode cX6_calm 29 = .ok (.invokevirtual 89, 3) := by decide +kernel
theorem dX6_calm_32 : decode cX6_calm 32 = .ok (.aload_n 0, 1) := by decide +kernel
theorem dX6_calm_33 : decode cX6_calm 33 = .ok (.getfield 39, 3) := by decide +kernel
theorem dX6_calm_36 : decode cX6_calm 36 = .ok (.iload_n 1, 1) := by decide +kernel
theorem dX6_calm_37 : decode cX6_calm 37 = .ok (.invokevirtual 185, 3) := by decide +kernel
theorem dX6_calm_40 : decode cX6_calm 40 = .ok (.bipush (-4), 2) := by decide +kernel
theorem dX6_calm_42 : decode cX6_calm 42 = .ok (.istore_n 3, 1) := by decide +kernel
theorem dX6_calm_43 : decode cX6_calm 43 = .ok (.aload_n 0, 1) := by decide +kernel
theorem dX6_calm_44 : decode cX6_calm 44 = .ok (.getfield 39, 3) := by decide +kernel
theorem dX6_calm_47 : decode cX6_calm 47 = .ok (.invokevirtual 115, 3) := by decide +kernel
theorem dX6_calm_50 : decode cX6_calm 50 = .ok (.istore 4, 2) := by decide +kernel
theorem dX6_calm_52 : decode cX6_calm 52 = .ok (.iconst 0, 1) := by decide +kernel
theorem dX6_calm_53 : decode cX6_calm 53 = .ok (.istore 5, 2) := by decide +kernel
theorem dX6_calm_55 : decode cX6_calm 55 = .ok (.iload 5, 2) := by decide +kernel
theorem dX6_calm_57 : decode cX6_calm 57 = .ok (.bipush 6, 2) := by decide +kernel
theorem dX6_calm_59 : decode cX6_calm 59 = .ok (.if_icmp .ge 62, 3) := by decide +kernel
theorem dX6_calm_62 : decode cX6_calm 62 = .ok (.aload_n 0, 1) := by decide +kernel
theorem dX6_calm_63 : decode cX6_calm 63 = .ok (.getfield 39, 3) := by decide +kernel
theorem dX6_calm_66 : decode cX6_calm 66 = .ok (.aload_n 0, 1) := by decide +kernel
theorem dX6_calm_67 : decode cX6_calm 67 = .ok (.getfield 28, 3) := by decide +kernel
theorem dX6_calm_70 : decode cX6_calm 70 = .ok (.invokevirtual 89, 3) := by decide +kernel
theorem dX6_calm_73 : decode cX6_calm 73 = .ok (.aload_n 0, 1) := by decide +kernel
theorem dX6_calm_74 : decode cX6_calm 74 = .ok (.getfield 39, 3) := by decide +kernel
theorem dX6_calm_77 : decode cX6_calm 77 = .ok (.getfield 165, 3) := by decide +kernel
theorem dX6_calm_80 : decode cX6_calm 80 = .ok (.iload 5, 2) := by decide +kernel
theorem dX6_calm_82 : decode cX6_calm 82 = .ok (.iconst 0, 1) := by decide +kernel
theorem dX6_calm_83 : decode cX6_calm 83 = .ok (.iastore, 1) := by decide +kernel
theorem dX6_calm_84 : decode cX6_calm 84 = .ok (.aload_n 0, 1) := by decide +kernel
theorem dX6_calm_85 : decode cX6_calm 85 = .ok (.getfield 39, 3) := by decide +kernel
theorem dX6_calm_88 : decode cX6_calm 88 = .ok (.iload_n 1, 1) := by decide +kernel
theorem dX6_calm_89 : decode cX6_calm 89 = .ok (.invokevirtual 185, 3) := by decide +kernel
theorem dX6_calm_92 : decode cX6_calm 92 = .ok (.aload_n 0, 1) := by decide +kernel
theorem dX6_calm_93 : decode cX6_calm 93 = .ok (.getfield 39, 3) := by decide +kernel
theorem dX6_calm_96 : decode cX6_calm 96 = .ok (.invokevirtual 115, 3) := by decide +kernel
theorem dX6_calm_99 : decode cX6_calm 99 = .ok (.istore 6, 2) := by decide +kernel
theorem dX6_calm_101 : decode cX6_calm 101 = .ok (.iload 6, 2) := by decide +kernel
theorem dX6_calm_103 : decode cX6_calm 103 = .ok (.iload 4, 2) := by decide +kernel
theorem dX6_calm_105 : decode cX6_calm 105 = .ok (.if_icmp .le 10, 3) := by decide +kernel
theorem dX6_calm_108 : decode cX6_calm 108 = .ok (.iload 5, 2) := by decide +kernel
theorem dX6_calm_110 : decode cX6_calm 110 = .ok (.istore_n 3, 1) := by decide +kernel
theorem dX6_calm_111 : decode cX6_calm 111 = .ok (.iload 6, 2) := by decide +kernel
theorem dX6_calm_113 : decode cX6_calm 113 = .ok (.istore 4, 2) := by decide +kernel
theorem dX6_calm_115 : decode cX6_calm 115 = .ok (.iinc 5 1, 3) := by decide +kernel
theorem dX6_calm_118 : decode cX6_calm 118 = .ok (.goto (-63), 3) := by decide +kernel
theorem dX6_calm_121 : decode cX6_calm 121 = .ok (.iload_n 2, 1) := by decide +kernel
theorem dX6_calm_122 : decode cX6_calm 122 = .ok (.ifCond .eq 9, 3) := by decide +kernel
theorem dX6_calm_125 : decode cX6_calm 125 = .ok (.iload_n 3, 1) := by decide +kernel
theorem dX6_calm_126 : decode cX6_calm 126 = .ok (.bipush (-4), 2) := by decide +kernel
theorem dX6_calm_128 : decode cX6_calm 128 = .ok (.if_icmp .ne 7, 3) := by decide +kernel
theorem dX6_calm_131 : decode cX6_calm 131 = .ok (.iload_n 3, 1) := by decide +kernel
theorem dX6_calm_132 : decode cX6_calm 132 = .ok (.goto 5, 3) := by decide +kernel
theorem dX6_calm_135 : decode cX6_calm 135 = .ok (.iload 4, 2) := by decide +kernel
theorem dX6_calm_137 : decode cX6_calm 137 = .ok (.ireturn, 1) := by decide +kernel
theorem dX6_kind_0 : decode cX6_kind 0 = .ok (.aload_n 0, 1) := by decide +kernel
theorem dX6_kind_1 : decode cX6_kind 1 = .ok (.getfield 28, 3) := by decide +kernel
theorem dX6_kind_4 : decode cX6_kind 4 = .ok (.iload_n 1, 1) := by decide +kernel
theorem dX6_kind_5 : decode cX6_kind 5 = .ok (.invokevirtual 141, 3) := by decide +kernel
theorem dX6_kind_8 : decode cX6_kind 8 = .ok (.ifCond .eq 12, 3) := by decide +kernel
theorem dX6_kind_11 : decode cX6_kind 11 = .ok (.iload_n 2, 1) := by decide +kernel
theorem dX6_kind_12 : decode cX6_kind 12 = .ok (.iconst 0, 1) := by decide +kernel
theorem dX6_kind_13 : decode cX6_kind 13 = .ok (.iconst 1, 1) := by decide +kernel
theorem dX6_kind_14 : decode cX6_kind 14 = .ok (.invokestatic 68, 3) := by decide +kernel
theorem dX6_kind_17 : decode cX6_kind 17 = .ok (.ifCond .ne 5, 3) := by decide +kernel
theorem dX6_kind_20 : decode cX6_kind 20 = .ok (.iconst (-1), 1) := by decide +kernel
theorem dX6_kind_21 : decode cX6_kind 21 = .ok (.ireturn, 1) := by decide +kernel
theorem dX6_kind_22 : decode cX6_kind 22 = .ok (.bipush (-4), 2) := by decide +kernel
theorem dX6_kind_24 : decode cX6_kind 24 = .ok (.istore_n 3, 1) := by decide +kernel
theorem dX6_kind_25 : decode cX6_kind 25 = .ok (.bipush (-4), 2) := by decide +kernel
theorem dX6_kind_27 : decode cX6_kind 27 = .ok (.istore 4, 2) := by decide +kernel
theorem dX6_kind_29 : decode cX6_kind 29 = .ok (.iconst 0, 1) := by decide +kernel
theorem dX6_kind_30 : decode cX6_kind 30 = .ok (.istore 5, 2) := by decide +kernel
theorem dX6_kind_32 : decode cX6_kind 32 = .ok (.iload 5, 2) := by decide +kernel
theorem dX6_kind_34 : decode cX6_kind 34 = .ok (.iconst 4, 1) := by decide +kernel
theorem dX6_kind_35 : decode cX6_kind 35 = .ok (.if_icmp .ge 70, 3) := by decide +kernel
theorem dX6_kind_38 : decode cX6_kind 38 = .ok (.aload_n 0, 1) := by decide +kernel
theorem dX6_kind_39 : decode cX6_kind 39 = .ok (.getfield 39, 3) := by decide +kernel
theorem dX6_kind_42 : decode cX6_kind 42 = .ok (.aload_n 0, 1) := by decide +kernel
theorem dX6_kind_43 : decode cX6_kind 43 = .ok (.getfield 28, 3) := by decide +kernel
theorem dX6_kind_46 : decode cX6_kind 46 = .ok (.invokevirtual 89, 3) := by decide +kernel
theorem dX6_kind_49 : decode cX6_kind 49 = .ok (.aload_n 0, 1) := by decide +kernel
theorem dX6_kind_50 : decode cX6_kind 50 = .ok (.getfield 39, 3) := by decide +kernel
theorem dX6_kind_53 : decode cX6_kind 53 = .ok (.getfield 144, 3) := by decide +kernel
theorem dX6_kind_56 : decode cX6_kind 56 = .ok (.iload_n 1, 1) := by decide +kernel
theorem dX6_kind_57 : decode cX6_kind 57 = .ok (.iload 5, 2) := by decide +kernel
theorem dX6_kind_59 : decode cX6_kind 59 = .ok (.iastore, 1) := by decide +kernel
theorem dX6_kind_60 : decode cX6_kind 60 = .ok (.aload_n 0, 1) := by decide +kernel
theorem dX6_kind_61 : decode cX6_kind 61 = .ok (.getfield 39, 3) := by decide +kernel
theorem dX6_kind_64 : decode cX6_kind 64 = .ok (.iload_n 1, 1) := by decide +kernel
theorem dX6_kind_65 : decode cX6_kind 65 = .ok (.bipush 60, 2) := by decide +kernel
theorem dX6_kind_67 : decode cX6_kind 67 = .ok (.invokevirtual 195, 3) := by decide +kernel
theorem dX6_kind_70 : decode cX6_kind 70 = .ok (.istore 6, 2) := by decide +kernel
theorem dX6_kind_72 : decode cX6_kind 72 = .ok (.iload 6, 2) := by decide +kernel
theorem dX6_kind_74 : decode cX6_kind 74 = .ok (.bipush (-4), 2) := by decide +kernel
theorem dX6_kind_76 : decode cX6_kind 76 = .ok (.if_icmp .eq 23, 3) := by decide +kernel
theorem dX6_kind_79 : decode cX6_kind 79 = .ok (.iload_n 3, 1) := by decide +kernel
theorem dX6_kind_80 : decode cX6_kind 80 = .ok (.bipush (-4), 2) := by decide +kernel
theorem dX6_kind_82 : decode cX6_kind 82 = .ok (.if_icmp .eq 10, 3) := by decide +kernel
theorem dX6_kind_85 : decode cX6_kind 85 = .ok (.iload 6, 2) := by decide +kernel
theorem dX6_kind_87 : decode cX6_kind 87 = .ok (.iload 4, 2) := by decide +kernel
theorem dX6_kind_89 : decode cX6_kind 89 = .ok (.if_icmp .ge 10, 3) := by decide +kernel
theorem dX6_kind_92 : decode cX6_kind 92 = .ok (.iload 5, 2) := by decide +kernel
theorem dX6_kind_94 : decode cX6_kind 94 = .ok (.istore_n 3, 1) := by decide +kernel
theorem dX6_kind_95 : decode cX6_kind 95 = .ok (.iload 6, 2) := by decide +kernel
theorem dX6_kind_97 : decode cX6_kind 97 = .ok (.istore 4, 2) := by decide +kernel
theorem dX6_kind_99 : decode cX6_kind 99 = .ok (.iinc 5 1, 3) := by decide +kernel
theorem dX6_kind_102 : decode cX6_kind 102 = .ok (.goto (-70), 3) := by decide +kernel
theorem dX6_kind_105 : decode cX6_kind 105 = .ok (.iload_n 2, 1) := by decide +kernel
theorem dX6_kind_106 : decode cX6_kind 106 = .ok (.ifCond .ne 7, 3) := by decide +kernel
theorem dX6_kind_109 : decode cX6_kind 109 = .ok (.iload_n 3, 1) := by decide +kernel
theorem dX6_kind_110 : decode cX6_kind 110 = .ok (.goto 5, 3) := by decide +kernel
theorem dX6_kind_113 : decode cX6_kind 113 = .ok (.iload 4, 2) := by decide +kernel
theorem dX6_kind_115 : decode cX6_kind 115 = .ok (.ireturn, 1) := by decide +kernel
theorem dX6_swap_0 : decode cX6_swap 0 = .ok (.iload_n 1, 1) := by decide +kernel
theorem dX6_swap_1 : decode cX6_swap 1 = .ok (.iconst 0, 1) := by decide +kernel
theorem dX6_swap_2 : decode cX6_swap 2 = .ok (.bipush 60, 2) := by decide +kernel
theorem dX6_swap_4 : decode cX6_swap 4 = .ok (.invokestatic 68, 3) := by decide +kernel
theorem dX6_swap_7 : decode cX6_swap 7 = .ok (.ifCond .eq 12, 3) := by decide +kernel
theorem dX6_swap_10 : decode cX6_swap 10 = .ok (.iload_n 2, 1) := by decide +kernel
theorem dX6_swap_11 : decode cX6_swap 11 = .ok (.iconst 0, 1) := by decide +kernel
theorem dX6_swap_12 : decode cX6_swap 12 = .ok (.iconst 1, 1) := by decide +kernel
theorem dX6_swap_13 : decode cX6_swap 13 = .ok (.invokestatic 68, 3) := by decide +kernel
theorem dX6_swap_16 : decode cX6_swap 16 = .ok (.ifCond .ne 5, 3) := by decide +kernel
theorem dX6_swap_19 : decode cX6_swap 19 = .ok (.iconst (-1), 1) := by decide +kernel
theorem dX6_swap_20 : decode cX6_swap 20 = .ok (.ireturn, 1) := by decide +kernel
theorem dX6_swap_21 : decode cX6_swap 21 = .ok (.aload_n 0, 1) := by decide +kernel
theorem dX6_swap_22 : decode cX6_swap 22 = .ok (.getfield 39, 3) := by decide +kernel
theorem dX6_swap_25 : decode cX6_swap 25 = .ok (.aload_n 0, 1) := by decide +kernel
theorem dX6_swap_26 : decode cX6_swap 26 = .ok (.getfield 28, 3) := by decide +kernel
theorem dX6_swap_29 : decode cX6_swap 29 = .ok (.invokevirtual 89, 3) := by decide +kernel
theorem dX6_swap_32 : decode cX6_swap 32 = .ok (.aload_n 0, 1) := by decide +kernel
theorem dX6_swap_33 : decode cX6_swap 33 = .ok (.getfield 39, 3) := by decide +kernel
theorem dX6_swap_36 : decode cX6_swap 36 = .ok (.iload_n 1, 1) := by decide +kernel
theorem dX6_swap_37 : decode cX6_swap 37 = .ok (.invokevirtual 185, 3) := by decide +kernel
theorem dX6_swap_40 : decode cX6_swap 40 = .ok (.bipush (-4), 2) := by decide +kernel
theorem dX6_swap_42 : decode cX6_swap 42 = .ok (.istore_n 3, 1) := by decide +kernel
theorem dX6_swap_43 : decode cX6_swap 43 = .ok (.aload_n 0, 1) := by decide +kernel
theorem dX6_swap_44 : decode cX6_swap 44 = .ok (.getfield 39, 3) := by decide +kernel
theorem dX6_swap_47 : decode cX6_swap 47 = .ok (.invokevirtual 119, 3) := by decide +kernel
theorem dX6_swap_50 : decode cX6_swap 50 = .ok (.istore 4, 2) := by decide +kernel
theorem dX6_swap_52 : decode cX6_swap 52 = .ok (.iconst 0, 1) := by decide +kernel
theorem dX6_swap_53 : decode cX6_swap 53 = .ok (.istore 5, 2) := by decide +kernel
theorem dX6_swap_55 : decode cX6_swap 55 = .ok (.iload 5, 2) := by decide +kernel
theorem dX6_swap_57 : decode cX6_swap 57 = .ok (.aload_n 0, 1) := by decide +kernel
theorem dX6_swap_58 : decode cX6_swap 58 = .ok (.getfield 28, 3) := by decide +kernel
theorem dX6_swap_61 : decode cX6_swap 61 = .ok (.getfield 106, 3) := by decide +kernel
theorem dX6_swap_64 : decode cX6_swap 64 = .ok (.if_icmp .ge 121, 3) := by decide +kernel
theorem dX6_swap_67 : decode cX6_swap 67 = .ok (.iload 5, 2) := by decide +kernel
theorem dX6_swap_69 : decode cX6_swap 69 = .ok (.iconst 1, 1) := by decide +kernel
theorem dX6_swap_70 : decode cX6_swap 70 = .ok (.iadd, 1) := by decide +kernel
theorem dX6_swap_71 : decode cX6_swap 71 = .ok (.istore 6, 2) := by decide +kernel
theorem dX6_swap_73 : decode cX6_swap 73 = .ok (.iload 6, 2) := by decide +kernel
theorem dX6_swap_75 : decode cX6_swap 75 = .ok (.aload_n 0, 1) := by decide +kernel
theorem dX6_swap_76 : decode cX6_swap 76 = .ok (.getfield 28, 3) := by decide +kernel
theorem dX6_swap_79 : decode cX6_swap 79 = .ok (.getfield 106, 3) := by decide +kernel
theorem dX6_swap_82 : decode cX6_swap 82 = .ok (.if_icmp .ge 97, 3) := by decide +kernel
theorem dX6_swap_85 : decode cX6_swap 85 = .ok (.aload_n 0, 1) := by decide +kernel
theorem dX6_swap_86 : decode cX6_swap 86 = .ok (.getfield 39, 3) := by decide +kernel
theorem dX6_swap_89 : decode cX6_swap 89 = .ok (.aload_n 0, 1) := by decide +kernel
theorem dX6_swap_90 : decode cX6_swap 90 = .ok (.getfield 28, 3) := by decide +kernel
theorem dX6_swap_93 : decode cX6_swap 93 = .ok (.invokevirtual 89, 3) := by decide +kernel
theorem dX6_swap_96 : decode cX6_swap 96 = .ok (.aload_n 0, 1) := by decide +kernel
theorem dX6_swap_97 : decode cX6_swap 97 = .ok (.getfield 39, 3) := by decide +kernel
theorem dX6_swap_100 : decode cX6_swap 100 = .ok (.getfield 128, 3) := by decide +kernel
theorem dX6_swap_103 : decode cX6_swap 103 = .ok (.iload 5, 2) := by decide +kernel
theorem dX6_swap_105 : decode cX6_swap 105 = .ok (.aload_n 0, 1) := by decide +kernel
theorem dX6_swap_106 : decode cX6_swap 106 = .ok (.getfield 28, 3) := by decide +kernel
theorem dX6_swap_109 : decode cX6_swap 109 = .ok (.getfield 128, 3) := by decide +kernel
theorem dX6_swap_112 : decode cX6_swap 112 = .ok (.iload 6, 2) := by decide +kernel
theorem dX6_swap_114 : decode cX6_swap 114 = .ok (.iaload, 1) := by decide +kernel
theorem dX6_swap_115 : decode cX6_swap 115 = .ok (.iastore, 1) := by decide +kernel
theorem dX6_swap_116 : decode cX6_swap 116 = .ok (.aload_n 0, 1) := by decide +kernel
theorem dX6_swap_117 : decode cX6_swap 117 = .ok (.getfield 39, 3) := by decide +kernel
theorem dX6_swap_120 : decode cX6_swap 120 = .ok (.getfield 128, 3) := by decide +kernel
theorem dX6_swap_123 : decode cX6_swap 123 = .ok (.iload 6, 2) := by decide +kernel
theorem dX6_swap_125 : decode cX6_swap 125 = .ok (.aload_n 0, 1) := by decide +kernel
theorem dX6_swap_126 : decode cX6_swap 126 = .ok (.getfield 28, 3) := by decide +kernel
theorem dX6_swap_129 : decode cX6_swap 129 = .ok (.getfield 128, 3) := by decide +kernel
theorem dX6_swap_132 : decode cX6_swap 132 = .ok (.iload 5, 2) := by decide +kernel
theorem dX6_swap_134 : decode cX6_swap 134 = .ok (.iaload, 1) := by decide +kernel
theorem dX6_swap_135 : decode cX6_swap 135 = .ok (.iastore, 1) := by decide +kernel
theorem dX6_swap_136 : decode cX6_swap 136 = .ok (.aload_n 0, 1) := by decide +kernel
theorem dX6_swap_137 : decode cX6_swap 137 = .ok (.getfield 39, 3) := by decide +kernel
theorem dX6_swap_140 : decode cX6_swap 140 = .ok (.iload_n 1, 1) := by decide +kernel
theorem dX6_swap_141 : decode cX6_swap 141 = .ok (.invokevirtual 185, 3) := by decide +kernel
theorem dX6_swap_144 : decode cX6_swap 144 = .ok (.aload_n 0, 1) := by decide +kernel
theorem dX6_swap_145 : decode cX6_swap 145 = .ok (.getfield 39, 3) := by decide +kernel
theorem dX6_swap_148 : decode cX6_swap 148 = .ok (.invokevirtual 119, 3) := by decide +kernel
theorem dX6_swap_151 : decode cX6_swap 151 = .ok (.istore 7, 2) := by decide +kernel
theorem dX6_swap_153 : decode cX6_swap 153 = .ok (.iload 7, 2) := by decide +kernel
theorem dX6_swap_155 : decode cX6_swap 155 = .ok (.iload 4, 2) := by decide +kernel
theorem dX6_swap_157 : decode cX6_swap 157 = .ok (.if_icmp .le 16, 3) := by decide +kernel
theorem dX6_swap_160 : decode cX6_swap 160 = .ok (.bipush 10, 2) := by decide +kernel
theorem dX6_swap_162 : decode cX6_swap 162 = .ok (.iload 5, 2) := by decide +kernel
theorem dX6_swap_164 : decode cX6_swap 164 = .ok (.imul, 1) := by decide +kernel
theorem dX6_swap_165 : decode cX6_swap 165 = .ok (.iload 6, 2) := by decide +kernel
theorem dX6_swap_167 : decode cX6_swap 167 = .ok (.iadd, 1) := by decide +kernel
theorem dX6_swap_168 : decode cX6_swap 168 = .ok (.istore_n 3, 1) := by decide +kernel
theorem dX6_swap_169 : decode cX6_swap 169 = .ok (.iload 7, 2) := by decide +kernel
theorem dX6_swap_171 : decode cX6_swap 171 = .ok (.istore 4, 2) := by decide +kernel
theorem dX6_swap_173 : decode cX6_swap 173 = .ok (.iinc 6 1, 3) := by decide +kernel
theorem dX6_swap_176 : decode cX6_swap 176 = .ok (.goto (-103), 3) := by decide +kernel
theorem dX6_swap_179 : decode cX6_swap 179 = .ok (.iinc 5 1, 3) := by decide +kernel
theorem dX6_swap_182 : decode cX6_swap 182 = .ok (.goto (-127), 3) := by decide +kernel
theorem dX6_swap_185 : decode cX6_swap 185 = .ok (.iload_n 2, 1) := by decide +kernel
theorem dX6_swap_186 : decode cX6_swap 186 = .ok (.ifCond .eq 9, 3) := by decide +kernel
theorem dX6_swap_189 : decode cX6_swap 189 = .ok (.iload_n 3, 1) := by decide +kernel
theorem dX6_swap_190 : decode cX6_swap 190 = .ok (.bipush (-4), 2) := by decide +kernel
theorem dX6_swap_192 : decode cX6_swap 192 = .ok (.if_icmp .ne 7, 3) := by decide +kernel
theorem dX6_swap_195 : decode cX6_swap 195 = .ok (.iload_n 3, 1) := by decide +kernel
theorem dX6_swap_196 : decode cX6_swap 196 = .ok (.goto 5, 3) := by decide +kernel
theorem dX6_swap_199 : decode cX6_swap 199 = .ok (.iload 4, 2) := by decide +kernel
theorem dX6_swap_201 : decode cX6_swap 201 = .ok (.ireturn, 1) := by decide +kernel
theorem dX6_need_0 : decode cX6_need 0 = .ok (.aload_n 0, 1) := by decide +kernel
theorem dX6_need_1 : decode cX6_need 1 = .ok (.getfield 28, 3) := by decide +kernel
theorem dX6_need_4 : decode cX6_need 4 = .ok (.iload_n 1, 1) := by decide +kernel
theorem dX6_need_5 : decode cX6_need 5 = .ok (.invokevirtual 141, 3) := by decide +kernel
theorem dX6_need_8 : decode cX6_need 8 = .ok (.ifCond .eq 24, 3) := by decide +kernel
theorem dX6_need_11 : decode cX6_need 11 = .ok (.aload_n 0, 1) := by decide +kernel
theorem dX6_need_12 : decode cX6_need 12 = .ok (.getfield 28, 3) := by decide +kernel
theorem dX6_need_15 : decode cX6_need 15 = .ok (.iload_n 2, 1) := by decide +kernel
theorem dX6_need_16 : decode cX6_need 16 = .ok (.invokevirtual 125, 3) := by decide +kernel
theorem dX6_need_19 : decode cX6_need 19 = .ok (.ifCond .eq 13, 3) := by decide +kernel
theorem dX6_need_22 : decode cX6_need 22 = .ok (.iload_n 3, 1) := by decide +kernel
theorem dX6_need_23 : decode cX6_need 23 = .ok (.iconst 0, 1) := by decide +kernel
theorem dX6_need_24 : decode cX6_need 24 = .ok (.bipush 60, 2) := by decide +kernel
theorem dX6_need_26 : decode cX6_need 26 = .ok (.invokestatic 68, 3) := by decide +kernel
theorem dX6_need_29 : decode cX6_need 29 = .ok (.ifCond .ne 5, 3) := by decide +kernel
theorem dX6_need_32 : decode cX6_need 32 = .ok (.iconst (-1), 1) := by decide +kernel
theorem dX6_need_33 : decode cX6_need 33 = .ok (.ireturn, 1) := by decide +kernel
theorem dX6_need_34 : decode cX6_need 34 = .ok (.iconst 1, 1) := by decide +kernel
theorem dX6_need_35 : decode cX6_need 35 = .ok (.istore 4, 2) := by decide +kernel
theorem dX6_need_37 : decode cX6_need 37 = .ok (.iload 4, 2) := by decide +kernel
theorem dX6_need_39 : decode cX6_need 39 = .ok (.bipush 9, 2) := by decide +kernel
theorem dX6_need_41 : decode cX6_need 41 = .ok (.if_icmp .gt 53, 3) := by decide +kernel
theorem dX6_need_44 : decode cX6_need 44 = .ok (.aload_n 0, 1) := by decide +kernel
theorem dX6_need_45 : decode cX6_need 45 = .ok (.getfield 39, 3) := by decide +kernel
theorem dX6_need_48 : decode cX6_need 48 = .ok (.aload_n 0, 1) := by decide +kernel
theorem dX6_need_49 : decode cX6_need 49 = .ok (.getfield 28, 3) := by decide +kernel
theorem dX6_need_52 : decode cX6_need 52 = .ok (.invokevirtual 89, 3) := by decide +kernel
theorem dX6_need_55 : decode cX6_need 55 = .ok (.aload_n 0, 1) := by decide +kernel
theorem dX6_need_56 : decode cX6_need 56 = .ok (.getfield 39, 3) := by decide +kernel
theorem dX6_need_59 : decode cX6_need 59 = .ok (.getfield 147, 3) := by decide +kernel
theorem dX6_need_62 : decode cX6_need 62 = .ok (.iload_n 1, 1) := by decide +kernel
theorem dX6_need_63 : decode cX6_need 63 = .ok (.iload 4, 2) := by decide +kernel
theorem dX6_need_65 : decode cX6_need 65 = .ok (.iastore, 1) := by decide +kernel
theorem dX6_need_66 : decode cX6_need 66 = .ok (.aload_n 0, 1) := by decide +kernel
theorem dX6_need_67 : decode cX6_need 67 = .ok (.getfield 39, 3) := by decide +kernel
theorem dX6_need_70 : decode cX6_need 70 = .ok (.iload_n 3, 1) := by decide +kernel
theorem dX6_need_71 : decode cX6_need 71 = .ok (.invokevirtual 185, 3) := by decide +kernel
theorem dX6_need_74 : decode cX6_need 74 = .ok (.aload_n 0, 1) := by decide +kernel
theorem dX6_need_75 : decode cX6_need 75 = .ok (.getfield 39, 3) := by decide +kernel
theorem dX6_need_78 : decode cX6_need 78 = .ok (.iload_n 2, 1) := by decide +kernel
theorem dX6_need_79 : decode cX6_need 79 = .ok (.invokevirtual 199, 3) := by decide +kernel
theorem dX6_need_82 : decode cX6_need 82 = .ok (.ifCond .eq 6, 3) := by decide +kernel
theorem dX6_need_85 : decode cX6_need 85 = .ok (.iload 4, 2) := by decide +kernel
theorem dX6_need_87 : decode cX6_need 87 = .ok (.ireturn, 1) := by decide +kernel
theorem dX6_need_88 : decode cX6_need 88 = .ok (.iinc 4 1, 3) := by decide +kernel
theorem dX6_need_91 : decode cX6_need 91 = .ok (.goto (-54), 3) := by decide +kernel
theorem dX6_need_94 : decode cX6_need 94 = .ok (.bipush (-4), 2) := by decide +kernel
theorem dX6_need_96 : decode cX6_need 96 = .ok (.ireturn, 1) := by decide +kernel
theorem dX6_off_0 : decode cX6_off 0 = .ok (.aload_n 0, 1) := by decide +kernel
theorem dX6_off_1 : decode cX6_off 1 = .ok (.getfield 28, 3) := by decide +kernel
theorem dX6_off_4 : decode cX6_off 4 = .ok (.iload_n 1, 1) := by decide +kernel
theorem dX6_off_5 : decode cX6_off 5 = .ok (.invokevirtual 125, 3) := by decide +kernel
theorem dX6_off_8 : decode cX6_off 8 = .ok (.ifCond .eq 22, 3) := by decide +kernel
theorem dX6_off_11 : decode cX6_off 11 = .ok (.iload_n 2, 1) := by decide +kernel
theorem dX6_off_12 : decode cX6_off 12 = .ok (.iconst 0, 1) := by decide +kernel
theorem dX6_off_13 : decode cX6_off 13 = .ok (.bipush 60, 2) := by decide +kernel
theorem dX6_off_15 : decode cX6_off 15 = .ok (.invokestatic 68, 3) := by decide +kernel
theorem dX6_off_18 : decode cX6_off 18 = .ok (.ifCond .eq 12, 3) := by decide +kernel
theorem dX6_off_21 : decode cX6_off 21 = .ok (.iload_n 3, 1) := by decide +kernel
theorem dX6_off_22 : decode cX6_off 22 = .ok (.iconst 0, 1) := by decide +kernel
theorem dX6_off_23 : decode cX6_off 23 = .ok (.iconst 1, 1) := by decide +kernel
theorem dX6_off_24 : decode cX6_off 24 = .ok (.invokestatic 68, 3) := by decide +kernel
theorem dX6_off_27 : decode cX6_off 27 = .ok (.ifCond .ne 5, 3) := by decide +kernel
theorem dX6_off_30 : decode cX6_off 30 = .ok (.iconst (-1), 1) := by decide +kernel
theorem dX6_off_31 : decode cX6_off 31 = .ok (.ireturn, 1) := by decide +kernel
theorem dX6_off_32 : decode cX6_off 32 = .ok (.aload_n 0, 1) := by decide +kernel
theorem dX6_off_33 : decode cX6_off 33 = .ok (.getfield 39, 3) := by decide +kernel
theorem dX6_off_36 : decode cX6_off 36 = .ok (.aload_n 0, 1) := by decide +kernel
theorem dX6_off_37 : decode cX6_off 37 = .ok (.getfield 28, 3) := by decide +kernel
theorem dX6_off_40 : decode cX6_off 40 = .ok (.invokevirtual 89, 3) := by decide +kernel
theorem dX6_off_43 : decode cX6_off 43 = .ok (.aload_n 0, 1) := by decide +kernel
theorem dX6_off_44 : decode cX6_off 44 = .ok (.getfield 39, 3) := by decide +kernel
theorem dX6_off_47 : decode cX6_off 47 = .ok (.iload_n 2, 1) := by decide +kernel
theorem dX6_off_48 : decode cX6_off 48 = .ok (.invokevirtual 185, 3) := by decide +kernel
theorem dX6_off_51 : decode cX6_off 51 = .ok (.bipush (-4), 2) := by decide +kernel
theorem dX6_off_53 : decode cX6_off 53 = .ok (.istore 4, 2) := by decide +kernel
theorem dX6_off_55 : decode cX6_off 55 = .ok (.aload_n 0, 1) := by decide +kernel
theorem dX6_off_56 : decode cX6_off 56 = .ok (.getfield 39, 3) := by decide +kernel
theorem dX6_off_59 : decode cX6_off 59 = .ok (.iload_n 1, 1) := by decide +kernel
theorem dX6_off_60 : decode cX6_off 60 = .ok (.invokevirtual 135, 3) := by decide +kernel
theorem dX6_off_63 : decode cX6_off 63 = .ok (.istore 5, 2) := by decide +kernel
theorem dX6_off_65 : decode cX6_off 65 = .ok (.iconst 0, 1) := by decide +kernel
theorem dX6_off_66 : decode cX6_off 66 = .ok (.istore 6, 2) := by decide +kernel
theorem dX6_off_68 : decode cX6_off 68 = .ok (.iload 6, 2) := by decide +kernel
theorem dX6_off_70 : decode cX6_off 70 = .ok (.aload_n 0, 1) := by decide +kernel
theorem dX6_off_71 : decode cX6_off 71 = .ok (.getfield 28, 3) := by decide +kernel
theorem dX6_off_74 : decode cX6_off 74 = .ok (.getfield 109, 3) := by decide +kernel
theorem dX6_off_77 : decode cX6_off 77 = .ok (.if_icmp .ge 62, 3) := by decide +kernel
theorem dX6_off_80 : decode cX6_off 80 = .ok (.aload_n 0, 1) := by decide +kernel
theorem dX6_off_81 : decode cX6_off 81 = .ok (.getfield 39, 3) := by decide +kernel
theorem dX6_off_84 : decode cX6_off 84 = .ok (.aload_n 0, 1) := by decide +kernel
theorem dX6_off_85 : decode cX6_off 85 = .ok (.getfield 28, 3) := by decide +kernel
theorem dX6_off_88 : decode cX6_off 88 = .ok (.invokevirtual 89, 3) := by decide +kernel
theorem dX6_off_91 : decode cX6_off 91 = .ok (.aload_n 0, 1) := by decide +kernel
theorem dX6_off_92 : decode cX6_off 92 = .ok (.getfield 39, 3) := by decide +kernel
theorem dX6_off_95 : decode cX6_off 95 = .ok (.iload 6, 2) := by decide +kernel
theorem dX6_off_97 : decode cX6_off 97 = .ok (.invokevirtual 202, 3) := by decide +kernel
theorem dX6_off_100 : decode cX6_off 100 = .ok (.aload_n 0, 1) := by decide +kernel
theorem dX6_off_101 : decode cX6_off 101 = .ok (.getfield 39, 3) := by decide +kernel
theorem dX6_off_104 : decode cX6_off 104 = .ok (.iload_n 2, 1) := by decide +kernel
theorem dX6_off_105 : decode cX6_off 105 = .ok (.invokevirtual 185, 3) := by decide +kernel
theorem dX6_off_108 : decode cX6_off 108 = .ok (.aload_n 0, 1) := by decide +kernel
theorem dX6_off_109 : decode cX6_off 109 = .ok (.getfield 39, 3) := by decide +kernel
theorem dX6_off_112 : decode cX6_off 112 = .ok (.iload_n 1, 1) := by decide +kernel
theorem dX6_off_113 : decode cX6_off 113 = .ok (.invokevirtual 135, 3) := by decide +kernel
theorem dX6_off_116 : decode cX6_off 116 = .ok (.istore 7, 2) := by decide +kernel
theorem dX6_off_118 : decode cX6_off 118 = .ok (.iload 7, 2) := by decide +kernel
theorem dX6_off_120 : decode cX6_off 120 = .ok (.iload 5, 2) := by decide +kernel
theorem dX6_off_122 : decode cX6_off 122 = .ok (.if_icmp .ge 11, 3) := by decide +kernel
theorem dX6_off_125 : decode cX6_off 125 = .ok (.iload 6, 2) := by decide +kernel
theorem dX6_off_127 : decode cX6_off 127 = .ok (.istore 4, 2) := by decide +kernel
theorem dX6_off_129 : decode cX6_off 129 = .ok (.iload 7, 2) := by decide +kernel
theorem dX6_off_131 : decode cX6_off 131 = .ok (.istore 5, 2) := by decide +kernel
theorem dX6_off_133 : decode cX6_off 133 = .ok (.iinc 6 1, 3) := by decide +kernel
theorem dX6_off_136 : decode cX6_off 136 = .ok (.goto (-68), 3) := by decide +kernel
theorem dX6_off_139 : decode cX6_off 139 = .ok (.iload_n 3, 1) := by decide +kernel
theorem dX6_off_140 : decode cX6_off 140 = .ok (.ifCond .eq 10, 3) := by decide +kernel
theorem dX6_off_143 : decode cX6_off 143 = .ok (.iload 4, 2) := by decide +kernel
theorem dX6_off_145 : decode cX6_off 145 = .ok (.bipush (-4), 2) := by decide +kernel
theorem dX6_off_147 : decode cX6_off 147 = .ok (.if_icmp .ne 8, 3) := by decide +kernel
theorem dX6_off_150 : decode cX6_off 150 = .ok (.iload 4, 2) := by decide +kernel
theorem dX6_off_152 : decode cX6_off 152 = .ok (.goto 5, 3) := by decide +kernel
theorem dX6_off_155 : decode cX6_off 155 = .ok (.iload 5, 2) := by decide +kernel
theorem dX6_off_157 : decode cX6_off 157 = .ok (.ireturn, 1) := by decide +kernel
theorem dX6_luck_0 : decode cX6_luck 0 = .ok (.aload_n 0, 1) := by decide +kernel
theorem dX6_luck_1 : decode cX6_luck 1 = .ok (.getfield 28, 3) := by decide +kernel
theorem dX6_luck_4 : decode cX6_luck 4 = .ok (.iload_n 2, 1) := by decide +kernel
theorem dX6_luck_5 : decode cX6_luck 5 = .ok (.invokevirtual 141, 3) := by decide +kernel
theorem dX6_luck_8 : decode cX6_luck 8 = .ok (.ifCond .eq 16, 3) := by decide +kernel
theorem dX6_luck_11 : decode cX6_luck 11 = .ok (.aload_n 0, 1) := by decide +kernel
theorem dX6_luck_12 : decode cX6_luck 12 = .ok (.iload_n 1, 1) := by decide +kernel
theorem dX6_luck_13 : decode cX6_luck 13 = .ok (.iload_n 3, 1) := by decide +kernel
theorem dX6_luck_14 : decode cX6_luck 14 = .ok (.iload 4, 2) := by decide +kernel
theorem dX6_luck_16 : decode cX6_luck 16 = .ok (.iconst 0, 1) := by decide +kernel
theorem dX6_luck_17 : decode cX6_luck 17 = .ok (.iload_n 2, 1) := by decide +kernel
theorem dX6_luck_18 : decode cX6_luck 18 = .ok (.invokevirtual 205, 3) := by decide +kernel
theorem dX6_luck_21 : decode cX6_luck 21 = .ok (.goto 6, 3) := by decide +kernel
theorem dX6_luck_24 : decode cX6_luck 24 = .ok (.ldc2_w 209, 3) := by decide +kernel
theorem dX6_luck_27 : decode cX6_luck 27 = .ok (.lreturn, 1) := by decide +kernel
theorem dX6_mean_0 : decode cX6_mean 0 = .ok (.aload_n 0, 1) := by decide +kernel
theorem dX6_mean_1 : decode cX6_mean 1 = .ok (.getfield 28, 3) := by decide +kernel
theorem dX6_mean_4 : decode cX6_mean 4 = .ok (.iload_n 2, 1) := by decide +kernel
theorem dX6_mean_5 : decode cX6_mean 5 = .ok (.invokevirtual 125, 3) := by decide +kernel
theorem dX6_mean_8 : decode cX6_mean 8 = .ok (.ifCond .eq 16, 3) := by decide +kernel
theorem dX6_mean_11 : decode cX6_mean 11 = .ok (.aload_n 0, 1) := by decide +kernel
theorem dX6_mean_12 : decode cX6_mean 12 = .ok (.iload_n 1, 1) := by decide +kernel
theorem dX6_mean_13 : decode cX6_mean 13 = .ok (.iload_n 3, 1) := by decide +kernel
theorem dX6_mean_14 : decode cX6_mean 14 = .ok (.iload 4, 2) := by decide +kernel
theorem dX6_mean_16 : decode cX6_mean 16 = .ok (.iconst 1, 1) := by decide +kernel
theorem dX6_mean_17 : decode cX6_mean 17 = .ok (.iload_n 2, 1) := by decide +kernel
theorem dX6_mean_18 : decode cX6_mean 18 = .ok (.invokevirtual 205, 3) := by decide +kernel
theorem dX6_mean_21 : decode cX6_mean 21 = .ok (.goto 6, 3) := by decide +kernel
theorem dX6_mean_24 : decode cX6_mean 24 = .ok (.ldc2_w 209, 3) := by decide +kernel
theorem dX6_mean_27 : decode cX6_mean 27 = .ok (.lreturn, 1) := by decide +kernel
theorem dX6_see_0 : decode cX6_see 0 = .ok (.iload_n 1, 1) := by decide +kernel
theorem dX6_see_1 : decode cX6_see 1 = .ok (.iconst 0, 1) := by decide +kernel
theorem dX6_see_2 : decode cX6_see 2 = .ok (.bipush 20, 2) := by decide +kernel
theorem dX6_see_4 : decode cX6_see 4 = .ok (.invokestatic 68, 3) := by decide +kernel
theorem dX6_see_7 : decode cX6_see 7 = .ok (.ifCond .eq 14, 3) := by decide +kernel
theorem dX6_see_10 : decode cX6_see 10 = .ok (.aload_n 0, 1) := by decide +kernel
theorem dX6_see_11 : decode cX6_see 11 = .ok (.getfield 28, 3) := by decide +kernel
theorem dX6_see_14 : decode cX6_see 14 = .ok (.iload_n 2, 1) := by decide +kernel
theorem dX6_see_15 : decode cX6_see 15 = .ok (.invokevirtual 125, 3) := by decide +kernel
theorem dX6_see_18 : decode cX6_see 18 = .ok (.ifCond .ne 5, 3) := by decide +kernel
theorem dX6_see_21 : decode cX6_see 21 = .ok (.iconst (-1), 1) := by decide +kernel
theorem dX6_see_22 : decode cX6_see 22 = .ok (.ireturn, 1) := by decide +kernel
theorem dX6_see_23 : decode cX6_see 23 = .ok (.iload_n 3, 1) := by decide +kernel
theorem dX6_see_24 : decode cX6_see 24 = .ok (.iconst 0, 1) := by decide +kernel
theorem dX6_see_25 : decode cX6_see 25 = .ok (.bipush 99, 2) := by decide +kernel
theorem dX6_see_27 : decode cX6_see 27 = .ok (.invokestatic 68, 3) := by decide +kernel
theorem dX6_see_30 : decode cX6_see 30 = .ok (.ifCond .ne 5, 3) := by decide +kernel
theorem dX6_see_33 : decode cX6_see 33 = .ok (.iconst (-1), 1) := by decide +kernel
theorem dX6_see_34 : decode cX6_see 34 = .ok (.ireturn, 1) := by decide +kernel
theorem dX6_see_35 : decode cX6_see 35 = .ok (.aload_n 0, 1) := by decide +kernel
theorem dX6_see_36 : decode cX6_see 36 = .ok (.getfield 35, 3) := by decide +kernel
theorem dX6_see_39 : decode cX6_see 39 = .ok (.iload_n 1, 1) := by decide +kernel
theorem dX6_see_40 : decode cX6_see 40 = .ok (.iload_n 2, 1) := by decide +kernel
theorem dX6_see_41 : decode cX6_see 41 = .ok (.iload_n 3, 1) := by decide +kernel
theorem dX6_see_42 : decode cX6_see 42 = .ok (.invokevirtual 211, 3) := by decide +kernel
theorem dX6_see_45 : decode cX6_see 45 = .ok (.ifCond .eq 13, 3) := by decide +kernel
theorem dX6_see_48 : decode cX6_see 48 = .ok (.aload_n 0, 1) := by decide +kernel
theorem dX6_see_49 : decode cX6_see 49 = .ok (.getfield 35, 3) := by decide +kernel
theorem dX6_see_52 : decode cX6_see 52 = .ok (.getfield 93, 3) := by decide +kernel
theorem dX6_see_55 : decode cX6_see 55 = .ok (.goto 5, 3) := by decide +kernel
theorem dX6_see_58 : decode cX6_see 58 = .ok (.bipush (-3), 2) := by decide +kernel
theorem dX6_see_60 : decode cX6_see 60 = .ok (.ireturn, 1) := by decide +kernel
theorem dX6_forget_0 : decode cX6_forget 0 = .ok (.iload_n 1, 1) := by decide +kernel
theorem dX6_forget_1 : decode cX6_forget 1 = .ok (.iconst 0, 1) := by decide +kernel
theorem dX6_forget_2 : decode cX6_forget 2 = .ok (.aload_n 0, 1) := by decide +kernel
theorem dX6_forget_3 : decode cX6_forget 3 = .ok (.getfield 35, 3) := by decide +kernel
theorem dX6_forget_6 : decode cX6_forget 6 = .ok (.getfield 93, 3) := by decide +kernel
theorem dX6_forget_9 : decode cX6_forget 9 = .ok (.invokestatic 68, 3) := by decide +kernel
theorem dX6_forget_12 : decode cX6_forget 12 = .ok (.ifCond .ne 5, 3) := by decide +kernel
theorem dX6_forget_15 : decode cX6_forget 15 = .ok (.iconst (-1), 1) := by decide +kernel
theorem dX6_forget_16 : decode cX6_forget 16 = .ok (.ireturn, 1) := by decide +kernel
theorem dX6_forget_17 : decode cX6_forget 17 = .ok (.aload_n 0, 1) := by decide +kernel
theorem dX6_forget_18 : decode cX6_forget 18 = .ok (.getfield 35, 3) := by decide +kernel
theorem dX6_forget_21 : decode cX6_forget 21 = .ok (.getfield 93, 3) := by decide +kernel
theorem dX6_forget_24 : decode cX6_forget 24 = .ok (.istore_n 2, 1) := by decide +kernel
theorem dX6_forget_25 : decode cX6_forget 25 = .ok (.aload_n 0, 1) := by decide +kernel
theorem dX6_forget_26 : decode cX6_forget 26 = .ok (.getfield 35, 3) := by decide +kernel
theorem dX6_forget_29 : decode cX6_forget 29 = .ok (.iload_n 1, 1) := by decide +kernel
theorem dX6_forget_30 : decode cX6_forget 30 = .ok (.putfield 93, 3) := by decide +kernel
theorem dX6_forget_33 : decode cX6_forget 33 = .ok (.iload_n 2, 1) := by decide +kernel
theorem dX6_forget_34 : decode cX6_forget 34 = .ok (.ireturn, 1) := by decide +kernel
theorem dX6_owners_0 : decode cX6_owners 0 = .ok (.aload_n 0, 1) := by decide +kernel
theorem dX6_owners_1 : decode cX6_owners 1 = .ok (.getfield 28, 3) := by decide +kernel
theorem dX6_owners_4 : decode cX6_owners 4 = .ok (.iload_n 1, 1) := by decide +kernel
theorem dX6_owners_5 : decode cX6_owners 5 = .ok (.invokevirtual 141, 3) := by decide +kernel
theorem dX6_owners_8 : decode cX6_owners 8 = .ok (.ifCond .eq 11, 3) := by decide +kernel
theorem dX6_owners_11 : decode cX6_owners 11 = .ok (.aload_n 0, 1) := by decide +kernel
theorem dX6_owners_12 : decode cX6_owners 12 = .ok (.iload_n 1, 1) := by decide +kernel
theorem dX6_owners_13 : decode cX6_owners 13 = .ok (.invokevirtual 213, 3) := by decide +kernel
theorem dX6_owners_16 : decode cX6_owners 16 = .ok (.goto 4, 3) := by decide +kernel
theorem dX6_owners_19 : decode cX6_owners 19 = .ok (.iconst (-1), 1) := by decide +kernel
theorem dX6_owners_20 : decode cX6_owners 20 = .ok (.ireturn, 1) := by decide +kernel
theorem dX6_kinds_0 : decode cX6_kinds 0 = .ok (.aload_n 0, 1) := by decide +kernel
theorem dX6_kinds_1 : decode cX6_kinds 1 = .ok (.getfield 28, 3) := by decide +kernel
theorem dX6_kinds_4 : decode cX6_kinds 4 = .ok (.iload_n 1, 1) := by decide +kernel
theorem dX6_kinds_5 : decode cX6_kinds 5 = .ok (.invokevirtual 141, 3) := by decide +kernel
theorem dX6_kinds_8 : decode cX6_kinds 8 = .ok (.ifCond .ne 5, 3) := by decide +kernel
theorem dX6_kinds_11 : decode cX6_kinds 11 = .ok (.iconst (-1), 1) := by decide +kernel
theorem dX6_kinds_12 : decode cX6_kinds 12 = .ok (.ireturn, 1) := by decide +kernel
theorem dX6_kinds_13 : decode cX6_kinds 13 = .ok (.iconst 0, 1) := by decide +kernel
theorem dX6_kinds_14 : decode cX6_kinds 14 = .ok (.istore_n 2, 1) := by decide +kernel
theorem dX6_kinds_15 : decode cX6_kinds 15 = .ok (.iconst 0, 1) := by decide +kernel
theorem dX6_kinds_16 : decode cX6_kinds 16 = .ok (.istore_n 3, 1) := by decide +kernel
theorem dX6_kinds_17 : decode cX6_kinds 17 = .ok (.iload_n 3, 1) := by decide +kernel
theorem dX6_kinds_18 : decode cX6_kinds 18 = .ok (.iconst 4, 1) := by decide +kernel
theorem dX6_kinds_19 : decode cX6_kinds 19 = .ok (.if_icmp .ge 50, 3) := by decide +kernel
theorem dX6_kinds_22 : decode cX6_kinds 22 = .ok (.aload_n 0, 1) := by decide +kernel
theorem dX6_kinds_23 : decode cX6_kinds 23 = .ok (.getfield 39, 3) := by decide +kernel
theorem dX6_kinds_26 : decode cX6_kinds 26 = .ok (.aload_n 0, 1) := by decide +kernel
theorem dX6_kinds_27 : decode cX6_kinds 27 = .ok (.getfield 28, 3) := by decide +kernel
theorem dX6_kinds_30 : decode cX6_kinds 30 = .ok (.invokevirtual 89, 3) := by decide +kernel
theorem dX6_kinds_33 : decode cX6_kinds 33 = .ok (.aload_n 0, 1) := by decide +kernel
theorem dX6_kinds_34 : decode cX6_kinds 34 = .ok (.getfield 39, 3) := by decide +kernel
theorem dX6_kinds_37 : decode cX6_kinds 37 = .ok (.getfield 144, 3) := by decide +kernel
theorem dX6_kinds_40 : decode cX6_kinds 40 = .ok (.iload_n 1, 1) := by decide +kernel
theorem dX6_kinds_41 : decode cX6_kinds 41 = .ok (.iload_n 3, 1) := by decide +kernel
theorem dX6_kinds_42 : decode cX6_kinds 42 = .ok (.iastore, 1) := by decide +kernel
theorem dX6_kinds_43 : decode cX6_kinds 43 = .ok (.aload_n 0, 1) := by decide +kernel
theorem dX6_kinds_44 : decode cX6_kinds 44 = .ok (.getfield 35, 3) := by decide +kernel
theorem dX6_kinds_47 : decode cX6_kinds 47 = .ok (.aload_n 0, 1) := by decide +kernel
theorem dX6_kinds_48 : decode cX6_kinds 48 = .ok (.getfield 39, 3) := by decide +kernel
theorem dX6_kinds_51 : decode cX6_kinds 51 = .ok (.invokevirtual 216, 3) := by decide +kernel
theorem dX6_kinds_54 : decode cX6_kinds 54 = .ok (.ifCond .eq 9, 3) := by decide +kernel
theorem dX6_kinds_57 : decode cX6_kinds 57 = .ok (.iload_n 2, 1) := by decide +kernel
theorem dX6_kinds_58 : decode cX6_kinds 58 = .ok (.iconst 1, 1) := by decide +kernel
theorem dX6_kinds_59 : decode cX6_kinds 59 = .ok (.iload_n 3, 1) := by decide +kernel
theorem dX6_kinds_60 : decode cX6_kinds 60 = .ok (.ishl, 1) := by decide +kernel
theorem dX6_kinds_61 : decode cX6_kinds 61 = .ok (.ior, 1) := by decide +kernel
theorem dX6_kinds_62 : decode cX6_kinds 62 = .ok (.istore_n 2, 1) := by decide +kernel
theorem dX6_kinds_63 : decode cX6_kinds 63 = .ok (.iinc 3 1, 3) := by decide +kernel
theorem dX6_kinds_66 : decode cX6_kinds 66 = .ok (.goto (-49), 3) := by decide +kernel
theorem dX6_kinds_69 : decode cX6_kinds 69 = .ok (.iload_n 2, 1) := by decide +kernel
theorem dX6_kinds_70 : decode cX6_kinds 70 = .ok (.ireturn, 1) := by decide +kernel
theorem dX6_ask_0 : decode cX6_ask 0 = .ok (.aload_n 0, 1) := by decide +kernel
theorem dX6_ask_1 : decode cX6_ask 1 = .ok (.getfield 28, 3) := by decide +kernel
theorem dX6_ask_4 : decode cX6_ask 4 = .ok (.iload_n 1, 1) := by decide +kernel
theorem dX6_ask_5 : decode cX6_ask 5 = .ok (.invokevirtual 141, 3) := by decide +kernel
theorem dX6_ask_8 : decode cX6_ask 8 = .ok (.ifCond .eq 12, 3) := by decide +kernel
theorem dX6_ask_11 : decode cX6_ask 11 = .ok (.iload_n 2, 1) := by decide +kernel
theorem dX6_ask_12 : decode cX6_ask 12 = .ok (.iconst 0, 1) := by decide +kernel
theorem dX6_ask_13 : decode cX6_ask 13 = .ok (.iconst 1, 1) := by decide +kernel
theorem dX6_ask_14 : decode cX6_ask 14 = .ok (.invokestatic 68, 3) := by decide +kernel
theorem dX6_ask_17 : decode cX6_ask 17 = .ok (.ifCond .ne 5, 3) := by decide +kernel
theorem dX6_ask_20 : decode cX6_ask 20 = .ok (.iconst (-1), 1) := by decide +kernel
theorem dX6_ask_21 : decode cX6_ask 21 = .ok (.ireturn, 1) := by decide +kernel
theorem dX6_ask_22 : decode cX6_ask 22 = .ok (.aload_n 0, 1) := by decide +kernel
theorem dX6_ask_23 : decode cX6_ask 23 = .ok (.iload_n 1, 1) := by decide +kernel
theorem dX6_ask_24 : decode cX6_ask 24 = .ok (.invokevirtual 213, 3) := by decide +kernel
theorem dX6_ask_27 : decode cX6_ask 27 = .ok (.istore_n 3, 1) := by decide +kernel
theorem dX6_ask_28 : decode cX6_ask 28 = .ok (.iconst 0, 1) := by decide +kernel
theorem dX6_ask_29 : decode cX6_ask 29 = .ok (.istore 4, 2) := by decide +kernel
theorem dX6_ask_31 : decode cX6_ask 31 = .ok (.iload 4, 2) := by decide +kernel
theorem dX6_ask_33 : decode cX6_ask 33 = .ok (.aload_n 0, 1) := by decide +kernel
theorem dX6_ask_34 : decode cX6_ask 34 = .ok (.getfield 28, 3) := by decide +kernel
theorem dX6_ask_37 : decode cX6_ask 37 = .ok (.getfield 106, 3) := by decide +kernel
theorem dX6_ask_40 : decode cX6_ask 40 = .ok (.if_icmp .ge 37, 3) := by decide +kernel
theorem dX6_ask_43 : decode cX6_ask 43 = .ok (.aload_n 0, 1) := by decide +kernel
theorem dX6_ask_44 : decode cX6_ask 44 = .ok (.getfield 42, 3) := by decide +kernel
theorem dX6_ask_47 : decode cX6_ask 47 = .ok (.iload 4, 2) := by decide +kernel
theorem dX6_ask_49 : decode cX6_ask 49 = .ok (.aaload, 1) := by decide +kernel
theorem dX6_ask_50 : decode cX6_ask 50 = .ok (.aload_n 0, 1) := by decide +kernel
theorem dX6_ask_51 : decode cX6_ask 51 = .ok (.getfield 28, 3) := by decide +kernel
theorem dX6_ask_54 : decode cX6_ask 54 = .ok (.invokevirtual 89, 3) := by decide +kernel
theorem dX6_ask_57 : decode cX6_ask 57 = .ok (.aload_n 0, 1) := by decide +kernel
theorem dX6_ask_58 : decode cX6_ask 58 = .ok (.getfield 42, 3) := by decide +kernel
theorem dX6_ask_61 : decode cX6_ask 61 = .ok (.iload 4, 2) := by decide +kernel
theorem dX6_ask_63 : decode cX6_ask 63 = .ok (.aaload, 1) := by decide +kernel
theorem dX6_ask_64 : decode cX6_ask 64 = .ok (.getfield 150, 3) := by decide +kernel
theorem dX6_ask_67 : decode cX6_ask 67 = .ok (.iload_n 1, 1) := by decide +kernel
theorem dX6_ask_68 : decode cX6_ask 68 = .ok (.iload 4, 2) := by decide +kernel
theorem dX6_ask_70 : decode cX6_ask 70 = .ok (.iastore, 1) := by decide +kernel
theorem dX6_ask_71 : decode cX6_ask 71 = .ok (.iinc 4 1, 3) := by decide +kernel
theorem dX6_ask_74 : decode cX6_ask 74 = .ok (.goto (-43), 3) := by decide +kernel
theorem dX6_ask_77 : decode cX6_ask 77 = .ok (.bipush (-4), 2) := by decide +kernel
theorem dX6_ask_79 : decode cX6_ask 79 = .ok (.istore 4, 2) := by decide +kernel
theorem dX6_ask_81 : decode cX6_ask 81 = .ok (.iload_n 3, 1) := by decide +kernel
theorem dX6_ask_82 : decode cX6_ask 82 = .ok (.invokestatic 220, 3) := by decide +kernel
theorem dX6_ask_85 : decode cX6_ask 85 = .ok (.istore 5, 2) := by decide +kernel
theorem dX6_ask_87 : decode cX6_ask 87 = .ok (.iconst 0, 1) := by decide +kernel
theorem dX6_ask_88 : decode cX6_ask 88 = .ok (.istore 6, 2) := by decide +kernel
theorem dX6_ask_90 : decode cX6_ask 90 = .ok (.iload 6, 2) := by decide +kernel
theorem dX6_ask_92 : decode cX6_ask 92 = .ok (.bipush 20, 2) := by decide +kernel
theorem dX6_ask_94 : decode cX6_ask 94 = .ok (.if_icmp .gt 101, 3) := by decide +kernel
theorem dX6_ask_97 : decode cX6_ask 97 = .ok (.iconst 0, 1) := by decide +kernel
theorem dX6_ask_98 : decode cX6_ask 98 = .ok (.istore 7, 2) := by decide +kernel
theorem dX6_ask_100 : decode cX6_ask 100 = .ok (.iload 7, 2) := by decide +kernel
theorem dX6_ask_102 : decode cX6_ask 102 = .ok (.aload_n 0, 1) := by decide +kernel
theorem dX6_ask_103 : decode cX6_ask 103 = .ok (.getfield 28, 3) := by decide +kernel
theorem dX6_ask_106 : decode cX6_ask 106 = .ok (.getfield 106, 3) := by decide +kernel
theorem dX6_ask_109 : decode cX6_ask 109 = .ok (.if_icmp .ge 39, 3) := by decide +kernel
theorem dX6_ask_112 : decode cX6_ask 112 = .ok (.aload_n 0, 1) := by decide +kernel
theorem dX6_ask_113 : decode cX6_ask 113 = .ok (.iload 7, 2) := by decide +kernel
theorem dX6_ask_115 : decode cX6_ask 115 = .ok (.iload_n 3, 1) := by decide +kernel
theorem dX6_ask_116 : decode cX6_ask 116 = .ok (.invokevirtual 225, 3) := by decide +kernel
theorem dX6_ask_119 : decode cX6_ask 119 = .ok (.istore 8, 2) := by decide +kernel
theorem dX6_ask_121 : decode cX6_ask 121 = .ok (.iload 8, 2) := by decide +kernel
theorem dX6_ask_123 : decode cX6_ask 123 = .ok (.iload 5, 2) := by decide +kernel
theorem dX6_ask_125 : decode cX6_ask 125 = .ok (.if_icmp .ge 17, 3) := by decide +kernel
theorem dX6_ask_128 : decode cX6_ask 128 = .ok (.bipush 10, 2) := by decide +kernel
theorem dX6_ask_130 : decode cX6_ask 130 = .ok (.iload 6, 2) := by decide +kernel
theorem dX6_ask_132 : decode cX6_ask 132 = .ok (.imul, 1) := by decide +kernel
theorem dX6_ask_133 : decode cX6_ask 133 = .ok (.iload 7, 2) := by decide +kernel
theorem dX6_ask_135 : decode cX6_ask 135 = .ok (.iadd, 1) := by decide +kernel
theorem dX6_ask_136 : decode cX6_ask 136 = .ok (.istore 4, 2) := by decide +kernel
theorem dX6_ask_138 : decode cX6_ask 138 = .ok (.iload 8, 2) := by decide +kernel
theorem dX6_ask_140 : decode cX6_ask 140 = .ok (.istore 5, 2) := by decide +kernel
theorem dX6_ask_142 : decode cX6_ask 142 = .ok (.iinc 7 1, 3) := by decide +kernel
theorem dX6_ask_145 : decode cX6_ask 145 = .ok (.goto (-45), 3) := by decide +kernel
theorem dX6_ask_148 : decode cX6_ask 148 = .ok (.iconst 0, 1) := by decide +kernel
theorem dX6_ask_149 : decode cX6_ask 149 = .ok (.istore 7, 2) := by decide +kernel
theorem dX6_ask_151 : decode cX6_ask 151 = .ok (.iload 7, 2) := by decide +kernel
theorem dX6_ask_153 : decode cX6_ask 153 = .ok (.aload_n 0, 1) := by decide +kernel
theorem dX6_ask_154 : decode cX6_ask 154 = .ok (.getfield 28, 3) := by decide +kernel
theorem dX6_ask_157 : decode cX6_ask 157 = .ok (.getfield 106, 3) := by decide +kernel
theorem dX6_ask_160 : decode cX6_ask 160 = .ok (.if_icmp .ge 29, 3) := by decide +kernel
theorem dX6_ask_163 : decode cX6_ask 163 = .ok (.aload_n 0, 1) := by decide +kernel
theorem dX6_ask_164 : decode cX6_ask 164 = .ok (.getfield 42, 3) := by decide +kernel
theorem dX6_ask_167 : decode cX6_ask 167 = .ok (.iload 7, 2) := by decide +kernel
theorem dX6_ask_169 : decode cX6_ask 169 = .ok (.aaload, 1) := by decide +kernel
theorem dX6_ask_170 : decode cX6_ask 170 = .ok (.aload_n 0, 1) := by decide +kernel
theorem dX6_ask_171 : decode cX6_ask 171 = .ok (.getfield 42, 3) := by decide +kernel
theorem dX6_ask_174 : decode cX6_ask 174 = .ok (.iload 7, 2) := by decide +kernel
theorem dX6_ask_176 : decode cX6_ask 176 = .ok (.aaload, 1) := by decide +kernel
theorem dX6_ask_177 : decode cX6_ask 177 = .ok (.invokevirtual 228, 3) := by decide +kernel
theorem dX6_ask_180 : decode cX6_ask 180 = .ok (.invokevirtual 231, 3) := by decide +kernel
theorem dX6_ask_183 : decode cX6_ask 183 = .ok (.iinc 7 1, 3) := by decide +kernel
theorem dX6_ask_186 : decode cX6_ask 186 = .ok (.goto (-35), 3) := by decide +kernel
theorem dX6_ask_189 : decode cX6_ask 189 = .ok (.iinc 6 1, 3) := by decide +kernel
theorem dX6_ask_192 : decode cX6_ask 192 = .ok (.goto (-102), 3) := by decide +kernel
theorem dX6_ask_195 : decode cX6_ask 195 = .ok (.iload_n 2, 1) := by decide +kernel
theorem dX6_ask_196 : decode cX6_ask 196 = .ok (.ifCond .eq 10, 3) := by decide +kernel
theorem dX6_ask_199 : decode cX6_ask 199 = .ok (.iload 4, 2) := by decide +kernel
theorem dX6_ask_201 : decode cX6_ask 201 = .ok (.bipush (-4), 2) := by decide +kernel
theorem dX6_ask_203 : decode cX6_ask 203 = .ok (.if_icmp .ne 8, 3) := by decide +kernel
theorem dX6_ask_206 : decode cX6_ask 206 = .ok (.iload 4, 2) := by decide +kernel
theorem dX6_ask_208 : decode cX6_ask 208 = .ok (.goto 5, 3) := by decide +kernel
theorem dX6_ask_211 : decode cX6_ask 211 = .ok (.iload 5, 2) := by decide +kernel
theorem dX6_ask_213 : decode cX6_ask 213 = .ok (.ireturn, 1) := by decide +kernel
theorem dX6_drift_0 : decode cX6_drift 0 = .ok (.iload_n 2, 1) := by decide +kernel
theorem dX6_drift_1 : decode cX6_drift 1 = .ok (.iconst 1, 1) := by decide +kernel
theorem dX6_drift_2 : decode cX6_drift 2 = .ok (.bipush 60, 2) := by decide +kernel
theorem dX6_drift_4 : decode cX6_drift 4 = .ok (.invokestatic 68, 3) := by decide +kernel
theorem dX6_drift_7 : decode cX6_drift 7 = .ok (.ifCond .eq 12, 3) := by decide +kernel
theorem dX6_drift_10 : decode cX6_drift 10 = .ok (.iload_n 3, 1) := by decide +kernel
theorem dX6_drift_11 : decode cX6_drift 11 = .ok (.iconst 0, 1) := by decide +kernel
theorem dX6_drift_12 : decode cX6_drift 12 = .ok (.iconst 1, 1) := by decide +kernel
theorem dX6_drift_13 : decode cX6_drift 13 = .ok (.invokestatic 68, 3) := by decide +kernel
theorem dX6_drift_16 : decode cX6_drift 16 = .ok (.ifCond .ne 5, 3) := by decide +kernel
theorem dX6_drift_19 : decode cX6_drift 19 = .ok (.iconst (-1), 1) := by decide +kernel
theorem dX6_drift_20 : decode cX6_drift 20 = .ok (.ireturn, 1) := by decide +kernel
theorem dX6_drift_21 : decode cX6_drift 21 = .ok (.aload_n 0, 1) := by decide +kernel
theorem dX6_drift_22 : decode cX6_drift 22 = .ok (.getfield 28, 3) := by decide +kernel
theorem dX6_drift_25 : decode cX6_drift 25 = .ok (.getfield 109, 3) := by decide +kernel
theorem dX6_drift_28 : decode cX6_drift 28 = .ok (.ifCond .ne 6, 3) := by decide +kernel
theorem dX6_drift_31 : decode cX6_drift 31 = .ok (.bipush (-2), 2) := by decide +kernel
theorem dX6_drift_33 : decode cX6_drift 33 = .ok (.ireturn, 1) := by decide +kernel
theorem dX6_drift_34 : decode cX6_drift 34 = .ok (.aload_n 0, 1) := by decide +kernel
theorem dX6_drift_35 : decode cX6_drift 35 = .ok (.getfield 39, 3) := by decide +kernel
theorem dX6_drift_38 : decode cX6_drift 38 = .ok (.aload_n 0, 1) := by decide +kernel
theorem dX6_drift_39 : decode cX6_drift 39 = .ok (.getfield 28, 3) := by decide +kernel
theorem dX6_drift_42 : decode cX6_drift 42 = .ok (.invokevirtual 89, 3) := by decide +kernel
theorem dX6_drift_45 : decode cX6_drift 45 = .ok (.iload_n 1, 1) := by decide +kernel
theorem dX6_drift_46 : decode cX6_drift 46 = .ok (.istore 4, 2) := by decide +kernel
theorem dX6_drift_48 : decode cX6_drift 48 = .ok (.iconst 0, 1) := by decide +kernel
theorem dX6_drift_49 : decode cX6_drift 49 = .ok (.istore 5, 2) := by decide +kernel
theorem dX6_drift_51 : decode cX6_drift 51 = .ok (.iload 5, 2) := by decide +kernel
theorem dX6_drift_53 : decode cX6_drift 53 = .ok (.iload_n 2, 1) := by decide +kernel
theorem dX6_drift_54 : decode cX6_drift 54 = .ok (.if_icmp .ge 39, 3) := by decide +kernel
theorem dX6_drift_57 : decode cX6_drift 57 = .ok (.iload 4, 2) := by decide +kernel
theorem dX6_drift_59 : decode cX6_drift 59 = .ok (.ldc 234, 2) := by decide +kernel
theorem dX6_drift_61 : decode cX6_drift 61 = .ok (.imul, 1) := by decide +kernel
theorem dX6_drift_62 : decode cX6_drift 62 = .ok (.sipush 12345, 3) := by decide +kernel
theorem dX6_drift_65 : decode cX6_drift 65 = .ok (.iadd, 1) := by decide +kernel
theorem dX6_drift_66 : decode cX6_drift 66 = .ok (.istore 4, 2) := by decide +kernel
theorem dX6_drift_68 : decode cX6_drift 68 = .ok (.aload_n 0, 1) := by decide +kernel
theorem dX6_drift_69 : decode cX6_drift 69 = .ok (.getfield 39, 3) := by decide +kernel
theorem dX6_drift_72 : decode cX6_drift 72 = .ok (.iload 4, 2) := by decide +kernel
theorem dX6_drift_74 : decode cX6_drift 74 = .ok (.bipush 16, 2) := by decide +kernel
theorem dX6_drift_76 : decode cX6_drift 76 = .ok (.iushr, 1) := by decide +kernel
theorem dX6_drift_77 : decode cX6_drift 77 = .ok (.sipush 32767, 3) := by decide +kernel
theorem dX6_drift_80 : decode cX6_drift 80 = .ok (.iand, 1) := by decide +kernel
theorem dX6_drift_81 : decode cX6_drift 81 = .ok (.bipush 10, 2) := by decide +kernel
theorem dX6_drift_83 : decode cX6_drift 83 = .ok (.irem, 1) := by decide +kernel
theorem dX6_drift_84 : decode cX6_drift 84 = .ok (.invokevirtual 231, 3) := by decide +kernel
theorem dX6_drift_87 : decode cX6_drift 87 = .ok (.iinc 5 1, 3) := by decide +kernel
theorem dX6_drift_90 : decode cX6_drift 90 = .ok (.goto (-39), 3) := by decide +kernel
theorem dX6_drift_93 : decode cX6_drift 93 = .ok (.iload_n 3, 1) := by decide +kernel
theorem dX6_drift_94 : decode cX6_drift 94 = .ok (.ifCond .ne 13, 3) := by decide +kernel
theorem dX6_drift_97 : decode cX6_drift 97 = .ok (.aload_n 0, 1) := by decide +kernel
theorem dX6_drift_98 : decode cX6_drift 98 = .ok (.getfield 39, 3) := by decide +kernel
theorem dX6_drift_101 : decode cX6_drift 101 = .ok (.getfield 182, 3) := by decide +kernel
theorem dX6_drift_104 : decode cX6_drift 104 = .ok (.goto 10, 3) := by decide +kernel
theorem dX6_drift_107 : decode cX6_drift 107 = .ok (.aload_n 0, 1) := by decide +kernel
theorem dX6_drift_108 : decode cX6_drift 108 = .ok (.getfield 39, 3) := by decide +kernel
theorem dX6_drift_111 : decode cX6_drift 111 = .ok (.invokevirtual 119, 3) := by decide +kernel
theorem dX6_drift_114 : decode cX6_drift 114 = .ok (.ireturn, 1) := by decide +kernel
theorem dX6_keep_0 : decode cX6_keep 0 = .ok (.iload_n 1, 1) := by decide +kernel
theorem dX6_keep_1 : decode cX6_keep 1 = .ok (.iconst 0, 1) := by decide +kernel
theorem dX6_keep_2 : decode cX6_keep 2 = .ok (.iconst 1, 1) := by decide +kernel
theorem dX6_keep_3 : decode cX6_keep 3 = .ok (.invokestatic 68, 3) := by decide +kernel
theorem dX6_keep_6 : decode cX6_keep 6 = .ok (.ifCond .ne 5, 3) := by decide +kernel
theorem dX6_keep_9 : decode cX6_keep 9 = .ok (.iconst (-1), 1) := by decide +kernel
theorem dX6_keep_10 : decode cX6_keep 10 = .ok (.ireturn, 1) := by decide +kernel
theorem dX6_keep_11 : decode cX6_keep 11 = .ok (.aload_n 0, 1) := by decide +kernel
theorem dX6_keep_12 : decode cX6_keep 12 = .ok (.getfield 52, 3) := by decide +kernel
theorem dX6_keep_15 : decode cX6_keep 15 = .ok (.iload_n 1, 1) := by decide +kernel
theorem dX6_keep_16 : decode cX6_keep 16 = .ok (.aaload, 1) := by decide +kernel
theorem dX6_keep_17 : decode cX6_keep 17 = .ok (.getfield 96, 3) := by decide +kernel
theorem dX6_keep_20 : decode cX6_keep 20 = .ok (.ifCond .eq 7, 3) := by decide +kernel
theorem dX6_keep_23 : decode cX6_keep 23 = .ok (.iconst 1, 1) := by decide +kernel
theorem dX6_keep_24 : decode cX6_keep 24 = .ok (.goto 4, 3) := by decide +kernel
theorem dX6_keep_27 : decode cX6_keep 27 = .ok (.iconst 0, 1) := by decide +kernel
theorem dX6_keep_28 : decode cX6_keep 28 = .ok (.istore_n 2, 1) := by decide +kernel
theorem dX6_keep_29 : decode cX6_keep 29 = .ok (.aload_n 0, 1) := by decide +kernel
theorem dX6_keep_30 : decode cX6_keep 30 = .ok (.getfield 52, 3) := by decide +kernel
theorem dX6_keep_33 : decode cX6_keep 33 = .ok (.iload_n 1, 1) := by decide +kernel
theorem dX6_keep_34 : decode cX6_keep 34 = .ok (.aaload, 1) := by decide +kernel
theorem dX6_keep_35 : decode cX6_keep 35 = .ok (.getfield 235, 3) := by decide +kernel
theorem dX6_keep_38 : decode cX6_keep 38 = .ok (.aload_n 0, 1) := by decide +kernel
theorem dX6_keep_39 : decode cX6_keep 39 = .ok (.getfield 28, 3) := by decide +kernel
theorem dX6_keep_42 : decode cX6_keep 42 = .ok (.invokevirtual 89, 3) := by decide +kernel
theorem dX6_keep_45 : decode cX6_keep 45 = .ok (.aload_n 0, 1) := by decide +kernel
theorem dX6_keep_46 : decode cX6_keep 46 = .ok (.getfield 52, 3) := by decide +kernel
theorem dX6_keep_49 : decode cX6_keep 49 = .ok (.iload_n 1, 1) := by decide +kernel
theorem dX6_keep_50 : decode cX6_keep 50 = .ok (.aaload, 1) := by decide +kernel
theorem dX6_keep_51 : decode cX6_keep 51 = .ok (.getfield 238, 3) := by decide +kernel
theorem dX6_keep_54 : decode cX6_keep 54 = .ok (.aload_n 0, 1) := by decide +kernel
theorem dX6_keep_55 : decode cX6_keep 55 = .ok (.getfield 35, 3) := by decide +kernel
theorem dX6_keep_58 : decode cX6_keep 58 = .ok (.invokevirtual 239, 3) := by decide +kernel
theorem dX6_keep_61 : decode cX6_keep 61 = .ok (.aload_n 0, 1) := by decide +kernel
theorem dX6_keep_62 : decode cX6_keep 62 = .ok (.getfield 52, 3) := by decide +kernel
theorem dX6_keep_65 : decode cX6_keep 65 = .ok (.iload_n 1, 1) := by decide +kernel
theorem dX6_keep_66 : decode cX6_keep 66 = .ok (.aaload, 1) := by decide +kernel
theorem dX6_keep_67 : decode cX6_keep 67 = .ok (.iconst 1, 1) := by decide +kernel
theorem dX6_keep_68 : decode cX6_keep 68 = .ok (.putfield 96, 3) := by decide +kernel
theorem dX6_keep_71 : decode cX6_keep 71 = .ok (.iload_n 2, 1) := by decide +kernel
theorem dX6_keep_72 : decode cX6_keep 72 = .ok (.ireturn, 1) := by decide +kernel
theorem dX6_back_0 : decode cX6_back 0 = .ok (.iload_n 1, 1) := by decide +kernel
theorem dX6_back_1 : decode cX6_back 1 = .ok (.iconst 0, 1) := by decide +kernel
theorem dX6_back_2 : decode cX6_back 2 = .ok (.iconst 1, 1) := by decide +kernel
theorem dX6_back_3 : decode cX6_back 3 = .ok (.invokestatic 68, 3) := by decide +kernel
theorem dX6_back_6 : decode cX6_back 6 = .ok (.ifCond .ne 5, 3) := by decide +kernel
theorem dX6_back_9 : decode cX6_back 9 = .ok (.iconst (-1), 1) := by decide +kernel
theorem dX6_back_10 : decode cX6_back 10 = .ok (.ireturn, 1) := by decide +kernel
theorem dX6_back_11 : decode cX6_back 11 = .ok (.aload_n 0, 1) := by decide +kernel
theorem dX6_back_12 : decode cX6_back 12 = .ok (.getfield 52, 3) := by decide +kernel
theorem dX6_back_15 : decode cX6_back 15 = .ok (.iload_n 1, 1) := by decide +kernel
theorem dX6_back_16 : decode cX6_back 16 = .ok (.aaload, 1) := by decide +kernel
theorem dX6_back_17 : decode cX6_back 17 = .ok (.getfield 96, 3) := by decide +kernel
theorem dX6_back_20 : decode cX6_back 20 = .ok (.ifCond .ne 6, 3) := by decide +kernel
theorem dX6_back_23 : decode cX6_back 23 = .ok (.bipush (-2), 2) := by decide +kernel
theorem dX6_back_25 : decode cX6_back 25 = .ok (.ireturn, 1) := by decide +kernel
theorem dX6_back_26 : decode cX6_back 26 = .ok (.aload_n 0, 1) := by decide +kernel
theorem dX6_back_27 : decode cX6_back 27 = .ok (.getfield 28, 3) := by decide +kernel
theorem dX6_back_30 : decode cX6_back 30 = .ok (.aload_n 0, 1) := by decide +kernel
theorem dX6_back_31 : decode cX6_back 31 = .ok (.getfield 52, 3) := by decide +kernel
theorem dX6_back_34 : decode cX6_back 34 = .ok (.iload_n 1, 1) := by decide +kernel
theorem dX6_back_35 : decode cX6_back 35 = .ok (.aaload, 1) := by decide +kernel
theorem dX6_back_36 : decode cX6_back 36 = .ok (.getfield 235, 3) := by decide +kernel
theorem dX6_back_39 : decode cX6_back 39 = .ok (.invokevirtual 89, 3) := by decide +kernel
theorem dX6_back_42 : decode cX6_back 42 = .ok (.aload_n 0, 1) := by decide +kernel
theorem dX6_back_43 : decode cX6_back 43 = .ok (.getfield 35, 3) := by decide +kernel
theorem dX6_back_46 : decode cX6_back 46 = .ok (.aload_n 0, 1) := by decide +kernel
theorem dX6_back_47 : decode cX6_back 47 = .ok (.getfield 52, 3) := by decide +kernel
theorem dX6_back_50 : decode cX6_back 50 = .ok (.iload_n 1, 1) := by decide +kernel
theorem dX6_back_51 : decode cX6_back 51 = .ok (.aaload, 1) := by decide +kernel
theorem dX6_back_52 : decode cX6_back 52 = .ok (.getfield 238, 3) := by decide +kernel
theorem dX6_back_55 : decode cX6_back 55 = .ok (.invokevirtual 239, 3) := by decide +kernel
theorem dX6_back_58 : decode cX6_back 58 = .ok (.aload_n 0, 1) := by decide +kernel
theorem dX6_back_59 : decode cX6_back 59 = .ok (.getfield 28, 3) := by decide +kernel
theorem dX6_back_62 : decode cX6_back 62 = .ok (.getfield 112, 3) := by decide +kernel
theorem dX6_back_65 : decode cX6_back 65 = .ok (.ireturn, 1) := by decide +kernel
theorem dX6_sheet_0 : decode cX6_sheet 0 = .ok (.iload_n 1, 1) := by decide +kernel
theorem dX6_sheet_1 : decode cX6_sheet 1 = .ok (.iconst 0, 1) := by decide +kernel
theorem dX6_sheet_2 : decode cX6_sheet 2 = .ok (.iconst 3, 1) := by decide +kernel
theorem dX6_sheet_3 : decode cX6_sheet 3 = .ok (.invokestatic 68, 3) := by decide +kernel
theorem dX6_sheet_6 : decode cX6_sheet 6 = .ok (.ifCond .eq 18, 3) := by decide +kernel
theorem dX6_sheet_9 : decode cX6_sheet 9 = .ok (.iload_n 2, 1) := by decide +kernel
theorem dX6_sheet_10 : decode cX6_sheet 10 = .ok (.iconst 0, 1) := by decide +kernel
theorem dX6_sheet_11 : decode cX6_sheet 11 = .ok (.iconst 2, 1) := by decide +kernel
theorem dX6_sheet_12 : decode cX6_sheet 12 = .ok (.invokestatic 68, 3) := by decide +kernel
theorem dX6_sheet_15 : decode cX6_sheet 15 = .ok (.ifCond .eq 9, 3) := by decide +kernel
theorem dX6_sheet_18 : decode cX6_sheet 18 = .ok (.iload_n 3, 1) := by decide +kernel
theorem dX6_sheet_19 : decode cX6_sheet 19 = .ok (.bipush 40, 2) := by decide +kernel
theorem dX6_sheet_21 : decode cX6_sheet 21 = .ok (.if_icmp .le 5, 3) := by decide +kernel
theorem dX6_sheet_24 : decode cX6_sheet 24 = .ok (.iconst (-1), 1) := by decide +kernel
theorem dX6_sheet_25 : decode cX6_sheet 25 = .ok (.ireturn, 1) := by decide +kernel
theorem dX6_sheet_26 : decode cX6_sheet 26 = .ok (.iload_n 3, 1) := by decide +kernel
theorem dX6_sheet_27 : decode cX6_sheet 27 = .ok (.ifCond .ge 6, 3) := by decide +kernel
theorem dX6_sheet_30 : decode cX6_sheet 30 = .ok (.bipush (-14), 2) := by decide +kernel
theorem dX6_sheet_32 : decode cX6_sheet 32 = .ok (.ireturn, 1) := by decide +kernel
theorem dX6_sheet_33 : decode cX6_sheet 33 = .ok (.aload_n 0, 1) := by decide +kernel
theorem dX6_sheet_34 : decode cX6_sheet 34 = .ok (.getfield 58, 3) := by decide +kernel
theorem dX6_sheet_37 : decode cX6_sheet 37 = .ok (.iload_n 1, 1) := by decide +kernel
theorem dX6_sheet_38 : decode cX6_sheet 38 = .ok (.aaload, 1) := by decide +kernel
theorem dX6_sheet_39 : decode cX6_sheet 39 = .ok (.iload_n 2, 1) := by decide +kernel
theorem dX6_sheet_40 : decode cX6_sheet 40 = .ok (.iload_n 3, 1) := by decide +kernel
theorem dX6_sheet_41 : decode cX6_sheet 41 = .ok (.invokevirtual 242, 3) := by decide +kernel
theorem dX6_sheet_44 : decode cX6_sheet 44 = .ok (.iconst 1, 1) := by decide +kernel
theorem dX6_sheet_45 : decode cX6_sheet 45 = .ok (.ireturn, 1) := by decide +kernel
theorem dX6_lay_0 : decode cX6_lay 0 = .ok (.iload_n 1, 1) := by decide +kernel
theorem dX6_lay_1 : decode cX6_lay 1 = .ok (.iconst 0, 1) := by decide +kernel
theorem dX6_lay_2 : decode cX6_lay 2 = .ok (.iconst 3, 1) := by decide +kernel
theorem dX6_lay_3 : decode cX6_lay 3 = .ok (.invokestatic 68, 3) := by decide +kernel
theorem dX6_lay_6 : decode cX6_lay 6 = .ok (.ifCond .ne 5, 3) := by decide +kernel
theorem dX6_lay_9 : decode cX6_lay 9 = .ok (.iconst (-1), 1) := by decide +kernel
theorem dX6_lay_10 : decode cX6_lay 10 = .ok (.ireturn, 1) := by decide +kernel
theorem dX6_lay_11 : decode cX6_lay 11 = .ok (.aload_n 0, 1) := by decide +kernel
theorem dX6_lay_12 : decode cX6_lay 12 = .ok (.getfield 58, 3) := by decide +kernel
theorem dX6_lay_15 : decode cX6_lay 15 = .ok (.iload_n 1, 1) := by decide +kernel
theorem dX6_lay_16 : decode cX6_lay 16 = .ok (.aaload, 1) := by decide +kernel
theorem dX6_lay_17 : decode cX6_lay 17 = .ok (.aload_n 0, 1) := by decide +kernel
theorem dX6_lay_18 : decode cX6_lay 18 = .ok (.getfield 58, 3) := by decide +kernel
theorem dX6_lay_21 : decode cX6_lay 21 = .ok (.iload_n 1, 1) := by decide +kernel
theorem dX6_lay_22 : decode cX6_lay 22 = .ok (.aaload, 1) := by decide +kernel
theorem dX6_lay_23 : decode cX6_lay 23 = .ok (.getfield 245, 3) := by decide +kernel
theorem dX6_lay_26 : decode cX6_lay 26 = .ok (.iload_n 2, 1) := by decide +kernel
theorem dX6_lay_27 : decode cX6_lay 27 = .ok (.invokevirtual 248, 3) := by decide +kernel
theorem dX6_lay_30 : decode cX6_lay 30 = .ok (.istore 4, 2) := by decide +kernel
theorem dX6_lay_32 : decode cX6_lay 32 = .ok (.iload 4, 2) := by decide +kernel
theorem dX6_lay_34 : decode cX6_lay 34 = .ok (.ifCond .eq 9, 3) := by decide +kernel
theorem dX6_lay_37 : decode cX6_lay 37 = .ok (.bipush (-10), 2) := by decide +kernel
theorem dX6_lay_39 : decode cX6_lay 39 = .ok (.iload 4, 2) := by decide +kernel
theorem dX6_lay_41 : decode cX6_lay 41 = .ok (.isub, 1) := by decide +kernel
theorem dX6_lay_42 : decode cX6_lay 42 = .ok (.ireturn, 1) := by decide +kernel
theorem dX6_lay_43 : decode cX6_lay 43 = .ok (.aload_n 0, 1) := by decide +kernel
theorem dX6_lay_44 : decode cX6_lay 44 = .ok (.getfield 58, 3) := by decide +kernel
theorem dX6_lay_47 : decode cX6_lay 47 = .ok (.iload_n 1, 1) := by decide +kernel
theorem dX6_lay_48 : decode cX6_lay 48 = .ok (.aaload, 1) := by decide +kernel
theorem dX6_lay_49 : decode cX6_lay 49 = .ok (.iload_n 2, 1) := by decide +kernel
theorem dX6_lay_50 : decode cX6_lay 50 = .ok (.iload_n 3, 1) := by decide +kernel
theorem dX6_lay_51 : decode cX6_lay 51 = .ok (.invokevirtual 250, 3) := by decide +kernel
theorem dX6_lay_54 : decode cX6_lay 54 = .ok (.iconst 1, 1) := by decide +kernel
theorem dX6_lay_55 : decode cX6_lay 55 = .ok (.ireturn, 1) := by decide +kernel
theorem dX6_read_0 : decode cX6_read 0 = .ok (.iload_n 1, 1) := by decide +kernel
theorem dX6_read_1 : decode cX6_read 1 = .ok (.iconst 0, 1) := by decide +kernel
theorem dX6_read_2 : decode cX6_read 2 = .ok (.iconst 3, 1) := by decide +kernel
theorem dX6_read_3 : decode cX6_read 3 = .ok (.invokestatic 68, 3) := by decide +kernel
theorem dX6_read_6 : decode cX6_read 6 = .ok (.ifCond .eq 12, 3) := by decide +kernel
theorem dX6_read_9 : decode cX6_read 9 = .ok (.iload_n 2, 1) := by decide +kernel
theorem dX6_read_10 : decode cX6_read 10 = .ok (.iconst 0, 1) := by decide +kernel
theorem dX6_read_11 : decode cX6_read 11 = .ok (.iconst 2, 1) := by decide +kernel
theorem dX6_read_12 : decode cX6_read 12 = .ok (.invokestatic 68, 3) := by decide +kernel
theorem dX6_read_15 : decode cX6_read 15 = .ok (.ifCond .ne 5, 3) := by decide +kernel
theorem dX6_read_18 : decode cX6_read 18 = .ok (.iconst (-1), 1) := by decide +kernel
theorem dX6_read_19 : decode cX6_read 19 = .ok (.ireturn, 1) := by decide +kernel
theorem dX6_read_20 : decode cX6_read 20 = .ok (.iload 4, 2) := by decide +kernel
theorem dX6_read_22 : decode cX6_read 22 = .ok (.iconst 0, 1) := by decide +kernel
theorem dX6_read_23 : decode cX6_read 23 = .ok (.bipush 13, 2) := by decide +kernel
theorem dX6_read_25 : decode cX6_read 25 = .ok (.invokestatic 68, 3) := by decide +kernel
theorem dX6_read_28 : decode cX6_read 28 = .ok (.ifCond .ne 5, 3) := by decide +kernel
theorem dX6_read_31 : decode cX6_read 31 = .ok (.iconst (-1), 1) := by decide +kernel
theorem dX6_read_32 : decode cX6_read 32 = .ok (.ireturn, 1) := by decide +kernel
theorem dX6_read_33 : decode cX6_read 33 = .ok (.aload_n 0, 1) := by decide +kernel
theorem dX6_read_34 : decode cX6_read 34 = .ok (.getfield 39, 3) := by decide +kernel
theorem dX6_read_37 : decode cX6_read 37 = .ok (.aload_n 0, 1) := by decide +kernel
theorem dX6_read_38 : decode cX6_read 38 = .ok (.getfield 28, 3) := by decide +kernel
theorem dX6_read_41 : decode cX6_read 41 = .ok (.invokevirtual 89, 3) := by decide +kernel
theorem dX6_read_44 : decode cX6_read 44 = .ok (.iconst 0, 1) := by decide +kernel
theorem dX6_read_45 : decode cX6_read 45 = .ok (.istore 5, 2) := by decide +kernel
theorem dX6_read_47 : decode cX6_read 47 = .ok (.iconst 0, 1) := by decide +kernel
theorem dX6_read_48 : decode cX6_read 48 = .ok (.istore 6, 2) := by decide +kernel
theorem dX6_read_50 : decode cX6_read 50 = .ok (.iconst 0, 1) := by decide +kernel
theorem dX6_read_51 : decode cX6_read 51 = .ok (.istore 7, 2) := by decide +kernel
theorem dX6_read_53 : decode cX6_read 53 = .ok (.iload 7, 2) := by decide +kernel
theorem dX6_read_55 : decode cX6_read 55 = .ok (.iload 4, 2) := by decide +kernel
theorem dX6_read_57 : decode cX6_read 57 = .ok (.if_icmp .ge 66, 3) := by decide +kernel
theorem dX6_read_60 : decode cX6_read 60 = .ok (.iload 6, 2) := by decide +kernel
theorem dX6_read_62 : decode cX6_read 62 = .ok (.ifCond .ne 61, 3) := by decide +kernel
theorem dX6_read_65 : decode cX6_read 65 = .ok (.aload_n 0, 1) := by decide +kernel
theorem dX6_read_66 : decode cX6_read 66 = .ok (.getfield 58, 3) := by decide +kernel
theorem dX6_read_69 : decode cX6_read 69 = .ok (.iload_n 1, 1) := by decide +kernel
theorem dX6_read_70 : decode cX6_read 70 = .ok (.aaload, 1) := by decide +kernel
theorem dX6_read_71 : decode cX6_read 71 = .ok (.iload_n 2, 1) := by decide +kernel
theorem dX6_read_72 : decode cX6_read 72 = .ok (.iload_n 3, 1) := by decide +kernel
theorem dX6_read_73 : decode cX6_read 73 = .ok (.iconst 3, 1) := by decide +kernel
theorem dX6_read_74 : decode cX6_read 74 = .ok (.iload 7, 2) := by decide +kernel
theorem dX6_read_76 : decode cX6_read 76 = .ok (.imul, 1) := by decide +kernel
theorem dX6_read_77 : decode cX6_read 77 = .ok (.iadd, 1) := by decide +kernel
theorem dX6_read_78 : decode cX6_read 78 = .ok (.iconst 3, 1) := by decide +kernel
theorem dX6_read_79 : decode cX6_read 79 = .ok (.invokevirtual 253, 3) := by decide +kernel
theorem dX6_read_82 : decode cX6_read 82 = .ok (.istore 6, 2) := by decide +kernel
theorem dX6_read_84 : decode cX6_read 84 = .ok (.iload 6, 2) := by decide +kernel
theorem dX6_read_86 : decode cX6_read 86 = .ok (.ifCond .ne 31, 3) := by decide +kernel
theorem dX6_read_89 : decode cX6_read 89 = .ok (.aload_n 0, 1) := by decide +kernel
theorem dX6_read_90 : decode cX6_read 90 = .ok (.aload_n 0, 1) := by decide +kernel
theorem dX6_read_91 : decode cX6_read 91 = .ok (.getfield 58, 3) := by decide +kernel
theorem dX6_read_94 : decode cX6_read 94 = .ok (.iload_n 1, 1) := by decide +kernel
theorem dX6_read_95 : decode cX6_read 95 = .ok (.aaload, 1) := by decide +kernel
theorem dX6_read_96 : decode cX6_read 96 = .ok (.iload_n 3, 1) := by decide +kernel
theorem dX6_read_97 : decode cX6_read 97 = .ok (.iconst 3, 1) := by decide +kernel
theorem dX6_read_98 : decode cX6_read 98 = .ok (.iload 7, 2) := by decide +kernel
theorem dX6_read_100 : decode cX6_read 100 = .ok (.imul, 1) := by decide +kernel
theorem dX6_read_101 : decode cX6_read 101 = .ok (.iadd, 1) := by decide +kernel
theorem dX6_read_102 : decode cX6_read 102 = .ok (.invokevirtual 255, 3) := by decide +kernel
theorem dX6_read_105 : decode cX6_read 105 = .ok (.ifCond .ne 9, 3) := by decide +kernel
theorem dX6_read_108 : decode cX6_read 108 = .ok (.bipush (-20), 2) := by decide +kernel
theorem dX6_read_110 : decode cX6_read 110 = .ok (.iload 7, 2) := by decide +kernel
theorem dX6_read_112 : decode cX6_read 112 = .ok (.isub, 1) := by decide +kernel
theorem dX6_read_113 : decode cX6_read 113 = .ok (.ireturn, 1) := by decide +kernel
theorem dX6_read_114 : decode cX6_read 114 = .ok (.iinc 5 1, 3) := by decide +kernel
theorem dX6_read_117 : decode cX6_read 117 = .ok (.iinc 7 1, 3) := by decide +kernel
theorem dX6_read_120 : decode cX6_read 120 = .ok (.goto (-67), 3) := by decide +kernel
theorem dX6_read_123 : decode cX6_read 123 = .ok (.aload_n 0, 1) := by decide +kernel
theorem dX6_read_124 : decode cX6_read 124 = .ok (.getfield 28, 3) := by decide +kernel
theorem dX6_read_127 : decode cX6_read 127 = .ok (.aload_n 0, 1) := by decide +kernel
theorem dX6_read_128 : decode cX6_read 128 = .ok (.getfield 39, 3) := by decide +kernel
theorem dX6_read_131 : decode cX6_read 131 = .ok (.invokevirtual 89, 3) := by decide +kernel
theorem dX6_read_134 : decode cX6_read 134 = .ok (.aload_n 0, 1) := by decide +kernel
theorem dX6_read_135 : decode cX6_read 135 = .ok (.iload 6, 2) := by decide +kernel
theorem dX6_read_137 : decode cX6_read 137 = .ok (.putfield 62, 3) := by decide +kernel
theorem dX6_read_140 : decode cX6_read 140 = .ok (.iload 5, 2) := by decide +kernel
theorem dX6_read_142 : decode cX6_read 142 = .ok (.ireturn, 1) := by decide +kernel
theorem dX6_torn_0 : decode cX6_torn 0 = .ok (.aload_n 0, 1) := by decide +kernel
theorem dX6_torn_1 : decode cX6_torn 1 = .ok (.getfield 62, 3) := by decide +kernel
theorem dX6_torn_4 : decode cX6_torn 4 = .ok (.ireturn, 1) := by decide +kernel
theorem dX6_count_0 : decode cX6_count 0 = .ok (.iload_n 1, 1) := by decide +kernel
theorem dX6_count_1 : decode cX6_count 1 = .ok (.tableswitch 86 0 5 #[39, 47, 52, 60, 70, 78], 39) := by decide +kernel
theorem dX6_count_40 : decode cX6_count 40 = .ok (.aload_n 0, 1) := by decide +kernel
theorem dX6_count_41 : decode cX6_count 41 = .ok (.getfield 35, 3) := by decide +kernel
theorem dX6_count_44 : decode cX6_count 44 = .ok (.getfield 93, 3) := by decide +kernel
theorem dX6_count_47 : decode cX6_count 47 = .ok (.ireturn, 1) := by decide +kernel
theorem dX6_count_48 : decode cX6_count 48 = .ok (.aload_n 0, 1) := by decide +kernel
theorem dX6_count_49 : decode cX6_count 49 = .ok (.invokevirtual 259, 3) := by decide +kernel
theorem dX6_count_52 : decode cX6_count 52 = .ok (.ireturn, 1) := by decide +kernel
theorem dX6_count_53 : decode cX6_count 53 = .ok (.aload_n 0, 1) := by decide +kernel
theorem dX6_count_54 : decode cX6_count 54 = .ok (.getfield 10, 3) := by decide +kernel
theorem dX6_count_57 : decode cX6_count 57 = .ok (.getfield 76, 3) := by decide +kernel
theorem dX6_count_60 : decode cX6_count 60 = .ok (.ireturn, 1) := by decide +kernel
theorem dX6_count_61 : decode cX6_count 61 = .ok (.aload_n 0, 1) := by decide +kernel
theorem dX6_count_62 : decode cX6_count 62 = .ok (.getfield 58, 3) := by decide +kernel
theorem dX6_count_65 : decode cX6_count 65 = .ok (.iconst 0, 1) := by decide +kernel
theorem dX6_count_66 : decode cX6_count 66 = .ok (.aaload, 1) := by decide +kernel
theorem dX6_count_67 : decode cX6_count 67 = .ok (.getfield 262, 3) := by decide +kernel
theorem dX6_count_70 : decode cX6_count 70 = .ok (.ireturn, 1) := by decide +kernel
theorem dX6_count_71 : decode cX6_count 71 = .ok (.aload_n 0, 1) := by decide +kernel
theorem dX6_count_72 : decode cX6_count 72 = .ok (.getfield 28, 3) := by decide +kernel
theorem dX6_count_75 : decode cX6_count 75 = .ok (.invokevirtual 265, 3) := by decide +kernel
theorem dX6_count_78 : decode cX6_count 78 = .ok (.ireturn, 1) := by decide +kernel
theorem dX6_count_79 : decode cX6_count 79 = .ok (.aload_n 0, 1) := by decide +kernel
theorem dX6_count_80 : decode cX6_count 80 = .ok (.getfield 28, 3) := by decide +kernel
theorem dX6_count_83 : decode cX6_count 83 = .ok (.invokevirtual 268, 3) := by decide +kernel
theorem dX6_count_86 : decode cX6_count 86 = .ok (.ireturn, 1) := by decide +kernel
theorem dX6_count_87 : decode cX6_count 87 = .ok (.iconst (-1), 1) := by decide +kernel
theorem dX6_count_88 : decode cX6_count 88 = .ok (.ireturn, 1) := by decide +kernel
theorem dX6_isWithin_0 : decode cX6_isWithin 0 = .ok (.iload_n 0, 1) := by decide +kernel
theorem dX6_isWithin_1 : decode cX6_isWithin 1 = .ok (.iload_n 1, 1) := by decide +kernel
theorem dX6_isWithin_2 : decode cX6_isWithin 2 = .ok (.if_icmp .lt 12, 3) := by decide +kernel
theorem dX6_isWithin_5 : decode cX6_isWithin 5 = .ok (.iload_n 0, 1) := by decide +kernel
theorem dX6_isWithin_6 : decode cX6_isWithin 6 = .ok (.iload_n 2, 1) := by decide +kernel
theorem dX6_isWithin_7 : decode cX6_isWithin 7 = .ok (.if_icmp .gt 7, 3) := by decide +kernel
theorem dX6_isWithin_10 : decode cX6_isWithin 10 = .ok (.iconst 1, 1) := by decide +kernel
theorem dX6_isWithin_11 : decode cX6_isWithin 11 = .ok (.goto 4, 3) := by decide +kernel
theorem dX6_isWithin_14 : decode cX6_isWithin 14 = .ok (.iconst 0, 1) := by decide +kernel
theorem dX6_isWithin_15 : decode cX6_isWithin 15 = .ok (.ireturn, 1) := by decide +kernel
theorem dX6_isKind_0 : decode cX6_isKind 0 = .ok (.iload_n 0, 1) := by decide +kernel
theorem dX6_isKind_1 : decode cX6_isKind 1 = .ok (.iconst 0, 1) := by decide +kernel
theorem dX6_isKind_2 : decode cX6_isKind 2 = .ok (.iconst 3, 1) := by decide +kernel
theorem dX6_isKind_3 : decode cX6_isKind 3 = .ok (.invokestatic 68, 3) := by decide +kernel
theorem dX6_isKind_6 : decode cX6_isKind 6 = .ok (.ireturn, 1) := by decide +kernel
theorem dX6_fittingOwners_0 : decode cX6_fittingOwners 0 = .ok (.iconst 0, 1) := by decide +kernel
theorem dX6_fittingOwners_1 : decode cX6_fittingOwners 1 = .ok (.istore_n 2, 1) := by decide +kernel
theorem dX6_fittingOwners_2 : decode cX6_fittingOwners 2 = .ok (.iconst 0, 1) := by decide +kernel
theorem dX6_fittingOwners_3 : decode cX6_fittingOwners 3 = .ok (.istore_n 3, 1) := by decide +kernel
theorem dX6_fittingOwners_4 : decode cX6_fittingOwners 4 = .ok (.iload_n 3, 1) := by decide +kernel
theorem dX6_fittingOwners_5 : decode cX6_fittingOwners 5 = .ok (.aload_n 0, 1) := by decide +kernel
theorem dX6_fittingOwners_6 : decode cX6_fittingOwners 6 = .ok (.getfield 28, 3) := by decide +kernel
theorem dX6_fittingOwners_9 : decode cX6_fittingOwners 9 = .ok (.getfield 106, 3) := by decide +kernel
theorem dX6_fittingOwners_12 : decode cX6_fittingOwners 12 = .ok (.if_icmp .ge 50, 3) := by decide +kernel
theorem dX6_fittingOwners_15 : decode cX6_fittingOwners 15 = .ok (.aload_n 0, 1) := by decide +kernel
theorem dX6_fittingOwners_16 : decode cX6_fittingOwners 16 = .ok (.getfield 39, 3) := by decide +kernel
theorem dX6_fittingOwners_19 : decode cX6_fittingOwners 19 = .ok (.aload_n 0, 1) := by decide +kernel
theorem dX6_fittingOwners_20 : decode cX6_fittingOwners 20 = .ok (.getfield 28, 3) := by decide +kernel
theorem dX6_fittingOwners_23 : decode cX6_fittingOwners 23 = .ok (.invokevirtual 89, 3) := by decide +kernel
theorem dX6_fittingOwners_26 : decode cX6_fittingOwners 26 = .ok (.aload_n 0, 1) := by decide +kernel
theorem dX6_fittingOwners_27 : decode cX6_fittingOwners 27 = .ok (.getfield 39, 3) := by decide +kernel
theorem dX6_fittingOwners_30 : decode cX6_fittingOwners 30 = .ok (.getfield 150, 3) := by decide +kernel
theorem dX6_fittingOwners_33 : decode cX6_fittingOwners 33 = .ok (.iload_n 1, 1) := by decide +kernel
theorem dX6_fittingOwners_34 : decode cX6_fittingOwners 34 = .ok (.iload_n 3, 1) := by decide +kernel
theorem dX6_fittingOwners_35 : decode cX6_fittingOwners 35 = .ok (.iastore, 1) := by decide +kernel
theorem dX6_fittingOwners_36 : decode cX6_fittingOwners 36 = .ok (.aload_n 0, 1) := by decide +kernel
theorem dX6_fittingOwners_37 : decode cX6_fittingOwners 37 = .ok (.getfield 35, 3) := by decide +kernel
theorem dX6_fittingOwners_40 : decode cX6_fittingOwners 40 = .ok (.aload_n 0, 1) := by decide +kernel
theorem dX6_fittingOwners_41 : decode cX6_fittingOwners 41 = .ok (.getfield 39, 3) := by decide +kernel
theorem dX6_fittingOwners_44 : decode cX6_fittingOwners 44 = .ok (.invokevirtual 216, 3) := by decide +kernel
theorem dX6_fittingOwners_47 : decode cX6_fittingOwners 47 = .ok (.ifCond .eq 9, 3) := by decide +kernel
theorem dX6_fittingOwners_50 : decode cX6_fittingOwners 50 = .ok (.iload_n 2, 1) := by decide +kernel
theorem dX6_fittingOwners_51 : decode cX6_fittingOwners 51 = .ok (.iconst 1, 1) := by decide +kernel
theorem dX6_fittingOwners_52 : decode cX6_fittingOwners 52 = .ok (.iload_n 3, 1) := by decide +kernel
theorem dX6_fittingOwners_53 : decode cX6_fittingOwners 53 = .ok (.ishl, 1) := by decide +kernel
theorem dX6_fittingOwners_54 : decode cX6_fittingOwners 54 = .ok (.ior, 1) := by decide +kernel
theorem dX6_fittingOwners_55 : decode cX6_fittingOwners 55 = .ok (.istore_n 2, 1) := by decide +kernel
theorem dX6_fittingOwners_56 : decode cX6_fittingOwners 56 = .ok (.iinc 3 1, 3) := by decide +kernel
theorem dX6_fittingOwners_59 : decode cX6_fittingOwners 59 = .ok (.goto (-55), 3) := by decide +kernel
theorem dX6_fittingOwners_62 : decode cX6_fittingOwners 62 = .ok (.iload_n 2, 1) := by decide +kernel
theorem dX6_fittingOwners_63 : decode cX6_fittingOwners 63 = .ok (.ireturn, 1) := by decide +kernel
theorem dX6_mostLeftBy_0 : decode cX6_mostLeftBy 0 = .ok (.iconst 0, 1) := by decide +kernel
theorem dX6_mostLeftBy_1 : decode cX6_mostLeftBy 1 = .ok (.istore_n 3, 1) := by decide +kernel
theorem dX6_mostLeftBy_2 : decode cX6_mostLeftBy 2 = .ok (.iload_n 3, 1) := by decide +kernel
theorem dX6_mostLeftBy_3 : decode cX6_mostLeftBy 3 = .ok (.aload_n 0, 1) := by decide +kernel
theorem dX6_mostLeftBy_4 : decode cX6_mostLeftBy 4 = .ok (.getfield 28, 3) := by decide +kernel
theorem dX6_mostLeftBy_7 : decode cX6_mostLeftBy 7 = .ok (.getfield 106, 3) := by decide +kernel
theorem dX6_mostLeftBy_10 : decode cX6_mostLeftBy 10 = .ok (.if_icmp .ge 25, 3) := by decide +kernel
theorem dX6_mostLeftBy_13 : decode cX6_mostLeftBy 13 = .ok (.aload_n 0, 1) := by decide +kernel
theorem dX6_mostLeftBy_14 : decode cX6_mostLeftBy 14 = .ok (.getfield 46, 3) := by decide +kernel
theorem dX6_mostLeftBy_17 : decode cX6_mostLeftBy 17 = .ok (.iload_n 3, 1) := by decide +kernel
theorem dX6_mostLeftBy_18 : decode cX6_mostLeftBy 18 = .ok (.aload_n 0, 1) := by decide +kernel
theorem dX6_mostLeftBy_19 : decode cX6_mostLeftBy 19 = .ok (.getfield 42, 3) := by decide +kernel
theorem dX6_mostLeftBy_22 : decode cX6_mostLeftBy 22 = .ok (.iload_n 3, 1) := by decide +kernel
theorem dX6_mostLeftBy_23 : decode cX6_mostLeftBy 23 = .ok (.aaload, 1) := by decide +kernel
theorem dX6_mostLeftBy_24 : decode cX6_mostLeftBy 24 = .ok (.iload_n 1, 1) := by decide +kernel
theorem dX6_mostLeftBy_25 : decode cX6_mostLeftBy 25 = .ok (.invokevirtual 135, 3) := by decide +kernel
theorem dX6_mostLeftBy_28 : decode cX6_mostLeftBy 28 = .ok (.iastore, 1) := by decide +kernel
theorem dX6_mostLeftBy_29 : decode cX6_mostLeftBy 29 = .ok (.iinc 3 1, 3) := by decide +kernel
theorem dX6_mostLeftBy_32 : decode cX6_mostLeftBy 32 = .ok (.goto (-30), 3) := by decide +kernel
theorem dX6_mostLeftBy_35 : decode cX6_mostLeftBy 35 = .ok (.iconst 0, 1) := by decide +kernel
theorem dX6_mostLeftBy_36 : decode cX6_mostLeftBy 36 = .ok (.istore_n 3, 1) := by decide +kernel
theorem dX6_mostLeftBy_37 : decode cX6_mostLeftBy 37 = .ok (.iconst 0, 1) := by decide +kernel
theorem dX6_mostLeftBy_38 : decode cX6_mostLeftBy 38 = .ok (.istore 4, 2) := by decide +kernel
theorem dX6_mostLeftBy_40 : decode cX6_mostLeftBy 40 = .ok (.iload 4, 2) := by decide +kernel
theorem dX6_mostLeftBy_42 : decode cX6_mostLeftBy 42 = .ok (.aload_n 0, 1) := by decide +kernel
theorem dX6_mostLeftBy_43 : decode cX6_mostLeftBy 43 = .ok (.getfield 28, 3) := by decide +kernel
theorem dX6_mostLeftBy_46 : decode cX6_mostLeftBy 46 = .ok (.getfield 106, 3) := by decide +kernel
theorem dX6_mostLeftBy_49 : decode cX6_mostLeftBy 49 = .ok (.if_icmp .ge 80, 3) := by decide +kernel
theorem dX6_mostLeftBy_52 : decode cX6_mostLeftBy 52 = .ok (.iconst 0, 1) := by decide +kernel
theorem dX6_mostLeftBy_53 : decode cX6_mostLeftBy 53 = .ok (.istore 5, 2) := by decide +kernel
theorem dX6_mostLeftBy_55 : decode cX6_mostLeftBy 55 = .ok (.iconst 0, 1) := by decide +kernel
theorem dX6_mostLeftBy_56 : decode cX6_mostLeftBy 56 = .ok (.istore 6, 2) := by decide +kernel
theorem dX6_mostLeftBy_58 : decode cX6_mostLeftBy 58 = .ok (.iload 6, 2) := by decide +kernel
theorem dX6_mostLeftBy_60 : decode cX6_mostLeftBy 60 = .ok (.aload_n 0, 1) := by decide +kernel
theorem dX6_mostLeftBy_61 : decode cX6_mostLeftBy 61 = .ok (.getfield 28, 3) := by decide +kernel
theorem dX6_mostLeftBy_64 : decode cX6_mostLeftBy 64 = .ok (.getfield 106, 3) := by decide +kernel
theorem dX6_mostLeftBy_67 : decode cX6_mostLeftBy 67 = .ok (.if_icmp .ge 39, 3) := by decide +kernel
theorem dX6_mostLeftBy_70 : decode cX6_mostLeftBy 70 = .ok (.iload_n 2, 1) := by decide +kernel
theorem dX6_mostLeftBy_71 : decode cX6_mostLeftBy 71 = .ok (.iload 6, 2) := by decide +kernel
theorem dX6_mostLeftBy_73 : decode cX6_mostLeftBy 73 = .ok (.ishr, 1) := by decide +kernel
theorem dX6_mostLeftBy_74 : decode cX6_mostLeftBy 74 = .ok (.iconst 1, 1) := by decide +kernel
theorem dX6_mostLeftBy_75 : decode cX6_mostLeftBy 75 = .ok (.iand, 1) := by decide +kernel
theorem dX6_mostLeftBy_76 : decode cX6_mostLeftBy 76 = .ok (.iconst 1, 1) := by decide +kernel
theorem dX6_mostLeftBy_77 : decode cX6_mostLeftBy 77 = .ok (.if_icmp .ne 23, 3) := by decide +kernel
theorem dX6_mostLeftBy_80 : decode cX6_mostLeftBy 80 = .ok (.aload_n 0, 1) := by decide +kernel
theorem dX6_mostLeftBy_81 : decode cX6_mostLeftBy 81 = .ok (.getfield 46, 3) := by decide +kernel
theorem dX6_mostLeftBy_84 : decode cX6_mostLeftBy 84 = .ok (.iload 6, 2) := by decide +kernel
theorem dX6_mostLeftBy_86 : decode cX6_mostLeftBy 86 = .ok (.iaload, 1) := by decide +kernel
theorem dX6_mostLeftBy_87 : decode cX6_mostLeftBy 87 = .ok (.aload_n 0, 1) := by decide +kernel
theorem dX6_mostLeftBy_88 : decode cX6_mostLeftBy 88 = .ok (.getfield 46, 3) := by decide +kernel
theorem dX6_mostLeftBy_91 : decode cX6_mostLeftBy 91 = .ok (.iload 4, 2) := by decide +kernel
theorem dX6_mostLeftBy_93 : decode cX6_mostLeftBy 93 = .ok (.iaload, 1) := by decide +kernel
theorem dX6_mostLeftBy_94 : decode cX6_mostLeftBy 94 = .ok (.if_icmp .ne 6, 3) := by decide +kernel
theorem dX6_mostLeftBy_97 : decode cX6_mostLeftBy 97 = .ok (.iinc 5 1, 3) := by decide +kernel
theorem dX6_mostLeftBy_100 : decode cX6_mostLeftBy 100 = .ok (.iinc 6 1, 3) := by decide +kernel
theorem dX6_mostLeftBy_103 : decode cX6_mostLeftBy 103 = .ok (.goto (-45), 3) := by decide +kernel
theorem dX6_mostLeftBy_106 : decode cX6_mostLeftBy 106 = .ok (.iload_n 2, 1) := by decide +kernel
theorem dX6_mostLeftBy_107 : decode cX6_mostLeftBy 107 = .ok (.iload 4, 2) := by decide +kernel
theorem dX6_mostLeftBy_109 : decode cX6_mostLeftBy 109 = .ok (.ishr, 1) := by decide +kernel
theorem dX6_mostLeftBy_110 : decode cX6_mostLeftBy 110 = .ok (.iconst 1, 1) := by decide +kernel
theorem dX6_mostLeftBy_111 : decode cX6_mostLeftBy 111 = .ok (.iand, 1) := by decide +kernel
theorem dX6_mostLeftBy_112 : decode cX6_mostLeftBy 112 = .ok (.iconst 1, 1) := by decide +kernel
theorem dX6_mostLeftBy_113 : decode cX6_mostLeftBy 113 = .ok (.if_icmp .ne 10, 3) := by decide +kernel
theorem dX6_mostLeftBy_116 : decode cX6_mostLeftBy 116 = .ok (.iload_n 3, 1) := by decide +kernel
theorem dX6_mostLeftBy_117 : decode cX6_mostLeftBy 117 = .ok (.iload 5, 2) := by decide +kernel
theorem dX6_mostLeftBy_119 : decode cX6_mostLeftBy 119 = .ok (.invokestatic 271, 3) := by decide +kernel
theorem dX6_mostLeftBy_122 : decode cX6_mostLeftBy 122 = .ok (.istore_n 3, 1) := by decide +kernel
theorem dX6_mostLeftBy_123 : decode cX6_mostLeftBy 123 = .ok (.iinc 4 1, 3) := by decide +kernel
theorem dX6_mostLeftBy_126 : decode cX6_mostLeftBy 126 = .ok (.goto (-86), 3) := by decide +kernel
theorem dX6_mostLeftBy_129 : decode cX6_mostLeftBy 129 = .ok (.iload_n 3, 1) := by decide +kernel
theorem dX6_mostLeftBy_130 : decode cX6_mostLeftBy 130 = .ok (.ireturn, 1) := by decide +kernel
theorem dX6_byOdds_0 : decode cX6_byOdds 0 = .ok (.iload_n 1, 1) := by decide +kernel
theorem dX6_byOdds_1 : decode cX6_byOdds 1 = .ok (.iconst 0, 1) := by decide +kernel
theorem dX6_byOdds_2 : decode cX6_byOdds 2 = .ok (.bipush 10, 2) := by decide +kernel
theorem dX6_byOdds_4 : decode cX6_byOdds 4 = .ok (.invokestatic 68, 3) := by decide +kernel
theorem dX6_byOdds_7 : decode cX6_byOdds 7 = .ok (.ifCond .eq 22, 3) := by decide +kernel
theorem dX6_byOdds_10 : decode cX6_byOdds 10 = .ok (.iload_n 2, 1) := by decide +kernel
theorem dX6_byOdds_11 : decode cX6_byOdds 11 = .ok (.iconst 0, 1) := by decide +kernel
theorem dX6_byOdds_12 : decode cX6_byOdds 12 = .ok (.bipush 8, 2) := by decide +kernel
theorem dX6_byOdds_14 : decode cX6_byOdds 14 = .ok (.invokestatic 68, 3) := by decide +kernel
theorem dX6_byOdds_17 : decode cX6_byOdds 17 = .ok (.ifCond .eq 12, 3) := by decide +kernel
theorem dX6_byOdds_20 : decode cX6_byOdds 20 = .ok (.iload_n 3, 1) := by decide +kernel
theorem dX6_byOdds_21 : decode cX6_byOdds 21 = .ok (.iconst 0, 1) := by decide +kernel
theorem dX6_byOdds_22 : decode cX6_byOdds 22 = .ok (.iconst 1, 1) := by decide +kernel
theorem dX6_byOdds_23 : decode cX6_byOdds 23 = .ok (.invokestatic 68, 3) := by decide +kernel
theorem dX6_byOdds_26 : decode cX6_byOdds 26 = .ok (.ifCond .ne 7, 3) := by decide +kernel
theorem dX6_byOdds_29 : decode cX6_byOdds 29 = .ok (.ldc2_w 209, 3) := by decide +kernel
theorem dX6_byOdds_32 : decode cX6_byOdds 32 = .ok (.lreturn, 1) := by decide +kernel
theorem dX6_byOdds_33 : decode cX6_byOdds 33 = .ok (.aload_n 0, 1) := by decide +kernel
theorem dX6_byOdds_34 : decode cX6_byOdds 34 = .ok (.getfield 42, 3) := by decide +kernel
theorem dX6_byOdds_37 : decode cX6_byOdds 37 = .ok (.iconst 0, 1) := by decide +kernel
theorem dX6_byOdds_38 : decode cX6_byOdds 38 = .ok (.aaload, 1) := by decide +kernel
theorem dX6_byOdds_39 : decode cX6_byOdds 39 = .ok (.aload_n 0, 1) := by decide +kernel
theorem dX6_byOdds_40 : decode cX6_byOdds 40 = .ok (.getfield 28, 3) := by decide +kernel
theorem dX6_byOdds_43 : decode cX6_byOdds 43 = .ok (.invokevirtual 89, 3) := by decide +kernel
theorem dX6_byOdds_46 : decode cX6_byOdds 46 = .ok (.aload_n 0, 1) := by decide +kernel
theorem dX6_byOdds_47 : decode cX6_byOdds 47 = .ok (.getfield 42, 3) := by decide +kernel
theorem dX6_byOdds_50 : decode cX6_byOdds 50 = .ok (.iconst 0, 1) := by decide +kernel
theorem dX6_byOdds_51 : decode cX6_byOdds 51 = .ok (.iload_n 2, 1) := by decide +kernel
theorem dX6_byOdds_52 : decode cX6_byOdds 52 = .ok (.iload_n 1, 1) := by decide +kernel
theorem dX6_byOdds_53 : decode cX6_byOdds 53 = .ok (.iload 4, 2) := by decide +kernel
theorem dX6_byOdds_55 : decode cX6_byOdds 55 = .ok (.iload 5, 2) := by decide +kernel
theorem dX6_byOdds_57 : decode cX6_byOdds 57 = .ok (.invokestatic 276, 3) := by decide +kernel
theorem dX6_byOdds_60 : decode cX6_byOdds 60 = .ok (.iload_n 2, 1) := by decide +kernel
theorem dX6_byOdds_61 : decode cX6_byOdds 61 = .ok (.iload_n 3, 1) := by decide +kernel
theorem dX6_byOdds_62 : decode cX6_byOdds 62 = .ok (.invokestatic 280, 3) := by decide +kernel
theorem dX6_byOdds_65 : decode cX6_byOdds 65 = .ok (.lreturn, 1) := by decide +kernel
theorem dX6_sumOverFutures_0 : decode cX6_sumOverFutures 0 = .ok (.aload_n 0, 1) := by decide +kernel
theorem dX6_sumOverFutures_1 : decode cX6_sumOverFutures 1 = .ok (.iload_n 1, 1) := by decide +kernel
theorem dX6_sumOverFutures_2 : decode cX6_sumOverFutures 2 = .ok (.aaload, 1) := by decide +kernel
theorem dX6_sumOverFutures_3 : decode cX6_sumOverFutures 3 = .ok (.astore 6, 2) := by decide +kernel
theorem dX6_sumOverFutures_5 : decode cX6_sumOverFutures 5 = .ok (.iload_n 1, 1) := by decide +kernel
theorem dX6_sumOverFutures_6 : decode cX6_sumOverFutures 6 = .ok (.iload_n 2, 1) := by decide +kernel
theorem dX6_sumOverFutures_7 : decode cX6_sumOverFutures 7 = .ok (.if_icmp .ge 11, 3) := by decide +kernel
theorem dX6_sumOverFutures_10 : decode cX6_sumOverFutures 10 = .ok (.iload_n 1, 1) := by decide +kernel
theorem dX6_sumOverFutures_11 : decode cX6_sumOverFutures 11 = .ok (.iconst 1, 1) := by decide +kernel
theorem dX6_sumOverFutures_12 : decode cX6_sumOverFutures 12 = .ok (.iadd, 1) := by decide +kernel
theorem dX6_sumOverFutures_13 : decode cX6_sumOverFutures 13 = .ok (.aload_n 0, 1) := by decide +kernel
theorem dX6_sumOverFutures_14 : decode cX6_sumOverFutures 14 = .ok (.arraylength, 1) := by decide +kernel
theorem dX6_sumOverFutures_15 : decode cX6_sumOverFutures 15 = .ok (.if_icmp .lt 33, 3) := by decide +kernel
theorem dX6_sumOverFutures_18 : decode cX6_sumOverFutures 18 = .ok (.iload 4, 2) := by decide +kernel
theorem dX6_sumOverFutures_20 : decode cX6_sumOverFutures 20 = .ok (.ifCond .eq 12, 3) := by decide +kernel
theorem dX6_sumOverFutures_23 : decode cX6_sumOverFutures 23 = .ok (.aload 6, 2) := by decide +kernel
theorem dX6_sumOverFutures_25 : decode cX6_sumOverFutures 25 = .ok (.iload 5, 2) := by decide +kernel
theorem dX6_sumOverFutures_27 : decode cX6_sumOverFutures 27 = .ok (.invokevirtual 135, 3) := by decide +kernel
theorem dX6_sumOverFutures_30 : decode cX6_sumOverFutures 30 = .ok (.i2l, 1) := by decide +kernel
theorem dX6_sumOverFutures_31 : decode cX6_sumOverFutures 31 = .ok (.lreturn, 1) := by decide +kernel
theorem dX6_sumOverFutures_32 : decode cX6_sumOverFutures 32 = .ok (.aload 6, 2) := by decide +kernel
theorem dX6_sumOverFutures_34 : decode cX6_sumOverFutures 34 = .ok (.iload 5, 2) := by decide +kernel
theorem dX6_sumOverFutures_36 : decode cX6_sumOverFutures 36 = .ok (.invokevirtual 175, 3) := by decide +kernel
theorem dX6_sumOverFutures_39 : decode cX6_sumOverFutures 39 = .ok (.ifCond .eq 7, 3) := by decide +kernel
theorem dX6_sumOverFutures_42 : decode cX6_sumOverFutures 42 = .ok (.lconst 1, 1) := by decide +kernel
theorem dX6_sumOverFutures_43 : decode cX6_sumOverFutures 43 = .ok (.goto 4, 3) := by decide +kernel
theorem dX6_sumOverFutures_46 : decode cX6_sumOverFutures 46 = .ok (.lconst 0, 1) := by decide +kernel
theorem dX6_sumOverFutures_47 : decode cX6_sumOverFutures 47 = .ok (.lreturn, 1) := by decide +kernel
theorem dX6_sumOverFutures_48 : decode cX6_sumOverFutures 48 = .ok (.aload_n 0, 1) := by decide +kernel
theorem dX6_sumOverFutures_49 : decode cX6_sumOverFutures 49 = .ok (.iload_n 1, 1) := by decide +kernel
theorem dX6_sumOverFutures_50 : decode cX6_sumOverFutures 50 = .ok (.iconst 1, 1) := by decide +kernel
theorem dX6_sumOverFutures_51 : decode cX6_sumOverFutures 51 = .ok (.iadd, 1) := by decide +kernel
theorem dX6_sumOverFutures_52 : decode cX6_sumOverFutures 52 = .ok (.aaload, 1) := by decide +kernel
theorem dX6_sumOverFutures_53 : decode cX6_sumOverFutures 53 = .ok (.astore 7, 2) := by decide +kernel
theorem dX6_sumOverFutures_55 : decode cX6_sumOverFutures 55 = .ok (.lconst 0, 1) := by decide +kernel
theorem dX6_sumOverFutures_56 : decode cX6_sumOverFutures 56 = .ok (.lstore 8, 2) := by decide +kernel
theorem dX6_sumOverFutures_58 : decode cX6_sumOverFutures 58 = .ok (.iload_n 3, 1) := by decide +kernel
theorem dX6_sumOverFutures_59 : decode cX6_sumOverFutures 59 = .ok (.ifCond .le 37, 3) := by decide +kernel
theorem dX6_sumOverFutures_62 : decode cX6_sumOverFutures 62 = .ok (.aload 7, 2) := by decide +kernel
theorem dX6_sumOverFutures_64 : decode cX6_sumOverFutures 64 = .ok (.aload 6, 2) := by decide +kernel
theorem dX6_sumOverFutures_66 : decode cX6_sumOverFutures 66 = .ok (.invokevirtual 89, 3) := by decide +kernel
theorem dX6_sumOverFutures_69 : decode cX6_sumOverFutures 69 = .ok (.aload 7, 2) := by decide +kernel
theorem dX6_sumOverFutures_71 : decode cX6_sumOverFutures 71 = .ok (.iconst 0, 1) := by decide +kernel
theorem dX6_sumOverFutures_72 : decode cX6_sumOverFutures 72 = .ok (.invokevirtual 231, 3) := by decide +kernel
theorem dX6_sumOverFutures_75 : decode cX6_sumOverFutures 75 = .ok (.lload 8, 2) := by decide +kernel
theorem dX6_sumOverFutures_77 : decode cX6_sumOverFutures 77 = .ok (.iload_n 3, 1) := by decide +kernel
theorem dX6_sumOverFutures_78 : decode cX6_sumOverFutures 78 = .ok (.i2l, 1) := by decide +kernel
theorem dX6_sumOverFutures_79 : decode cX6_sumOverFutures 79 = .ok (.aload_n 0, 1) := by decide +kernel
theorem dX6_sumOverFutures_80 : decode cX6_sumOverFutures 80 = .ok (.iload_n 1, 1) := by decide +kernel
theorem dX6_sumOverFutures_81 : decode cX6_sumOverFutures 81 = .ok (.iconst 1, 1) := by decide +kernel
theorem dX6_sumOverFutures_82 : decode cX6_sumOverFutures 82 = .ok (.iadd, 1) := by decide +kernel
theorem dX6_sumOverFutures_83 : decode cX6_sumOverFutures 83 = .ok (.iload_n 2, 1) := by decide +kernel
theorem dX6_sumOverFutures_84 : decode cX6_sumOverFutures 84 = .ok (.iload_n 3, 1) := by decide +kernel
theorem dX6_sumOverFutures_85 : decode cX6_sumOverFutures 85 = .ok (.iload 4, 2) := by decide +kernel
theorem dX6_sumOverFutures_87 : decode cX6_sumOverFutures 87 = .ok (.iload 5, 2) := by decide +kernel
theorem dX6_sumOverFutures_89 : decode cX6_sumOverFutures 89 = .ok (.invokestatic 276, 3) := by decide +kernel
theorem dX6_sumOverFutures_92 : decode cX6_sumOverFutures 92 = .ok (.lmul, 1) := by decide +kernel
theorem dX6_sumOverFutures_93 : decode cX6_sumOverFutures 93 = .ok (.ladd, 1) := by decide +kernel
theorem dX6_sumOverFutures_94 : decode cX6_sumOverFutures 94 = .ok (.lstore 8, 2) := by decide +kernel
theorem dX6_sumOverFutures_96 : decode cX6_sumOverFutures 96 = .ok (.iload_n 3, 1) := by decide +kernel
theorem dX6_sumOverFutures_97 : decode cX6_sumOverFutures 97 = .ok (.bipush 10, 2) := by decide +kernel
theorem dX6_sumOverFutures_99 : decode cX6_sumOverFutures 99 = .ok (.if_icmp .ge 44, 3) := by decide +kernel
theorem dX6_sumOverFutures_102 : decode cX6_sumOverFutures 102 = .ok (.aload 7, 2) := by decide +kernel
theorem dX6_sumOverFutures_104 : decode cX6_sumOverFutures 104 = .ok (.aload 6, 2) := by decide +kernel
end
section
theorem dX6_sumOverFutures_106 : decode cX6_sumOverFutures 106 = .ok (.invokevirtual 89, 3) := by decide +kernel
theorem dX6_sumOverFutures_109 : decode cX6_sumOverFutures 109 = .ok (.aload 7, 2) := by decide +kernel
theorem dX6_sumOverFutures_111 : decode cX6_sumOverFutures 111 = .ok (.aload 6, 2) := by decide +kernel
theorem dX6_sumOverFutures_113 : decode cX6_sumOverFutures 113 = .ok (.invokevirtual 228, 3) := by decide +kernel
theorem dX6_sumOverFutures_116 : decode cX6_sumOverFutures 116 = .ok (.invokevirtual 231, 3) := by decide +kernel
theorem dX6_sumOverFutures_119 : decode cX6_sumOverFutures 119 = .ok (.lload 8, 2) := by decide +kernel
theorem dX6_sumOverFutures_121 : decode cX6_sumOverFutures 121 = .ok (.bipush 10, 2) := by decide +kernel
theorem dX6_sumOverFutures_123 : decode cX6_sumOverFutures 123 = .ok (.iload_n 3, 1) := by decide +kernel
theorem dX6_sumOverFutures_124 : decode cX6_sumOverFutures 124 = .ok (.isub, 1) := by decide +kernel
theorem dX6_sumOverFutures_125 : decode cX6_sumOverFutures 125 = .ok (.i2l, 1) := by decide +kernel
theorem dX6_sumOverFutures_126 : decode cX6_sumOverFutures 126 = .ok (.aload_n 0, 1) := by decide +kernel
theorem dX6_sumOverFutures_127 : decode cX6_sumOverFutures 127 = .ok (.iload_n 1, 1) := by decide +kernel
theorem dX6_sumOverFutures_128 : decode cX6_sumOverFutures 128 = .ok (.iconst 1, 1) := by decide +kernel
theorem dX6_sumOverFutures_129 : decode cX6_sumOverFutures 129 = .ok (.iadd, 1) := by decide +kernel
theorem dX6_sumOverFutures_130 : decode cX6_sumOverFutures 130 = .ok (.iload_n 2, 1) := by decide +kernel
theorem dX6_sumOverFutures_131 : decode cX6_sumOverFutures 131 = .ok (.iload_n 3, 1) := by decide +kernel
theorem dX6_sumOverFutures_132 : decode cX6_sumOverFutures 132 = .ok (.iload 4, 2) := by decide +kernel
theorem dX6_sumOverFutures_134 : decode cX6_sumOverFutures 134 = .ok (.iload 5, 2) := by decide +kernel
theorem dX6_sumOverFutures_136 : decode cX6_sumOverFutures 136 = .ok (.invokestatic 276, 3) := by decide +kernel
theorem dX6_sumOverFutures_139 : decode cX6_sumOverFutures 139 = .ok (.lmul, 1) := by decide +kernel
theorem dX6_sumOverFutures_140 : decode cX6_sumOverFutures 140 = .ok (.ladd, 1) := by decide +kernel
theorem dX6_sumOverFutures_141 : decode cX6_sumOverFutures 141 = .ok (.lstore 8, 2) := by decide +kernel
theorem dX6_sumOverFutures_143 : decode cX6_sumOverFutures 143 = .ok (.lload 8, 2) := by decide +kernel
theorem dX6_sumOverFutures_145 : decode cX6_sumOverFutures 145 = .ok (.lreturn, 1) := by decide +kernel
theorem dX6_fractionOfTens_0 : decode cX6_fractionOfTens 0 = .ok (.lload_n 0, 1) := by decide +kernel
theorem dX6_fractionOfTens_1 : decode cX6_fractionOfTens 1 = .ok (.lstore 4, 2) := by decide +kernel
theorem dX6_fractionOfTens_3 : decode cX6_fractionOfTens 3 = .ok (.lconst 1, 1) := by decide +kernel
theorem dX6_fractionOfTens_4 : decode cX6_fractionOfTens 4 = .ok (.lstore 6, 2) := by decide +kernel
theorem dX6_fractionOfTens_6 : decode cX6_fractionOfTens 6 = .ok (.iconst 0, 1) := by decide +kernel
theorem dX6_fractionOfTens_7 : decode cX6_fractionOfTens 7 = .ok (.istore 8, 2) := by decide +kernel
theorem dX6_fractionOfTens_9 : decode cX6_fractionOfTens 9 = .ok (.iload 8, 2) := by decide +kernel
theorem dX6_fractionOfTens_11 : decode cX6_fractionOfTens 11 = .ok (.iload_n 2, 1) := by decide +kernel
theorem dX6_fractionOfTens_12 : decode cX6_fractionOfTens 12 = .ok (.if_icmp .ge 17, 3) := by decide +kernel
theorem dX6_fractionOfTens_15 : decode cX6_fractionOfTens 15 = .ok (.lload 6, 2) := by decide +kernel
theorem dX6_fractionOfTens_17 : decode cX6_fractionOfTens 17 = .ok (.ldc2_w 284, 3) := by decide +kernel
theorem dX6_fractionOfTens_20 : decode cX6_fractionOfTens 20 = .ok (.lmul, 1) := by decide +kernel
theorem dX6_fractionOfTens_21 : decode cX6_fractionOfTens 21 = .ok (.lstore 6, 2) := by decide +kernel
theorem dX6_fractionOfTens_23 : decode cX6_fractionOfTens 23 = .ok (.iinc 8 1, 3) := by decide +kernel
theorem dX6_fractionOfTens_26 : decode cX6_fractionOfTens 26 = .ok (.goto (-17), 3) := by decide +kernel
theorem dX6_fractionOfTens_29 : decode cX6_fractionOfTens 29 = .ok (.iconst 0, 1) := by decide +kernel
theorem dX6_fractionOfTens_30 : decode cX6_fractionOfTens 30 = .ok (.istore 8, 2) := by decide +kernel
theorem dX6_fractionOfTens_32 : decode cX6_fractionOfTens 32 = .ok (.iload 8, 2) := by decide +kernel
theorem dX6_fractionOfTens_34 : decode cX6_fractionOfTens 34 = .ok (.iload_n 2, 1) := by decide +kernel
theorem dX6_fractionOfTens_35 : decode cX6_fractionOfTens 35 = .ok (.if_icmp .ge 85, 3) := by decide +kernel
theorem dX6_fractionOfTens_38 : decode cX6_fractionOfTens 38 = .ok (.lload 4, 2) := by decide +kernel
theorem dX6_fractionOfTens_40 : decode cX6_fractionOfTens 40 = .ok (.ldc2_w 286, 3) := by decide +kernel
theorem dX6_fractionOfTens_43 : decode cX6_fractionOfTens 43 = .ok (.lrem, 1) := by decide +kernel
theorem dX6_fractionOfTens_44 : decode cX6_fractionOfTens 44 = .ok (.lconst 0, 1) := by decide +kernel
theorem dX6_fractionOfTens_45 : decode cX6_fractionOfTens 45 = .ok (.lcmp, 1) := by decide +kernel
theorem dX6_fractionOfTens_46 : decode cX6_fractionOfTens 46 = .ok (.ifCond .ne 30, 3) := by decide +kernel
theorem dX6_fractionOfTens_49 : decode cX6_fractionOfTens 49 = .ok (.lload 6, 2) := by decide +kernel
theorem dX6_fractionOfTens_51 : decode cX6_fractionOfTens 51 = .ok (.ldc2_w 286, 3) := by decide +kernel
theorem dX6_fractionOfTens_54 : decode cX6_fractionOfTens 54 = .ok (.lrem, 1) := by decide +kernel
theorem dX6_fractionOfTens_55 : decode cX6_fractionOfTens 55 = .ok (.lconst 0, 1) := by decide +kernel
theorem dX6_fractionOfTens_56 : decode cX6_fractionOfTens 56 = .ok (.lcmp, 1) := by decide +kernel
theorem dX6_fractionOfTens_57 : decode cX6_fractionOfTens 57 = .ok (.ifCond .ne 19, 3) := by decide +kernel
theorem dX6_fractionOfTens_60 : decode cX6_fractionOfTens 60 = .ok (.lload 4, 2) := by decide +kernel
theorem dX6_fractionOfTens_62 : decode cX6_fractionOfTens 62 = .ok (.ldc2_w 286, 3) := by decide +kernel
theorem dX6_fractionOfTens_65 : decode cX6_fractionOfTens 65 = .ok (.ldiv, 1) := by decide +kernel
theorem dX6_fractionOfTens_66 : decode cX6_fractionOfTens 66 = .ok (.lstore 4, 2) := by decide +kernel
theorem dX6_fractionOfTens_68 : decode cX6_fractionOfTens 68 = .ok (.lload 6, 2) := by decide +kernel
theorem dX6_fractionOfTens_70 : decode cX6_fractionOfTens 70 = .ok (.ldc2_w 286, 3) := by decide +kernel
theorem dX6_fractionOfTens_73 : decode cX6_fractionOfTens 73 = .ok (.ldiv, 1) := by decide +kernel
theorem dX6_fractionOfTens_74 : decode cX6_fractionOfTens 74 = .ok (.lstore 6, 2) := by decide +kernel
theorem dX6_fractionOfTens_76 : decode cX6_fractionOfTens 76 = .ok (.lload 4, 2) := by decide +kernel
theorem dX6_fractionOfTens_78 : decode cX6_fractionOfTens 78 = .ok (.ldc2_w 288, 3) := by decide +kernel
theorem dX6_fractionOfTens_81 : decode cX6_fractionOfTens 81 = .ok (.lrem, 1) := by decide +kernel
theorem dX6_fractionOfTens_82 : decode cX6_fractionOfTens 82 = .ok (.lconst 0, 1) := by decide +kernel
theorem dX6_fractionOfTens_83 : decode cX6_fractionOfTens 83 = .ok (.lcmp, 1) := by decide +kernel
theorem dX6_fractionOfTens_84 : decode cX6_fractionOfTens 84 = .ok (.ifCond .ne 30, 3) := by decide +kernel
theorem dX6_fractionOfTens_87 : decode cX6_fractionOfTens 87 = .ok (.lload 6, 2) := by decide +kernel
theorem dX6_fractionOfTens_89 : decode cX6_fractionOfTens 89 = .ok (.ldc2_w 288, 3) := by decide +kernel
theorem dX6_fractionOfTens_92 : decode cX6_fractionOfTens 92 = .ok (.lrem, 1) := by decide +kernel
theorem dX6_fractionOfTens_93 : decode cX6_fractionOfTens 93 = .ok (.lconst 0, 1) := by decide +kernel
theorem dX6_fractionOfTens_94 : decode cX6_fractionOfTens 94 = .ok (.lcmp, 1) := by decide +kernel
theorem dX6_fractionOfTens_95 : decode cX6_fractionOfTens 95 = .ok (.ifCond .ne 19, 3) := by decide +kernel
theorem dX6_fractionOfTens_98 : decode cX6_fractionOfTens 98 = .ok (.lload 4, 2) := by decide +kernel
theorem dX6_fractionOfTens_100 : decode cX6_fractionOfTens 100 = .ok (.ldc2_w 288, 3) := by decide +kernel
theorem dX6_fractionOfTens_103 : decode cX6_fractionOfTens 103 = .ok (.ldiv, 1) := by decide +kernel
theorem dX6_fractionOfTens_104 : decode cX6_fractionOfTens 104 = .ok (.lstore 4, 2) := by decide +kernel
theorem dX6_fractionOfTens_106 : decode cX6_fractionOfTens 106 = .ok (.lload 6, 2) := by decide +kernel
theorem dX6_fractionOfTens_108 : decode cX6_fractionOfTens 108 = .ok (.ldc2_w 288, 3) := by decide +kernel
theorem dX6_fractionOfTens_111 : decode cX6_fractionOfTens 111 = .ok (.ldiv, 1) := by decide +kernel
theorem dX6_fractionOfTens_112 : decode cX6_fractionOfTens 112 = .ok (.lstore 6, 2) := by decide +kernel
theorem dX6_fractionOfTens_114 : decode cX6_fractionOfTens 114 = .ok (.iinc 8 1, 3) := by decide +kernel
theorem dX6_fractionOfTens_117 : decode cX6_fractionOfTens 117 = .ok (.goto (-85), 3) := by decide +kernel
theorem dX6_fractionOfTens_120 : decode cX6_fractionOfTens 120 = .ok (.iload_n 3, 1) := by decide +kernel
theorem dX6_fractionOfTens_121 : decode cX6_fractionOfTens 121 = .ok (.ifCond .ne 8, 3) := by decide +kernel
theorem dX6_fractionOfTens_124 : decode cX6_fractionOfTens 124 = .ok (.lload 4, 2) := by decide +kernel
theorem dX6_fractionOfTens_126 : decode cX6_fractionOfTens 126 = .ok (.goto 5, 3) := by decide +kernel
theorem dX6_fractionOfTens_129 : decode cX6_fractionOfTens 129 = .ok (.lload 6, 2) := by decide +kernel
theorem dX6_fractionOfTens_131 : decode cX6_fractionOfTens 131 = .ok (.lreturn, 1) := by decide +kernel
theorem dX6_dabFromSheet_0 : decode cX6_dabFromSheet 0 = .ok (.aload_n 0, 1) := by decide +kernel
theorem dX6_dabFromSheet_1 : decode cX6_dabFromSheet 1 = .ok (.getfield 39, 3) := by decide +kernel
theorem dX6_dabFromSheet_4 : decode cX6_dabFromSheet 4 = .ok (.aload_n 1, 1) := by decide +kernel
theorem dX6_dabFromSheet_5 : decode cX6_dabFromSheet 5 = .ok (.getfield 290, 3) := by decide +kernel
theorem dX6_dabFromSheet_8 : decode cX6_dabFromSheet 8 = .ok (.iload_n 2, 1) := by decide +kernel
theorem dX6_dabFromSheet_9 : decode cX6_dabFromSheet 9 = .ok (.iaload, 1) := by decide +kernel
theorem dX6_dabFromSheet_10 : decode cX6_dabFromSheet 10 = .ok (.aload_n 1, 1) := by decide +kernel
theorem dX6_dabFromSheet_11 : decode cX6_dabFromSheet 11 = .ok (.getfield 290, 3) := by decide +kernel
theorem dX6_dabFromSheet_14 : decode cX6_dabFromSheet 14 = .ok (.iload_n 2, 1) := by decide +kernel
theorem dX6_dabFromSheet_15 : decode cX6_dabFromSheet 15 = .ok (.iconst 1, 1) := by decide +kernel
theorem dX6_dabFromSheet_16 : decode cX6_dabFromSheet 16 = .ok (.iadd, 1) := by decide +kernel
theorem dX6_dabFromSheet_17 : decode cX6_dabFromSheet 17 = .ok (.iaload, 1) := by decide +kernel
theorem dX6_dabFromSheet_18 : decode cX6_dabFromSheet 18 = .ok (.aload_n 1, 1) := by decide +kernel
theorem dX6_dabFromSheet_19 : decode cX6_dabFromSheet 19 = .ok (.getfield 290, 3) := by decide +kernel
theorem dX6_dabFromSheet_22 : decode cX6_dabFromSheet 22 = .ok (.iload_n 2, 1) := by decide +kernel
theorem dX6_dabFromSheet_23 : decode cX6_dabFromSheet 23 = .ok (.iconst 2, 1) := by decide +kernel
theorem dX6_dabFromSheet_24 : decode cX6_dabFromSheet 24 = .ok (.iadd, 1) := by decide +kernel
theorem dX6_dabFromSheet_25 : decode cX6_dabFromSheet 25 = .ok (.iaload, 1) := by decide +kernel
theorem dX6_dabFromSheet_26 : decode cX6_dabFromSheet 26 = .ok (.invokevirtual 171, 3) := by decide +kernel
theorem dX6_dabFromSheet_29 : decode cX6_dabFromSheet 29 = .ok (.ifCond .lt 7, 3) := by decide +kernel
theorem dX6_dabFromSheet_32 : decode cX6_dabFromSheet 32 = .ok (.iconst 1, 1) := by decide +kernel
theorem dX6_dabFromSheet_33 : decode cX6_dabFromSheet 33 = .ok (.goto 4, 3) := by decide +kernel
theorem dX6_dabFromSheet_36 : decode cX6_dabFromSheet 36 = .ok (.iconst 0, 1) := by decide +kernel
theorem dX6_dabFromSheet_37 : decode cX6_dabFromSheet 37 = .ok (.ireturn, 1) := by decide +kernel
theorem dX6_imagesKept_0 : decode cX6_imagesKept 0 = .ok (.iconst 0, 1) := by decide +kernel
theorem dX6_imagesKept_1 : decode cX6_imagesKept 1 = .ok (.istore_n 1, 1) := by decide +kernel
theorem dX6_imagesKept_2 : decode cX6_imagesKept 2 = .ok (.iconst 0, 1) := by decide +kernel
theorem dX6_imagesKept_3 : decode cX6_imagesKept 3 = .ok (.istore_n 2, 1) := by decide +kernel
theorem dX6_imagesKept_4 : decode cX6_imagesKept 4 = .ok (.iload_n 2, 1) := by decide +kernel
theorem dX6_imagesKept_5 : decode cX6_imagesKept 5 = .ok (.aload_n 0, 1) := by decide +kernel
theorem dX6_imagesKept_6 : decode cX6_imagesKept 6 = .ok (.getfield 52, 3) := by decide +kernel
theorem dX6_imagesKept_9 : decode cX6_imagesKept 9 = .ok (.arraylength, 1) := by decide +kernel
theorem dX6_imagesKept_10 : decode cX6_imagesKept 10 = .ok (.if_icmp .ge 24, 3) := by decide +kernel
theorem dX6_imagesKept_13 : decode cX6_imagesKept 13 = .ok (.aload_n 0, 1) := by decide +kernel
theorem dX6_imagesKept_14 : decode cX6_imagesKept 14 = .ok (.getfield 52, 3) := by decide +kernel
theorem dX6_imagesKept_17 : decode cX6_imagesKept 17 = .ok (.iload_n 2, 1) := by decide +kernel
theorem dX6_imagesKept_18 : decode cX6_imagesKept 18 = .ok (.aaload, 1) := by decide +kernel
theorem dX6_imagesKept_19 : decode cX6_imagesKept 19 = .ok (.getfield 96, 3) := by decide +kernel
theorem dX6_imagesKept_22 : decode cX6_imagesKept 22 = .ok (.ifCond .eq 6, 3) := by decide +kernel
theorem dX6_imagesKept_25 : decode cX6_imagesKept 25 = .ok (.iinc 1 1, 3) := by decide +kernel
theorem dX6_imagesKept_28 : decode cX6_imagesKept 28 = .ok (.iinc 2 1, 3) := by decide +kernel
theorem dX6_imagesKept_31 : decode cX6_imagesKept 31 = .ok (.goto (-27), 3) := by decide +kernel
theorem dX6_imagesKept_34 : decode cX6_imagesKept 34 = .ok (.iload_n 1, 1) := by decide +kernel
theorem dX6_imagesKept_35 : decode cX6_imagesKept 35 = .ok (.ireturn, 1) := by decide +kernel
theorem dX7_init_0 : decode cX7_init 0 = .ok (.aload_n 0, 1) := by decide +kernel
theorem dX7_init_1 : decode cX7_init 1 = .ok (.invokespecial 1, 3) := by decide +kernel
theorem dX7_init_4 : decode cX7_init 4 = .ok (.aload_n 0, 1) := by decide +kernel
theorem dX7_init_5 : decode cX7_init 5 = .ok (.sipush 183, 3) := by decide +kernel
theorem dX7_init_8 : decode cX7_init 8 = .ok (.newarray .int, 2) := by decide +kernel
theorem dX7_init_10 : decode cX7_init 10 = .ok (.putfield 7, 3) := by decide +kernel
theorem dX7_init_13 : decode cX7_init 13 = .ok (.aload_n 0, 1) := by decide +kernel
theorem dX7_init_14 : decode cX7_init 14 = .ok (.bipush 61, 2) := by decide +kernel
theorem dX7_init_16 : decode cX7_init 16 = .ok (.newarray .int, 2) := by decide +kernel
theorem dX7_init_18 : decode cX7_init 18 = .ok (.putfield 13, 3) := by decide +kernel
theorem dX7_init_21 : decode cX7_init 21 = .ok (.aload_n 0, 1) := by decide +kernel
theorem dX7_init_22 : decode cX7_init 22 = .ok (.iconst 2, 1) := by decide +kernel
theorem dX7_init_23 : decode cX7_init 23 = .ok (.newarray .boolean, 2) := by decide +kernel
theorem dX7_init_25 : decode cX7_init 25 = .ok (.putfield 16, 3) := by decide +kernel
theorem dX7_init_28 : decode cX7_init 28 = .ok (.aload_n 0, 1) := by decide +kernel
theorem dX7_init_29 : decode cX7_init 29 = .ok (.bipush 61, 2) := by decide +kernel
theorem dX7_init_31 : decode cX7_init 31 = .ok (.newarray .int, 2) := by decide +kernel
theorem dX7_init_33 : decode cX7_init 33 = .ok (.putfield 20, 3) := by decide +kernel
theorem dX7_init_36 : decode cX7_init 36 = .ok (.aload_n 0, 1) := by decide +kernel
theorem dX7_init_37 : decode cX7_init 37 = .ok (.sipush 160, 3) := by decide +kernel
theorem dX7_init_40 : decode cX7_init 40 = .ok (.newarray .int, 2) := by decide +kernel
theorem dX7_init_42 : decode cX7_init 42 = .ok (.putfield 23, 3) := by decide +kernel
theorem dX7_init_45 : decode cX7_init 45 = .ok (.aload_n 0, 1) := by decide +kernel
theorem dX7_init_46 : decode cX7_init 46 = .ok (.bipush 84, 2) := by decide +kernel
theorem dX7_init_48 : decode cX7_init 48 = .ok (.newarray .int, 2) := by decide +kernel
theorem dX7_init_50 : decode cX7_init 50 = .ok (.putfield 26, 3) := by decide +kernel
theorem dX7_init_53 : decode cX7_init 53 = .ok (.aload_n 0, 1) := by decide +kernel
theorem dX7_init_54 : decode cX7_init 54 = .ok (.sipush 336, 3) := by decide +kernel
theorem dX7_init_57 : decode cX7_init 57 = .ok (.newarray .int, 2) := by decide +kernel
theorem dX7_init_59 : decode cX7_init 59 = .ok (.putfield 29, 3) := by decide +kernel
theorem dX7_init_62 : decode cX7_init 62 = .ok (.aload_n 0, 1) := by decide +kernel
theorem dX7_init_63 : decode cX7_init 63 = .ok (.iconst 4, 1) := by decide +kernel
theorem dX7_init_64 : decode cX7_init 64 = .ok (.newarray .int, 2) := by decide +kernel
theorem dX7_init_66 : decode cX7_init 66 = .ok (.putfield 32, 3) := by decide +kernel
theorem dX7_init_69 : decode cX7_init 69 = .ok (.aload_n 0, 1) := by decide +kernel
theorem dX7_init_70 : decode cX7_init 70 = .ok (.iconst 4, 1) := by decide +kernel
theorem dX7_init_71 : decode cX7_init 71 = .ok (.newarray .int, 2) := by decide +kernel
theorem dX7_init_73 : decode cX7_init 73 = .ok (.putfield 35, 3) := by decide +kernel
theorem dX7_init_76 : decode cX7_init 76 = .ok (.aload_n 0, 1) := by decide +kernel
theorem dX7_init_77 : decode cX7_init 77 = .ok (.sipush 160, 3) := by decide +kernel
theorem dX7_init_80 : decode cX7_init 80 = .ok (.newarray .int, 2) := by decide +kernel
theorem dX7_init_82 : decode cX7_init 82 = .ok (.putfield 38, 3) := by decide +kernel
theorem dX7_init_85 : decode cX7_init 85 = .ok (.aload_n 0, 1) := by decide +kernel
theorem dX7_init_86 : decode cX7_init 86 = .ok (.bipush 61, 2) := by decide +kernel
theorem dX7_init_88 : decode cX7_init 88 = .ok (.newarray .int, 2) := by decide +kernel
theorem dX7_init_90 : decode cX7_init 90 = .ok (.putfield 41, 3) := by decide +kernel
theorem dX7_init_93 : decode cX7_init 93 = .ok (.iconst 0, 1) := by decide +kernel
theorem dX7_init_94 : decode cX7_init 94 = .ok (.istore_n 1, 1) := by decide +kernel
theorem dX7_init_95 : decode cX7_init 95 = .ok (.iload_n 1, 1) := by decide +kernel
theorem dX7_init_96 : decode cX7_init 96 = .ok (.iconst 4, 1) := by decide +kernel
theorem dX7_init_97 : decode cX7_init 97 = .ok (.if_icmp .ge 17, 3) := by decide +kernel
theorem dX7_init_100 : decode cX7_init 100 = .ok (.aload_n 0, 1) := by decide +kernel
theorem dX7_init_101 : decode cX7_init 101 = .ok (.getfield 32, 3) := by decide +kernel
theorem dX7_init_104 : decode cX7_init 104 = .ok (.iload_n 1, 1) := by decide +kernel
theorem dX7_init_105 : decode cX7_init 105 = .ok (.bipush (-4), 2) := by decide +kernel
theorem dX7_init_107 : decode cX7_init 107 = .ok (.iastore, 1) := by decide +kernel
theorem dX7_init_108 : decode cX7_init 108 = .ok (.iinc 1 1, 3) := by decide +kernel
theorem dX7_init_111 : decode cX7_init 111 = .ok (.goto (-16), 3) := by decide +kernel
theorem dX7_init_114 : decode cX7_init 114 = .ok (.aload_n 0, 1) := by decide +kernel
theorem dX7_init_115 : decode cX7_init 115 = .ok (.invokevirtual 44, 3) := by decide +kernel
theorem dX7_init_118 : decode cX7_init 118 = .ok (.aload_n 0, 1) := by decide +kernel
theorem dX7_init_119 : decode cX7_init 119 = .ok (.invokevirtual 47, 3) := by decide +kernel
theorem dX7_init_122 : decode cX7_init 122 = .ok (.return_, 1) := by decide +kernel
theorem dX7_in_0 : decode cX7_in 0 = .ok (.lload_n 0, 1) := by decide +kernel
theorem dX7_in_1 : decode cX7_in 1 = .ok (.lload_n 2, 1) := by decide +kernel
theorem dX7_in_2 : decode cX7_in 2 = .ok (.lcmp, 1) := by decide +kernel
theorem dX7_in_3 : decode cX7_in 3 = .ok (.ifCond .lt 14, 3) := by decide +kernel
theorem dX7_in_6 : decode cX7_in 6 = .ok (.lload_n 0, 1) := by decide +kernel
theorem dX7_in_7 : decode cX7_in 7 = .ok (.lload 4, 2) := by decide +kernel
theorem dX7_in_9 : decode cX7_in 9 = .ok (.lcmp, 1) := by decide +kernel
theorem dX7_in_10 : decode cX7_in 10 = .ok (.ifCond .gt 7, 3) := by decide +kernel
theorem dX7_in_13 : decode cX7_in 13 = .ok (.iconst 1, 1) := by decide +kernel
theorem dX7_in_14 : decode cX7_in 14 = .ok (.goto 4, 3) := by decide +kernel
theorem dX7_in_17 : decode cX7_in 17 = .ok (.iconst 0, 1) := by decide +kernel
theorem dX7_in_18 : decode cX7_in 18 = .ok (.ireturn, 1) := by decide +kernel
theorem dX7_flag_0 : decode cX7_flag 0 = .ok (.iload_n 0, 1) := by decide +kernel
theorem dX7_flag_1 : decode cX7_flag 1 = .ok (.ifCond .eq 7, 3) := by decide +kernel
theorem dX7_flag_4 : decode cX7_flag 4 = .ok (.iconst 1, 1) := by decide +kernel
theorem dX7_flag_5 : decode cX7_flag 5 = .ok (.goto 4, 3) := by decide +kernel
theorem dX7_flag_8 : decode cX7_flag 8 = .ok (.iconst 0, 1) := by decide +kernel
theorem dX7_flag_9 : decode cX7_flag 9 = .ok (.ireturn, 1) := by decide +kernel
theorem dX7_lesser_0 : decode cX7_lesser 0 = .ok (.iload_n 0, 1) := by decide +kernel
theorem dX7_lesser_1 : decode cX7_lesser 1 = .ok (.iload_n 1, 1) := by decide +kernel
theorem dX7_lesser_2 : decode cX7_lesser 2 = .ok (.if_icmp .ge 7, 3) := by decide +kernel
theorem dX7_lesser_5 : decode cX7_lesser 5 = .ok (.iload_n 0, 1) := by decide +kernel
theorem dX7_lesser_6 : decode cX7_lesser 6 = .ok (.goto 4, 3) := by decide +kernel
theorem dX7_lesser_9 : decode cX7_lesser 9 = .ok (.iload_n 1, 1) := by decide +kernel
theorem dX7_lesser_10 : decode cX7_lesser 10 = .ok (.ireturn, 1) := by decide +kernel
theorem dX7_firstDraft_0 : decode cX7_firstDraft 0 = .ok (.iconst 0, 1) := by decide +kernel
theorem dX7_firstDraft_1 : decode cX7_firstDraft 1 = .ok (.istore_n 1, 1) := by decide +kernel
theorem dX7_firstDraft_2 : decode cX7_firstDraft 2 = .ok (.iload_n 1, 1) := by decide +kernel
theorem dX7_firstDraft_3 : decode cX7_firstDraft 3 = .ok (.bipush 61, 2) := by decide +kernel
theorem dX7_firstDraft_5 : decode cX7_firstDraft 5 = .ok (.if_icmp .ge 16, 3) := by decide +kernel
theorem dX7_firstDraft_8 : decode cX7_firstDraft 8 = .ok (.aload_n 0, 1) := by decide +kernel
theorem dX7_firstDraft_9 : decode cX7_firstDraft 9 = .ok (.getfield 20, 3) := by decide +kernel
theorem dX7_firstDraft_12 : decode cX7_firstDraft 12 = .ok (.iload_n 1, 1) := by decide +kernel
theorem dX7_firstDraft_13 : decode cX7_firstDraft 13 = .ok (.iconst 0, 1) := by decide +kernel
theorem dX7_firstDraft_14 : decode cX7_firstDraft 14 = .ok (.iastore, 1) := by decide +kernel
theorem dX7_firstDraft_15 : decode cX7_firstDraft 15 = .ok (.iinc 1 1, 3) := by decide +kernel
theorem dX7_firstDraft_18 : decode cX7_firstDraft 18 = .ok (.goto (-16), 3) := by decide +kernel
theorem dX7_firstDraft_21 : decode cX7_firstDraft 21 = .ok (.aload_n 0, 1) := by decide +kernel
theorem dX7_firstDraft_22 : decode cX7_firstDraft 22 = .ok (.iconst 0, 1) := by decide +kernel
theorem dX7_firstDraft_23 : decode cX7_firstDraft 23 = .ok (.putfield 50, 3) := by decide +kernel
theorem dX7_firstDraft_26 : decode cX7_firstDraft 26 = .ok (.aload_n 0, 1) := by decide +kernel
theorem dX7_firstDraft_27 : decode cX7_firstDraft 27 = .ok (.iconst 0, 1) := by decide +kernel
theorem dX7_firstDraft_28 : decode cX7_firstDraft 28 = .ok (.putfield 54, 3) := by decide +kernel
theorem dX7_firstDraft_31 : decode cX7_firstDraft 31 = .ok (.aload_n 0, 1) := by decide +kernel
theorem dX7_firstDraft_32 : decode cX7_firstDraft 32 = .ok (.bipush (-4), 2) := by decide +kernel
theorem dX7_firstDraft_34 : decode cX7_firstDraft 34 = .ok (.putfield 57, 3) := by decide +kernel
theorem dX7_firstDraft_37 : decode cX7_firstDraft 37 = .ok (.return_, 1) := by decide +kernel
theorem dX7_keepDraft_0 : decode cX7_keepDraft 0 = .ok (.iconst 0, 1) := by decide +kernel
theorem dX7_keepDraft_1 : decode cX7_keepDraft 1 = .ok (.istore_n 1, 1) := by decide +kernel
theorem dX7_keepDraft_2 : decode cX7_keepDraft 2 = .ok (.iload_n 1, 1) := by decide +kernel
theorem dX7_keepDraft_3 : decode cX7_keepDraft 3 = .ok (.bipush 61, 2) := by decide +kernel
theorem dX7_keepDraft_5 : decode cX7_keepDraft 5 = .ok (.if_icmp .ge 21, 3) := by decide +kernel
theorem dX7_keepDraft_8 : decode cX7_keepDraft 8 = .ok (.aload_n 0, 1) := by decide +kernel
theorem dX7_keepDraft_9 : decode cX7_keepDraft 9 = .ok (.getfield 7, 3) := by decide +kernel
theorem dX7_keepDraft_12 : decode cX7_keepDraft 12 = .ok (.iload_n 1, 1) := by decide +kernel
theorem dX7_keepDraft_13 : decode cX7_keepDraft 13 = .ok (.aload_n 0, 1) := by decide +kernel
theorem dX7_keepDraft_14 : decode cX7_keepDraft 14 = .ok (.getfield 20, 3) := by decide +kernel
theorem dX7_keepDraft_17 : decode cX7_keepDraft 17 = .ok (.iload_n 1, 1) := by decide +kernel
theorem dX7_keepDraft_18 : decode cX7_keepDraft 18 = .ok (.iaload, 1) := by decide +kernel
theorem dX7_keepDraft_19 : decode cX7_keepDraft 19 = .ok (.iastore, 1) := by decide +kernel
theorem dX7_keepDraft_20 : decode cX7_keepDraft 20 = .ok (.iinc 1 1, 3) := by decide +kernel
theorem dX7_keepDraft_23 : decode cX7_keepDraft 23 = .ok (.goto (-21), 3) := by decide +kernel
theorem dX7_keepDraft_26 : decode cX7_keepDraft 26 = .ok (.aload_n 0, 1) := by decide +kernel
theorem dX7_keepDraft_27 : decode cX7_keepDraft 27 = .ok (.aload_n 0, 1) := by decide +kernel
theorem dX7_keepDraft_28 : decode cX7_keepDraft 28 = .ok (.getfield 50, 3) := by decide +kernel
theorem dX7_keepDraft_31 : decode cX7_keepDraft 31 = .ok (.putfield 60, 3) := by decide +kernel
theorem dX7_keepDraft_34 : decode cX7_keepDraft 34 = .ok (.aload_n 0, 1) := by decide +kernel
theorem dX7_keepDraft_35 : decode cX7_keepDraft 35 = .ok (.getfield 16, 3) := by decide +kernel
theorem dX7_keepDraft_38 : decode cX7_keepDraft 38 = .ok (.iconst 0, 1) := by decide +kernel
theorem dX7_keepDraft_39 : decode cX7_keepDraft 39 = .ok (.iconst 0, 1) := by decide +kernel
theorem dX7_keepDraft_40 : decode cX7_keepDraft 40 = .ok (.bastore, 1) := by decide +kernel
theorem dX7_keepDraft_41 : decode cX7_keepDraft 41 = .ok (.aload_n 0, 1) := by decide +kernel
theorem dX7_keepDraft_42 : decode cX7_keepDraft 42 = .ok (.getfield 16, 3) := by decide +kernel
theorem dX7_keepDraft_45 : decode cX7_keepDraft 45 = .ok (.iconst 1, 1) := by decide +kernel
theorem dX7_keepDraft_46 : decode cX7_keepDraft 46 = .ok (.iconst 0, 1) := by decide +kernel
theorem dX7_keepDraft_47 : decode cX7_keepDraft 47 = .ok (.bastore, 1) := by decide +kernel
theorem dX7_keepDraft_48 : decode cX7_keepDraft 48 = .ok (.return_, 1) := by decide +kernel
theorem dX7_feed_0 : decode cX7_feed 0 = .ok (.iload_n 1, 1) := by decide +kernel
theorem dX7_feed_1 : decode cX7_feed 1 = .ok (.i2l, 1) := by decide +kernel
theorem dX7_feed_2 : decode cX7_feed 2 = .ok (.lconst 0, 1) := by decide +kernel
theorem dX7_feed_3 : decode cX7_feed 3 = .ok (.ldc2_w 63, 3) := by decide +kernel
theorem dX7_feed_6 : decode cX7_feed 6 = .ok (.invokestatic 65, 3) := by decide +kernel
theorem dX7_feed_9 : decode cX7_feed 9 = .ok (.ifCond .ne 5, 3) := by decide +kernel
theorem dX7_feed_12 : decode cX7_feed 12 = .ok (.iconst (-1), 1) := by decide +kernel
theorem dX7_feed_13 : decode cX7_feed 13 = .ok (.ireturn, 1) := by decide +kernel
theorem dX7_feed_14 : decode cX7_feed 14 = .ok (.aload_n 0, 1) := by decide +kernel
theorem dX7_feed_15 : decode cX7_feed 15 = .ok (.getfield 69, 3) := by decide +kernel
theorem dX7_feed_18 : decode cX7_feed 18 = .ok (.sipush 160, 3) := by decide +kernel
theorem dX7_feed_21 : decode cX7_feed 21 = .ok (.if_icmp .ne 6, 3) := by decide +kernel
theorem dX7_feed_24 : decode cX7_feed 24 = .ok (.bipush (-3), 2) := by decide +kernel
theorem dX7_feed_26 : decode cX7_feed 26 = .ok (.ireturn, 1) := by decide +kernel
theorem dX7_feed_27 : decode cX7_feed 27 = .ok (.aload_n 0, 1) := by decide +kernel
theorem dX7_feed_28 : decode cX7_feed 28 = .ok (.getfield 23, 3) := by decide +kernel
theorem dX7_feed_31 : decode cX7_feed 31 = .ok (.aload_n 0, 1) := by decide +kernel
theorem dX7_feed_32 : decode cX7_feed 32 = .ok (.getfield 69, 3) := by decide +kernel
theorem dX7_feed_35 : decode cX7_feed 35 = .ok (.iload_n 1, 1) := by decide +kernel
theorem dX7_feed_36 : decode cX7_feed 36 = .ok (.iastore, 1) := by decide +kernel
theorem dX7_feed_37 : decode cX7_feed 37 = .ok (.aload_n 0, 1) := by decide +kernel
theorem dX7_feed_38 : decode cX7_feed 38 = .ok (.dup, 1) := by decide +kernel
theorem dX7_feed_39 : decode cX7_feed 39 = .ok (.getfield 69, 3) := by decide +kernel
theorem dX7_feed_42 : decode cX7_feed 42 = .ok (.iconst 1, 1) := by decide +kernel
theorem dX7_feed_43 : decode cX7_feed 43 = .ok (.iadd, 1) := by decide +kernel
theorem dX7_feed_44 : decode cX7_feed 44 = .ok (.putfield 69, 3) := by decide +kernel
theorem dX7_feed_47 : decode cX7_feed 47 = .ok (.aload_n 0, 1) := by decide +kernel
theorem dX7_feed_48 : decode cX7_feed 48 = .ok (.getfield 69, 3) := by decide +kernel
theorem dX7_feed_51 : decode cX7_feed 51 = .ok (.ireturn, 1) := by decide +kernel
theorem dX7_end_0 : decode cX7_end 0 = .ok (.iload_n 1, 1) := by decide +kernel
theorem dX7_end_1 : decode cX7_end 1 = .ok (.i2l, 1) := by decide +kernel
theorem dX7_end_2 : decode cX7_end 2 = .ok (.lconst 0, 1) := by decide +kernel
theorem dX7_end_3 : decode cX7_end 3 = .ok (.aload_n 0, 1) := by decide +kernel
theorem dX7_end_4 : decode cX7_end 4 = .ok (.getfield 69, 3) := by decide +kernel
theorem dX7_end_7 : decode cX7_end 7 = .ok (.i2l, 1) := by decide +kernel
theorem dX7_end_8 : decode cX7_end 8 = .ok (.invokestatic 65, 3) := by decide +kernel
theorem dX7_end_11 : decode cX7_end 11 = .ok (.ifCond .ne 5, 3) := by decide +kernel
theorem dX7_end_14 : decode cX7_end 14 = .ok (.iconst (-1), 1) := by decide +kernel
theorem dX7_end_15 : decode cX7_end 15 = .ok (.ireturn, 1) := by decide +kernel
theorem dX7_end_16 : decode cX7_end 16 = .ok (.aload_n 0, 1) := by decide +kernel
theorem dX7_end_17 : decode cX7_end 17 = .ok (.getfield 69, 3) := by decide +kernel
theorem dX7_end_20 : decode cX7_end 20 = .ok (.istore_n 2, 1) := by decide +kernel
theorem dX7_end_21 : decode cX7_end 21 = .ok (.aload_n 0, 1) := by decide +kernel
theorem dX7_end_22 : decode cX7_end 22 = .ok (.iload_n 1, 1) := by decide +kernel
theorem dX7_end_23 : decode cX7_end 23 = .ok (.putfield 69, 3) := by decide +kernel
theorem dX7_end_26 : decode cX7_end 26 = .ok (.iload_n 2, 1) := by decide +kernel
theorem dX7_end_27 : decode cX7_end 27 = .ok (.ireturn, 1) := by decide +kernel
theorem dX7_needs_0 : decode cX7_needs 0 = .ok (.iload_n 1, 1) := by decide +kernel
theorem dX7_needs_1 : decode cX7_needs 1 = .ok (.ifCond .ne 23, 3) := by decide +kernel
theorem dX7_needs_4 : decode cX7_needs 4 = .ok (.aload_n 0, 1) := by decide +kernel
theorem dX7_needs_5 : decode cX7_needs 5 = .ok (.getfield 72, 3) := by decide +kernel
theorem dX7_needs_8 : decode cX7_needs 8 = .ok (.ifCond .ne 16, 3) := by decide +kernel
theorem dX7_needs_11 : decode cX7_needs 11 = .ok (.aload_n 0, 1) := by decide +kernel
theorem dX7_needs_12 : decode cX7_needs 12 = .ok (.iload_n 2, 1) := by decide +kernel
theorem dX7_needs_13 : decode cX7_needs 13 = .ok (.putfield 72, 3) := by decide +kernel
theorem dX7_needs_16 : decode cX7_needs 16 = .ok (.aload_n 0, 1) := by decide +kernel
theorem dX7_needs_17 : decode cX7_needs 17 = .ok (.aload_n 0, 1) := by decide +kernel
theorem dX7_needs_18 : decode cX7_needs 18 = .ok (.getfield 75, 3) := by decide +kernel
theorem dX7_needs_21 : decode cX7_needs 21 = .ok (.putfield 78, 3) := by decide +kernel
theorem dX7_needs_24 : decode cX7_needs 24 = .ok (.return_, 1) := by decide +kernel
theorem dX7_byteAt_0 : decode cX7_byteAt 0 = .ok (.iload_n 1, 1) := by decide +kernel
theorem dX7_byteAt_1 : decode cX7_byteAt 1 = .ok (.aload_n 0, 1) := by decide +kernel
theorem dX7_byteAt_2 : decode cX7_byteAt 2 = .ok (.getfield 69, 3) := by decide +kernel
theorem dX7_byteAt_5 : decode cX7_byteAt 5 = .ok (.if_icmp .ge 12, 3) := by decide +kernel
theorem dX7_byteAt_8 : decode cX7_byteAt 8 = .ok (.aload_n 0, 1) := by decide +kernel
theorem dX7_byteAt_9 : decode cX7_byteAt 9 = .ok (.getfield 23, 3) := by decide +kernel
theorem dX7_byteAt_12 : decode cX7_byteAt 12 = .ok (.iload_n 1, 1) := by decide +kernel
theorem dX7_byteAt_13 : decode cX7_byteAt 13 = .ok (.iaload, 1) := by decide +kernel
theorem dX7_byteAt_14 : decode cX7_byteAt 14 = .ok (.goto 4, 3) := by decide +kernel
theorem dX7_byteAt_17 : decode cX7_byteAt 17 = .ok (.iconst (-1), 1) := by decide +kernel
theorem dX7_byteAt_18 : decode cX7_byteAt 18 = .ok (.ireturn, 1) := by decide +kernel
theorem dX7_is_0 : decode cX7_is 0 = .ok (.aload_n 0, 1) := by decide +kernel
theorem dX7_is_1 : decode cX7_is 1 = .ok (.getfield 81, 3) := by decide +kernel
theorem dX7_is_4 : decode cX7_is 4 = .ok (.aload_n 0, 1) := by decide +kernel
theorem dX7_is_5 : decode cX7_is 5 = .ok (.getfield 75, 3) := by decide +kernel
theorem dX7_is_8 : decode cX7_is 8 = .ok (.isub, 1) := by decide +kernel
theorem dX7_is_9 : decode cX7_is 9 = .ok (.iload_n 1, 1) := by decide +kernel
theorem dX7_is_10 : decode cX7_is 10 = .ok (.if_icmp .ne 48, 3) := by decide +kernel
theorem dX7_is_13 : decode cX7_is 13 = .ok (.aload_n 0, 1) := by decide +kernel
theorem dX7_is_14 : decode cX7_is 14 = .ok (.aload_n 0, 1) := by decide +kernel
theorem dX7_is_15 : decode cX7_is 15 = .ok (.getfield 75, 3) := by decide +kernel
theorem dX7_is_18 : decode cX7_is 18 = .ok (.invokevirtual 84, 3) := by decide +kernel
theorem dX7_is_21 : decode cX7_is 21 = .ok (.iload_n 2, 1) := by decide +kernel
theorem dX7_is_22 : decode cX7_is 22 = .ok (.if_icmp .ne 36, 3) := by decide +kernel
theorem dX7_is_25 : decode cX7_is 25 = .ok (.aload_n 0, 1) := by decide +kernel
theorem dX7_is_26 : decode cX7_is 26 = .ok (.aload_n 0, 1) := by decide +kernel
theorem dX7_is_27 : decode cX7_is 27 = .ok (.getfield 75, 3) := by decide +kernel
theorem dX7_is_30 : decode cX7_is 30 = .ok (.iconst 1, 1) := by decide +kernel
theorem dX7_is_31 : decode cX7_is 31 = .ok (.iadd, 1) := by decide +kernel
theorem dX7_is_32 : decode cX7_is 32 = .ok (.invokevirtual 84, 3) := by decide +kernel
theorem dX7_is_35 : decode cX7_is 35 = .ok (.iload_n 3, 1) := by decide +kernel
theorem dX7_is_36 : decode cX7_is 36 = .ok (.if_icmp .ne 22, 3) := by decide +kernel
theorem dX7_is_39 : decode cX7_is 39 = .ok (.aload_n 0, 1) := by decide +kernel
theorem dX7_is_40 : decode cX7_is 40 = .ok (.aload_n 0, 1) := by decide +kernel
theorem dX7_is_41 : decode cX7_is 41 = .ok (.getfield 75, 3) := by decide +kernel
theorem dX7_is_44 : decode cX7_is 44 = .ok (.iconst 2, 1) := by decide +kernel
theorem dX7_is_45 : decode cX7_is 45 = .ok (.iadd, 1) := by decide +kernel
theorem dX7_is_46 : decode cX7_is 46 = .ok (.invokevirtual 84, 3) := by decide +kernel
theorem dX7_is_49 : decode cX7_is 49 = .ok (.iload 4, 2) := by decide +kernel
theorem dX7_is_51 : decode cX7_is 51 = .ok (.if_icmp .ne 7, 3) := by decide +kernel
theorem dX7_is_54 : decode cX7_is 54 = .ok (.iconst 1, 1) := by decide +kernel
theorem dX7_is_55 : decode cX7_is 55 = .ok (.goto 4, 3) := by decide +kernel
theorem dX7_is_58 : decode cX7_is 58 = .ok (.iconst 0, 1) := by decide +kernel
theorem dX7_is_59 : decode cX7_is 59 = .ok (.ireturn, 1) := by decide +kernel
theorem dX7_ends_0 : decode cX7_ends 0 = .ok (.aload_n 0, 1) := by decide +kernel
theorem dX7_ends_1 : decode cX7_ends 1 = .ok (.aload_n 0, 1) := by decide +kernel
theorem dX7_ends_2 : decode cX7_ends 2 = .ok (.getfield 75, 3) := by decide +kernel
theorem dX7_ends_5 : decode cX7_ends 5 = .ok (.iconst 3, 1) := by decide +kernel
theorem dX7_ends_6 : decode cX7_ends 6 = .ok (.iadd, 1) := by decide +kernel
theorem dX7_ends_7 : decode cX7_ends 7 = .ok (.invokevirtual 84, 3) := by decide +kernel
theorem dX7_ends_10 : decode cX7_ends 10 = .ok (.iload_n 1, 1) := by decide +kernel
theorem dX7_ends_11 : decode cX7_ends 11 = .ok (.if_icmp .ne 43, 3) := by decide +kernel
theorem dX7_ends_14 : decode cX7_ends 14 = .ok (.iload_n 2, 1) := by decide +kernel
theorem dX7_ends_15 : decode cX7_ends 15 = .ok (.ifCond .eq 17, 3) := by decide +kernel
theorem dX7_ends_18 : decode cX7_ends 18 = .ok (.aload_n 0, 1) := by decide +kernel
theorem dX7_ends_19 : decode cX7_ends 19 = .ok (.aload_n 0, 1) := by decide +kernel
theorem dX7_ends_20 : decode cX7_ends 20 = .ok (.getfield 75, 3) := by decide +kernel
theorem dX7_ends_23 : decode cX7_ends 23 = .ok (.iconst 4, 1) := by decide +kernel
theorem dX7_ends_24 : decode cX7_ends 24 = .ok (.iadd, 1) := by decide +kernel
theorem dX7_ends_25 : decode cX7_ends 25 = .ok (.invokevirtual 84, 3) := by decide +kernel
theorem dX7_ends_28 : decode cX7_ends 28 = .ok (.iload_n 2, 1) := by decide +kernel
theorem dX7_ends_29 : decode cX7_ends 29 = .ok (.if_icmp .ne 25, 3) := by decide +kernel
theorem dX7_ends_32 : decode cX7_ends 32 = .ok (.iload_n 3, 1) := by decide +kernel
theorem dX7_ends_33 : decode cX7_ends 33 = .ok (.ifCond .eq 17, 3) := by decide +kernel
theorem dX7_ends_36 : decode cX7_ends 36 = .ok (.aload_n 0, 1) := by decide +kernel
theorem dX7_ends_37 : decode cX7_ends 37 = .ok (.aload_n 0, 1) := by decide +kernel
theorem dX7_ends_38 : decode cX7_ends 38 = .ok (.getfield 75, 3) := by decide +kernel
theorem dX7_ends_41 : decode cX7_ends 41 = .ok (.iconst 5, 1) := by decide +kernel
theorem dX7_ends_42 : decode cX7_ends 42 = .ok (.iadd, 1) := by decide +kernel
theorem dX7_ends_43 : decode cX7_ends 43 = .ok (.invokevirtual 84, 3) := by decide +kernel
theorem dX7_ends_46 : decode cX7_ends 46 = .ok (.iload_n 3, 1) := by decide +kernel
theorem dX7_ends_47 : decode cX7_ends 47 = .ok (.if_icmp .ne 7, 3) := by decide +kernel
theorem dX7_ends_50 : decode cX7_ends 50 = .ok (.iconst 1, 1) := by decide +kernel
theorem dX7_ends_51 : decode cX7_ends 51 = .ok (.goto 4, 3) := by decide +kernel
theorem dX7_ends_54 : decode cX7_ends 54 = .ok (.iconst 0, 1) := by decide +kernel
theorem dX7_ends_55 : decode cX7_ends 55 = .ok (.ireturn, 1) := by decide +kernel
theorem dX7_lineNow_0 : decode cX7_lineNow 0 = .ok (.aload_n 0, 1) := by decide +kernel
theorem dX7_lineNow_1 : decode cX7_lineNow 1 = .ok (.iconst 3, 1) := by decide +kernel
theorem dX7_lineNow_2 : decode cX7_lineNow 2 = .ok (.bipush 114, 2) := by decide +kernel
theorem dX7_lineNow_4 : decode cX7_lineNow 4 = .ok (.bipush 101, 2) := by decide +kernel
theorem dX7_lineNow_6 : decode cX7_lineNow 6 = .ok (.bipush 100, 2) := by decide +kernel
theorem dX7_lineNow_8 : decode cX7_lineNow 8 = .ok (.invokevirtual 88, 3) := by decide +kernel
theorem dX7_lineNow_11 : decode cX7_lineNow 11 = .ok (.ifCond .eq 5, 3) := by decide +kernel
theorem dX7_lineNow_14 : decode cX7_lineNow 14 = .ok (.iconst 0, 1) := by decide +kernel
theorem dX7_lineNow_15 : decode cX7_lineNow 15 = .ok (.ireturn, 1) := by decide +kernel
theorem dX7_lineNow_16 : decode cX7_lineNow 16 = .ok (.aload_n 0, 1) := by decide +kernel
theorem dX7_lineNow_17 : decode cX7_lineNow 17 = .ok (.bipush 6, 2) := by decide +kernel
theorem dX7_lineNow_19 : decode cX7_lineNow 19 = .ok (.bipush 121, 2) := by decide +kernel
theorem dX7_lineNow_21 : decode cX7_lineNow 21 = .ok (.bipush 101, 2) := by decide +kernel
theorem dX7_lineNow_23 : decode cX7_lineNow 23 = .ok (.bipush 108, 2) := by decide +kernel
theorem dX7_lineNow_25 : decode cX7_lineNow 25 = .ok (.invokevirtual 88, 3) := by decide +kernel
theorem dX7_lineNow_28 : decode cX7_lineNow 28 = .ok (.ifCond .eq 18, 3) := by decide +kernel
theorem dX7_lineNow_31 : decode cX7_lineNow 31 = .ok (.aload_n 0, 1) := by decide +kernel
theorem dX7_lineNow_32 : decode cX7_lineNow 32 = .ok (.bipush 108, 2) := by decide +kernel
theorem dX7_lineNow_34 : decode cX7_lineNow 34 = .ok (.bipush 111, 2) := by decide +kernel
theorem dX7_lineNow_36 : decode cX7_lineNow 36 = .ok (.bipush 119, 2) := by decide +kernel
theorem dX7_lineNow_38 : decode cX7_lineNow 38 = .ok (.invokevirtual 92, 3) := by decide +kernel
theorem dX7_lineNow_41 : decode cX7_lineNow 41 = .ok (.ifCond .eq 5, 3) := by decide +kernel
theorem dX7_lineNow_44 : decode cX7_lineNow 44 = .ok (.iconst 1, 1) := by decide +kernel
theorem dX7_lineNow_45 : decode cX7_lineNow 45 = .ok (.ireturn, 1) := by decide +kernel
theorem dX7_lineNow_46 : decode cX7_lineNow 46 = .ok (.aload_n 0, 1) := by decide +kernel
theorem dX7_lineNow_47 : decode cX7_lineNow 47 = .ok (.bipush 6, 2) := by decide +kernel
theorem dX7_lineNow_49 : decode cX7_lineNow 49 = .ok (.bipush 111, 2) := by decide +kernel
theorem dX7_lineNow_51 : decode cX7_lineNow 51 = .ok (.bipush 114, 2) := by decide +kernel
theorem dX7_lineNow_53 : decode cX7_lineNow 53 = .ok (.bipush 112, 2) := by decide +kernel
theorem dX7_lineNow_55 : decode cX7_lineNow 55 = .ok (.invokevirtual 88, 3) := by decide +kernel
theorem dX7_lineNow_58 : decode cX7_lineNow 58 = .ok (.ifCond .eq 18, 3) := by decide +kernel
theorem dX7_lineNow_61 : decode cX7_lineNow 61 = .ok (.aload_n 0, 1) := by decide +kernel
theorem dX7_lineNow_62 : decode cX7_lineNow 62 = .ok (.bipush 104, 2) := by decide +kernel
theorem dX7_lineNow_64 : decode cX7_lineNow 64 = .ok (.bipush 97, 2) := by decide +kernel
theorem dX7_lineNow_66 : decode cX7_lineNow 66 = .ok (.bipush 110, 2) := by decide +kernel
theorem dX7_lineNow_68 : decode cX7_lineNow 68 = .ok (.invokevirtual 92, 3) := by decide +kernel
theorem dX7_lineNow_71 : decode cX7_lineNow 71 = .ok (.ifCond .eq 5, 3) := by decide +kernel
theorem dX7_lineNow_74 : decode cX7_lineNow 74 = .ok (.iconst 2, 1) := by decide +kernel
theorem dX7_lineNow_75 : decode cX7_lineNow 75 = .ok (.ireturn, 1) := by decide +kernel
theorem dX7_lineNow_76 : decode cX7_lineNow 76 = .ok (.aload_n 0, 1) := by decide +kernel
theorem dX7_lineNow_77 : decode cX7_lineNow 77 = .ok (.iconst 3, 1) := by decide +kernel
theorem dX7_lineNow_78 : decode cX7_lineNow 78 = .ok (.bipush 112, 2) := by decide +kernel
theorem dX7_lineNow_80 : decode cX7_lineNow 80 = .ok (.bipush 105, 2) := by decide +kernel
theorem dX7_lineNow_82 : decode cX7_lineNow 82 = .ok (.bipush 110, 2) := by decide +kernel
theorem dX7_lineNow_84 : decode cX7_lineNow 84 = .ok (.invokevirtual 88, 3) := by decide +kernel
theorem dX7_lineNow_87 : decode cX7_lineNow 87 = .ok (.ifCond .eq 5, 3) := by decide +kernel
theorem dX7_lineNow_90 : decode cX7_lineNow 90 = .ok (.iconst 3, 1) := by decide +kernel
theorem dX7_lineNow_91 : decode cX7_lineNow 91 = .ok (.ireturn, 1) := by decide +kernel
theorem dX7_lineNow_92 : decode cX7_lineNow 92 = .ok (.aload_n 0, 1) := by decide +kernel
theorem dX7_lineNow_93 : decode cX7_lineNow 93 = .ok (.iconst 3, 1) := by decide +kernel
theorem dX7_lineNow_94 : decode cX7_lineNow 94 = .ok (.bipush 111, 2) := by decide +kernel
theorem dX7_lineNow_96 : decode cX7_lineNow 96 = .ok (.bipush 110, 2) := by decide +kernel
theorem dX7_lineNow_98 : decode cX7_lineNow 98 = .ok (.bipush 101, 2) := by decide +kernel
theorem dX7_lineNow_100 : decode cX7_lineNow 100 = .ok (.invokevirtual 88, 3) := by decide +kernel
theorem dX7_lineNow_103 : decode cX7_lineNow 103 = .ok (.ifCond .eq 7, 3) := by decide +kernel
theorem dX7_lineNow_106 : decode cX7_lineNow 106 = .ok (.iconst 4, 1) := by decide +kernel
theorem dX7_lineNow_107 : decode cX7_lineNow 107 = .ok (.goto 34, 3) := by decide +kernel
theorem dX7_lineNow_110 : decode cX7_lineNow 110 = .ok (.aload_n 0, 1) := by decide +kernel
theorem dX7_lineNow_111 : decode cX7_lineNow 111 = .ok (.iconst 4, 1) := by decide +kernel
theorem dX7_lineNow_112 : decode cX7_lineNow 112 = .ok (.bipush 119, 2) := by decide +kernel
theorem dX7_lineNow_114 : decode cX7_lineNow 114 = .ok (.bipush 105, 2) := by decide +kernel
theorem dX7_lineNow_116 : decode cX7_lineNow 116 = .ok (.bipush 110, 2) := by decide +kernel
theorem dX7_lineNow_118 : decode cX7_lineNow 118 = .ok (.invokevirtual 88, 3) := by decide +kernel
theorem dX7_lineNow_121 : decode cX7_lineNow 121 = .ok (.ifCond .eq 18, 3) := by decide +kernel
theorem dX7_lineNow_124 : decode cX7_lineNow 124 = .ok (.aload_n 0, 1) := by decide +kernel
theorem dX7_lineNow_125 : decode cX7_lineNow 125 = .ok (.bipush 100, 2) := by decide +kernel
theorem dX7_lineNow_127 : decode cX7_lineNow 127 = .ok (.iconst 0, 1) := by decide +kernel
theorem dX7_lineNow_128 : decode cX7_lineNow 128 = .ok (.iconst 0, 1) := by decide +kernel
theorem dX7_lineNow_129 : decode cX7_lineNow 129 = .ok (.invokevirtual 92, 3) := by decide +kernel
theorem dX7_lineNow_132 : decode cX7_lineNow 132 = .ok (.ifCond .eq 7, 3) := by decide +kernel
theorem dX7_lineNow_135 : decode cX7_lineNow 135 = .ok (.iconst 5, 1) := by decide +kernel
theorem dX7_lineNow_136 : decode cX7_lineNow 136 = .ok (.goto 5, 3) := by decide +kernel
theorem dX7_lineNow_139 : decode cX7_lineNow 139 = .ok (.bipush (-4), 2) := by decide +kernel
theorem dX7_lineNow_141 : decode cX7_lineNow 141 = .ok (.ireturn, 1) := by decide +kernel
theorem dX7_takes_0 : decode cX7_takes 0 = .ok (.aload_n 0, 1) := by decide +kernel
theorem dX7_takes_1 : decode cX7_takes 1 = .ok (.getfield 72, 3) := by decide +kernel
theorem dX7_takes_4 : decode cX7_takes 4 = .ok (.ifCond .le 4, 3) := by decide +kernel
theorem dX7_takes_7 : decode cX7_takes 7 = .ok (.return_, 1) := by decide +kernel
theorem dX7_takes_8 : decode cX7_takes 8 = .ok (.aload_n 0, 1) := by decide +kernel
theorem dX7_takes_9 : decode cX7_takes 9 = .ok (.aload_n 0, 1) := by decide +kernel
theorem dX7_takes_10 : decode cX7_takes 10 = .ok (.getfield 81, 3) := by decide +kernel
theorem dX7_takes_13 : decode cX7_takes 13 = .ok (.invokevirtual 84, 3) := by decide +kernel
theorem dX7_takes_16 : decode cX7_takes 16 = .ok (.bipush 32, 2) := by decide +kernel
theorem dX7_takes_18 : decode cX7_takes 18 = .ok (.if_icmp .ne 16, 3) := by decide +kernel
theorem dX7_takes_21 : decode cX7_takes 21 = .ok (.aload_n 0, 1) := by decide +kernel
theorem dX7_takes_22 : decode cX7_takes 22 = .ok (.dup, 1) := by decide +kernel
theorem dX7_takes_23 : decode cX7_takes 23 = .ok (.getfield 81, 3) := by decide +kernel
theorem dX7_takes_26 : decode cX7_takes 26 = .ok (.iconst 1, 1) := by decide +kernel
theorem dX7_takes_27 : decode cX7_takes 27 = .ok (.iadd, 1) := by decide +kernel
theorem dX7_takes_28 : decode cX7_takes 28 = .ok (.putfield 81, 3) := by decide +kernel
theorem dX7_takes_31 : decode cX7_takes 31 = .ok (.goto (-23), 3) := by decide +kernel
theorem dX7_takes_34 : decode cX7_takes 34 = .ok (.aload_n 0, 1) := by decide +kernel
theorem dX7_takes_35 : decode cX7_takes 35 = .ok (.aload_n 0, 1) := by decide +kernel
theorem dX7_takes_36 : decode cX7_takes 36 = .ok (.getfield 81, 3) := by decide +kernel
theorem dX7_takes_39 : decode cX7_takes 39 = .ok (.putfield 75, 3) := by decide +kernel
theorem dX7_takes_42 : decode cX7_takes 42 = .ok (.aload_n 0, 1) := by decide +kernel
theorem dX7_takes_43 : decode cX7_takes 43 = .ok (.aload_n 0, 1) := by decide +kernel
theorem dX7_takes_44 : decode cX7_takes 44 = .ok (.getfield 81, 3) := by decide +kernel
theorem dX7_takes_47 : decode cX7_takes 47 = .ok (.invokevirtual 84, 3) := by decide +kernel
theorem dX7_takes_50 : decode cX7_takes 50 = .ok (.istore_n 1, 1) := by decide +kernel
theorem dX7_takes_51 : decode cX7_takes 51 = .ok (.iload_n 1, 1) := by decide +kernel
theorem dX7_takes_52 : decode cX7_takes 52 = .ok (.ifCond .ge 11, 3) := by decide +kernel
theorem dX7_takes_55 : decode cX7_takes 55 = .ok (.aload_n 0, 1) := by decide +kernel
theorem dX7_takes_56 : decode cX7_takes 56 = .ok (.iconst 0, 1) := by decide +kernel
theorem dX7_takes_57 : decode cX7_takes 57 = .ok (.putfield 96, 3) := by decide +kernel
theorem dX7_takes_60 : decode cX7_takes 60 = .ok (.goto 214, 3) := by decide +kernel
theorem dX7_takes_63 : decode cX7_takes 63 = .ok (.iload_n 1, 1) := by decide +kernel
theorem dX7_takes_64 : decode cX7_takes 64 = .ok (.i2l, 1) := by decide +kernel
theorem dX7_takes_65 : decode cX7_takes 65 = .ok (.ldc2_w 99, 3) := by decide +kernel
theorem dX7_takes_68 : decode cX7_takes 68 = .ok (.ldc2_w 101, 3) := by decide +kernel
theorem dX7_takes_71 : decode cX7_takes 71 = .ok (.invokestatic 65, 3) := by decide +kernel
theorem dX7_takes_74 : decode cX7_takes 74 = .ok (.ifCond .eq 42, 3) := by decide +kernel
theorem dX7_takes_77 : decode cX7_takes 77 = .ok (.aload_n 0, 1) := by decide +kernel
theorem dX7_takes_78 : decode cX7_takes 78 = .ok (.iconst 1, 1) := by decide +kernel
theorem dX7_takes_79 : decode cX7_takes 79 = .ok (.putfield 96, 3) := by decide +kernel
theorem dX7_takes_82 : decode cX7_takes 82 = .ok (.aload_n 0, 1) := by decide +kernel
theorem dX7_takes_83 : decode cX7_takes 83 = .ok (.aload_n 0, 1) := by decide +kernel
theorem dX7_takes_84 : decode cX7_takes 84 = .ok (.getfield 81, 3) := by decide +kernel
theorem dX7_takes_87 : decode cX7_takes 87 = .ok (.invokevirtual 84, 3) := by decide +kernel
theorem dX7_takes_90 : decode cX7_takes 90 = .ok (.i2l, 1) := by decide +kernel
theorem dX7_takes_91 : decode cX7_takes 91 = .ok (.ldc2_w 99, 3) := by decide +kernel
theorem dX7_takes_94 : decode cX7_takes 94 = .ok (.ldc2_w 101, 3) := by decide +kernel
theorem dX7_takes_97 : decode cX7_takes 97 = .ok (.invokestatic 65, 3) := by decide +kernel
theorem dX7_takes_100 : decode cX7_takes 100 = .ok (.ifCond .eq 174, 3) := by decide +kernel
theorem dX7_takes_103 : decode cX7_takes 103 = .ok (.aload_n 0, 1) := by decide +kernel
theorem dX7_takes_104 : decode cX7_takes 104 = .ok (.dup, 1) := by decide +kernel
theorem dX7_takes_105 : decode cX7_takes 105 = .ok (.getfield 81, 3) := by decide +kernel
theorem dX7_takes_108 : decode cX7_takes 108 = .ok (.iconst 1, 1) := by decide +kernel
theorem dX7_takes_109 : decode cX7_takes 109 = .ok (.iadd, 1) := by decide +kernel
theorem dX7_takes_110 : decode cX7_takes 110 = .ok (.putfield 81, 3) := by decide +kernel
theorem dX7_takes_113 : decode cX7_takes 113 = .ok (.goto (-31), 3) := by decide +kernel
theorem dX7_takes_116 : decode cX7_takes 116 = .ok (.iload_n 1, 1) := by decide +kernel
theorem dX7_takes_117 : decode cX7_takes 117 = .ok (.i2l, 1) := by decide +kernel
theorem dX7_takes_118 : decode cX7_takes 118 = .ok (.ldc2_w 103, 3) := by decide +kernel
theorem dX7_takes_121 : decode cX7_takes 121 = .ok (.ldc2_w 105, 3) := by decide +kernel
theorem dX7_takes_124 : decode cX7_takes 124 = .ok (.invokestatic 65, 3) := by decide +kernel
theorem dX7_takes_127 : decode cX7_takes 127 = .ok (.ifCond .eq 116, 3) := by decide +kernel
theorem dX7_takes_130 : decode cX7_takes 130 = .ok (.aload_n 0, 1) := by decide +kernel
theorem dX7_takes_131 : decode cX7_takes 131 = .ok (.iconst 2, 1) := by decide +kernel
theorem dX7_takes_132 : decode cX7_takes 132 = .ok (.putfield 96, 3) := by decide +kernel
theorem dX7_takes_135 : decode cX7_takes 135 = .ok (.aload_n 0, 1) := by decide +kernel
theorem dX7_takes_136 : decode cX7_takes 136 = .ok (.iconst 0, 1) := by decide +kernel
theorem dX7_takes_137 : decode cX7_takes 137 = .ok (.putfield 107, 3) := by decide +kernel
theorem dX7_takes_140 : decode cX7_takes 140 = .ok (.aload_n 0, 1) := by decide +kernel
theorem dX7_takes_141 : decode cX7_takes 141 = .ok (.aload_n 0, 1) := by decide +kernel
theorem dX7_takes_142 : decode cX7_takes 142 = .ok (.getfield 81, 3) := by decide +kernel
theorem dX7_takes_145 : decode cX7_takes 145 = .ok (.invokevirtual 84, 3) := by decide +kernel
theorem dX7_takes_148 : decode cX7_takes 148 = .ok (.i2l, 1) := by decide +kernel
theorem dX7_takes_149 : decode cX7_takes 149 = .ok (.ldc2_w 103, 3) := by decide +kernel
theorem dX7_takes_152 : decode cX7_takes 152 = .ok (.ldc2_w 105, 3) := by decide +kernel
theorem dX7_takes_155 : decode cX7_takes 155 = .ok (.invokestatic 65, 3) := by decide +kernel
theorem dX7_takes_158 : decode cX7_takes 158 = .ok (.ifCond .eq 59, 3) := by decide +kernel
theorem dX7_takes_161 : decode cX7_takes 161 = .ok (.aload_n 0, 1) := by decide +kernel
theorem dX7_takes_162 : decode cX7_takes 162 = .ok (.aload_n 0, 1) := by decide +kernel
theorem dX7_takes_163 : decode cX7_takes 163 = .ok (.getfield 81, 3) := by decide +kernel
theorem dX7_takes_166 : decode cX7_takes 166 = .ok (.aload_n 0, 1) := by decide +kernel
theorem dX7_takes_167 : decode cX7_takes 167 = .ok (.getfield 75, 3) := by decide +kernel
theorem dX7_takes_170 : decode cX7_takes 170 = .ok (.isub, 1) := by decide +kernel
theorem dX7_takes_171 : decode cX7_takes 171 = .ok (.iconst 2, 1) := by decide +kernel
theorem dX7_takes_172 : decode cX7_takes 172 = .ok (.if_icmp .ge 25, 3) := by decide +kernel
theorem dX7_takes_175 : decode cX7_takes 175 = .ok (.bipush 10, 2) := by decide +kernel
theorem dX7_takes_177 : decode cX7_takes 177 = .ok (.aload_n 0, 1) := by decide +kernel
theorem dX7_takes_178 : decode cX7_takes 178 = .ok (.getfield 107, 3) := by decide +kernel
theorem dX7_takes_181 : decode cX7_takes 181 = .ok (.imul, 1) := by decide +kernel
theorem dX7_takes_182 : decode cX7_takes 182 = .ok (.aload_n 0, 1) := by decide +kernel
theorem dX7_takes_183 : decode cX7_takes 183 = .ok (.aload_n 0, 1) := by decide +kernel
theorem dX7_takes_184 : decode cX7_takes 184 = .ok (.getfield 81, 3) := by decide +kernel
theorem dX7_takes_187 : decode cX7_takes 187 = .ok (.invokevirtual 84, 3) := by decide +kernel
theorem dX7_takes_190 : decode cX7_takes 190 = .ok (.iadd, 1) := by decide +kernel
theorem dX7_takes_191 : decode cX7_takes 191 = .ok (.bipush 48, 2) := by decide +kernel
theorem dX7_takes_193 : decode cX7_takes 193 = .ok (.isub, 1) := by decide +kernel
theorem dX7_takes_194 : decode cX7_takes 194 = .ok (.goto 7, 3) := by decide +kernel
theorem dX7_takes_197 : decode cX7_takes 197 = .ok (.aload_n 0, 1) := by decide +kernel
theorem dX7_takes_198 : decode cX7_takes 198 = .ok (.getfield 107, 3) := by decide +kernel
theorem dX7_takes_201 : decode cX7_takes 201 = .ok (.putfield 107, 3) := by decide +kernel
theorem dX7_takes_204 : decode cX7_takes 204 = .ok (.aload_n 0, 1) := by decide +kernel
theorem dX7_takes_205 : decode cX7_takes 205 = .ok (.dup, 1) := by decide +kernel
theorem dX7_takes_206 : decode cX7_takes 206 = .ok (.getfield 81, 3) := by decide +kernel
theorem dX7_takes_209 : decode cX7_takes 209 = .ok (.iconst 1, 1) := by decide +kernel
theorem dX7_takes_210 : decode cX7_takes 210 = .ok (.iadd, 1) := by decide +kernel
theorem dX7_takes_211 : decode cX7_takes 211 = .ok (.putfield 81, 3) := by decide +kernel
theorem dX7_takes_214 : decode cX7_takes 214 = .ok (.goto (-74), 3) := by decide +kernel
theorem dX7_takes_217 : decode cX7_takes 217 = .ok (.aload_n 0, 1) := by decide +kernel
theorem dX7_takes_218 : decode cX7_takes 218 = .ok (.aload_n 0, 1) := by decide +kernel
theorem dX7_takes_219 : decode cX7_takes 219 = .ok (.getfield 81, 3) := by decide +kernel
theorem dX7_takes_222 : decode cX7_takes 222 = .ok (.aload_n 0, 1) := by decide +kernel
theorem dX7_takes_223 : decode cX7_takes 223 = .ok (.getfield 75, 3) := by decide +kernel
theorem dX7_takes_226 : decode cX7_takes 226 = .ok (.isub, 1) := by decide +kernel
theorem dX7_takes_227 : decode cX7_takes 227 = .ok (.iconst 2, 1) := by decide +kernel
theorem dX7_takes_228 : decode cX7_takes 228 = .ok (.if_icmp .gt 7, 3) := by decide +kernel
theorem dX7_takes_231 : decode cX7_takes 231 = .ok (.iconst 1, 1) := by decide +kernel
theorem dX7_takes_232 : decode cX7_takes 232 = .ok (.goto 4, 3) := by decide +kernel
theorem dX7_takes_235 : decode cX7_takes 235 = .ok (.iconst 0, 1) := by decide +kernel
theorem dX7_takes_236 : decode cX7_takes 236 = .ok (.iconst 1, 1) := by decide +kernel
theorem dX7_takes_237 : decode cX7_takes 237 = .ok (.invokevirtual 110, 3) := by decide +kernel
theorem dX7_takes_240 : decode cX7_takes 240 = .ok (.goto 34, 3) := by decide +kernel
theorem dX7_takes_243 : decode cX7_takes 243 = .ok (.aload_n 0, 1) := by decide +kernel
theorem dX7_takes_244 : decode cX7_takes 244 = .ok (.iconst 3, 1) := by decide +kernel
theorem dX7_takes_245 : decode cX7_takes 245 = .ok (.putfield 96, 3) := by decide +kernel
theorem dX7_takes_248 : decode cX7_takes 248 = .ok (.aload_n 0, 1) := by decide +kernel
theorem dX7_takes_249 : decode cX7_takes 249 = .ok (.iload_n 1, 1) := by decide +kernel
theorem dX7_takes_250 : decode cX7_takes 250 = .ok (.bipush 59, 2) := by decide +kernel
theorem dX7_takes_252 : decode cX7_takes 252 = .ok (.if_icmp .ne 7, 3) := by decide +kernel
theorem dX7_takes_255 : decode cX7_takes 255 = .ok (.iconst 1, 1) := by decide +kernel
theorem dX7_takes_256 : decode cX7_takes 256 = .ok (.goto 4, 3) := by decide +kernel
theorem dX7_takes_259 : decode cX7_takes 259 = .ok (.iconst 0, 1) := by decide +kernel
theorem dX7_takes_260 : decode cX7_takes 260 = .ok (.iconst 1, 1) := by decide +kernel
theorem dX7_takes_261 : decode cX7_takes 261 = .ok (.invokevirtual 110, 3) := by decide +kernel
theorem dX7_takes_264 : decode cX7_takes 264 = .ok (.aload_n 0, 1) := by decide +kernel
theorem dX7_takes_265 : decode cX7_takes 265 = .ok (.dup, 1) := by decide +kernel
theorem dX7_takes_266 : decode cX7_takes 266 = .ok (.getfield 81, 3) := by decide +kernel
theorem dX7_takes_269 : decode cX7_takes 269 = .ok (.iconst 1, 1) := by decide +kernel
theorem dX7_takes_270 : decode cX7_takes 270 = .ok (.iadd, 1) := by decide +kernel
theorem dX7_takes_271 : decode cX7_takes 271 = .ok (.putfield 81, 3) := by decide +kernel
theorem dX7_takes_274 : decode cX7_takes 274 = .ok (.return_, 1) := by decide +kernel
theorem dX7_looked_0 : decode cX7_looked 0 = .ok (.aload_n 0, 1) := by decide +kernel
theorem dX7_looked_1 : decode cX7_looked 1 = .ok (.getfield 72, 3) := by decide +kernel
theorem dX7_looked_4 : decode cX7_looked 4 = .ok (.ifCond .ne 21, 3) := by decide +kernel
theorem dX7_looked_7 : decode cX7_looked 7 = .ok (.aload_n 0, 1) := by decide +kernel
theorem dX7_looked_8 : decode cX7_looked 8 = .ok (.aload_n 0, 1) := by decide +kernel
theorem dX7_looked_9 : decode cX7_looked 9 = .ok (.getfield 96, 3) := by decide +kernel
theorem dX7_looked_12 : decode cX7_looked 12 = .ok (.iconst 2, 1) := by decide +kernel
theorem dX7_looked_13 : decode cX7_looked 13 = .ok (.if_icmp .ne 7, 3) := by decide +kernel
theorem dX7_looked_16 : decode cX7_looked 16 = .ok (.iconst 1, 1) := by decide +kernel
theorem dX7_looked_17 : decode cX7_looked 17 = .ok (.goto 4, 3) := by decide +kernel
theorem dX7_looked_20 : decode cX7_looked 20 = .ok (.iconst 0, 1) := by decide +kernel
theorem dX7_looked_21 : decode cX7_looked 21 = .ok (.iconst 2, 1) := by decide +kernel
theorem dX7_looked_22 : decode cX7_looked 22 = .ok (.invokevirtual 110, 3) := by decide +kernel
theorem dX7_looked_25 : decode cX7_looked 25 = .ok (.aload_n 0, 1) := by decide +kernel
theorem dX7_looked_26 : decode cX7_looked 26 = .ok (.getfield 72, 3) := by decide +kernel
theorem dX7_looked_29 : decode cX7_looked 29 = .ok (.ifCond .ne 20, 3) := by decide +kernel
theorem dX7_looked_32 : decode cX7_looked 32 = .ok (.aload_n 0, 1) := by decide +kernel
theorem dX7_looked_33 : decode cX7_looked 33 = .ok (.aload_n 0, 1) := by decide +kernel
theorem dX7_looked_34 : decode cX7_looked 34 = .ok (.getfield 107, 3) := by decide +kernel
theorem dX7_looked_37 : decode cX7_looked 37 = .ok (.i2l, 1) := by decide +kernel
theorem dX7_looked_38 : decode cX7_looked 38 = .ok (.iload_n 1, 1) := by decide +kernel
theorem dX7_looked_39 : decode cX7_looked 39 = .ok (.i2l, 1) := by decide +kernel
theorem dX7_looked_40 : decode cX7_looked 40 = .ok (.iload_n 2, 1) := by decide +kernel
theorem dX7_looked_41 : decode cX7_looked 41 = .ok (.i2l, 1) := by decide +kernel
theorem dX7_looked_42 : decode cX7_looked 42 = .ok (.invokestatic 65, 3) := by decide +kernel
theorem dX7_looked_45 : decode cX7_looked 45 = .ok (.iconst 3, 1) := by decide +kernel
theorem dX7_looked_46 : decode cX7_looked 46 = .ok (.invokevirtual 110, 3) := by decide +kernel
theorem dX7_looked_49 : decode cX7_looked 49 = .ok (.aload_n 0, 1) := by decide +kernel
theorem dX7_looked_50 : decode cX7_looked 50 = .ok (.getfield 72, 3) := by decide +kernel
theorem dX7_looked_53 : decode cX7_looked 53 = .ok (.ifCond .ne 10, 3) := by decide +kernel
theorem dX7_looked_56 : decode cX7_looked 56 = .ok (.aload_n 0, 1) := by decide +kernel
theorem dX7_looked_57 : decode cX7_looked 57 = .ok (.getfield 107, 3) := by decide +kernel
theorem dX7_looked_60 : decode cX7_looked 60 = .ok (.goto 4, 3) := by decide +kernel
theorem dX7_looked_63 : decode cX7_looked 63 = .ok (.iconst 0, 1) := by decide +kernel
theorem dX7_looked_64 : decode cX7_looked 64 = .ok (.ireturn, 1) := by decide +kernel
theorem dX7_readNumber_0 : decode cX7_readNumber 0 = .ok (.aload_n 0, 1) := by decide +kernel
theorem dX7_readNumber_1 : decode cX7_readNumber 1 = .ok (.iload_n 1, 1) := by decide +kernel
theorem dX7_readNumber_2 : decode cX7_readNumber 2 = .ok (.iload_n 2, 1) := by decide +kernel
theorem dX7_readNumber_3 : decode cX7_readNumber 3 = .ok (.invokevirtual 114, 3) := by decide +kernel
theorem dX7_readNumber_6 : decode cX7_readNumber 6 = .ok (.istore_n 3, 1) := by decide +kernel
theorem dX7_readNumber_7 : decode cX7_readNumber 7 = .ok (.aload_n 0, 1) := by decide +kernel
theorem dX7_readNumber_8 : decode cX7_readNumber 8 = .ok (.invokevirtual 118, 3) := by decide +kernel
theorem dX7_readNumber_11 : decode cX7_readNumber 11 = .ok (.iload_n 3, 1) := by decide +kernel
theorem dX7_readNumber_12 : decode cX7_readNumber 12 = .ok (.ireturn, 1) := by decide +kernel
theorem dX7_readBeetle_0 : decode cX7_readBeetle 0 = .ok (.iconst 4, 1) := by decide +kernel
theorem dX7_readBeetle_1 : decode cX7_readBeetle 1 = .ok (.iconst 5, 1) := by decide +kernel
theorem dX7_readBeetle_2 : decode cX7_readBeetle 2 = .ok (.aload_n 0, 1) := by decide +kernel
theorem dX7_readBeetle_3 : decode cX7_readBeetle 3 = .ok (.getfield 20, 3) := by decide +kernel
theorem dX7_readBeetle_6 : decode cX7_readBeetle 6 = .ok (.bipush 34, 2) := by decide +kernel
theorem dX7_readBeetle_8 : decode cX7_readBeetle 8 = .ok (.iaload, 1) := by decide +kernel
theorem dX7_readBeetle_9 : decode cX7_readBeetle 9 = .ok (.imul, 1) := by decide +kernel
theorem dX7_readBeetle_10 : decode cX7_readBeetle 10 = .ok (.iadd, 1) := by decide +kernel
theorem dX7_readBeetle_11 : decode cX7_readBeetle 11 = .ok (.istore_n 2, 1) := by decide +kernel
theorem dX7_readBeetle_12 : decode cX7_readBeetle 12 = .ok (.aload_n 0, 1) := by decide +kernel
theorem dX7_readBeetle_13 : decode cX7_readBeetle 13 = .ok (.getfield 20, 3) := by decide +kernel
theorem dX7_readBeetle_16 : decode cX7_readBeetle 16 = .ok (.iload_n 2, 1) := by decide +kernel
theorem dX7_readBeetle_17 : decode cX7_readBeetle 17 = .ok (.iconst 0, 1) := by decide +kernel
theorem dX7_readBeetle_18 : decode cX7_readBeetle 18 = .ok (.iadd, 1) := by decide +kernel
theorem dX7_readBeetle_19 : decode cX7_readBeetle 19 = .ok (.iload_n 1, 1) := by decide +kernel
theorem dX7_readBeetle_20 : decode cX7_readBeetle 20 = .ok (.iastore, 1) := by decide +kernel
theorem dX7_readBeetle_21 : decode cX7_readBeetle 21 = .ok (.aload_n 0, 1) := by decide +kernel
theorem dX7_readBeetle_22 : decode cX7_readBeetle 22 = .ok (.getfield 20, 3) := by decide +kernel
theorem dX7_readBeetle_25 : decode cX7_readBeetle 25 = .ok (.iload_n 2, 1) := by decide +kernel
theorem dX7_readBeetle_26 : decode cX7_readBeetle 26 = .ok (.iconst 1, 1) := by decide +kernel
theorem dX7_readBeetle_27 : decode cX7_readBeetle 27 = .ok (.iadd, 1) := by decide +kernel
theorem dX7_readBeetle_28 : decode cX7_readBeetle 28 = .ok (.aload_n 0, 1) := by decide +kernel
theorem dX7_readBeetle_29 : decode cX7_readBeetle 29 = .ok (.iconst 1, 1) := by decide +kernel
theorem dX7_readBeetle_30 : decode cX7_readBeetle 30 = .ok (.bipush 9, 2) := by decide +kernel
theorem dX7_readBeetle_32 : decode cX7_readBeetle 32 = .ok (.invokevirtual 121, 3) := by decide +kernel
theorem dX7_readBeetle_35 : decode cX7_readBeetle 35 = .ok (.iastore, 1) := by decide +kernel
theorem dX7_readBeetle_36 : decode cX7_readBeetle 36 = .ok (.aload_n 0, 1) := by decide +kernel
theorem dX7_readBeetle_37 : decode cX7_readBeetle 37 = .ok (.getfield 20, 3) := by decide +kernel
theorem dX7_readBeetle_40 : decode cX7_readBeetle 40 = .ok (.iload_n 2, 1) := by decide +kernel
theorem dX7_readBeetle_41 : decode cX7_readBeetle 41 = .ok (.iconst 2, 1) := by decide +kernel
theorem dX7_readBeetle_42 : decode cX7_readBeetle 42 = .ok (.iadd, 1) := by decide +kernel
theorem dX7_readBeetle_43 : decode cX7_readBeetle 43 = .ok (.aload_n 0, 1) := by decide +kernel
theorem dX7_readBeetle_44 : decode cX7_readBeetle 44 = .ok (.iconst 0, 1) := by decide +kernel
theorem dX7_readBeetle_45 : decode cX7_readBeetle 45 = .ok (.iconst 3, 1) := by decide +kernel
theorem dX7_readBeetle_46 : decode cX7_readBeetle 46 = .ok (.invokevirtual 121, 3) := by decide +kernel
theorem dX7_readBeetle_49 : decode cX7_readBeetle 49 = .ok (.iastore, 1) := by decide +kernel
theorem dX7_readBeetle_50 : decode cX7_readBeetle 50 = .ok (.aload_n 0, 1) := by decide +kernel
theorem dX7_readBeetle_51 : decode cX7_readBeetle 51 = .ok (.aload_n 0, 1) := by decide +kernel
theorem dX7_readBeetle_52 : decode cX7_readBeetle 52 = .ok (.getfield 20, 3) := by decide +kernel
theorem dX7_readBeetle_55 : decode cX7_readBeetle 55 = .ok (.iload_n 2, 1) := by decide +kernel
theorem dX7_readBeetle_56 : decode cX7_readBeetle 56 = .ok (.iconst 2, 1) := by decide +kernel
theorem dX7_readBeetle_57 : decode cX7_readBeetle 57 = .ok (.iadd, 1) := by decide +kernel
theorem dX7_readBeetle_58 : decode cX7_readBeetle 58 = .ok (.iaload, 1) := by decide +kernel
theorem dX7_readBeetle_59 : decode cX7_readBeetle 59 = .ok (.aload_n 0, 1) := by decide +kernel
theorem dX7_readBeetle_60 : decode cX7_readBeetle 60 = .ok (.getfield 57, 3) := by decide +kernel
theorem dX7_readBeetle_63 : decode cX7_readBeetle 63 = .ok (.if_icmp .le 14, 3) := by decide +kernel
theorem dX7_readBeetle_66 : decode cX7_readBeetle 66 = .ok (.aload_n 0, 1) := by decide +kernel
theorem dX7_readBeetle_67 : decode cX7_readBeetle 67 = .ok (.getfield 20, 3) := by decide +kernel
theorem dX7_readBeetle_70 : decode cX7_readBeetle 70 = .ok (.iload_n 2, 1) := by decide +kernel
theorem dX7_readBeetle_71 : decode cX7_readBeetle 71 = .ok (.iconst 2, 1) := by decide +kernel
theorem dX7_readBeetle_72 : decode cX7_readBeetle 72 = .ok (.iadd, 1) := by decide +kernel
theorem dX7_readBeetle_73 : decode cX7_readBeetle 73 = .ok (.iaload, 1) := by decide +kernel
theorem dX7_readBeetle_74 : decode cX7_readBeetle 74 = .ok (.goto 7, 3) := by decide +kernel
theorem dX7_readBeetle_77 : decode cX7_readBeetle 77 = .ok (.aload_n 0, 1) := by decide +kernel
theorem dX7_readBeetle_78 : decode cX7_readBeetle 78 = .ok (.getfield 57, 3) := by decide +kernel
theorem dX7_readBeetle_81 : decode cX7_readBeetle 81 = .ok (.putfield 57, 3) := by decide +kernel
theorem dX7_readBeetle_84 : decode cX7_readBeetle 84 = .ok (.aload_n 0, 1) := by decide +kernel
theorem dX7_readBeetle_85 : decode cX7_readBeetle 85 = .ok (.getfield 20, 3) := by decide +kernel
theorem dX7_readBeetle_88 : decode cX7_readBeetle 88 = .ok (.iload_n 2, 1) := by decide +kernel
theorem dX7_readBeetle_89 : decode cX7_readBeetle 89 = .ok (.iconst 3, 1) := by decide +kernel
theorem dX7_readBeetle_90 : decode cX7_readBeetle 90 = .ok (.iadd, 1) := by decide +kernel
theorem dX7_readBeetle_91 : decode cX7_readBeetle 91 = .ok (.aload_n 0, 1) := by decide +kernel
theorem dX7_readBeetle_92 : decode cX7_readBeetle 92 = .ok (.iconst 0, 1) := by decide +kernel
theorem dX7_readBeetle_93 : decode cX7_readBeetle 93 = .ok (.bipush 9, 2) := by decide +kernel
theorem dX7_readBeetle_95 : decode cX7_readBeetle 95 = .ok (.invokevirtual 121, 3) := by decide +kernel
theorem dX7_readBeetle_98 : decode cX7_readBeetle 98 = .ok (.iastore, 1) := by decide +kernel
theorem dX7_readBeetle_99 : decode cX7_readBeetle 99 = .ok (.aload_n 0, 1) := by decide +kernel
theorem dX7_readBeetle_100 : decode cX7_readBeetle 100 = .ok (.getfield 20, 3) := by decide +kernel
theorem dX7_readBeetle_103 : decode cX7_readBeetle 103 = .ok (.iload_n 2, 1) := by decide +kernel
theorem dX7_readBeetle_104 : decode cX7_readBeetle 104 = .ok (.iconst 4, 1) := by decide +kernel
theorem dX7_readBeetle_105 : decode cX7_readBeetle 105 = .ok (.iadd, 1) := by decide +kernel
theorem dX7_readBeetle_106 : decode cX7_readBeetle 106 = .ok (.bipush (-4), 2) := by decide +kernel
theorem dX7_readBeetle_108 : decode cX7_readBeetle 108 = .ok (.iastore, 1) := by decide +kernel
theorem dX7_readBeetle_109 : decode cX7_readBeetle 109 = .ok (.aload_n 0, 1) := by decide +kernel
theorem dX7_readBeetle_110 : decode cX7_readBeetle 110 = .ok (.getfield 20, 3) := by decide +kernel
theorem dX7_readBeetle_113 : decode cX7_readBeetle 113 = .ok (.bipush 34, 2) := by decide +kernel
theorem dX7_readBeetle_115 : decode cX7_readBeetle 115 = .ok (.dup2, 1) := by decide +kernel
theorem dX7_readBeetle_116 : decode cX7_readBeetle 116 = .ok (.iaload, 1) := by decide +kernel
theorem dX7_readBeetle_117 : decode cX7_readBeetle 117 = .ok (.iconst 1, 1) := by decide +kernel
theorem dX7_readBeetle_118 : decode cX7_readBeetle 118 = .ok (.iadd, 1) := by decide +kernel
theorem dX7_readBeetle_119 : decode cX7_readBeetle 119 = .ok (.iastore, 1) := by decide +kernel
theorem dX7_readBeetle_120 : decode cX7_readBeetle 120 = .ok (.return_, 1) := by decide +kernel
theorem dX7_readLineOf_0 : decode cX7_readLineOf 0 = .ok (.iconst 0, 1) := by decide +kernel
theorem dX7_readLineOf_1 : decode cX7_readLineOf 1 = .ok (.istore_n 2, 1) := by decide +kernel
theorem dX7_readLineOf_2 : decode cX7_readLineOf 2 = .ok (.iload_n 1, 1) := by decide +kernel
theorem dX7_readLineOf_3 : decode cX7_readLineOf 3 = .ok (.lookupswitch 117 #[(4, 25), (5, 54)], 25) := by decide +kernel
theorem dX7_readLineOf_28 : decode cX7_readLineOf 28 = .ok (.aload_n 0, 1) := by decide +kernel
theorem dX7_readLineOf_29 : decode cX7_readLineOf 29 = .ok (.getfield 20, 3) := by decide +kernel
theorem dX7_readLineOf_32 : decode cX7_readLineOf 32 = .ok (.aload_n 0, 1) := by decide +kernel
theorem dX7_readLineOf_33 : decode cX7_readLineOf 33 = .ok (.getfield 50, 3) := by decide +kernel
theorem dX7_readLineOf_36 : decode cX7_readLineOf 36 = .ok (.aload_n 0, 1) := by decide +kernel
theorem dX7_readLineOf_37 : decode cX7_readLineOf 37 = .ok (.iconst 0, 1) := by decide +kernel
theorem dX7_readLineOf_38 : decode cX7_readLineOf 38 = .ok (.bipush 9, 2) := by decide +kernel
theorem dX7_readLineOf_40 : decode cX7_readLineOf 40 = .ok (.invokevirtual 121, 3) := by decide +kernel
theorem dX7_readLineOf_43 : decode cX7_readLineOf 43 = .ok (.iastore, 1) := by decide +kernel
theorem dX7_readLineOf_44 : decode cX7_readLineOf 44 = .ok (.aload_n 0, 1) := by decide +kernel
theorem dX7_readLineOf_45 : decode cX7_readLineOf 45 = .ok (.dup, 1) := by decide +kernel
theorem dX7_readLineOf_46 : decode cX7_readLineOf 46 = .ok (.getfield 50, 3) := by decide +kernel
theorem dX7_readLineOf_49 : decode cX7_readLineOf 49 = .ok (.iconst 1, 1) := by decide +kernel
theorem dX7_readLineOf_50 : decode cX7_readLineOf 50 = .ok (.iadd, 1) := by decide +kernel
theorem dX7_readLineOf_51 : decode cX7_readLineOf 51 = .ok (.putfield 50, 3) := by decide +kernel
theorem dX7_readLineOf_54 : decode cX7_readLineOf 54 = .ok (.goto 71, 3) := by decide +kernel
theorem dX7_readLineOf_57 : decode cX7_readLineOf 57 = .ok (.aload_n 0, 1) := by decide +kernel
theorem dX7_readLineOf_58 : decode cX7_readLineOf 58 = .ok (.iconst 0, 1) := by decide +kernel
theorem dX7_readLineOf_59 : decode cX7_readLineOf 59 = .ok (.iconst 5, 1) := by decide +kernel
theorem dX7_readLineOf_60 : decode cX7_readLineOf 60 = .ok (.invokevirtual 114, 3) := by decide +kernel
theorem dX7_readLineOf_63 : decode cX7_readLineOf 63 = .ok (.istore_n 2, 1) := by decide +kernel
theorem dX7_readLineOf_64 : decode cX7_readLineOf 64 = .ok (.aload_n 0, 1) := by decide +kernel
theorem dX7_readLineOf_65 : decode cX7_readLineOf 65 = .ok (.aload_n 0, 1) := by decide +kernel
theorem dX7_readLineOf_66 : decode cX7_readLineOf 66 = .ok (.getfield 54, 3) := by decide +kernel
theorem dX7_readLineOf_69 : decode cX7_readLineOf 69 = .ok (.iload_n 2, 1) := by decide +kernel
theorem dX7_readLineOf_70 : decode cX7_readLineOf 70 = .ok (.ishr, 1) := by decide +kernel
theorem dX7_readLineOf_71 : decode cX7_readLineOf 71 = .ok (.iconst 1, 1) := by decide +kernel
theorem dX7_readLineOf_72 : decode cX7_readLineOf 72 = .ok (.iand, 1) := by decide +kernel
theorem dX7_readLineOf_73 : decode cX7_readLineOf 73 = .ok (.ifCond .ne 7, 3) := by decide +kernel
theorem dX7_readLineOf_76 : decode cX7_readLineOf 76 = .ok (.iconst 1, 1) := by decide +kernel
theorem dX7_readLineOf_77 : decode cX7_readLineOf 77 = .ok (.goto 4, 3) := by decide +kernel
theorem dX7_readLineOf_80 : decode cX7_readLineOf 80 = .ok (.iconst 0, 1) := by decide +kernel
theorem dX7_readLineOf_81 : decode cX7_readLineOf 81 = .ok (.iconst 4, 1) := by decide +kernel
theorem dX7_readLineOf_82 : decode cX7_readLineOf 82 = .ok (.invokevirtual 110, 3) := by decide +kernel
theorem dX7_readLineOf_85 : decode cX7_readLineOf 85 = .ok (.aload_n 0, 1) := by decide +kernel
theorem dX7_readLineOf_86 : decode cX7_readLineOf 86 = .ok (.dup, 1) := by decide +kernel
theorem dX7_readLineOf_87 : decode cX7_readLineOf 87 = .ok (.getfield 54, 3) := by decide +kernel
theorem dX7_readLineOf_90 : decode cX7_readLineOf 90 = .ok (.iconst 1, 1) := by decide +kernel
theorem dX7_readLineOf_91 : decode cX7_readLineOf 91 = .ok (.iload_n 2, 1) := by decide +kernel
theorem dX7_readLineOf_92 : decode cX7_readLineOf 92 = .ok (.ishl, 1) := by decide +kernel
theorem dX7_readLineOf_93 : decode cX7_readLineOf 93 = .ok (.ior, 1) := by decide +kernel
theorem dX7_readLineOf_94 : decode cX7_readLineOf 94 = .ok (.putfield 54, 3) := by decide +kernel
theorem dX7_readLineOf_97 : decode cX7_readLineOf 97 = .ok (.aload_n 0, 1) := by decide +kernel
theorem dX7_readLineOf_98 : decode cX7_readLineOf 98 = .ok (.invokevirtual 118, 3) := by decide +kernel
theorem dX7_readLineOf_101 : decode cX7_readLineOf 101 = .ok (.aload_n 0, 1) := by decide +kernel
theorem dX7_readLineOf_102 : decode cX7_readLineOf 102 = .ok (.getfield 20, 3) := by decide +kernel
theorem dX7_readLineOf_105 : decode cX7_readLineOf 105 = .ok (.bipush 35, 2) := by decide +kernel
theorem dX7_readLineOf_107 : decode cX7_readLineOf 107 = .ok (.iload_n 2, 1) := by decide +kernel
theorem dX7_readLineOf_108 : decode cX7_readLineOf 108 = .ok (.iadd, 1) := by decide +kernel
theorem dX7_readLineOf_109 : decode cX7_readLineOf 109 = .ok (.aload_n 0, 1) := by decide +kernel
theorem dX7_readLineOf_110 : decode cX7_readLineOf 110 = .ok (.iconst 0, 1) := by decide +kernel
theorem dX7_readLineOf_111 : decode cX7_readLineOf 111 = .ok (.bipush 9, 2) := by decide +kernel
theorem dX7_readLineOf_113 : decode cX7_readLineOf 113 = .ok (.invokevirtual 121, 3) := by decide +kernel
theorem dX7_readLineOf_116 : decode cX7_readLineOf 116 = .ok (.iastore, 1) := by decide +kernel
theorem dX7_readLineOf_117 : decode cX7_readLineOf 117 = .ok (.goto 8, 3) := by decide +kernel
theorem dX7_readLineOf_120 : decode cX7_readLineOf 120 = .ok (.aload_n 0, 1) := by decide +kernel
theorem dX7_readLineOf_121 : decode cX7_readLineOf 121 = .ok (.iload_n 1, 1) := by decide +kernel
theorem dX7_readLineOf_122 : decode cX7_readLineOf 122 = .ok (.invokevirtual 124, 3) := by decide +kernel
theorem dX7_readLineOf_125 : decode cX7_readLineOf 125 = .ok (.return_, 1) := by decide +kernel
theorem dX7_readLine_0 : decode cX7_readLine 0 = .ok (.aload_n 0, 1) := by decide +kernel
theorem dX7_readLine_1 : decode cX7_readLine 1 = .ok (.getfield 96, 3) := by decide +kernel
theorem dX7_readLine_4 : decode cX7_readLine 4 = .ok (.iconst 1, 1) := by decide +kernel
theorem dX7_readLine_5 : decode cX7_readLine 5 = .ok (.if_icmp .ne 10, 3) := by decide +kernel
theorem dX7_readLine_8 : decode cX7_readLine 8 = .ok (.aload_n 0, 1) := by decide +kernel
theorem dX7_readLine_9 : decode cX7_readLine 9 = .ok (.invokevirtual 128, 3) := by decide +kernel
theorem dX7_readLine_12 : decode cX7_readLine 12 = .ok (.goto 5, 3) := by decide +kernel
theorem dX7_readLine_15 : decode cX7_readLine 15 = .ok (.bipush (-4), 2) := by decide +kernel
theorem dX7_readLine_17 : decode cX7_readLine 17 = .ok (.istore_n 1, 1) := by decide +kernel
theorem dX7_readLine_18 : decode cX7_readLine 18 = .ok (.aload_n 0, 1) := by decide +kernel
theorem dX7_readLine_19 : decode cX7_readLine 19 = .ok (.iload_n 1, 1) := by decide +kernel
theorem dX7_readLine_20 : decode cX7_readLine 20 = .ok (.bipush (-4), 2) := by decide +kernel
theorem dX7_readLine_22 : decode cX7_readLine 22 = .ok (.if_icmp .eq 7, 3) := by decide +kernel
theorem dX7_readLine_25 : decode cX7_readLine 25 = .ok (.iconst 1, 1) := by decide +kernel
theorem dX7_readLine_26 : decode cX7_readLine 26 = .ok (.goto 4, 3) := by decide +kernel
theorem dX7_readLine_29 : decode cX7_readLine 29 = .ok (.iconst 0, 1) := by decide +kernel
theorem dX7_readLine_30 : decode cX7_readLine 30 = .ok (.iconst 2, 1) := by decide +kernel
theorem dX7_readLine_31 : decode cX7_readLine 31 = .ok (.invokevirtual 110, 3) := by decide +kernel
theorem dX7_readLine_34 : decode cX7_readLine 34 = .ok (.aload_n 0, 1) := by decide +kernel
theorem dX7_readLine_35 : decode cX7_readLine 35 = .ok (.iload_n 1, 1) := by decide +kernel
theorem dX7_readLine_36 : decode cX7_readLine 36 = .ok (.iconst 5, 1) := by decide +kernel
theorem dX7_readLine_37 : decode cX7_readLine 37 = .ok (.if_icmp .eq 31, 3) := by decide +kernel
theorem dX7_readLine_40 : decode cX7_readLine 40 = .ok (.iload_n 1, 1) := by decide +kernel
theorem dX7_readLine_41 : decode cX7_readLine 41 = .ok (.iconst 4, 1) := by decide +kernel
theorem dX7_readLine_42 : decode cX7_readLine 42 = .ok (.if_icmp .ne 14, 3) := by decide +kernel
theorem dX7_readLine_45 : decode cX7_readLine 45 = .ok (.aload_n 0, 1) := by decide +kernel
theorem dX7_readLine_46 : decode cX7_readLine 46 = .ok (.getfield 50, 3) := by decide +kernel
theorem dX7_readLine_49 : decode cX7_readLine 49 = .ok (.iconst 4, 1) := by decide +kernel
theorem dX7_readLine_50 : decode cX7_readLine 50 = .ok (.if_icmp .ge 22, 3) := by decide +kernel
theorem dX7_readLine_53 : decode cX7_readLine 53 = .ok (.goto 15, 3) := by decide +kernel
theorem dX7_readLine_56 : decode cX7_readLine 56 = .ok (.aload_n 0, 1) := by decide +kernel
theorem dX7_readLine_57 : decode cX7_readLine 57 = .ok (.getfield 20, 3) := by decide +kernel
theorem dX7_readLine_60 : decode cX7_readLine 60 = .ok (.bipush 34, 2) := by decide +kernel
theorem dX7_readLine_62 : decode cX7_readLine 62 = .ok (.iaload, 1) := by decide +kernel
theorem dX7_readLine_63 : decode cX7_readLine 63 = .ok (.bipush 6, 2) := by decide +kernel
theorem dX7_readLine_65 : decode cX7_readLine 65 = .ok (.if_icmp .ge 7, 3) := by decide +kernel
theorem dX7_readLine_68 : decode cX7_readLine 68 = .ok (.iconst 1, 1) := by decide +kernel
theorem dX7_readLine_69 : decode cX7_readLine 69 = .ok (.goto 4, 3) := by decide +kernel
theorem dX7_readLine_72 : decode cX7_readLine 72 = .ok (.iconst 0, 1) := by decide +kernel
theorem dX7_readLine_73 : decode cX7_readLine 73 = .ok (.iconst 5, 1) := by decide +kernel
theorem dX7_readLine_74 : decode cX7_readLine 74 = .ok (.invokevirtual 110, 3) := by decide +kernel
theorem dX7_readLine_77 : decode cX7_readLine 77 = .ok (.aload_n 0, 1) := by decide +kernel
theorem dX7_readLine_78 : decode cX7_readLine 78 = .ok (.invokevirtual 118, 3) := by decide +kernel
theorem dX7_readLine_81 : decode cX7_readLine 81 = .ok (.aload_n 0, 1) := by decide +kernel
theorem dX7_readLine_82 : decode cX7_readLine 82 = .ok (.getfield 72, 3) := by decide +kernel
theorem dX7_readLine_85 : decode cX7_readLine 85 = .ok (.ifCond .le 4, 3) := by decide +kernel
theorem dX7_readLine_88 : decode cX7_readLine 88 = .ok (.return_, 1) := by decide +kernel
theorem dX7_readLine_89 : decode cX7_readLine 89 = .ok (.aload_n 0, 1) := by decide +kernel
theorem dX7_readLine_90 : decode cX7_readLine 90 = .ok (.iload_n 1, 1) := by decide +kernel
theorem dX7_readLine_91 : decode cX7_readLine 91 = .ok (.invokevirtual 132, 3) := by decide +kernel
theorem dX7_readLine_94 : decode cX7_readLine 94 = .ok (.aload_n 0, 1) := by decide +kernel
theorem dX7_readLine_95 : decode cX7_readLine 95 = .ok (.getfield 72, 3) := by decide +kernel
theorem dX7_readLine_98 : decode cX7_readLine 98 = .ok (.ifCond .ne 21, 3) := by decide +kernel
theorem dX7_readLine_101 : decode cX7_readLine 101 = .ok (.aload_n 0, 1) := by decide +kernel
theorem dX7_readLine_102 : decode cX7_readLine 102 = .ok (.aload_n 0, 1) := by decide +kernel
theorem dX7_readLine_103 : decode cX7_readLine 103 = .ok (.getfield 96, 3) := by decide +kernel
theorem dX7_readLine_106 : decode cX7_readLine 106 = .ok (.iconst 3, 1) := by decide +kernel
theorem dX7_readLine_107 : decode cX7_readLine 107 = .ok (.if_icmp .ne 7, 3) := by decide +kernel
theorem dX7_readLine_110 : decode cX7_readLine 110 = .ok (.iconst 1, 1) := by decide +kernel
theorem dX7_readLine_111 : decode cX7_readLine 111 = .ok (.goto 4, 3) := by decide +kernel
theorem dX7_readLine_114 : decode cX7_readLine 114 = .ok (.iconst 0, 1) := by decide +kernel
theorem dX7_readLine_115 : decode cX7_readLine 115 = .ok (.iconst 2, 1) := by decide +kernel
theorem dX7_readLine_116 : decode cX7_readLine 116 = .ok (.invokevirtual 110, 3) := by decide +kernel
theorem dX7_readLine_119 : decode cX7_readLine 119 = .ok (.aload_n 0, 1) := by decide +kernel
theorem dX7_readLine_120 : decode cX7_readLine 120 = .ok (.invokevirtual 118, 3) := by decide +kernel
theorem dX7_readLine_123 : decode cX7_readLine 123 = .ok (.return_, 1) := by decide +kernel
theorem dX7_text_0 : decode cX7_text 0 = .ok (.iconst 0, 1) := by decide +kernel
theorem dX7_text_1 : decode cX7_text 1 = .ok (.istore_n 1, 1) := by decide +kernel
theorem dX7_text_2 : decode cX7_text 2 = .ok (.aload_n 0, 1) := by decide +kernel
theorem dX7_text_3 : decode cX7_text 3 = .ok (.iconst 0, 1) := by decide +kernel
theorem dX7_text_4 : decode cX7_text 4 = .ok (.putfield 72, 3) := by decide +kernel
theorem dX7_text_7 : decode cX7_text 7 = .ok (.aload_n 0, 1) := by decide +kernel
theorem dX7_text_8 : decode cX7_text 8 = .ok (.iconst 0, 1) := by decide +kernel
theorem dX7_text_9 : decode cX7_text 9 = .ok (.putfield 81, 3) := by decide +kernel
theorem dX7_text_12 : decode cX7_text 12 = .ok (.aload_n 0, 1) := by decide +kernel
theorem dX7_text_13 : decode cX7_text 13 = .ok (.invokevirtual 44, 3) := by decide +kernel
theorem dX7_text_16 : decode cX7_text 16 = .ok (.aload_n 0, 1) := by decide +kernel
theorem dX7_text_17 : decode cX7_text 17 = .ok (.invokevirtual 118, 3) := by decide +kernel
theorem dX7_text_20 : decode cX7_text 20 = .ok (.aload_n 0, 1) := by decide +kernel
theorem dX7_text_21 : decode cX7_text 21 = .ok (.getfield 72, 3) := by decide +kernel
theorem dX7_text_24 : decode cX7_text 24 = .ok (.ifCond .ne 20, 3) := by decide +kernel
theorem dX7_text_27 : decode cX7_text 27 = .ok (.aload_n 0, 1) := by decide +kernel
theorem dX7_text_28 : decode cX7_text 28 = .ok (.getfield 96, 3) := by decide +kernel
theorem dX7_text_31 : decode cX7_text 31 = .ok (.ifCond .eq 13, 3) := by decide +kernel
theorem dX7_text_34 : decode cX7_text 34 = .ok (.aload_n 0, 1) := by decide +kernel
theorem dX7_text_35 : decode cX7_text 35 = .ok (.invokevirtual 135, 3) := by decide +kernel
theorem dX7_text_38 : decode cX7_text 38 = .ok (.iinc 1 1, 3) := by decide +kernel
theorem dX7_text_41 : decode cX7_text 41 = .ok (.goto (-21), 3) := by decide +kernel
theorem dX7_text_44 : decode cX7_text 44 = .ok (.aload_n 0, 1) := by decide +kernel
theorem dX7_text_45 : decode cX7_text 45 = .ok (.getfield 72, 3) := by decide +kernel
theorem dX7_text_48 : decode cX7_text 48 = .ok (.ifCond .ne 25, 3) := by decide +kernel
theorem dX7_text_51 : decode cX7_text 51 = .ok (.aload_n 0, 1) := by decide +kernel
theorem dX7_text_52 : decode cX7_text 52 = .ok (.aload_n 0, 1) := by decide +kernel
theorem dX7_text_53 : decode cX7_text 53 = .ok (.getfield 57, 3) := by decide +kernel
theorem dX7_text_56 : decode cX7_text 56 = .ok (.aload_n 0, 1) := by decide +kernel
theorem dX7_text_57 : decode cX7_text 57 = .ok (.getfield 50, 3) := by decide +kernel
theorem dX7_text_60 : decode cX7_text 60 = .ok (.if_icmp .ge 7, 3) := by decide +kernel
theorem dX7_text_63 : decode cX7_text 63 = .ok (.iconst 1, 1) := by decide +kernel
theorem dX7_text_64 : decode cX7_text 64 = .ok (.goto 4, 3) := by decide +kernel
theorem dX7_text_67 : decode cX7_text 67 = .ok (.iconst 0, 1) := by decide +kernel
theorem dX7_text_68 : decode cX7_text 68 = .ok (.bipush 6, 2) := by decide +kernel
theorem dX7_text_70 : decode cX7_text 70 = .ok (.invokevirtual 110, 3) := by decide +kernel
theorem dX7_text_73 : decode cX7_text 73 = .ok (.aload_n 0, 1) := by decide +kernel
theorem dX7_text_74 : decode cX7_text 74 = .ok (.iconst 0, 1) := by decide +kernel
theorem dX7_text_75 : decode cX7_text 75 = .ok (.putfield 69, 3) := by decide +kernel
theorem dX7_text_78 : decode cX7_text 78 = .ok (.aload_n 0, 1) := by decide +kernel
theorem dX7_text_79 : decode cX7_text 79 = .ok (.getfield 72, 3) := by decide +kernel
theorem dX7_text_82 : decode cX7_text 82 = .ok (.ifCond .le 11, 3) := by decide +kernel
theorem dX7_text_85 : decode cX7_text 85 = .ok (.bipush (-10), 2) := by decide +kernel
theorem dX7_text_87 : decode cX7_text 87 = .ok (.aload_n 0, 1) := by decide +kernel
theorem dX7_text_88 : decode cX7_text 88 = .ok (.getfield 78, 3) := by decide +kernel
theorem dX7_text_91 : decode cX7_text 91 = .ok (.isub, 1) := by decide +kernel
theorem dX7_text_92 : decode cX7_text 92 = .ok (.ireturn, 1) := by decide +kernel
theorem dX7_text_93 : decode cX7_text 93 = .ok (.aload_n 0, 1) := by decide +kernel
theorem dX7_text_94 : decode cX7_text 94 = .ok (.invokevirtual 47, 3) := by decide +kernel
theorem dX7_text_97 : decode cX7_text 97 = .ok (.iload_n 1, 1) := by decide +kernel
theorem dX7_text_98 : decode cX7_text 98 = .ok (.ireturn, 1) := by decide +kernel
theorem dX7_fault_0 : decode cX7_fault 0 = .ok (.aload_n 0, 1) := by decide +kernel
theorem dX7_fault_1 : decode cX7_fault 1 = .ok (.getfield 72, 3) := by decide +kernel
theorem dX7_fault_4 : decode cX7_fault 4 = .ok (.ireturn, 1) := by decide +kernel
theorem dX7_isOne_0 : decode cX7_isOne 0 = .ok (.iload_n 1, 1) := by decide +kernel
theorem dX7_isOne_1 : decode cX7_isOne 1 = .ok (.i2l, 1) := by decide +kernel
theorem dX7_isOne_2 : decode cX7_isOne 2 = .ok (.lconst 0, 1) := by decide +kernel
theorem dX7_isOne_3 : decode cX7_isOne 3 = .ok (.aload_n 0, 1) := by decide +kernel
theorem dX7_isOne_4 : decode cX7_isOne 4 = .ok (.getfield 60, 3) := by decide +kernel
theorem dX7_isOne_7 : decode cX7_isOne 7 = .ok (.iconst 1, 1) := by decide +kernel
theorem dX7_isOne_8 : decode cX7_isOne 8 = .ok (.isub, 1) := by decide +kernel
theorem dX7_isOne_9 : decode cX7_isOne 9 = .ok (.i2l, 1) := by decide +kernel
theorem dX7_isOne_10 : decode cX7_isOne 10 = .ok (.invokestatic 65, 3) := by decide +kernel
theorem dX7_isOne_13 : decode cX7_isOne 13 = .ok (.ireturn, 1) := by decide +kernel
theorem dX7_isBeetle_0 : decode cX7_isBeetle 0 = .ok (.iload_n 1, 1) := by decide +kernel
theorem dX7_isBeetle_1 : decode cX7_isBeetle 1 = .ok (.i2l, 1) := by decide +kernel
theorem dX7_isBeetle_2 : decode cX7_isBeetle 2 = .ok (.lconst 0, 1) := by decide +kernel
theorem dX7_isBeetle_3 : decode cX7_isBeetle 3 = .ok (.aload_n 0, 1) := by decide +kernel
theorem dX7_isBeetle_4 : decode cX7_isBeetle 4 = .ok (.getfield 7, 3) := by decide +kernel
theorem dX7_isBeetle_7 : decode cX7_isBeetle 7 = .ok (.bipush 34, 2) := by decide +kernel
theorem dX7_isBeetle_9 : decode cX7_isBeetle 9 = .ok (.iaload, 1) := by decide +kernel
theorem dX7_isBeetle_10 : decode cX7_isBeetle 10 = .ok (.iconst 1, 1) := by decide +kernel
theorem dX7_isBeetle_11 : decode cX7_isBeetle 11 = .ok (.isub, 1) := by decide +kernel
theorem dX7_isBeetle_12 : decode cX7_isBeetle 12 = .ok (.i2l, 1) := by decide +kernel
theorem dX7_isBeetle_13 : decode cX7_isBeetle 13 = .ok (.invokestatic 65, 3) := by decide +kernel
theorem dX7_isBeetle_16 : decode cX7_isBeetle 16 = .ok (.ireturn, 1) := by decide +kernel
theorem dX7_isPlace_0 : decode cX7_isPlace 0 = .ok (.iload_n 0, 1) := by decide +kernel
theorem dX7_isPlace_1 : decode cX7_isPlace 1 = .ok (.i2l, 1) := by decide +kernel
theorem dX7_isPlace_2 : decode cX7_isPlace 2 = .ok (.lconst 0, 1) := by decide +kernel
theorem dX7_isPlace_3 : decode cX7_isPlace 3 = .ok (.ldc2_w 138, 3) := by decide +kernel
theorem dX7_isPlace_6 : decode cX7_isPlace 6 = .ok (.invokestatic 65, 3) := by decide +kernel
theorem dX7_isPlace_9 : decode cX7_isPlace 9 = .ok (.ireturn, 1) := by decide +kernel
theorem dX7_isPart_0 : decode cX7_isPart 0 = .ok (.iload_n 0, 1) := by decide +kernel
theorem dX7_isPart_1 : decode cX7_isPart 1 = .ok (.i2l, 1) := by decide +kernel
theorem dX7_isPart_2 : decode cX7_isPart 2 = .ok (.lconst 0, 1) := by decide +kernel
theorem dX7_isPart_3 : decode cX7_isPart 3 = .ok (.lconst 1, 1) := by decide +kernel
theorem dX7_isPart_4 : decode cX7_isPart 4 = .ok (.invokestatic 65, 3) := by decide +kernel
theorem dX7_isPart_7 : decode cX7_isPart 7 = .ok (.ireturn, 1) := by decide +kernel
theorem dX7_starts_0 : decode cX7_starts 0 = .ok (.iconst 0, 1) := by decide +kernel
theorem dX7_starts_1 : decode cX7_starts 1 = .ok (.istore_n 1, 1) := by decide +kernel
theorem dX7_starts_2 : decode cX7_starts 2 = .ok (.iload_n 1, 1) := by decide +kernel
theorem dX7_starts_3 : decode cX7_starts 3 = .ok (.bipush 61, 2) := by decide +kernel
theorem dX7_starts_5 : decode cX7_starts 5 = .ok (.if_icmp .ge 21, 3) := by decide +kernel
theorem dX7_starts_8 : decode cX7_starts 8 = .ok (.aload_n 0, 1) := by decide +kernel
theorem dX7_starts_9 : decode cX7_starts 9 = .ok (.getfield 13, 3) := by decide +kernel
theorem dX7_starts_12 : decode cX7_starts 12 = .ok (.iload_n 1, 1) := by decide +kernel
theorem dX7_starts_13 : decode cX7_starts 13 = .ok (.aload_n 0, 1) := by decide +kernel
theorem dX7_starts_14 : decode cX7_starts 14 = .ok (.getfield 7, 3) := by decide +kernel
theorem dX7_starts_17 : decode cX7_starts 17 = .ok (.iload_n 1, 1) := by decide +kernel
theorem dX7_starts_18 : decode cX7_starts 18 = .ok (.iaload, 1) := by decide +kernel
theorem dX7_starts_19 : decode cX7_starts 19 = .ok (.iastore, 1) := by decide +kernel
theorem dX7_starts_20 : decode cX7_starts 20 = .ok (.iinc 1 1, 3) := by decide +kernel
theorem dX7_starts_23 : decode cX7_starts 23 = .ok (.goto (-21), 3) := by decide +kernel
theorem dX7_starts_26 : decode cX7_starts 26 = .ok (.aload_n 0, 1) := by decide +kernel
theorem dX7_starts_27 : decode cX7_starts 27 = .ok (.bipush (-4), 2) := by decide +kernel
theorem dX7_starts_29 : decode cX7_starts 29 = .ok (.putfield 140, 3) := by decide +kernel
theorem dX7_starts_32 : decode cX7_starts 32 = .ok (.return_, 1) := by decide +kernel
theorem dX7_settles_0 : decode cX7_settles 0 = .ok (.iconst 0, 1) := by decide +kernel
theorem dX7_settles_1 : decode cX7_settles 1 = .ok (.istore_n 1, 1) := by decide +kernel
theorem dX7_settles_2 : decode cX7_settles 2 = .ok (.iload_n 1, 1) := by decide +kernel
theorem dX7_settles_3 : decode cX7_settles 3 = .ok (.bipush 61, 2) := by decide +kernel
theorem dX7_settles_5 : decode cX7_settles 5 = .ok (.if_icmp .ge 21, 3) := by decide +kernel
theorem dX7_settles_8 : decode cX7_settles 8 = .ok (.aload_n 0, 1) := by decide +kernel
theorem dX7_settles_9 : decode cX7_settles 9 = .ok (.getfield 7, 3) := by decide +kernel
theorem dX7_settles_12 : decode cX7_settles 12 = .ok (.iload_n 1, 1) := by decide +kernel
theorem dX7_settles_13 : decode cX7_settles 13 = .ok (.aload_n 0, 1) := by decide +kernel
theorem dX7_settles_14 : decode cX7_settles 14 = .ok (.getfield 13, 3) := by decide +kernel
theorem dX7_settles_17 : decode cX7_settles 17 = .ok (.iload_n 1, 1) := by decide +kernel
theorem dX7_settles_18 : decode cX7_settles 18 = .ok (.iaload, 1) := by decide +kernel
theorem dX7_settles_19 : decode cX7_settles 19 = .ok (.iastore, 1) := by decide +kernel
theorem dX7_settles_20 : decode cX7_settles 20 = .ok (.iinc 1 1, 3) := by decide +kernel
theorem dX7_settles_23 : decode cX7_settles 23 = .ok (.goto (-21), 3) := by decide +kernel
theorem dX7_settles_26 : decode cX7_settles 26 = .ok (.return_, 1) := by decide +kernel
theorem dX7_of_0 : decode cX7_of 0 = .ok (.aload_n 0, 1) := by decide +kernel
theorem dX7_of_1 : decode cX7_of 1 = .ok (.getfield 13, 3) := by decide +kernel
theorem dX7_of_4 : decode cX7_of 4 = .ok (.iconst 4, 1) := by decide +kernel
theorem dX7_of_5 : decode cX7_of 5 = .ok (.iconst 5, 1) := by decide +kernel
theorem dX7_of_6 : decode cX7_of 6 = .ok (.iload_n 1, 1) := by decide +kernel
theorem dX7_of_7 : decode cX7_of 7 = .ok (.imul, 1) := by decide +kernel
theorem dX7_of_8 : decode cX7_of 8 = .ok (.iadd, 1) := by decide +kernel
theorem dX7_of_9 : decode cX7_of 9 = .ok (.iload_n 2, 1) := by decide +kernel
theorem dX7_of_10 : decode cX7_of 10 = .ok (.iadd, 1) := by decide +kernel
theorem dX7_of_11 : decode cX7_of 11 = .ok (.iaload, 1) := by decide +kernel
theorem dX7_of_12 : decode cX7_of 12 = .ok (.ireturn, 1) := by decide +kernel
theorem dX7_becomesOf_0 : decode cX7_becomesOf 0 = .ok (.aload_n 0, 1) := by decide +kernel
theorem dX7_becomesOf_1 : decode cX7_becomesOf 1 = .ok (.getfield 13, 3) := by decide +kernel
theorem dX7_becomesOf_4 : decode cX7_becomesOf 4 = .ok (.iconst 4, 1) := by decide +kernel
theorem dX7_becomesOf_5 : decode cX7_becomesOf 5 = .ok (.iconst 5, 1) := by decide +kernel
theorem dX7_becomesOf_6 : decode cX7_becomesOf 6 = .ok (.iload_n 1, 1) := by decide +kernel
theorem dX7_becomesOf_7 : decode cX7_becomesOf 7 = .ok (.imul, 1) := by decide +kernel
theorem dX7_becomesOf_8 : decode cX7_becomesOf 8 = .ok (.iadd, 1) := by decide +kernel
theorem dX7_becomesOf_9 : decode cX7_becomesOf 9 = .ok (.iload_n 2, 1) := by decide +kernel
theorem dX7_becomesOf_10 : decode cX7_becomesOf 10 = .ok (.iadd, 1) := by decide +kernel
theorem dX7_becomesOf_11 : decode cX7_becomesOf 11 = .ok (.iload_n 3, 1) := by decide +kernel
theorem dX7_becomesOf_12 : decode cX7_becomesOf 12 = .ok (.iastore, 1) := by decide +kernel
theorem dX7_becomesOf_13 : decode cX7_becomesOf 13 = .ok (.return_, 1) := by decide +kernel
theorem dX7_weight_0 : decode cX7_weight 0 = .ok (.aload_n 0, 1) := by decide +kernel
theorem dX7_weight_1 : decode cX7_weight 1 = .ok (.iload_n 1, 1) := by decide +kernel
theorem dX7_weight_2 : decode cX7_weight 2 = .ok (.iconst 1, 1) := by decide +kernel
theorem dX7_weight_3 : decode cX7_weight 3 = .ok (.invokevirtual 143, 3) := by decide +kernel
theorem dX7_weight_6 : decode cX7_weight 6 = .ok (.istore_n 2, 1) := by decide +kernel
theorem dX7_weight_7 : decode cX7_weight 7 = .ok (.iload_n 2, 1) := by decide +kernel
theorem dX7_weight_8 : decode cX7_weight 8 = .ok (.iconst 1, 1) := by decide +kernel
theorem dX7_weight_9 : decode cX7_weight 9 = .ok (.iadd, 1) := by decide +kernel
theorem dX7_weight_10 : decode cX7_weight 10 = .ok (.iconst 2, 1) := by decide +kernel
theorem dX7_weight_11 : decode cX7_weight 11 = .ok (.idiv, 1) := by decide +kernel
theorem dX7_weight_12 : decode cX7_weight 12 = .ok (.istore_n 3, 1) := by decide +kernel
theorem dX7_weight_13 : decode cX7_weight 13 = .ok (.aload_n 0, 1) := by decide +kernel
theorem dX7_weight_14 : decode cX7_weight 14 = .ok (.iload_n 1, 1) := by decide +kernel
theorem dX7_weight_15 : decode cX7_weight 15 = .ok (.iconst 0, 1) := by decide +kernel
theorem dX7_weight_16 : decode cX7_weight 16 = .ok (.invokevirtual 143, 3) := by decide +kernel
theorem dX7_weight_19 : decode cX7_weight 19 = .ok (.tableswitch 35 1 3 #[25, 27, 31], 25) := by decide +kernel
theorem dX7_weight_44 : decode cX7_weight 44 = .ok (.iload_n 3, 1) := by decide +kernel
theorem dX7_weight_45 : decode cX7_weight 45 = .ok (.ireturn, 1) := by decide +kernel
theorem dX7_weight_46 : decode cX7_weight 46 = .ok (.iload_n 3, 1) := by decide +kernel
theorem dX7_weight_47 : decode cX7_weight 47 = .ok (.iconst 1, 1) := by decide +kernel
theorem dX7_weight_48 : decode cX7_weight 48 = .ok (.iadd, 1) := by decide +kernel
theorem dX7_weight_49 : decode cX7_weight 49 = .ok (.ireturn, 1) := by decide +kernel
theorem dX7_weight_50 : decode cX7_weight 50 = .ok (.iconst 2, 1) := by decide +kernel
theorem dX7_weight_51 : decode cX7_weight 51 = .ok (.iload_n 2, 1) := by decide +kernel
theorem dX7_weight_52 : decode cX7_weight 52 = .ok (.imul, 1) := by decide +kernel
theorem dX7_weight_53 : decode cX7_weight 53 = .ok (.ireturn, 1) := by decide +kernel
theorem dX7_weight_54 : decode cX7_weight 54 = .ok (.iload_n 2, 1) := by decide +kernel
theorem dX7_weight_55 : decode cX7_weight 55 = .ok (.ireturn, 1) := by decide +kernel
theorem dX7_pace_0 : decode cX7_pace 0 = .ok (.aload_n 0, 1) := by decide +kernel
theorem dX7_pace_1 : decode cX7_pace 1 = .ok (.iload_n 1, 1) := by decide +kernel
theorem dX7_pace_2 : decode cX7_pace 2 = .ok (.iconst 0, 1) := by decide +kernel
theorem dX7_pace_3 : decode cX7_pace 3 = .ok (.invokevirtual 143, 3) := by decide +kernel
theorem dX7_pace_6 : decode cX7_pace 6 = .ok (.istore_n 2, 1) := by decide +kernel
theorem dX7_pace_7 : decode cX7_pace 7 = .ok (.iload_n 2, 1) := by decide +kernel
theorem dX7_pace_8 : decode cX7_pace 8 = .ok (.iconst 1, 1) := by decide +kernel
theorem dX7_pace_9 : decode cX7_pace 9 = .ok (.if_icmp .ne 7, 3) := by decide +kernel
theorem dX7_pace_12 : decode cX7_pace 12 = .ok (.iconst 2, 1) := by decide +kernel
theorem dX7_pace_13 : decode cX7_pace 13 = .ok (.goto 13, 3) := by decide +kernel
theorem dX7_pace_16 : decode cX7_pace 16 = .ok (.iload_n 2, 1) := by decide +kernel
theorem dX7_pace_17 : decode cX7_pace 17 = .ok (.iconst 3, 1) := by decide +kernel
theorem dX7_pace_18 : decode cX7_pace 18 = .ok (.if_icmp .ne 7, 3) := by decide +kernel
theorem dX7_pace_21 : decode cX7_pace 21 = .ok (.iconst 3, 1) := by decide +kernel
theorem dX7_pace_22 : decode cX7_pace 22 = .ok (.goto 4, 3) := by decide +kernel
theorem dX7_pace_25 : decode cX7_pace 25 = .ok (.iconst 1, 1) := by decide +kernel
theorem dX7_pace_26 : decode cX7_pace 26 = .ok (.ireturn, 1) := by decide +kernel
theorem dX7_counted_0 : decode cX7_counted 0 = .ok (.iconst 0, 1) := by decide +kernel
theorem dX7_counted_1 : decode cX7_counted 1 = .ok (.istore_n 2, 1) := by decide +kernel
theorem dX7_counted_2 : decode cX7_counted 2 = .ok (.iconst 0, 1) := by decide +kernel
theorem dX7_counted_3 : decode cX7_counted 3 = .ok (.istore_n 3, 1) := by decide +kernel
theorem dX7_counted_4 : decode cX7_counted 4 = .ok (.iload_n 3, 1) := by decide +kernel
theorem dX7_counted_5 : decode cX7_counted 5 = .ok (.aload_n 0, 1) := by decide +kernel
theorem dX7_counted_6 : decode cX7_counted 6 = .ok (.getfield 13, 3) := by decide +kernel
theorem dX7_counted_9 : decode cX7_counted 9 = .ok (.bipush 34, 2) := by decide +kernel
theorem dX7_counted_11 : decode cX7_counted 11 = .ok (.iaload, 1) := by decide +kernel
theorem dX7_counted_12 : decode cX7_counted 12 = .ok (.if_icmp .ge 39, 3) := by decide +kernel
theorem dX7_counted_15 : decode cX7_counted 15 = .ok (.iload_n 2, 1) := by decide +kernel
theorem dX7_counted_16 : decode cX7_counted 16 = .ok (.iload_n 3, 1) := by decide +kernel
theorem dX7_counted_17 : decode cX7_counted 17 = .ok (.aload_n 0, 1) := by decide +kernel
theorem dX7_counted_18 : decode cX7_counted 18 = .ok (.getfield 140, 3) := by decide +kernel
theorem dX7_counted_21 : decode cX7_counted 21 = .ok (.if_icmp .eq 21, 3) := by decide +kernel
theorem dX7_counted_24 : decode cX7_counted 24 = .ok (.aload_n 0, 1) := by decide +kernel
theorem dX7_counted_25 : decode cX7_counted 25 = .ok (.iload_n 3, 1) := by decide +kernel
theorem dX7_counted_26 : decode cX7_counted 26 = .ok (.iconst 4, 1) := by decide +kernel
theorem dX7_counted_27 : decode cX7_counted 27 = .ok (.invokevirtual 143, 3) := by decide +kernel
theorem dX7_counted_30 : decode cX7_counted 30 = .ok (.iload_n 1, 1) := by decide +kernel
theorem dX7_counted_31 : decode cX7_counted 31 = .ok (.if_icmp .ne 11, 3) := by decide +kernel
theorem dX7_counted_34 : decode cX7_counted 34 = .ok (.aload_n 0, 1) := by decide +kernel
theorem dX7_counted_35 : decode cX7_counted 35 = .ok (.iload_n 3, 1) := by decide +kernel
theorem dX7_counted_36 : decode cX7_counted 36 = .ok (.invokevirtual 146, 3) := by decide +kernel
theorem dX7_counted_39 : decode cX7_counted 39 = .ok (.goto 4, 3) := by decide +kernel
theorem dX7_counted_42 : decode cX7_counted 42 = .ok (.iconst 0, 1) := by decide +kernel
theorem dX7_counted_43 : decode cX7_counted 43 = .ok (.iadd, 1) := by decide +kernel
theorem dX7_counted_44 : decode cX7_counted 44 = .ok (.istore_n 2, 1) := by decide +kernel
theorem dX7_counted_45 : decode cX7_counted 45 = .ok (.iinc 3 1, 3) := by decide +kernel
theorem dX7_counted_48 : decode cX7_counted 48 = .ok (.goto (-44), 3) := by decide +kernel
theorem dX7_counted_51 : decode cX7_counted 51 = .ok (.iload_n 2, 1) := by decide +kernel
theorem dX7_counted_52 : decode cX7_counted 52 = .ok (.ireturn, 1) := by decide +kernel
theorem dX7_leastCounted_0 : decode cX7_leastCounted 0 = .ok (.iconst 0, 1) := by decide +kernel
theorem dX7_leastCounted_1 : decode cX7_leastCounted 1 = .ok (.istore_n 1, 1) := by decide +kernel
theorem dX7_leastCounted_2 : decode cX7_leastCounted 2 = .ok (.iconst 1, 1) := by decide +kernel
theorem dX7_leastCounted_3 : decode cX7_leastCounted 3 = .ok (.istore_n 2, 1) := by decide +kernel
theorem dX7_leastCounted_4 : decode cX7_leastCounted 4 = .ok (.iload_n 2, 1) := by decide +kernel
theorem dX7_leastCounted_5 : decode cX7_leastCounted 5 = .ok (.aload_n 0, 1) := by decide +kernel
theorem dX7_leastCounted_6 : decode cX7_leastCounted 6 = .ok (.getfield 60, 3) := by decide +kernel
theorem dX7_leastCounted_9 : decode cX7_leastCounted 9 = .ok (.if_icmp .ge 28, 3) := by decide +kernel
theorem dX7_leastCounted_12 : decode cX7_leastCounted 12 = .ok (.aload_n 0, 1) := by decide +kernel
theorem dX7_leastCounted_13 : decode cX7_leastCounted 13 = .ok (.iload_n 2, 1) := by decide +kernel
theorem dX7_leastCounted_14 : decode cX7_leastCounted 14 = .ok (.invokevirtual 149, 3) := by decide +kernel
theorem dX7_leastCounted_17 : decode cX7_leastCounted 17 = .ok (.aload_n 0, 1) := by decide +kernel
theorem dX7_leastCounted_18 : decode cX7_leastCounted 18 = .ok (.iload_n 1, 1) := by decide +kernel
theorem dX7_leastCounted_19 : decode cX7_leastCounted 19 = .ok (.invokevirtual 149, 3) := by decide +kernel
theorem dX7_leastCounted_22 : decode cX7_leastCounted 22 = .ok (.if_icmp .ge 7, 3) := by decide +kernel
theorem dX7_leastCounted_25 : decode cX7_leastCounted 25 = .ok (.iload_n 2, 1) := by decide +kernel
theorem dX7_leastCounted_26 : decode cX7_leastCounted 26 = .ok (.goto 4, 3) := by decide +kernel
theorem dX7_leastCounted_29 : decode cX7_leastCounted 29 = .ok (.iload_n 1, 1) := by decide +kernel
theorem dX7_leastCounted_30 : decode cX7_leastCounted 30 = .ok (.istore_n 1, 1) := by decide +kernel
theorem dX7_leastCounted_31 : decode cX7_leastCounted 31 = .ok (.iinc 2 1, 3) := by decide +kernel
theorem dX7_leastCounted_34 : decode cX7_leastCounted 34 = .ok (.goto (-30), 3) := by decide +kernel
theorem dX7_leastCounted_37 : decode cX7_leastCounted 37 = .ok (.iload_n 1, 1) := by decide +kernel
theorem dX7_leastCounted_38 : decode cX7_leastCounted 38 = .ok (.ireturn, 1) := by decide +kernel
theorem dX7_seeks_0 : decode cX7_seeks 0 = .ok (.aload_n 0, 1) := by decide +kernel
theorem dX7_seeks_1 : decode cX7_seeks 1 = .ok (.iload_n 1, 1) := by decide +kernel
theorem dX7_seeks_2 : decode cX7_seeks 2 = .ok (.iconst 0, 1) := by decide +kernel
theorem dX7_seeks_3 : decode cX7_seeks 3 = .ok (.invokevirtual 143, 3) := by decide +kernel
theorem dX7_seeks_6 : decode cX7_seeks 6 = .ok (.istore_n 2, 1) := by decide +kernel
theorem dX7_seeks_7 : decode cX7_seeks 7 = .ok (.iload_n 2, 1) := by decide +kernel
theorem dX7_seeks_8 : decode cX7_seeks 8 = .ok (.iconst 2, 1) := by decide +kernel
theorem dX7_seeks_9 : decode cX7_seeks 9 = .ok (.if_icmp .ne 10, 3) := by decide +kernel
theorem dX7_seeks_12 : decode cX7_seeks 12 = .ok (.aload_n 0, 1) := by decide +kernel
theorem dX7_seeks_13 : decode cX7_seeks 13 = .ok (.invokevirtual 152, 3) := by decide +kernel
theorem dX7_seeks_16 : decode cX7_seeks 16 = .ok (.goto 30, 3) := by decide +kernel
theorem dX7_seeks_19 : decode cX7_seeks 19 = .ok (.iload_n 2, 1) := by decide +kernel
theorem dX7_seeks_20 : decode cX7_seeks 20 = .ok (.iconst 1, 1) := by decide +kernel
theorem dX7_seeks_21 : decode cX7_seeks 21 = .ok (.if_icmp .ne 19, 3) := by decide +kernel
theorem dX7_seeks_24 : decode cX7_seeks 24 = .ok (.aload_n 0, 1) := by decide +kernel
theorem dX7_seeks_25 : decode cX7_seeks 25 = .ok (.iload_n 1, 1) := by decide +kernel
theorem dX7_seeks_26 : decode cX7_seeks 26 = .ok (.iconst 2, 1) := by decide +kernel
theorem dX7_seeks_27 : decode cX7_seeks 27 = .ok (.invokevirtual 143, 3) := by decide +kernel
theorem dX7_seeks_30 : decode cX7_seeks 30 = .ok (.iconst 1, 1) := by decide +kernel
theorem dX7_seeks_31 : decode cX7_seeks 31 = .ok (.iadd, 1) := by decide +kernel
theorem dX7_seeks_32 : decode cX7_seeks 32 = .ok (.aload_n 0, 1) := by decide +kernel
theorem dX7_seeks_33 : decode cX7_seeks 33 = .ok (.getfield 60, 3) := by decide +kernel
theorem dX7_seeks_36 : decode cX7_seeks 36 = .ok (.irem, 1) := by decide +kernel
theorem dX7_seeks_37 : decode cX7_seeks 37 = .ok (.goto 9, 3) := by decide +kernel
theorem dX7_seeks_40 : decode cX7_seeks 40 = .ok (.aload_n 0, 1) := by decide +kernel
theorem dX7_seeks_41 : decode cX7_seeks 41 = .ok (.iload_n 1, 1) := by decide +kernel
theorem dX7_seeks_42 : decode cX7_seeks 42 = .ok (.iconst 2, 1) := by decide +kernel
theorem dX7_seeks_43 : decode cX7_seeks 43 = .ok (.invokevirtual 143, 3) := by decide +kernel
theorem dX7_seeks_46 : decode cX7_seeks 46 = .ok (.ireturn, 1) := by decide +kernel
theorem dX7_placeOf_0 : decode cX7_placeOf 0 = .ok (.aload_n 0, 1) := by decide +kernel
theorem dX7_placeOf_1 : decode cX7_placeOf 1 = .ok (.iload_n 1, 1) := by decide +kernel
theorem dX7_placeOf_2 : decode cX7_placeOf 2 = .ok (.iconst 4, 1) := by decide +kernel
theorem dX7_placeOf_3 : decode cX7_placeOf 3 = .ok (.invokevirtual 143, 3) := by decide +kernel
theorem dX7_placeOf_6 : decode cX7_placeOf 6 = .ok (.bipush (-4), 2) := by decide +kernel
theorem dX7_placeOf_8 : decode cX7_placeOf 8 = .ok (.if_icmp .ne 12, 3) := by decide +kernel
theorem dX7_placeOf_11 : decode cX7_placeOf 11 = .ok (.aload_n 0, 1) := by decide +kernel
theorem dX7_placeOf_12 : decode cX7_placeOf 12 = .ok (.iload_n 1, 1) := by decide +kernel
theorem dX7_placeOf_13 : decode cX7_placeOf 13 = .ok (.iconst 3, 1) := by decide +kernel
theorem dX7_placeOf_14 : decode cX7_placeOf 14 = .ok (.invokevirtual 143, 3) := by decide +kernel
theorem dX7_placeOf_17 : decode cX7_placeOf 17 = .ok (.goto 14, 3) := by decide +kernel
theorem dX7_placeOf_20 : decode cX7_placeOf 20 = .ok (.aload_n 0, 1) := by decide +kernel
theorem dX7_placeOf_21 : decode cX7_placeOf 21 = .ok (.getfield 13, 3) := by decide +kernel
theorem dX7_placeOf_24 : decode cX7_placeOf 24 = .ok (.aload_n 0, 1) := by decide +kernel
theorem dX7_placeOf_25 : decode cX7_placeOf 25 = .ok (.iload_n 1, 1) := by decide +kernel
theorem dX7_placeOf_26 : decode cX7_placeOf 26 = .ok (.iconst 4, 1) := by decide +kernel
theorem dX7_placeOf_27 : decode cX7_placeOf 27 = .ok (.invokevirtual 143, 3) := by decide +kernel
theorem dX7_placeOf_30 : decode cX7_placeOf 30 = .ok (.iaload, 1) := by decide +kernel
theorem dX7_placeOf_31 : decode cX7_placeOf 31 = .ok (.ireturn, 1) := by decide +kernel
theorem dX7_blownOff_0 : decode cX7_blownOff 0 = .ok (.aload_n 0, 1) := by decide +kernel
theorem dX7_blownOff_1 : decode cX7_blownOff 1 = .ok (.getfield 13, 3) := by decide +kernel
theorem dX7_blownOff_4 : decode cX7_blownOff 4 = .ok (.bipush 41, 2) := by decide +kernel
theorem dX7_blownOff_6 : decode cX7_blownOff 6 = .ok (.iaload, 1) := by decide +kernel
theorem dX7_blownOff_7 : decode cX7_blownOff 7 = .ok (.iconst 2, 1) := by decide +kernel
theorem dX7_blownOff_8 : decode cX7_blownOff 8 = .ok (.irem, 1) := by decide +kernel
theorem dX7_blownOff_9 : decode cX7_blownOff 9 = .ok (.ifCond .ne 7, 3) := by decide +kernel
theorem dX7_blownOff_12 : decode cX7_blownOff 12 = .ok (.iload_n 2, 1) := by decide +kernel
theorem dX7_blownOff_13 : decode cX7_blownOff 13 = .ok (.goto 5, 3) := by decide +kernel
theorem dX7_blownOff_16 : decode cX7_blownOff 16 = .ok (.iload_n 2, 1) := by decide +kernel
theorem dX7_blownOff_17 : decode cX7_blownOff 17 = .ok (.ineg, 1) := by decide +kernel
theorem dX7_blownOff_18 : decode cX7_blownOff 18 = .ok (.istore_n 3, 1) := by decide +kernel
theorem dX7_blownOff_19 : decode cX7_blownOff 19 = .ok (.aload_n 0, 1) := by decide +kernel
theorem dX7_blownOff_20 : decode cX7_blownOff 20 = .ok (.iload_n 1, 1) := by decide +kernel
theorem dX7_blownOff_21 : decode cX7_blownOff 21 = .ok (.invokevirtual 155, 3) := by decide +kernel
theorem dX7_blownOff_24 : decode cX7_blownOff 24 = .ok (.iload_n 3, 1) := by decide +kernel
theorem dX7_blownOff_25 : decode cX7_blownOff 25 = .ok (.iadd, 1) := by decide +kernel
theorem dX7_blownOff_26 : decode cX7_blownOff 26 = .ok (.istore 4, 2) := by decide +kernel
theorem dX7_blownOff_28 : decode cX7_blownOff 28 = .ok (.aload_n 0, 1) := by decide +kernel
theorem dX7_blownOff_29 : decode cX7_blownOff 29 = .ok (.iload_n 1, 1) := by decide +kernel
theorem dX7_blownOff_30 : decode cX7_blownOff 30 = .ok (.iconst 3, 1) := by decide +kernel
theorem dX7_blownOff_31 : decode cX7_blownOff 31 = .ok (.iload 4, 2) := by decide +kernel
theorem dX7_blownOff_33 : decode cX7_blownOff 33 = .ok (.ifCond .ge 7, 3) := by decide +kernel
theorem dX7_blownOff_36 : decode cX7_blownOff 36 = .ok (.iconst 0, 1) := by decide +kernel
theorem dX7_blownOff_37 : decode cX7_blownOff 37 = .ok (.goto 17, 3) := by decide +kernel
theorem dX7_blownOff_40 : decode cX7_blownOff 40 = .ok (.iload 4, 2) := by decide +kernel
theorem dX7_blownOff_42 : decode cX7_blownOff 42 = .ok (.bipush 10, 2) := by decide +kernel
theorem dX7_blownOff_44 : decode cX7_blownOff 44 = .ok (.if_icmp .lt 8, 3) := by decide +kernel
theorem dX7_blownOff_47 : decode cX7_blownOff 47 = .ok (.bipush 9, 2) := by decide +kernel
theorem dX7_blownOff_49 : decode cX7_blownOff 49 = .ok (.goto 5, 3) := by decide +kernel
theorem dX7_blownOff_52 : decode cX7_blownOff 52 = .ok (.iload 4, 2) := by decide +kernel
theorem dX7_blownOff_54 : decode cX7_blownOff 54 = .ok (.invokevirtual 158, 3) := by decide +kernel
theorem dX7_blownOff_57 : decode cX7_blownOff 57 = .ok (.aload_n 0, 1) := by decide +kernel
theorem dX7_blownOff_58 : decode cX7_blownOff 58 = .ok (.iload_n 1, 1) := by decide +kernel
theorem dX7_blownOff_59 : decode cX7_blownOff 59 = .ok (.iconst 4, 1) := by decide +kernel
theorem dX7_blownOff_60 : decode cX7_blownOff 60 = .ok (.bipush (-4), 2) := by decide +kernel
theorem dX7_blownOff_62 : decode cX7_blownOff 62 = .ok (.invokevirtual 158, 3) := by decide +kernel
theorem dX7_blownOff_65 : decode cX7_blownOff 65 = .ok (.aload_n 0, 1) := by decide +kernel
theorem dX7_blownOff_66 : decode cX7_blownOff 66 = .ok (.dup, 1) := by decide +kernel
theorem dX7_blownOff_67 : decode cX7_blownOff 67 = .ok (.getfield 162, 3) := by decide +kernel
theorem dX7_blownOff_70 : decode cX7_blownOff 70 = .ok (.iconst 1, 1) := by decide +kernel
theorem dX7_blownOff_71 : decode cX7_blownOff 71 = .ok (.iadd, 1) := by decide +kernel
theorem dX7_blownOff_72 : decode cX7_blownOff 72 = .ok (.putfield 162, 3) := by decide +kernel
theorem dX7_blownOff_75 : decode cX7_blownOff 75 = .ok (.return_, 1) := by decide +kernel
theorem dX7_goesOn_0 : decode cX7_goesOn 0 = .ok (.aload_n 0, 1) := by decide +kernel
theorem dX7_goesOn_1 : decode cX7_goesOn 1 = .ok (.iload_n 1, 1) := by decide +kernel
theorem dX7_goesOn_2 : decode cX7_goesOn 2 = .ok (.invokevirtual 165, 3) := by decide +kernel
theorem dX7_goesOn_5 : decode cX7_goesOn 5 = .ok (.istore_n 2, 1) := by decide +kernel
theorem dX7_goesOn_6 : decode cX7_goesOn 6 = .ok (.aload_n 0, 1) := by decide +kernel
theorem dX7_goesOn_7 : decode cX7_goesOn 7 = .ok (.getfield 13, 3) := by decide +kernel
theorem dX7_goesOn_10 : decode cX7_goesOn 10 = .ok (.iload_n 2, 1) := by decide +kernel
theorem dX7_goesOn_11 : decode cX7_goesOn 11 = .ok (.iaload, 1) := by decide +kernel
theorem dX7_goesOn_12 : decode cX7_goesOn 12 = .ok (.aload_n 0, 1) := by decide +kernel
theorem dX7_goesOn_13 : decode cX7_goesOn 13 = .ok (.iload_n 1, 1) := by decide +kernel
theorem dX7_goesOn_14 : decode cX7_goesOn 14 = .ok (.iconst 3, 1) := by decide +kernel
theorem dX7_goesOn_15 : decode cX7_goesOn 15 = .ok (.invokevirtual 143, 3) := by decide +kernel
theorem dX7_goesOn_18 : decode cX7_goesOn 18 = .ok (.isub, 1) := by decide +kernel
theorem dX7_goesOn_19 : decode cX7_goesOn 19 = .ok (.istore_n 3, 1) := by decide +kernel
theorem dX7_goesOn_20 : decode cX7_goesOn 20 = .ok (.aload_n 0, 1) := by decide +kernel
theorem dX7_goesOn_21 : decode cX7_goesOn 21 = .ok (.iload_n 1, 1) := by decide +kernel
theorem dX7_goesOn_22 : decode cX7_goesOn 22 = .ok (.invokevirtual 168, 3) := by decide +kernel
theorem dX7_goesOn_25 : decode cX7_goesOn 25 = .ok (.istore 4, 2) := by decide +kernel
theorem dX7_goesOn_27 : decode cX7_goesOn 27 = .ok (.aload_n 0, 1) := by decide +kernel
theorem dX7_goesOn_28 : decode cX7_goesOn 28 = .ok (.iload_n 1, 1) := by decide +kernel
theorem dX7_goesOn_29 : decode cX7_goesOn 29 = .ok (.iconst 3, 1) := by decide +kernel
theorem dX7_goesOn_30 : decode cX7_goesOn 30 = .ok (.aload_n 0, 1) := by decide +kernel
theorem dX7_goesOn_31 : decode cX7_goesOn 31 = .ok (.iload_n 1, 1) := by decide +kernel
theorem dX7_goesOn_32 : decode cX7_goesOn 32 = .ok (.iconst 3, 1) := by decide +kernel
theorem dX7_goesOn_33 : decode cX7_goesOn 33 = .ok (.invokevirtual 143, 3) := by decide +kernel
theorem dX7_goesOn_36 : decode cX7_goesOn 36 = .ok (.iload_n 3, 1) := by decide +kernel
theorem dX7_goesOn_37 : decode cX7_goesOn 37 = .ok (.iload 4, 2) := by decide +kernel
theorem dX7_goesOn_39 : decode cX7_goesOn 39 = .ok (.if_icmp .le 8, 3) := by decide +kernel
theorem dX7_goesOn_42 : decode cX7_goesOn 42 = .ok (.iload 4, 2) := by decide +kernel
theorem dX7_goesOn_44 : decode cX7_goesOn 44 = .ok (.goto 17, 3) := by decide +kernel
theorem dX7_goesOn_47 : decode cX7_goesOn 47 = .ok (.iload_n 3, 1) := by decide +kernel
theorem dX7_goesOn_48 : decode cX7_goesOn 48 = .ok (.iload 4, 2) := by decide +kernel
theorem dX7_goesOn_50 : decode cX7_goesOn 50 = .ok (.ineg, 1) := by decide +kernel
theorem dX7_goesOn_51 : decode cX7_goesOn 51 = .ok (.if_icmp .ge 9, 3) := by decide +kernel
theorem dX7_goesOn_54 : decode cX7_goesOn 54 = .ok (.iload 4, 2) := by decide +kernel
theorem dX7_goesOn_56 : decode cX7_goesOn 56 = .ok (.ineg, 1) := by decide +kernel
theorem dX7_goesOn_57 : decode cX7_goesOn 57 = .ok (.goto 4, 3) := by decide +kernel
theorem dX7_goesOn_60 : decode cX7_goesOn 60 = .ok (.iload_n 3, 1) := by decide +kernel
theorem dX7_goesOn_61 : decode cX7_goesOn 61 = .ok (.iadd, 1) := by decide +kernel
theorem dX7_goesOn_62 : decode cX7_goesOn 62 = .ok (.invokevirtual 158, 3) := by decide +kernel
theorem dX7_goesOn_65 : decode cX7_goesOn 65 = .ok (.aload_n 0, 1) := by decide +kernel
theorem dX7_goesOn_66 : decode cX7_goesOn 66 = .ok (.iload_n 1, 1) := by decide +kernel
theorem dX7_goesOn_67 : decode cX7_goesOn 67 = .ok (.iconst 3, 1) := by decide +kernel
theorem dX7_goesOn_68 : decode cX7_goesOn 68 = .ok (.invokevirtual 143, 3) := by decide +kernel
theorem dX7_goesOn_71 : decode cX7_goesOn 71 = .ok (.aload_n 0, 1) := by decide +kernel
theorem dX7_goesOn_72 : decode cX7_goesOn 72 = .ok (.getfield 13, 3) := by decide +kernel
theorem dX7_goesOn_75 : decode cX7_goesOn 75 = .ok (.iload_n 2, 1) := by decide +kernel
theorem dX7_goesOn_76 : decode cX7_goesOn 76 = .ok (.iaload, 1) := by decide +kernel
theorem dX7_goesOn_77 : decode cX7_goesOn 77 = .ok (.if_icmp .ne 20, 3) := by decide +kernel
theorem dX7_goesOn_80 : decode cX7_goesOn 80 = .ok (.aload_n 0, 1) := by decide +kernel
theorem dX7_goesOn_81 : decode cX7_goesOn 81 = .ok (.iload_n 1, 1) := by decide +kernel
theorem dX7_goesOn_82 : decode cX7_goesOn 82 = .ok (.iconst 4, 1) := by decide +kernel
theorem dX7_goesOn_83 : decode cX7_goesOn 83 = .ok (.iload_n 2, 1) := by decide +kernel
theorem dX7_goesOn_84 : decode cX7_goesOn 84 = .ok (.invokevirtual 158, 3) := by decide +kernel
theorem dX7_goesOn_87 : decode cX7_goesOn 87 = .ok (.aload_n 0, 1) := by decide +kernel
theorem dX7_goesOn_88 : decode cX7_goesOn 88 = .ok (.dup, 1) := by decide +kernel
theorem dX7_goesOn_89 : decode cX7_goesOn 89 = .ok (.getfield 171, 3) := by decide +kernel
theorem dX7_goesOn_92 : decode cX7_goesOn 92 = .ok (.iconst 1, 1) := by decide +kernel
theorem dX7_goesOn_93 : decode cX7_goesOn 93 = .ok (.iadd, 1) := by decide +kernel
theorem dX7_goesOn_94 : decode cX7_goesOn 94 = .ok (.putfield 171, 3) := by decide +kernel
theorem dX7_goesOn_97 : decode cX7_goesOn 97 = .ok (.return_, 1) := by decide +kernel
theorem dX7_dayGoes_0 : decode cX7_dayGoes 0 = .ok (.iconst 0, 1) := by decide +kernel
theorem dX7_dayGoes_1 : decode cX7_dayGoes 1 = .ok (.istore_n 2, 1) := by decide +kernel
theorem dX7_dayGoes_2 : decode cX7_dayGoes 2 = .ok (.iload_n 2, 1) := by decide +kernel
theorem dX7_dayGoes_3 : decode cX7_dayGoes 3 = .ok (.aload_n 0, 1) := by decide +kernel
theorem dX7_dayGoes_4 : decode cX7_dayGoes 4 = .ok (.getfield 13, 3) := by decide +kernel
theorem dX7_dayGoes_7 : decode cX7_dayGoes 7 = .ok (.bipush 34, 2) := by decide +kernel
theorem dX7_dayGoes_9 : decode cX7_dayGoes 9 = .ok (.iaload, 1) := by decide +kernel
theorem dX7_dayGoes_10 : decode cX7_dayGoes 10 = .ok (.if_icmp .ge 44, 3) := by decide +kernel
theorem dX7_dayGoes_13 : decode cX7_dayGoes 13 = .ok (.iload_n 2, 1) := by decide +kernel
theorem dX7_dayGoes_14 : decode cX7_dayGoes 14 = .ok (.aload_n 0, 1) := by decide +kernel
theorem dX7_dayGoes_15 : decode cX7_dayGoes 15 = .ok (.getfield 140, 3) := by decide +kernel
theorem dX7_dayGoes_18 : decode cX7_dayGoes 18 = .ok (.if_icmp .eq 30, 3) := by decide +kernel
theorem dX7_dayGoes_21 : decode cX7_dayGoes 21 = .ok (.aload_n 0, 1) := by decide +kernel
theorem dX7_dayGoes_22 : decode cX7_dayGoes 22 = .ok (.iload_n 2, 1) := by decide +kernel
theorem dX7_dayGoes_23 : decode cX7_dayGoes 23 = .ok (.iconst 4, 1) := by decide +kernel
theorem dX7_dayGoes_24 : decode cX7_dayGoes 24 = .ok (.invokevirtual 143, 3) := by decide +kernel
theorem dX7_dayGoes_27 : decode cX7_dayGoes 27 = .ok (.bipush (-4), 2) := by decide +kernel
theorem dX7_dayGoes_29 : decode cX7_dayGoes 29 = .ok (.if_icmp .eq 19, 3) := by decide +kernel
theorem dX7_dayGoes_32 : decode cX7_dayGoes 32 = .ok (.aload_n 0, 1) := by decide +kernel
theorem dX7_dayGoes_33 : decode cX7_dayGoes 33 = .ok (.iload_n 2, 1) := by decide +kernel
theorem dX7_dayGoes_34 : decode cX7_dayGoes 34 = .ok (.iconst 1, 1) := by decide +kernel
theorem dX7_dayGoes_35 : decode cX7_dayGoes 35 = .ok (.invokevirtual 143, 3) := by decide +kernel
theorem dX7_dayGoes_38 : decode cX7_dayGoes 38 = .ok (.iload_n 1, 1) := by decide +kernel
theorem dX7_dayGoes_39 : decode cX7_dayGoes 39 = .ok (.if_icmp .ge 9, 3) := by decide +kernel
theorem dX7_dayGoes_42 : decode cX7_dayGoes 42 = .ok (.aload_n 0, 1) := by decide +kernel
theorem dX7_dayGoes_43 : decode cX7_dayGoes 43 = .ok (.iload_n 2, 1) := by decide +kernel
theorem dX7_dayGoes_44 : decode cX7_dayGoes 44 = .ok (.iload_n 1, 1) := by decide +kernel
theorem dX7_dayGoes_45 : decode cX7_dayGoes 45 = .ok (.invokevirtual 174, 3) := by decide +kernel
theorem dX7_dayGoes_48 : decode cX7_dayGoes 48 = .ok (.iinc 2 1, 3) := by decide +kernel
theorem dX7_dayGoes_51 : decode cX7_dayGoes 51 = .ok (.goto (-49), 3) := by decide +kernel
theorem dX7_dayGoes_54 : decode cX7_dayGoes 54 = .ok (.iconst 0, 1) := by decide +kernel
theorem dX7_dayGoes_55 : decode cX7_dayGoes 55 = .ok (.istore_n 2, 1) := by decide +kernel
theorem dX7_dayGoes_56 : decode cX7_dayGoes 56 = .ok (.iload_n 2, 1) := by decide +kernel
theorem dX7_dayGoes_57 : decode cX7_dayGoes 57 = .ok (.aload_n 0, 1) := by decide +kernel
theorem dX7_dayGoes_58 : decode cX7_dayGoes 58 = .ok (.getfield 13, 3) := by decide +kernel
theorem dX7_dayGoes_61 : decode cX7_dayGoes 61 = .ok (.bipush 34, 2) := by decide +kernel
theorem dX7_dayGoes_63 : decode cX7_dayGoes 63 = .ok (.iaload, 1) := by decide +kernel
theorem dX7_dayGoes_64 : decode cX7_dayGoes 64 = .ok (.if_icmp .ge 33, 3) := by decide +kernel
theorem dX7_dayGoes_67 : decode cX7_dayGoes 67 = .ok (.iload_n 2, 1) := by decide +kernel
theorem dX7_dayGoes_68 : decode cX7_dayGoes 68 = .ok (.aload_n 0, 1) := by decide +kernel
theorem dX7_dayGoes_69 : decode cX7_dayGoes 69 = .ok (.getfield 140, 3) := by decide +kernel
theorem dX7_dayGoes_72 : decode cX7_dayGoes 72 = .ok (.if_icmp .eq 19, 3) := by decide +kernel
theorem dX7_dayGoes_75 : decode cX7_dayGoes 75 = .ok (.aload_n 0, 1) := by decide +kernel
theorem dX7_dayGoes_76 : decode cX7_dayGoes 76 = .ok (.iload_n 2, 1) := by decide +kernel
theorem dX7_dayGoes_77 : decode cX7_dayGoes 77 = .ok (.iconst 4, 1) := by decide +kernel
theorem dX7_dayGoes_78 : decode cX7_dayGoes 78 = .ok (.invokevirtual 143, 3) := by decide +kernel
theorem dX7_dayGoes_81 : decode cX7_dayGoes 81 = .ok (.bipush (-4), 2) := by decide +kernel
theorem dX7_dayGoes_83 : decode cX7_dayGoes 83 = .ok (.if_icmp .ne 8, 3) := by decide +kernel
theorem dX7_dayGoes_86 : decode cX7_dayGoes 86 = .ok (.aload_n 0, 1) := by decide +kernel
theorem dX7_dayGoes_87 : decode cX7_dayGoes 87 = .ok (.iload_n 2, 1) := by decide +kernel
theorem dX7_dayGoes_88 : decode cX7_dayGoes 88 = .ok (.invokevirtual 178, 3) := by decide +kernel
theorem dX7_dayGoes_91 : decode cX7_dayGoes 91 = .ok (.iinc 2 1, 3) := by decide +kernel
theorem dX7_dayGoes_94 : decode cX7_dayGoes 94 = .ok (.goto (-38), 3) := by decide +kernel
theorem dX7_dayGoes_97 : decode cX7_dayGoes 97 = .ok (.aload_n 0, 1) := by decide +kernel
theorem dX7_dayGoes_98 : decode cX7_dayGoes 98 = .ok (.getfield 13, 3) := by decide +kernel
theorem dX7_dayGoes_101 : decode cX7_dayGoes 101 = .ok (.bipush 41, 2) := by decide +kernel
theorem dX7_dayGoes_103 : decode cX7_dayGoes 103 = .ok (.dup2, 1) := by decide +kernel
theorem dX7_dayGoes_104 : decode cX7_dayGoes 104 = .ok (.iaload, 1) := by decide +kernel
theorem dX7_dayGoes_105 : decode cX7_dayGoes 105 = .ok (.iconst 1, 1) := by decide +kernel
theorem dX7_dayGoes_106 : decode cX7_dayGoes 106 = .ok (.iadd, 1) := by decide +kernel
theorem dX7_dayGoes_107 : decode cX7_dayGoes 107 = .ok (.iastore, 1) := by decide +kernel
theorem dX7_dayGoes_108 : decode cX7_dayGoes 108 = .ok (.return_, 1) := by decide +kernel
theorem dX7_strengthNow_0 : decode cX7_strengthNow 0 = .ok (.aload_n 0, 1) := by decide +kernel
theorem dX7_strengthNow_1 : decode cX7_strengthNow 1 = .ok (.getfield 13, 3) := by decide +kernel
theorem dX7_strengthNow_4 : decode cX7_strengthNow 4 = .ok (.bipush 35, 2) := by decide +kernel
theorem dX7_strengthNow_6 : decode cX7_strengthNow 6 = .ok (.aload_n 0, 1) := by decide +kernel
theorem dX7_strengthNow_7 : decode cX7_strengthNow 7 = .ok (.getfield 13, 3) := by decide +kernel
theorem dX7_strengthNow_10 : decode cX7_strengthNow 10 = .ok (.bipush 41, 2) := by decide +kernel
theorem dX7_strengthNow_12 : decode cX7_strengthNow 12 = .ok (.iaload, 1) := by decide +kernel
theorem dX7_strengthNow_13 : decode cX7_strengthNow 13 = .ok (.bipush 6, 2) := by decide +kernel
theorem dX7_strengthNow_15 : decode cX7_strengthNow 15 = .ok (.irem, 1) := by decide +kernel
theorem dX7_strengthNow_16 : decode cX7_strengthNow 16 = .ok (.iadd, 1) := by decide +kernel
theorem dX7_strengthNow_17 : decode cX7_strengthNow 17 = .ok (.iaload, 1) := by decide +kernel
theorem dX7_strengthNow_18 : decode cX7_strengthNow 18 = .ok (.ireturn, 1) := by decide +kernel
theorem dX7_daysGo_0 : decode cX7_daysGo 0 = .ok (.aload_n 0, 1) := by decide +kernel
theorem dX7_daysGo_1 : decode cX7_daysGo 1 = .ok (.iconst 0, 1) := by decide +kernel
theorem dX7_daysGo_2 : decode cX7_daysGo 2 = .ok (.putfield 162, 3) := by decide +kernel
theorem dX7_daysGo_5 : decode cX7_daysGo 5 = .ok (.aload_n 0, 1) := by decide +kernel
theorem dX7_daysGo_6 : decode cX7_daysGo 6 = .ok (.iconst 0, 1) := by decide +kernel
theorem dX7_daysGo_7 : decode cX7_daysGo 7 = .ok (.putfield 171, 3) := by decide +kernel
theorem dX7_daysGo_10 : decode cX7_daysGo 10 = .ok (.iconst 0, 1) := by decide +kernel
theorem dX7_daysGo_11 : decode cX7_daysGo 11 = .ok (.istore_n 2, 1) := by decide +kernel
theorem dX7_daysGo_12 : decode cX7_daysGo 12 = .ok (.iload_n 2, 1) := by decide +kernel
theorem dX7_daysGo_13 : decode cX7_daysGo 13 = .ok (.iload_n 1, 1) := by decide +kernel
theorem dX7_daysGo_14 : decode cX7_daysGo 14 = .ok (.if_icmp .ge 17, 3) := by decide +kernel
theorem dX7_daysGo_17 : decode cX7_daysGo 17 = .ok (.aload_n 0, 1) := by decide +kernel
theorem dX7_daysGo_18 : decode cX7_daysGo 18 = .ok (.aload_n 0, 1) := by decide +kernel
theorem dX7_daysGo_19 : decode cX7_daysGo 19 = .ok (.invokevirtual 181, 3) := by decide +kernel
theorem dX7_daysGo_22 : decode cX7_daysGo 22 = .ok (.invokevirtual 184, 3) := by decide +kernel
theorem dX7_daysGo_25 : decode cX7_daysGo 25 = .ok (.iinc 2 1, 3) := by decide +kernel
theorem dX7_daysGo_28 : decode cX7_daysGo 28 = .ok (.goto (-16), 3) := by decide +kernel
theorem dX7_daysGo_31 : decode cX7_daysGo 31 = .ok (.return_, 1) := by decide +kernel
theorem dX7_sitting_0 : decode cX7_sitting 0 = .ok (.iconst 0, 1) := by decide +kernel
theorem dX7_sitting_1 : decode cX7_sitting 1 = .ok (.istore_n 1, 1) := by decide +kernel
theorem dX7_sitting_2 : decode cX7_sitting 2 = .ok (.iconst 0, 1) := by decide +kernel
theorem dX7_sitting_3 : decode cX7_sitting 3 = .ok (.istore_n 2, 1) := by decide +kernel
theorem dX7_sitting_4 : decode cX7_sitting 4 = .ok (.iload_n 2, 1) := by decide +kernel
theorem dX7_sitting_5 : decode cX7_sitting 5 = .ok (.aload_n 0, 1) := by decide +kernel
theorem dX7_sitting_6 : decode cX7_sitting 6 = .ok (.getfield 13, 3) := by decide +kernel
theorem dX7_sitting_9 : decode cX7_sitting 9 = .ok (.bipush 34, 2) := by decide +kernel
theorem dX7_sitting_11 : decode cX7_sitting 11 = .ok (.iaload, 1) := by decide +kernel
theorem dX7_sitting_12 : decode cX7_sitting 12 = .ok (.if_icmp .ge 31, 3) := by decide +kernel
theorem dX7_sitting_15 : decode cX7_sitting 15 = .ok (.iload_n 1, 1) := by decide +kernel
theorem dX7_sitting_16 : decode cX7_sitting 16 = .ok (.aload_n 0, 1) := by decide +kernel
theorem dX7_sitting_17 : decode cX7_sitting 17 = .ok (.iload_n 2, 1) := by decide +kernel
theorem dX7_sitting_18 : decode cX7_sitting 18 = .ok (.iconst 4, 1) := by decide +kernel
theorem dX7_sitting_19 : decode cX7_sitting 19 = .ok (.invokevirtual 143, 3) := by decide +kernel
theorem dX7_sitting_22 : decode cX7_sitting 22 = .ok (.bipush (-4), 2) := by decide +kernel
theorem dX7_sitting_24 : decode cX7_sitting 24 = .ok (.if_icmp .eq 7, 3) := by decide +kernel
theorem dX7_sitting_27 : decode cX7_sitting 27 = .ok (.iconst 1, 1) := by decide +kernel
theorem dX7_sitting_28 : decode cX7_sitting 28 = .ok (.goto 4, 3) := by decide +kernel
theorem dX7_sitting_31 : decode cX7_sitting 31 = .ok (.iconst 0, 1) := by decide +kernel
theorem dX7_sitting_32 : decode cX7_sitting 32 = .ok (.invokestatic 187, 3) := by decide +kernel
theorem dX7_sitting_35 : decode cX7_sitting 35 = .ok (.iadd, 1) := by decide +kernel
theorem dX7_sitting_36 : decode cX7_sitting 36 = .ok (.istore_n 1, 1) := by decide +kernel
theorem dX7_sitting_37 : decode cX7_sitting 37 = .ok (.iinc 2 1, 3) := by decide +kernel
theorem dX7_sitting_40 : decode cX7_sitting 40 = .ok (.goto (-36), 3) := by decide +kernel
theorem dX7_sitting_43 : decode cX7_sitting 43 = .ok (.iload_n 1, 1) := by decide +kernel
theorem dX7_sitting_44 : decode cX7_sitting 44 = .ok (.ireturn, 1) := by decide +kernel
theorem dX7_allCounted_0 : decode cX7_allCounted 0 = .ok (.iconst 0, 1) := by decide +kernel
theorem dX7_allCounted_1 : decode cX7_allCounted 1 = .ok (.istore_n 1, 1) := by decide +kernel
theorem dX7_allCounted_2 : decode cX7_allCounted 2 = .ok (.iconst 0, 1) := by decide +kernel
theorem dX7_allCounted_3 : decode cX7_allCounted 3 = .ok (.istore_n 2, 1) := by decide +kernel
theorem dX7_allCounted_4 : decode cX7_allCounted 4 = .ok (.iload_n 2, 1) := by decide +kernel
theorem dX7_allCounted_5 : decode cX7_allCounted 5 = .ok (.aload_n 0, 1) := by decide +kernel
theorem dX7_allCounted_6 : decode cX7_allCounted 6 = .ok (.getfield 60, 3) := by decide +kernel
theorem dX7_allCounted_9 : decode cX7_allCounted 9 = .ok (.if_icmp .ge 17, 3) := by decide +kernel
theorem dX7_allCounted_12 : decode cX7_allCounted 12 = .ok (.iload_n 1, 1) := by decide +kernel
theorem dX7_allCounted_13 : decode cX7_allCounted 13 = .ok (.aload_n 0, 1) := by decide +kernel
theorem dX7_allCounted_14 : decode cX7_allCounted 14 = .ok (.iload_n 2, 1) := by decide +kernel
theorem dX7_allCounted_15 : decode cX7_allCounted 15 = .ok (.invokevirtual 149, 3) := by decide +kernel
theorem dX7_allCounted_18 : decode cX7_allCounted 18 = .ok (.iadd, 1) := by decide +kernel
theorem dX7_allCounted_19 : decode cX7_allCounted 19 = .ok (.istore_n 1, 1) := by decide +kernel
theorem dX7_allCounted_20 : decode cX7_allCounted 20 = .ok (.iinc 2 1, 3) := by decide +kernel
theorem dX7_allCounted_23 : decode cX7_allCounted 23 = .ok (.goto (-19), 3) := by decide +kernel
theorem dX7_allCounted_26 : decode cX7_allCounted 26 = .ok (.iload_n 1, 1) := by decide +kernel
theorem dX7_allCounted_27 : decode cX7_allCounted 27 = .ok (.ireturn, 1) := by decide +kernel
theorem dX7_mostCounted_0 : decode cX7_mostCounted 0 = .ok (.bipush (-4), 2) := by decide +kernel
theorem dX7_mostCounted_2 : decode cX7_mostCounted 2 = .ok (.istore_n 1, 1) := by decide +kernel
theorem dX7_mostCounted_3 : decode cX7_mostCounted 3 = .ok (.iconst 0, 1) := by decide +kernel
theorem dX7_mostCounted_4 : decode cX7_mostCounted 4 = .ok (.istore_n 2, 1) := by decide +kernel
theorem dX7_mostCounted_5 : decode cX7_mostCounted 5 = .ok (.iload_n 2, 1) := by decide +kernel
theorem dX7_mostCounted_6 : decode cX7_mostCounted 6 = .ok (.aload_n 0, 1) := by decide +kernel
theorem dX7_mostCounted_7 : decode cX7_mostCounted 7 = .ok (.getfield 60, 3) := by decide +kernel
theorem dX7_mostCounted_10 : decode cX7_mostCounted 10 = .ok (.if_icmp .ge 38, 3) := by decide +kernel
theorem dX7_mostCounted_13 : decode cX7_mostCounted 13 = .ok (.aload_n 0, 1) := by decide +kernel
theorem dX7_mostCounted_14 : decode cX7_mostCounted 14 = .ok (.iload_n 2, 1) := by decide +kernel
theorem dX7_mostCounted_15 : decode cX7_mostCounted 15 = .ok (.invokevirtual 149, 3) := by decide +kernel
theorem dX7_mostCounted_18 : decode cX7_mostCounted 18 = .ok (.iload_n 1, 1) := by decide +kernel
theorem dX7_mostCounted_19 : decode cX7_mostCounted 19 = .ok (.bipush (-4), 2) := by decide +kernel
theorem dX7_mostCounted_21 : decode cX7_mostCounted 21 = .ok (.if_icmp .ne 7, 3) := by decide +kernel
theorem dX7_mostCounted_24 : decode cX7_mostCounted 24 = .ok (.iconst 0, 1) := by decide +kernel
theorem dX7_mostCounted_25 : decode cX7_mostCounted 25 = .ok (.goto 8, 3) := by decide +kernel
theorem dX7_mostCounted_28 : decode cX7_mostCounted 28 = .ok (.aload_n 0, 1) := by decide +kernel
theorem dX7_mostCounted_29 : decode cX7_mostCounted 29 = .ok (.iload_n 1, 1) := by decide +kernel
theorem dX7_mostCounted_30 : decode cX7_mostCounted 30 = .ok (.invokevirtual 149, 3) := by decide +kernel
theorem dX7_mostCounted_33 : decode cX7_mostCounted 33 = .ok (.if_icmp .le 7, 3) := by decide +kernel
theorem dX7_mostCounted_36 : decode cX7_mostCounted 36 = .ok (.iload_n 2, 1) := by decide +kernel
theorem dX7_mostCounted_37 : decode cX7_mostCounted 37 = .ok (.goto 4, 3) := by decide +kernel
theorem dX7_mostCounted_40 : decode cX7_mostCounted 40 = .ok (.iload_n 1, 1) := by decide +kernel
theorem dX7_mostCounted_41 : decode cX7_mostCounted 41 = .ok (.istore_n 1, 1) := by decide +kernel
theorem dX7_mostCounted_42 : decode cX7_mostCounted 42 = .ok (.iinc 2 1, 3) := by decide +kernel
theorem dX7_mostCounted_45 : decode cX7_mostCounted 45 = .ok (.goto (-40), 3) := by decide +kernel
theorem dX7_mostCounted_48 : decode cX7_mostCounted 48 = .ok (.iload_n 1, 1) := by decide +kernel
theorem dX7_mostCounted_49 : decode cX7_mostCounted 49 = .ok (.ireturn, 1) := by decide +kernel
theorem dX7_rule_0 : decode cX7_rule 0 = .ok (.aload_n 0, 1) := by decide +kernel
theorem dX7_rule_1 : decode cX7_rule 1 = .ok (.invokevirtual 191, 3) := by decide +kernel
theorem dX7_rule_4 : decode cX7_rule 4 = .ok (.iload_n 1, 1) := by decide +kernel
theorem dX7_rule_5 : decode cX7_rule 5 = .ok (.tableswitch 75 0 5 #[39, 44, 52, 60, 65, 70], 39) := by decide +kernel
theorem dX7_rule_44 : decode cX7_rule 44 = .ok (.aload_n 0, 1) := by decide +kernel
theorem dX7_rule_45 : decode cX7_rule 45 = .ok (.getfield 60, 3) := by decide +kernel
theorem dX7_rule_48 : decode cX7_rule 48 = .ok (.ireturn, 1) := by decide +kernel
theorem dX7_rule_49 : decode cX7_rule 49 = .ok (.aload_n 0, 1) := by decide +kernel
theorem dX7_rule_50 : decode cX7_rule 50 = .ok (.getfield 7, 3) := by decide +kernel
theorem dX7_rule_53 : decode cX7_rule 53 = .ok (.bipush 34, 2) := by decide +kernel
theorem dX7_rule_55 : decode cX7_rule 55 = .ok (.iaload, 1) := by decide +kernel
theorem dX7_rule_56 : decode cX7_rule 56 = .ok (.ireturn, 1) := by decide +kernel
theorem dX7_rule_57 : decode cX7_rule 57 = .ok (.aload_n 0, 1) := by decide +kernel
theorem dX7_rule_58 : decode cX7_rule 58 = .ok (.getfield 7, 3) := by decide +kernel
theorem dX7_rule_61 : decode cX7_rule 61 = .ok (.bipush 41, 2) := by decide +kernel
theorem dX7_rule_63 : decode cX7_rule 63 = .ok (.iaload, 1) := by decide +kernel
theorem dX7_rule_64 : decode cX7_rule 64 = .ok (.ireturn, 1) := by decide +kernel
theorem dX7_rule_65 : decode cX7_rule 65 = .ok (.aload_n 0, 1) := by decide +kernel
theorem dX7_rule_66 : decode cX7_rule 66 = .ok (.invokevirtual 194, 3) := by decide +kernel
theorem dX7_rule_69 : decode cX7_rule 69 = .ok (.ireturn, 1) := by decide +kernel
theorem dX7_rule_70 : decode cX7_rule 70 = .ok (.aload_n 0, 1) := by decide +kernel
theorem dX7_rule_71 : decode cX7_rule 71 = .ok (.invokevirtual 197, 3) := by decide +kernel
theorem dX7_rule_74 : decode cX7_rule 74 = .ok (.ireturn, 1) := by decide +kernel
theorem dX7_rule_75 : decode cX7_rule 75 = .ok (.aload_n 0, 1) := by decide +kernel
theorem dX7_rule_76 : decode cX7_rule 76 = .ok (.invokevirtual 200, 3) := by decide +kernel
theorem dX7_rule_79 : decode cX7_rule 79 = .ok (.ireturn, 1) := by decide +kernel
theorem dX7_rule_80 : decode cX7_rule 80 = .ok (.iconst (-1), 1) := by decide +kernel
theorem dX7_rule_81 : decode cX7_rule 81 = .ok (.ireturn, 1) := by decide +kernel
theorem dX7_one_0 : decode cX7_one 0 = .ok (.aload_n 0, 1) := by decide +kernel
theorem dX7_one_1 : decode cX7_one 1 = .ok (.iload_n 1, 1) := by decide +kernel
theorem dX7_one_2 : decode cX7_one 2 = .ok (.invokevirtual 203, 3) := by decide +kernel
theorem dX7_one_5 : decode cX7_one 5 = .ok (.ifCond .ne 5, 3) := by decide +kernel
theorem dX7_one_8 : decode cX7_one 8 = .ok (.iconst (-1), 1) := by decide +kernel
theorem dX7_one_9 : decode cX7_one 9 = .ok (.ireturn, 1) := by decide +kernel
theorem dX7_one_10 : decode cX7_one 10 = .ok (.aload_n 0, 1) := by decide +kernel
theorem dX7_one_11 : decode cX7_one 11 = .ok (.invokevirtual 191, 3) := by decide +kernel
theorem dX7_one_14 : decode cX7_one 14 = .ok (.iconst 0, 1) := by decide +kernel
theorem dX7_one_15 : decode cX7_one 15 = .ok (.istore_n 3, 1) := by decide +kernel
theorem dX7_one_16 : decode cX7_one 16 = .ok (.iconst 0, 1) := by decide +kernel
theorem dX7_one_17 : decode cX7_one 17 = .ok (.istore 4, 2) := by decide +kernel
theorem dX7_one_19 : decode cX7_one 19 = .ok (.iconst 0, 1) := by decide +kernel
theorem dX7_one_20 : decode cX7_one 20 = .ok (.istore 5, 2) := by decide +kernel
theorem dX7_one_22 : decode cX7_one 22 = .ok (.iload 5, 2) := by decide +kernel
theorem dX7_one_24 : decode cX7_one 24 = .ok (.aload_n 0, 1) := by decide +kernel
theorem dX7_one_25 : decode cX7_one 25 = .ok (.getfield 7, 3) := by decide +kernel
theorem dX7_one_28 : decode cX7_one 28 = .ok (.bipush 34, 2) := by decide +kernel
theorem dX7_one_30 : decode cX7_one 30 = .ok (.iaload, 1) := by decide +kernel
theorem dX7_one_31 : decode cX7_one 31 = .ok (.if_icmp .ge 69, 3) := by decide +kernel
theorem dX7_one_34 : decode cX7_one 34 = .ok (.aload_n 0, 1) := by decide +kernel
theorem dX7_one_35 : decode cX7_one 35 = .ok (.iload 5, 2) := by decide +kernel
theorem dX7_one_37 : decode cX7_one 37 = .ok (.iconst 4, 1) := by decide +kernel
theorem dX7_one_38 : decode cX7_one 38 = .ok (.invokevirtual 143, 3) := by decide +kernel
theorem dX7_one_41 : decode cX7_one 41 = .ok (.iload_n 1, 1) := by decide +kernel
theorem dX7_one_42 : decode cX7_one 42 = .ok (.if_icmp .ne 7, 3) := by decide +kernel
theorem dX7_one_45 : decode cX7_one 45 = .ok (.iconst 1, 1) := by decide +kernel
theorem dX7_one_46 : decode cX7_one 46 = .ok (.goto 4, 3) := by decide +kernel
theorem dX7_one_49 : decode cX7_one 49 = .ok (.iconst 0, 1) := by decide +kernel
theorem dX7_one_50 : decode cX7_one 50 = .ok (.istore 6, 2) := by decide +kernel
theorem dX7_one_52 : decode cX7_one 52 = .ok (.iload_n 3, 1) := by decide +kernel
theorem dX7_one_53 : decode cX7_one 53 = .ok (.iload 6, 2) := by decide +kernel
theorem dX7_one_55 : decode cX7_one 55 = .ok (.invokestatic 187, 3) := by decide +kernel
theorem dX7_one_58 : decode cX7_one 58 = .ok (.iload 5, 2) := by decide +kernel
theorem dX7_one_60 : decode cX7_one 60 = .ok (.ishl, 1) := by decide +kernel
theorem dX7_one_61 : decode cX7_one 61 = .ok (.ior, 1) := by decide +kernel
theorem dX7_one_62 : decode cX7_one 62 = .ok (.istore_n 3, 1) := by decide +kernel
theorem dX7_one_63 : decode cX7_one 63 = .ok (.iload 4, 2) := by decide +kernel
theorem dX7_one_65 : decode cX7_one 65 = .ok (.iload 6, 2) := by decide +kernel
theorem dX7_one_67 : decode cX7_one 67 = .ok (.ifCond .eq 23, 3) := by decide +kernel
theorem dX7_one_70 : decode cX7_one 70 = .ok (.aload_n 0, 1) := by decide +kernel
theorem dX7_one_71 : decode cX7_one 71 = .ok (.iload 5, 2) := by decide +kernel
theorem dX7_one_73 : decode cX7_one 73 = .ok (.iconst 0, 1) := by decide +kernel
theorem dX7_one_74 : decode cX7_one 74 = .ok (.invokevirtual 143, 3) := by decide +kernel
theorem dX7_one_77 : decode cX7_one 77 = .ok (.iconst 3, 1) := by decide +kernel
theorem dX7_one_78 : decode cX7_one 78 = .ok (.if_icmp .ne 12, 3) := by decide +kernel
theorem dX7_one_81 : decode cX7_one 81 = .ok (.aload_n 0, 1) := by decide +kernel
theorem dX7_one_82 : decode cX7_one 82 = .ok (.iload 5, 2) := by decide +kernel
theorem dX7_one_84 : decode cX7_one 84 = .ok (.invokevirtual 146, 3) := by decide +kernel
theorem dX7_one_87 : decode cX7_one 87 = .ok (.goto 4, 3) := by decide +kernel
theorem dX7_one_90 : decode cX7_one 90 = .ok (.iconst 0, 1) := by decide +kernel
theorem dX7_one_91 : decode cX7_one 91 = .ok (.iadd, 1) := by decide +kernel
theorem dX7_one_92 : decode cX7_one 92 = .ok (.istore 4, 2) := by decide +kernel
theorem dX7_one_94 : decode cX7_one 94 = .ok (.iinc 5 1, 3) := by decide +kernel
theorem dX7_one_97 : decode cX7_one 97 = .ok (.goto (-75), 3) := by decide +kernel
theorem dX7_one_100 : decode cX7_one 100 = .ok (.iload_n 2, 1) := by decide +kernel
theorem dX7_one_101 : decode cX7_one 101 = .ok (.ifCond .ne 12, 3) := by decide +kernel
theorem dX7_one_104 : decode cX7_one 104 = .ok (.aload_n 0, 1) := by decide +kernel
theorem dX7_one_105 : decode cX7_one 105 = .ok (.getfield 7, 3) := by decide +kernel
theorem dX7_one_108 : decode cX7_one 108 = .ok (.iload_n 1, 1) := by decide +kernel
theorem dX7_one_109 : decode cX7_one 109 = .ok (.iaload, 1) := by decide +kernel
theorem dX7_one_110 : decode cX7_one 110 = .ok (.goto 36, 3) := by decide +kernel
theorem dX7_one_113 : decode cX7_one 113 = .ok (.iload_n 2, 1) := by decide +kernel
theorem dX7_one_114 : decode cX7_one 114 = .ok (.iconst 1, 1) := by decide +kernel
theorem dX7_one_115 : decode cX7_one 115 = .ok (.if_icmp .ne 7, 3) := by decide +kernel
theorem dX7_one_118 : decode cX7_one 118 = .ok (.iload_n 3, 1) := by decide +kernel
theorem dX7_one_119 : decode cX7_one 119 = .ok (.goto 27, 3) := by decide +kernel
theorem dX7_one_122 : decode cX7_one 122 = .ok (.iload_n 2, 1) := by decide +kernel
theorem dX7_one_123 : decode cX7_one 123 = .ok (.iconst 2, 1) := by decide +kernel
theorem dX7_one_124 : decode cX7_one 124 = .ok (.if_icmp .ne 11, 3) := by decide +kernel
theorem dX7_one_127 : decode cX7_one 127 = .ok (.aload_n 0, 1) := by decide +kernel
theorem dX7_one_128 : decode cX7_one 128 = .ok (.iload_n 1, 1) := by decide +kernel
theorem dX7_one_129 : decode cX7_one 129 = .ok (.invokevirtual 149, 3) := by decide +kernel
theorem dX7_one_132 : decode cX7_one 132 = .ok (.goto 14, 3) := by decide +kernel
theorem dX7_one_135 : decode cX7_one 135 = .ok (.iload_n 2, 1) := by decide +kernel
theorem dX7_one_136 : decode cX7_one 136 = .ok (.iconst 3, 1) := by decide +kernel
theorem dX7_one_137 : decode cX7_one 137 = .ok (.if_icmp .ne 8, 3) := by decide +kernel
theorem dX7_one_140 : decode cX7_one 140 = .ok (.iload 4, 2) := by decide +kernel
theorem dX7_one_142 : decode cX7_one 142 = .ok (.goto 4, 3) := by decide +kernel
theorem dX7_one_145 : decode cX7_one 145 = .ok (.iconst (-1), 1) := by decide +kernel
theorem dX7_one_146 : decode cX7_one 146 = .ok (.ireturn, 1) := by decide +kernel
theorem dX7_beetle_0 : decode cX7_beetle 0 = .ok (.aload_n 0, 1) := by decide +kernel
theorem dX7_beetle_1 : decode cX7_beetle 1 = .ok (.iload_n 1, 1) := by decide +kernel
theorem dX7_beetle_2 : decode cX7_beetle 2 = .ok (.invokevirtual 207, 3) := by decide +kernel
theorem dX7_beetle_5 : decode cX7_beetle 5 = .ok (.ifCond .ne 5, 3) := by decide +kernel
theorem dX7_beetle_8 : decode cX7_beetle 8 = .ok (.iconst (-1), 1) := by decide +kernel
theorem dX7_beetle_9 : decode cX7_beetle 9 = .ok (.ireturn, 1) := by decide +kernel
theorem dX7_beetle_10 : decode cX7_beetle 10 = .ok (.aload_n 0, 1) := by decide +kernel
theorem dX7_beetle_11 : decode cX7_beetle 11 = .ok (.invokevirtual 191, 3) := by decide +kernel
theorem dX7_beetle_14 : decode cX7_beetle 14 = .ok (.iload_n 2, 1) := by decide +kernel
theorem dX7_beetle_15 : decode cX7_beetle 15 = .ok (.tableswitch 66 0 6 #[41, 41, 41, 48, 41, 54, 60], 41) := by decide +kernel
theorem dX7_beetle_56 : decode cX7_beetle 56 = .ok (.aload_n 0, 1) := by decide +kernel
theorem dX7_beetle_57 : decode cX7_beetle 57 = .ok (.iload_n 1, 1) := by decide +kernel
theorem dX7_beetle_58 : decode cX7_beetle 58 = .ok (.iload_n 2, 1) := by decide +kernel
theorem dX7_beetle_59 : decode cX7_beetle 59 = .ok (.invokevirtual 143, 3) := by decide +kernel
theorem dX7_beetle_62 : decode cX7_beetle 62 = .ok (.ireturn, 1) := by decide +kernel
theorem dX7_beetle_63 : decode cX7_beetle 63 = .ok (.aload_n 0, 1) := by decide +kernel
theorem dX7_beetle_64 : decode cX7_beetle 64 = .ok (.iload_n 1, 1) := by decide +kernel
theorem dX7_beetle_65 : decode cX7_beetle 65 = .ok (.invokevirtual 155, 3) := by decide +kernel
theorem dX7_beetle_68 : decode cX7_beetle 68 = .ok (.ireturn, 1) := by decide +kernel
theorem dX7_beetle_69 : decode cX7_beetle 69 = .ok (.aload_n 0, 1) := by decide +kernel
theorem dX7_beetle_70 : decode cX7_beetle 70 = .ok (.iload_n 1, 1) := by decide +kernel
theorem dX7_beetle_71 : decode cX7_beetle 71 = .ok (.invokevirtual 165, 3) := by decide +kernel
theorem dX7_beetle_74 : decode cX7_beetle 74 = .ok (.ireturn, 1) := by decide +kernel
theorem dX7_beetle_75 : decode cX7_beetle 75 = .ok (.aload_n 0, 1) := by decide +kernel
theorem dX7_beetle_76 : decode cX7_beetle 76 = .ok (.iload_n 1, 1) := by decide +kernel
theorem dX7_beetle_77 : decode cX7_beetle 77 = .ok (.invokevirtual 146, 3) := by decide +kernel
theorem dX7_beetle_80 : decode cX7_beetle 80 = .ok (.ireturn, 1) := by decide +kernel
theorem dX7_beetle_81 : decode cX7_beetle 81 = .ok (.iconst (-1), 1) := by decide +kernel
theorem dX7_beetle_82 : decode cX7_beetle 82 = .ok (.ireturn, 1) := by decide +kernel
theorem dX7_wind_0 : decode cX7_wind 0 = .ok (.iload_n 1, 1) := by decide +kernel
theorem dX7_wind_1 : decode cX7_wind 1 = .ok (.i2l, 1) := by decide +kernel
theorem dX7_wind_2 : decode cX7_wind 2 = .ok (.lconst 0, 1) := by decide +kernel
theorem dX7_wind_3 : decode cX7_wind 3 = .ok (.ldc2_w 210, 3) := by decide +kernel
theorem dX7_wind_6 : decode cX7_wind 6 = .ok (.invokestatic 65, 3) := by decide +kernel
theorem dX7_wind_9 : decode cX7_wind 9 = .ok (.ifCond .eq 15, 3) := by decide +kernel
theorem dX7_wind_12 : decode cX7_wind 12 = .ok (.aload_n 0, 1) := by decide +kernel
theorem dX7_wind_13 : decode cX7_wind 13 = .ok (.getfield 7, 3) := by decide +kernel
theorem dX7_wind_16 : decode cX7_wind 16 = .ok (.bipush 35, 2) := by decide +kernel
theorem dX7_wind_18 : decode cX7_wind 18 = .ok (.iload_n 1, 1) := by decide +kernel
theorem dX7_wind_19 : decode cX7_wind 19 = .ok (.iadd, 1) := by decide +kernel
theorem dX7_wind_20 : decode cX7_wind 20 = .ok (.iaload, 1) := by decide +kernel
theorem dX7_wind_21 : decode cX7_wind 21 = .ok (.goto 4, 3) := by decide +kernel
theorem dX7_wind_24 : decode cX7_wind 24 = .ok (.iconst (-1), 1) := by decide +kernel
theorem dX7_wind_25 : decode cX7_wind 25 = .ok (.ireturn, 1) := by decide +kernel
theorem dX7_meet_0 : decode cX7_meet 0 = .ok (.aload_n 0, 1) := by decide +kernel
theorem dX7_meet_1 : decode cX7_meet 1 = .ok (.iload_n 1, 1) := by decide +kernel
theorem dX7_meet_2 : decode cX7_meet 2 = .ok (.invokevirtual 203, 3) := by decide +kernel
theorem dX7_meet_5 : decode cX7_meet 5 = .ok (.ifCond .eq 16, 3) := by decide +kernel
theorem dX7_meet_8 : decode cX7_meet 8 = .ok (.aload_n 0, 1) := by decide +kernel
theorem dX7_meet_9 : decode cX7_meet 9 = .ok (.iload_n 2, 1) := by decide +kernel
theorem dX7_meet_10 : decode cX7_meet 10 = .ok (.invokevirtual 203, 3) := by decide +kernel
theorem dX7_meet_13 : decode cX7_meet 13 = .ok (.ifCond .eq 8, 3) := by decide +kernel
theorem dX7_meet_16 : decode cX7_meet 16 = .ok (.iload_n 1, 1) := by decide +kernel
theorem dX7_meet_17 : decode cX7_meet 17 = .ok (.iload_n 2, 1) := by decide +kernel
theorem dX7_meet_18 : decode cX7_meet 18 = .ok (.if_icmp .ne 5, 3) := by decide +kernel
theorem dX7_meet_21 : decode cX7_meet 21 = .ok (.iconst (-1), 1) := by decide +kernel
theorem dX7_meet_22 : decode cX7_meet 22 = .ok (.ireturn, 1) := by decide +kernel
theorem dX7_meet_23 : decode cX7_meet 23 = .ok (.aload_n 0, 1) := by decide +kernel
theorem dX7_meet_24 : decode cX7_meet 24 = .ok (.invokevirtual 191, 3) := by decide +kernel
theorem dX7_meet_27 : decode cX7_meet 27 = .ok (.aload_n 0, 1) := by decide +kernel
theorem dX7_meet_28 : decode cX7_meet 28 = .ok (.iload_n 1, 1) := by decide +kernel
theorem dX7_meet_29 : decode cX7_meet 29 = .ok (.invokevirtual 149, 3) := by decide +kernel
theorem dX7_meet_32 : decode cX7_meet 32 = .ok (.istore_n 3, 1) := by decide +kernel
theorem dX7_meet_33 : decode cX7_meet 33 = .ok (.aload_n 0, 1) := by decide +kernel
theorem dX7_meet_34 : decode cX7_meet 34 = .ok (.iload_n 2, 1) := by decide +kernel
theorem dX7_meet_35 : decode cX7_meet 35 = .ok (.invokevirtual 149, 3) := by decide +kernel
theorem dX7_meet_38 : decode cX7_meet 38 = .ok (.istore 4, 2) := by decide +kernel
theorem dX7_meet_40 : decode cX7_meet 40 = .ok (.iload_n 3, 1) := by decide +kernel
theorem dX7_meet_41 : decode cX7_meet 41 = .ok (.iload 4, 2) := by decide +kernel
theorem dX7_meet_43 : decode cX7_meet 43 = .ok (.if_icmp .ge 7, 3) := by decide +kernel
theorem dX7_meet_46 : decode cX7_meet 46 = .ok (.iload_n 1, 1) := by decide +kernel
theorem dX7_meet_47 : decode cX7_meet 47 = .ok (.goto 15, 3) := by decide +kernel
theorem dX7_meet_50 : decode cX7_meet 50 = .ok (.iload 4, 2) := by decide +kernel
theorem dX7_meet_52 : decode cX7_meet 52 = .ok (.iload_n 3, 1) := by decide +kernel
theorem dX7_meet_53 : decode cX7_meet 53 = .ok (.if_icmp .ge 7, 3) := by decide +kernel
theorem dX7_meet_56 : decode cX7_meet 56 = .ok (.iload_n 2, 1) := by decide +kernel
theorem dX7_meet_57 : decode cX7_meet 57 = .ok (.goto 5, 3) := by decide +kernel
theorem dX7_meet_60 : decode cX7_meet 60 = .ok (.bipush (-4), 2) := by decide +kernel
theorem dX7_meet_62 : decode cX7_meet 62 = .ok (.ireturn, 1) := by decide +kernel
theorem dX7_becomes_0 : decode cX7_becomes 0 = .ok (.aload_n 0, 1) := by decide +kernel
theorem dX7_becomes_1 : decode cX7_becomes 1 = .ok (.getfield 7, 3) := by decide +kernel
theorem dX7_becomes_4 : decode cX7_becomes 4 = .ok (.iload_n 1, 1) := by decide +kernel
theorem dX7_becomes_5 : decode cX7_becomes 5 = .ok (.iaload, 1) := by decide +kernel
theorem dX7_becomes_6 : decode cX7_becomes 6 = .ok (.istore_n 3, 1) := by decide +kernel
theorem dX7_becomes_7 : decode cX7_becomes 7 = .ok (.aload_n 0, 1) := by decide +kernel
theorem dX7_becomes_8 : decode cX7_becomes 8 = .ok (.getfield 7, 3) := by decide +kernel
theorem dX7_becomes_11 : decode cX7_becomes 11 = .ok (.iload_n 1, 1) := by decide +kernel
theorem dX7_becomes_12 : decode cX7_becomes 12 = .ok (.iload_n 2, 1) := by decide +kernel
theorem dX7_becomes_13 : decode cX7_becomes 13 = .ok (.iastore, 1) := by decide +kernel
theorem dX7_becomes_14 : decode cX7_becomes 14 = .ok (.iload_n 3, 1) := by decide +kernel
theorem dX7_becomes_15 : decode cX7_becomes 15 = .ok (.ireturn, 1) := by decide +kernel
theorem dX7_canBe_0 : decode cX7_canBe 0 = .ok (.iload_n 1, 1) := by decide +kernel
theorem dX7_canBe_1 : decode cX7_canBe 1 = .ok (.ifCond .ne 15, 3) := by decide +kernel
theorem dX7_canBe_4 : decode cX7_canBe 4 = .ok (.iload_n 2, 1) := by decide +kernel
theorem dX7_canBe_5 : decode cX7_canBe 5 = .ok (.i2l, 1) := by decide +kernel
theorem dX7_canBe_6 : decode cX7_canBe 6 = .ok (.lconst 0, 1) := by decide +kernel
theorem dX7_canBe_7 : decode cX7_canBe 7 = .ok (.ldc2_w 212, 3) := by decide +kernel
theorem dX7_canBe_10 : decode cX7_canBe 10 = .ok (.invokestatic 65, 3) := by decide +kernel
theorem dX7_canBe_13 : decode cX7_canBe 13 = .ok (.goto 38, 3) := by decide +kernel
theorem dX7_canBe_16 : decode cX7_canBe 16 = .ok (.iload_n 1, 1) := by decide +kernel
theorem dX7_canBe_17 : decode cX7_canBe 17 = .ok (.iconst 1, 1) := by decide +kernel
theorem dX7_canBe_18 : decode cX7_canBe 18 = .ok (.if_icmp .ne 15, 3) := by decide +kernel
theorem dX7_canBe_21 : decode cX7_canBe 21 = .ok (.iload_n 2, 1) := by decide +kernel
theorem dX7_canBe_22 : decode cX7_canBe 22 = .ok (.i2l, 1) := by decide +kernel
theorem dX7_canBe_23 : decode cX7_canBe 23 = .ok (.lconst 1, 1) := by decide +kernel
theorem dX7_canBe_24 : decode cX7_canBe 24 = .ok (.ldc2_w 138, 3) := by decide +kernel
theorem dX7_canBe_27 : decode cX7_canBe 27 = .ok (.invokestatic 65, 3) := by decide +kernel
theorem dX7_canBe_30 : decode cX7_canBe 30 = .ok (.goto 21, 3) := by decide +kernel
theorem dX7_canBe_33 : decode cX7_canBe 33 = .ok (.iload_n 1, 1) := by decide +kernel
theorem dX7_canBe_34 : decode cX7_canBe 34 = .ok (.iconst 2, 1) := by decide +kernel
theorem dX7_canBe_35 : decode cX7_canBe 35 = .ok (.if_icmp .ne 15, 3) := by decide +kernel
theorem dX7_canBe_38 : decode cX7_canBe 38 = .ok (.aload_n 0, 1) := by decide +kernel
theorem dX7_canBe_39 : decode cX7_canBe 39 = .ok (.iload_n 2, 1) := by decide +kernel
theorem dX7_canBe_40 : decode cX7_canBe 40 = .ok (.invokevirtual 203, 3) := by decide +kernel
theorem dX7_canBe_43 : decode cX7_canBe 43 = .ok (.ifCond .eq 7, 3) := by decide +kernel
theorem dX7_canBe_46 : decode cX7_canBe 46 = .ok (.iconst 1, 1) := by decide +kernel
theorem dX7_canBe_47 : decode cX7_canBe 47 = .ok (.goto 4, 3) := by decide +kernel
theorem dX7_canBe_50 : decode cX7_canBe 50 = .ok (.iconst 0, 1) := by decide +kernel
theorem dX7_canBe_51 : decode cX7_canBe 51 = .ok (.ireturn, 1) := by decide +kernel
theorem dX7_alter_0 : decode cX7_alter 0 = .ok (.aload_n 0, 1) := by decide +kernel
theorem dX7_alter_1 : decode cX7_alter 1 = .ok (.iload_n 1, 1) := by decide +kernel
theorem dX7_alter_2 : decode cX7_alter 2 = .ok (.invokevirtual 207, 3) := by decide +kernel
theorem dX7_alter_5 : decode cX7_alter 5 = .ok (.ifCond .eq 27, 3) := by decide +kernel
theorem dX7_alter_8 : decode cX7_alter 8 = .ok (.aload_n 0, 1) := by decide +kernel
theorem dX7_alter_9 : decode cX7_alter 9 = .ok (.iload_n 2, 1) := by decide +kernel
theorem dX7_alter_10 : decode cX7_alter 10 = .ok (.iload_n 3, 1) := by decide +kernel
theorem dX7_alter_11 : decode cX7_alter 11 = .ok (.invokevirtual 214, 3) := by decide +kernel
theorem dX7_alter_14 : decode cX7_alter 14 = .ok (.ifCond .eq 18, 3) := by decide +kernel
theorem dX7_alter_17 : decode cX7_alter 17 = .ok (.aload_n 0, 1) := by decide +kernel
theorem dX7_alter_18 : decode cX7_alter 18 = .ok (.iconst 4, 1) := by decide +kernel
theorem dX7_alter_19 : decode cX7_alter 19 = .ok (.iconst 5, 1) := by decide +kernel
theorem dX7_alter_20 : decode cX7_alter 20 = .ok (.iload_n 1, 1) := by decide +kernel
theorem dX7_alter_21 : decode cX7_alter 21 = .ok (.imul, 1) := by decide +kernel
theorem dX7_alter_22 : decode cX7_alter 22 = .ok (.iadd, 1) := by decide +kernel
theorem dX7_alter_23 : decode cX7_alter 23 = .ok (.iload_n 2, 1) := by decide +kernel
theorem dX7_alter_24 : decode cX7_alter 24 = .ok (.iadd, 1) := by decide +kernel
theorem dX7_alter_25 : decode cX7_alter 25 = .ok (.iload_n 3, 1) := by decide +kernel
theorem dX7_alter_26 : decode cX7_alter 26 = .ok (.invokevirtual 218, 3) := by decide +kernel
theorem dX7_alter_29 : decode cX7_alter 29 = .ok (.goto 4, 3) := by decide +kernel
theorem dX7_alter_32 : decode cX7_alter 32 = .ok (.iconst (-1), 1) := by decide +kernel
theorem dX7_alter_33 : decode cX7_alter 33 = .ok (.ireturn, 1) := by decide +kernel
theorem dX7_walk_0 : decode cX7_walk 0 = .ok (.aload_n 0, 1) := by decide +kernel
theorem dX7_walk_1 : decode cX7_walk 1 = .ok (.iload_n 1, 1) := by decide +kernel
theorem dX7_walk_2 : decode cX7_walk 2 = .ok (.invokevirtual 203, 3) := by decide +kernel
theorem dX7_walk_5 : decode cX7_walk 5 = .ok (.ifCond .eq 19, 3) := by decide +kernel
theorem dX7_walk_8 : decode cX7_walk 8 = .ok (.iload_n 2, 1) := by decide +kernel
theorem dX7_walk_9 : decode cX7_walk 9 = .ok (.invokestatic 221, 3) := by decide +kernel
theorem dX7_walk_12 : decode cX7_walk 12 = .ok (.ifCond .eq 12, 3) := by decide +kernel
theorem dX7_walk_15 : decode cX7_walk 15 = .ok (.aload_n 0, 1) := by decide +kernel
theorem dX7_walk_16 : decode cX7_walk 16 = .ok (.iload_n 1, 1) := by decide +kernel
theorem dX7_walk_17 : decode cX7_walk 17 = .ok (.iload_n 2, 1) := by decide +kernel
theorem dX7_walk_18 : decode cX7_walk 18 = .ok (.invokevirtual 218, 3) := by decide +kernel
theorem dX7_walk_21 : decode cX7_walk 21 = .ok (.goto 4, 3) := by decide +kernel
theorem dX7_walk_24 : decode cX7_walk 24 = .ok (.iconst (-1), 1) := by decide +kernel
theorem dX7_walk_25 : decode cX7_walk 25 = .ok (.ireturn, 1) := by decide +kernel
theorem dX7_blow_0 : decode cX7_blow 0 = .ok (.iload_n 1, 1) := by decide +kernel
theorem dX7_blow_1 : decode cX7_blow 1 = .ok (.i2l, 1) := by decide +kernel
theorem dX7_blow_2 : decode cX7_blow 2 = .ok (.lconst 0, 1) := by decide +kernel
theorem dX7_blow_3 : decode cX7_blow 3 = .ok (.ldc2_w 210, 3) := by decide +kernel
theorem dX7_blow_6 : decode cX7_blow 6 = .ok (.invokestatic 65, 3) := by decide +kernel
theorem dX7_blow_9 : decode cX7_blow 9 = .ok (.ifCond .eq 27, 3) := by decide +kernel
theorem dX7_blow_12 : decode cX7_blow 12 = .ok (.iload_n 2, 1) := by decide +kernel
theorem dX7_blow_13 : decode cX7_blow 13 = .ok (.i2l, 1) := by decide +kernel
theorem dX7_blow_14 : decode cX7_blow 14 = .ok (.lconst 0, 1) := by decide +kernel
theorem dX7_blow_15 : decode cX7_blow 15 = .ok (.ldc2_w 138, 3) := by decide +kernel
theorem dX7_blow_18 : decode cX7_blow 18 = .ok (.invokestatic 65, 3) := by decide +kernel
theorem dX7_blow_21 : decode cX7_blow 21 = .ok (.ifCond .eq 15, 3) := by decide +kernel
theorem dX7_blow_24 : decode cX7_blow 24 = .ok (.aload_n 0, 1) := by decide +kernel
theorem dX7_blow_25 : decode cX7_blow 25 = .ok (.bipush 35, 2) := by decide +kernel
theorem dX7_blow_27 : decode cX7_blow 27 = .ok (.iload_n 1, 1) := by decide +kernel
theorem dX7_blow_28 : decode cX7_blow 28 = .ok (.iadd, 1) := by decide +kernel
theorem dX7_blow_29 : decode cX7_blow 29 = .ok (.iload_n 2, 1) := by decide +kernel
theorem dX7_blow_30 : decode cX7_blow 30 = .ok (.invokevirtual 218, 3) := by decide +kernel
theorem dX7_blow_33 : decode cX7_blow 33 = .ok (.goto 4, 3) := by decide +kernel
theorem dX7_blow_36 : decode cX7_blow 36 = .ok (.iconst (-1), 1) := by decide +kernel
theorem dX7_blow_37 : decode cX7_blow 37 = .ok (.ireturn, 1) := by decide +kernel
theorem dX7_dab_0 : decode cX7_dab 0 = .ok (.aload_n 0, 1) := by decide +kernel
theorem dX7_dab_1 : decode cX7_dab 1 = .ok (.iconst 0, 1) := by decide +kernel
theorem dX7_dab_2 : decode cX7_dab 2 = .ok (.iload_n 1, 1) := by decide +kernel
theorem dX7_dab_3 : decode cX7_dab 3 = .ok (.invokevirtual 214, 3) := by decide +kernel
theorem dX7_dab_6 : decode cX7_dab 6 = .ok (.ifCond .eq 21, 3) := by decide +kernel
theorem dX7_dab_9 : decode cX7_dab 9 = .ok (.aload_n 0, 1) := by decide +kernel
theorem dX7_dab_10 : decode cX7_dab 10 = .ok (.iconst 1, 1) := by decide +kernel
theorem dX7_dab_11 : decode cX7_dab 11 = .ok (.iload_n 2, 1) := by decide +kernel
theorem dX7_dab_12 : decode cX7_dab 12 = .ok (.invokevirtual 214, 3) := by decide +kernel
theorem dX7_dab_15 : decode cX7_dab 15 = .ok (.ifCond .eq 12, 3) := by decide +kernel
theorem dX7_dab_18 : decode cX7_dab 18 = .ok (.aload_n 0, 1) := by decide +kernel
theorem dX7_dab_19 : decode cX7_dab 19 = .ok (.iconst 2, 1) := by decide +kernel
theorem dX7_dab_20 : decode cX7_dab 20 = .ok (.iload_n 3, 1) := by decide +kernel
theorem dX7_dab_21 : decode cX7_dab 21 = .ok (.invokevirtual 214, 3) := by decide +kernel
theorem dX7_dab_24 : decode cX7_dab 24 = .ok (.ifCond .ne 5, 3) := by decide +kernel
theorem dX7_dab_27 : decode cX7_dab 27 = .ok (.iconst (-1), 1) := by decide +kernel
theorem dX7_dab_28 : decode cX7_dab 28 = .ok (.ireturn, 1) := by decide +kernel
theorem dX7_dab_29 : decode cX7_dab 29 = .ok (.aload_n 0, 1) := by decide +kernel
theorem dX7_dab_30 : decode cX7_dab 30 = .ok (.getfield 7, 3) := by decide +kernel
theorem dX7_dab_33 : decode cX7_dab 33 = .ok (.bipush 34, 2) := by decide +kernel
theorem dX7_dab_35 : decode cX7_dab 35 = .ok (.iaload, 1) := by decide +kernel
theorem dX7_dab_36 : decode cX7_dab 36 = .ok (.bipush 6, 2) := by decide +kernel
theorem dX7_dab_38 : decode cX7_dab 38 = .ok (.if_icmp .ne 6, 3) := by decide +kernel
theorem dX7_dab_41 : decode cX7_dab 41 = .ok (.bipush (-3), 2) := by decide +kernel
theorem dX7_dab_43 : decode cX7_dab 43 = .ok (.ireturn, 1) := by decide +kernel
theorem dX7_dab_44 : decode cX7_dab 44 = .ok (.iconst 4, 1) := by decide +kernel
theorem dX7_dab_45 : decode cX7_dab 45 = .ok (.iconst 5, 1) := by decide +kernel
theorem dX7_dab_46 : decode cX7_dab 46 = .ok (.aload_n 0, 1) := by decide +kernel
theorem dX7_dab_47 : decode cX7_dab 47 = .ok (.getfield 7, 3) := by decide +kernel
theorem dX7_dab_50 : decode cX7_dab 50 = .ok (.bipush 34, 2) := by decide +kernel
theorem dX7_dab_52 : decode cX7_dab 52 = .ok (.iaload, 1) := by decide +kernel
theorem dX7_dab_53 : decode cX7_dab 53 = .ok (.imul, 1) := by decide +kernel
theorem dX7_dab_54 : decode cX7_dab 54 = .ok (.iadd, 1) := by decide +kernel
theorem dX7_dab_55 : decode cX7_dab 55 = .ok (.istore 4, 2) := by decide +kernel
theorem dX7_dab_57 : decode cX7_dab 57 = .ok (.aload_n 0, 1) := by decide +kernel
theorem dX7_dab_58 : decode cX7_dab 58 = .ok (.getfield 7, 3) := by decide +kernel
theorem dX7_dab_61 : decode cX7_dab 61 = .ok (.iload 4, 2) := by decide +kernel
theorem dX7_dab_63 : decode cX7_dab 63 = .ok (.iconst 0, 1) := by decide +kernel
theorem dX7_dab_64 : decode cX7_dab 64 = .ok (.iadd, 1) := by decide +kernel
theorem dX7_dab_65 : decode cX7_dab 65 = .ok (.iload_n 1, 1) := by decide +kernel
theorem dX7_dab_66 : decode cX7_dab 66 = .ok (.iastore, 1) := by decide +kernel
theorem dX7_dab_67 : decode cX7_dab 67 = .ok (.aload_n 0, 1) := by decide +kernel
theorem dX7_dab_68 : decode cX7_dab 68 = .ok (.getfield 7, 3) := by decide +kernel
theorem dX7_dab_71 : decode cX7_dab 71 = .ok (.iload 4, 2) := by decide +kernel
theorem dX7_dab_73 : decode cX7_dab 73 = .ok (.iconst 1, 1) := by decide +kernel
theorem dX7_dab_74 : decode cX7_dab 74 = .ok (.iadd, 1) := by decide +kernel
theorem dX7_dab_75 : decode cX7_dab 75 = .ok (.iload_n 2, 1) := by decide +kernel
theorem dX7_dab_76 : decode cX7_dab 76 = .ok (.iastore, 1) := by decide +kernel
theorem dX7_dab_77 : decode cX7_dab 77 = .ok (.aload_n 0, 1) := by decide +kernel
theorem dX7_dab_78 : decode cX7_dab 78 = .ok (.getfield 7, 3) := by decide +kernel
theorem dX7_dab_81 : decode cX7_dab 81 = .ok (.iload 4, 2) := by decide +kernel
theorem dX7_dab_83 : decode cX7_dab 83 = .ok (.iconst 2, 1) := by decide +kernel
theorem dX7_dab_84 : decode cX7_dab 84 = .ok (.iadd, 1) := by decide +kernel
theorem dX7_dab_85 : decode cX7_dab 85 = .ok (.iload_n 3, 1) := by decide +kernel
theorem dX7_dab_86 : decode cX7_dab 86 = .ok (.iastore, 1) := by decide +kernel
theorem dX7_dab_87 : decode cX7_dab 87 = .ok (.aload_n 0, 1) := by decide +kernel
theorem dX7_dab_88 : decode cX7_dab 88 = .ok (.getfield 7, 3) := by decide +kernel
theorem dX7_dab_91 : decode cX7_dab 91 = .ok (.iload 4, 2) := by decide +kernel
theorem dX7_dab_93 : decode cX7_dab 93 = .ok (.iconst 3, 1) := by decide +kernel
theorem dX7_dab_94 : decode cX7_dab 94 = .ok (.iadd, 1) := by decide +kernel
theorem dX7_dab_95 : decode cX7_dab 95 = .ok (.iconst 0, 1) := by decide +kernel
theorem dX7_dab_96 : decode cX7_dab 96 = .ok (.iastore, 1) := by decide +kernel
theorem dX7_dab_97 : decode cX7_dab 97 = .ok (.aload_n 0, 1) := by decide +kernel
theorem dX7_dab_98 : decode cX7_dab 98 = .ok (.getfield 7, 3) := by decide +kernel
theorem dX7_dab_101 : decode cX7_dab 101 = .ok (.iload 4, 2) := by decide +kernel
theorem dX7_dab_103 : decode cX7_dab 103 = .ok (.iconst 4, 1) := by decide +kernel
theorem dX7_dab_104 : decode cX7_dab 104 = .ok (.iadd, 1) := by decide +kernel
theorem dX7_dab_105 : decode cX7_dab 105 = .ok (.iload_n 3, 1) := by decide +kernel
theorem dX7_dab_106 : decode cX7_dab 106 = .ok (.iastore, 1) := by decide +kernel
end
section
theorem dX7_dab_107 : decode cX7_dab 107 = .ok (.aload_n 0, 1) := by decide +kernel
theorem dX7_dab_108 : decode cX7_dab 108 = .ok (.getfield 7, 3) := by decide +kernel
theorem dX7_dab_111 : decode cX7_dab 111 = .ok (.bipush 34, 2) := by decide +kernel
theorem dX7_dab_113 : decode cX7_dab 113 = .ok (.dup2, 1) := by decide +kernel
theorem dX7_dab_114 : decode cX7_dab 114 = .ok (.iaload, 1) := by decide +kernel
theorem dX7_dab_115 : decode cX7_dab 115 = .ok (.iconst 1, 1) := by decide +kernel
theorem dX7_dab_116 : decode cX7_dab 116 = .ok (.iadd, 1) := by decide +kernel
theorem dX7_dab_117 : decode cX7_dab 117 = .ok (.iastore, 1) := by decide +kernel
theorem dX7_dab_118 : decode cX7_dab 118 = .ok (.aload_n 0, 1) := by decide +kernel
theorem dX7_dab_119 : decode cX7_dab 119 = .ok (.getfield 7, 3) := by decide +kernel
theorem dX7_dab_122 : decode cX7_dab 122 = .ok (.bipush 34, 2) := by decide +kernel
theorem dX7_dab_124 : decode cX7_dab 124 = .ok (.iaload, 1) := by decide +kernel
theorem dX7_dab_125 : decode cX7_dab 125 = .ok (.ireturn, 1) := by decide +kernel
theorem dX7_lift_0 : decode cX7_lift 0 = .ok (.aload_n 0, 1) := by decide +kernel
theorem dX7_lift_1 : decode cX7_lift 1 = .ok (.iload_n 1, 1) := by decide +kernel
theorem dX7_lift_2 : decode cX7_lift 2 = .ok (.invokevirtual 207, 3) := by decide +kernel
theorem dX7_lift_5 : decode cX7_lift 5 = .ok (.ifCond .eq 10, 3) := by decide +kernel
theorem dX7_lift_8 : decode cX7_lift 8 = .ok (.iload_n 2, 1) := by decide +kernel
theorem dX7_lift_9 : decode cX7_lift 9 = .ok (.invokestatic 221, 3) := by decide +kernel
theorem dX7_lift_12 : decode cX7_lift 12 = .ok (.ifCond .ne 5, 3) := by decide +kernel
theorem dX7_lift_15 : decode cX7_lift 15 = .ok (.iconst (-1), 1) := by decide +kernel
theorem dX7_lift_16 : decode cX7_lift 16 = .ok (.ireturn, 1) := by decide +kernel
theorem dX7_lift_17 : decode cX7_lift 17 = .ok (.iconst 4, 1) := by decide +kernel
theorem dX7_lift_18 : decode cX7_lift 18 = .ok (.iconst 5, 1) := by decide +kernel
theorem dX7_lift_19 : decode cX7_lift 19 = .ok (.iload_n 1, 1) := by decide +kernel
theorem dX7_lift_20 : decode cX7_lift 20 = .ok (.imul, 1) := by decide +kernel
theorem dX7_lift_21 : decode cX7_lift 21 = .ok (.iadd, 1) := by decide +kernel
theorem dX7_lift_22 : decode cX7_lift 22 = .ok (.istore_n 3, 1) := by decide +kernel
theorem dX7_lift_23 : decode cX7_lift 23 = .ok (.aload_n 0, 1) := by decide +kernel
theorem dX7_lift_24 : decode cX7_lift 24 = .ok (.getfield 7, 3) := by decide +kernel
theorem dX7_lift_27 : decode cX7_lift 27 = .ok (.iload_n 3, 1) := by decide +kernel
theorem dX7_lift_28 : decode cX7_lift 28 = .ok (.iconst 4, 1) := by decide +kernel
theorem dX7_lift_29 : decode cX7_lift 29 = .ok (.iadd, 1) := by decide +kernel
theorem dX7_lift_30 : decode cX7_lift 30 = .ok (.iaload, 1) := by decide +kernel
theorem dX7_lift_31 : decode cX7_lift 31 = .ok (.bipush (-4), 2) := by decide +kernel
theorem dX7_lift_33 : decode cX7_lift 33 = .ok (.if_icmp .ne 6, 3) := by decide +kernel
theorem dX7_lift_36 : decode cX7_lift 36 = .ok (.bipush (-2), 2) := by decide +kernel
theorem dX7_lift_38 : decode cX7_lift 38 = .ok (.ireturn, 1) := by decide +kernel
theorem dX7_lift_39 : decode cX7_lift 39 = .ok (.aload_n 0, 1) := by decide +kernel
theorem dX7_lift_40 : decode cX7_lift 40 = .ok (.getfield 7, 3) := by decide +kernel
theorem dX7_lift_43 : decode cX7_lift 43 = .ok (.iload_n 3, 1) := by decide +kernel
theorem dX7_lift_44 : decode cX7_lift 44 = .ok (.iconst 3, 1) := by decide +kernel
theorem dX7_lift_45 : decode cX7_lift 45 = .ok (.iadd, 1) := by decide +kernel
theorem dX7_lift_46 : decode cX7_lift 46 = .ok (.iload_n 2, 1) := by decide +kernel
theorem dX7_lift_47 : decode cX7_lift 47 = .ok (.iastore, 1) := by decide +kernel
theorem dX7_lift_48 : decode cX7_lift 48 = .ok (.aload_n 0, 1) := by decide +kernel
theorem dX7_lift_49 : decode cX7_lift 49 = .ok (.iload_n 3, 1) := by decide +kernel
theorem dX7_lift_50 : decode cX7_lift 50 = .ok (.iconst 4, 1) := by decide +kernel
theorem dX7_lift_51 : decode cX7_lift 51 = .ok (.iadd, 1) := by decide +kernel
theorem dX7_lift_52 : decode cX7_lift 52 = .ok (.bipush (-4), 2) := by decide +kernel
theorem dX7_lift_54 : decode cX7_lift 54 = .ok (.invokevirtual 218, 3) := by decide +kernel
theorem dX7_lift_57 : decode cX7_lift 57 = .ok (.ireturn, 1) := by decide +kernel
theorem dX7_days_0 : decode cX7_days 0 = .ok (.iload_n 1, 1) := by decide +kernel
theorem dX7_days_1 : decode cX7_days 1 = .ok (.i2l, 1) := by decide +kernel
theorem dX7_days_2 : decode cX7_days 2 = .ok (.lconst 0, 1) := by decide +kernel
theorem dX7_days_3 : decode cX7_days 3 = .ok (.ldc2_w 224, 3) := by decide +kernel
theorem dX7_days_6 : decode cX7_days 6 = .ok (.invokestatic 65, 3) := by decide +kernel
theorem dX7_days_9 : decode cX7_days 9 = .ok (.ifCond .ne 5, 3) := by decide +kernel
theorem dX7_days_12 : decode cX7_days 12 = .ok (.iconst (-1), 1) := by decide +kernel
theorem dX7_days_13 : decode cX7_days 13 = .ok (.ireturn, 1) := by decide +kernel
theorem dX7_days_14 : decode cX7_days 14 = .ok (.aload_n 0, 1) := by decide +kernel
theorem dX7_days_15 : decode cX7_days 15 = .ok (.getfield 7, 3) := by decide +kernel
theorem dX7_days_18 : decode cX7_days 18 = .ok (.bipush 41, 2) := by decide +kernel
theorem dX7_days_20 : decode cX7_days 20 = .ok (.iaload, 1) := by decide +kernel
theorem dX7_days_21 : decode cX7_days 21 = .ok (.iload_n 1, 1) := by decide +kernel
theorem dX7_days_22 : decode cX7_days 22 = .ok (.iadd, 1) := by decide +kernel
theorem dX7_days_23 : decode cX7_days 23 = .ok (.sipush 999, 3) := by decide +kernel
theorem dX7_days_26 : decode cX7_days 26 = .ok (.if_icmp .le 6, 3) := by decide +kernel
theorem dX7_days_29 : decode cX7_days 29 = .ok (.bipush (-3), 2) := by decide +kernel
theorem dX7_days_31 : decode cX7_days 31 = .ok (.ireturn, 1) := by decide +kernel
theorem dX7_days_32 : decode cX7_days 32 = .ok (.aload_n 0, 1) := by decide +kernel
theorem dX7_days_33 : decode cX7_days 33 = .ok (.invokevirtual 191, 3) := by decide +kernel
theorem dX7_days_36 : decode cX7_days 36 = .ok (.aload_n 0, 1) := by decide +kernel
theorem dX7_days_37 : decode cX7_days 37 = .ok (.iload_n 1, 1) := by decide +kernel
theorem dX7_days_38 : decode cX7_days 38 = .ok (.invokevirtual 226, 3) := by decide +kernel
theorem dX7_days_41 : decode cX7_days 41 = .ok (.aload_n 0, 1) := by decide +kernel
theorem dX7_days_42 : decode cX7_days 42 = .ok (.invokevirtual 229, 3) := by decide +kernel
theorem dX7_days_45 : decode cX7_days 45 = .ok (.aload_n 0, 1) := by decide +kernel
theorem dX7_days_46 : decode cX7_days 46 = .ok (.getfield 171, 3) := by decide +kernel
theorem dX7_days_49 : decode cX7_days 49 = .ok (.ireturn, 1) := by decide +kernel
theorem dX7_isFar_0 : decode cX7_isFar 0 = .ok (.iload_n 0, 1) := by decide +kernel
theorem dX7_isFar_1 : decode cX7_isFar 1 = .ok (.i2l, 1) := by decide +kernel
theorem dX7_isFar_2 : decode cX7_isFar 2 = .ok (.lconst 0, 1) := by decide +kernel
theorem dX7_isFar_3 : decode cX7_isFar 3 = .ok (.ldc2_w 232, 3) := by decide +kernel
theorem dX7_isFar_6 : decode cX7_isFar 6 = .ok (.invokestatic 65, 3) := by decide +kernel
theorem dX7_isFar_9 : decode cX7_isFar 9 = .ok (.ireturn, 1) := by decide +kernel
theorem dX7_runs_0 : decode cX7_runs 0 = .ok (.iload_n 1, 1) := by decide +kernel
theorem dX7_runs_1 : decode cX7_runs 1 = .ok (.invokestatic 234, 3) := by decide +kernel
theorem dX7_runs_4 : decode cX7_runs 4 = .ok (.ifCond .eq 15, 3) := by decide +kernel
theorem dX7_runs_7 : decode cX7_runs 7 = .ok (.iload_n 2, 1) := by decide +kernel
theorem dX7_runs_8 : decode cX7_runs 8 = .ok (.i2l, 1) := by decide +kernel
theorem dX7_runs_9 : decode cX7_runs 9 = .ok (.lconst 0, 1) := by decide +kernel
theorem dX7_runs_10 : decode cX7_runs 10 = .ok (.ldc2_w 212, 3) := by decide +kernel
theorem dX7_runs_13 : decode cX7_runs 13 = .ok (.invokestatic 65, 3) := by decide +kernel
theorem dX7_runs_16 : decode cX7_runs 16 = .ok (.ifCond .ne 5, 3) := by decide +kernel
theorem dX7_runs_19 : decode cX7_runs 19 = .ok (.iconst (-1), 1) := by decide +kernel
theorem dX7_runs_20 : decode cX7_runs 20 = .ok (.ireturn, 1) := by decide +kernel
theorem dX7_runs_21 : decode cX7_runs 21 = .ok (.bipush (-4), 2) := by decide +kernel
theorem dX7_runs_23 : decode cX7_runs 23 = .ok (.istore_n 3, 1) := by decide +kernel
theorem dX7_runs_24 : decode cX7_runs 24 = .ok (.aload_n 0, 1) := by decide +kernel
theorem dX7_runs_25 : decode cX7_runs 25 = .ok (.invokevirtual 191, 3) := by decide +kernel
theorem dX7_runs_28 : decode cX7_runs 28 = .ok (.aload_n 0, 1) := by decide +kernel
theorem dX7_runs_29 : decode cX7_runs 29 = .ok (.iconst 0, 1) := by decide +kernel
theorem dX7_runs_30 : decode cX7_runs 30 = .ok (.putfield 162, 3) := by decide +kernel
theorem dX7_runs_33 : decode cX7_runs 33 = .ok (.iconst 0, 1) := by decide +kernel
theorem dX7_runs_34 : decode cX7_runs 34 = .ok (.istore 4, 2) := by decide +kernel
theorem dX7_runs_36 : decode cX7_runs 36 = .ok (.iload 4, 2) := by decide +kernel
theorem dX7_runs_38 : decode cX7_runs 38 = .ok (.iload_n 1, 1) := by decide +kernel
theorem dX7_runs_39 : decode cX7_runs 39 = .ok (.if_icmp .gt 50, 3) := by decide +kernel
theorem dX7_runs_42 : decode cX7_runs 42 = .ok (.iload_n 3, 1) := by decide +kernel
theorem dX7_runs_43 : decode cX7_runs 43 = .ok (.bipush (-4), 2) := by decide +kernel
theorem dX7_runs_45 : decode cX7_runs 45 = .ok (.if_icmp .ne 22, 3) := by decide +kernel
theorem dX7_runs_48 : decode cX7_runs 48 = .ok (.aload_n 0, 1) := by decide +kernel
theorem dX7_runs_49 : decode cX7_runs 49 = .ok (.invokevirtual 194, 3) := by decide +kernel
theorem dX7_runs_52 : decode cX7_runs 52 = .ok (.aload_n 0, 1) := by decide +kernel
theorem dX7_runs_53 : decode cX7_runs 53 = .ok (.getfield 13, 3) := by decide +kernel
theorem dX7_runs_56 : decode cX7_runs 56 = .ok (.bipush 34, 2) := by decide +kernel
theorem dX7_runs_58 : decode cX7_runs 58 = .ok (.iaload, 1) := by decide +kernel
theorem dX7_runs_59 : decode cX7_runs 59 = .ok (.if_icmp .ne 8, 3) := by decide +kernel
theorem dX7_runs_62 : decode cX7_runs 62 = .ok (.iload 4, 2) := by decide +kernel
theorem dX7_runs_64 : decode cX7_runs 64 = .ok (.goto 4, 3) := by decide +kernel
theorem dX7_runs_67 : decode cX7_runs 67 = .ok (.iload_n 3, 1) := by decide +kernel
theorem dX7_runs_68 : decode cX7_runs 68 = .ok (.istore_n 3, 1) := by decide +kernel
theorem dX7_runs_69 : decode cX7_runs 69 = .ok (.iload 4, 2) := by decide +kernel
theorem dX7_runs_71 : decode cX7_runs 71 = .ok (.iload_n 1, 1) := by decide +kernel
theorem dX7_runs_72 : decode cX7_runs 72 = .ok (.if_icmp .ge 11, 3) := by decide +kernel
theorem dX7_runs_75 : decode cX7_runs 75 = .ok (.aload_n 0, 1) := by decide +kernel
theorem dX7_runs_76 : decode cX7_runs 76 = .ok (.aload_n 0, 1) := by decide +kernel
theorem dX7_runs_77 : decode cX7_runs 77 = .ok (.invokevirtual 181, 3) := by decide +kernel
theorem dX7_runs_80 : decode cX7_runs 80 = .ok (.invokevirtual 184, 3) := by decide +kernel
theorem dX7_runs_83 : decode cX7_runs 83 = .ok (.iinc 4 1, 3) := by decide +kernel
theorem dX7_runs_86 : decode cX7_runs 86 = .ok (.goto (-50), 3) := by decide +kernel
theorem dX7_runs_89 : decode cX7_runs 89 = .ok (.iload_n 2, 1) := by decide +kernel
theorem dX7_runs_90 : decode cX7_runs 90 = .ok (.ifCond .ne 10, 3) := by decide +kernel
theorem dX7_runs_93 : decode cX7_runs 93 = .ok (.aload_n 0, 1) := by decide +kernel
theorem dX7_runs_94 : decode cX7_runs 94 = .ok (.invokevirtual 194, 3) := by decide +kernel
theorem dX7_runs_97 : decode cX7_runs 97 = .ok (.goto 28, 3) := by decide +kernel
theorem dX7_runs_100 : decode cX7_runs 100 = .ok (.iload_n 2, 1) := by decide +kernel
theorem dX7_runs_101 : decode cX7_runs 101 = .ok (.iconst 1, 1) := by decide +kernel
theorem dX7_runs_102 : decode cX7_runs 102 = .ok (.if_icmp .ne 10, 3) := by decide +kernel
theorem dX7_runs_105 : decode cX7_runs 105 = .ok (.aload_n 0, 1) := by decide +kernel
theorem dX7_runs_106 : decode cX7_runs 106 = .ok (.invokevirtual 197, 3) := by decide +kernel
theorem dX7_runs_109 : decode cX7_runs 109 = .ok (.goto 16, 3) := by decide +kernel
theorem dX7_runs_112 : decode cX7_runs 112 = .ok (.iload_n 2, 1) := by decide +kernel
theorem dX7_runs_113 : decode cX7_runs 113 = .ok (.iconst 2, 1) := by decide +kernel
theorem dX7_runs_114 : decode cX7_runs 114 = .ok (.if_icmp .ne 10, 3) := by decide +kernel
theorem dX7_runs_117 : decode cX7_runs 117 = .ok (.aload_n 0, 1) := by decide +kernel
theorem dX7_runs_118 : decode cX7_runs 118 = .ok (.getfield 162, 3) := by decide +kernel
theorem dX7_runs_121 : decode cX7_runs 121 = .ok (.goto 4, 3) := by decide +kernel
theorem dX7_runs_124 : decode cX7_runs 124 = .ok (.iload_n 3, 1) := by decide +kernel
theorem dX7_runs_125 : decode cX7_runs 125 = .ok (.ireturn, 1) := by decide +kernel
theorem dX7_ahead_0 : decode cX7_ahead 0 = .ok (.aload_n 0, 1) := by decide +kernel
theorem dX7_ahead_1 : decode cX7_ahead 1 = .ok (.iload_n 1, 1) := by decide +kernel
theorem dX7_ahead_2 : decode cX7_ahead 2 = .ok (.invokevirtual 203, 3) := by decide +kernel
theorem dX7_ahead_5 : decode cX7_ahead 5 = .ok (.ifCond .eq 10, 3) := by decide +kernel
theorem dX7_ahead_8 : decode cX7_ahead 8 = .ok (.iload_n 2, 1) := by decide +kernel
theorem dX7_ahead_9 : decode cX7_ahead 9 = .ok (.invokestatic 234, 3) := by decide +kernel
theorem dX7_ahead_12 : decode cX7_ahead 12 = .ok (.ifCond .ne 5, 3) := by decide +kernel
theorem dX7_ahead_15 : decode cX7_ahead 15 = .ok (.iconst (-1), 1) := by decide +kernel
theorem dX7_ahead_16 : decode cX7_ahead 16 = .ok (.ireturn, 1) := by decide +kernel
theorem dX7_ahead_17 : decode cX7_ahead 17 = .ok (.aload_n 0, 1) := by decide +kernel
theorem dX7_ahead_18 : decode cX7_ahead 18 = .ok (.invokevirtual 191, 3) := by decide +kernel
theorem dX7_ahead_21 : decode cX7_ahead 21 = .ok (.aload_n 0, 1) := by decide +kernel
theorem dX7_ahead_22 : decode cX7_ahead 22 = .ok (.iload_n 2, 1) := by decide +kernel
theorem dX7_ahead_23 : decode cX7_ahead 23 = .ok (.invokevirtual 226, 3) := by decide +kernel
theorem dX7_ahead_26 : decode cX7_ahead 26 = .ok (.aload_n 0, 1) := by decide +kernel
theorem dX7_ahead_27 : decode cX7_ahead 27 = .ok (.iload_n 1, 1) := by decide +kernel
theorem dX7_ahead_28 : decode cX7_ahead 28 = .ok (.invokevirtual 149, 3) := by decide +kernel
theorem dX7_ahead_31 : decode cX7_ahead 31 = .ok (.ireturn, 1) := by decide +kernel
theorem dX7_where_0 : decode cX7_where 0 = .ok (.aload_n 0, 1) := by decide +kernel
theorem dX7_where_1 : decode cX7_where 1 = .ok (.iload_n 1, 1) := by decide +kernel
theorem dX7_where_2 : decode cX7_where 2 = .ok (.invokevirtual 207, 3) := by decide +kernel
theorem dX7_where_5 : decode cX7_where 5 = .ok (.ifCond .eq 10, 3) := by decide +kernel
theorem dX7_where_8 : decode cX7_where 8 = .ok (.iload_n 2, 1) := by decide +kernel
theorem dX7_where_9 : decode cX7_where 9 = .ok (.invokestatic 234, 3) := by decide +kernel
theorem dX7_where_12 : decode cX7_where 12 = .ok (.ifCond .ne 5, 3) := by decide +kernel
theorem dX7_where_15 : decode cX7_where 15 = .ok (.iconst (-1), 1) := by decide +kernel
theorem dX7_where_16 : decode cX7_where 16 = .ok (.ireturn, 1) := by decide +kernel
theorem dX7_where_17 : decode cX7_where 17 = .ok (.aload_n 0, 1) := by decide +kernel
theorem dX7_where_18 : decode cX7_where 18 = .ok (.invokevirtual 191, 3) := by decide +kernel
theorem dX7_where_21 : decode cX7_where 21 = .ok (.aload_n 0, 1) := by decide +kernel
theorem dX7_where_22 : decode cX7_where 22 = .ok (.iload_n 2, 1) := by decide +kernel
theorem dX7_where_23 : decode cX7_where 23 = .ok (.invokevirtual 226, 3) := by decide +kernel
theorem dX7_where_26 : decode cX7_where 26 = .ok (.aload_n 0, 1) := by decide +kernel
theorem dX7_where_27 : decode cX7_where 27 = .ok (.iload_n 1, 1) := by decide +kernel
theorem dX7_where_28 : decode cX7_where 28 = .ok (.iconst 4, 1) := by decide +kernel
theorem dX7_where_29 : decode cX7_where 29 = .ok (.invokevirtual 143, 3) := by decide +kernel
theorem dX7_where_32 : decode cX7_where 32 = .ok (.bipush (-4), 2) := by decide +kernel
theorem dX7_where_34 : decode cX7_where 34 = .ok (.if_icmp .eq 12, 3) := by decide +kernel
theorem dX7_where_37 : decode cX7_where 37 = .ok (.aload_n 0, 1) := by decide +kernel
theorem dX7_where_38 : decode cX7_where 38 = .ok (.iload_n 1, 1) := by decide +kernel
theorem dX7_where_39 : decode cX7_where 39 = .ok (.iconst 4, 1) := by decide +kernel
theorem dX7_where_40 : decode cX7_where 40 = .ok (.invokevirtual 143, 3) := by decide +kernel
theorem dX7_where_43 : decode cX7_where 43 = .ok (.goto 12, 3) := by decide +kernel
theorem dX7_where_46 : decode cX7_where 46 = .ok (.bipush (-10), 2) := by decide +kernel
theorem dX7_where_48 : decode cX7_where 48 = .ok (.aload_n 0, 1) := by decide +kernel
theorem dX7_where_49 : decode cX7_where 49 = .ok (.iload_n 1, 1) := by decide +kernel
theorem dX7_where_50 : decode cX7_where 50 = .ok (.iconst 3, 1) := by decide +kernel
theorem dX7_where_51 : decode cX7_where 51 = .ok (.invokevirtual 143, 3) := by decide +kernel
theorem dX7_where_54 : decode cX7_where 54 = .ok (.isub, 1) := by decide +kernel
theorem dX7_where_55 : decode cX7_where 55 = .ok (.ireturn, 1) := by decide +kernel
theorem dX7_daysTo_0 : decode cX7_daysTo 0 = .ok (.iconst 0, 1) := by decide +kernel
theorem dX7_daysTo_1 : decode cX7_daysTo 1 = .ok (.istore_n 2, 1) := by decide +kernel
theorem dX7_daysTo_2 : decode cX7_daysTo 2 = .ok (.iload_n 2, 1) := by decide +kernel
theorem dX7_daysTo_3 : decode cX7_daysTo 3 = .ok (.bipush 60, 2) := by decide +kernel
theorem dX7_daysTo_5 : decode cX7_daysTo 5 = .ok (.if_icmp .gt 30, 3) := by decide +kernel
theorem dX7_daysTo_8 : decode cX7_daysTo 8 = .ok (.aload_n 0, 1) := by decide +kernel
theorem dX7_daysTo_9 : decode cX7_daysTo 9 = .ok (.iload_n 1, 1) := by decide +kernel
theorem dX7_daysTo_10 : decode cX7_daysTo 10 = .ok (.iconst 4, 1) := by decide +kernel
theorem dX7_daysTo_11 : decode cX7_daysTo 11 = .ok (.invokevirtual 143, 3) := by decide +kernel
theorem dX7_daysTo_14 : decode cX7_daysTo 14 = .ok (.bipush (-4), 2) := by decide +kernel
theorem dX7_daysTo_16 : decode cX7_daysTo 16 = .ok (.if_icmp .eq 5, 3) := by decide +kernel
theorem dX7_daysTo_19 : decode cX7_daysTo 19 = .ok (.iload_n 2, 1) := by decide +kernel
theorem dX7_daysTo_20 : decode cX7_daysTo 20 = .ok (.ireturn, 1) := by decide +kernel
theorem dX7_daysTo_21 : decode cX7_daysTo 21 = .ok (.aload_n 0, 1) := by decide +kernel
theorem dX7_daysTo_22 : decode cX7_daysTo 22 = .ok (.aload_n 0, 1) := by decide +kernel
theorem dX7_daysTo_23 : decode cX7_daysTo 23 = .ok (.invokevirtual 181, 3) := by decide +kernel
theorem dX7_daysTo_26 : decode cX7_daysTo 26 = .ok (.invokevirtual 184, 3) := by decide +kernel
theorem dX7_daysTo_29 : decode cX7_daysTo 29 = .ok (.iinc 2 1, 3) := by decide +kernel
theorem dX7_daysTo_32 : decode cX7_daysTo 32 = .ok (.goto (-30), 3) := by decide +kernel
theorem dX7_daysTo_35 : decode cX7_daysTo 35 = .ok (.bipush (-4), 2) := by decide +kernel
theorem dX7_daysTo_37 : decode cX7_daysTo 37 = .ok (.ireturn, 1) := by decide +kernel
theorem dX7_home_0 : decode cX7_home 0 = .ok (.aload_n 0, 1) := by decide +kernel
theorem dX7_home_1 : decode cX7_home 1 = .ok (.iload_n 1, 1) := by decide +kernel
theorem dX7_home_2 : decode cX7_home 2 = .ok (.invokevirtual 207, 3) := by decide +kernel
theorem dX7_home_5 : decode cX7_home 5 = .ok (.ifCond .ne 5, 3) := by decide +kernel
theorem dX7_home_8 : decode cX7_home 8 = .ok (.iconst (-1), 1) := by decide +kernel
theorem dX7_home_9 : decode cX7_home 9 = .ok (.ireturn, 1) := by decide +kernel
theorem dX7_home_10 : decode cX7_home 10 = .ok (.aload_n 0, 1) := by decide +kernel
theorem dX7_home_11 : decode cX7_home 11 = .ok (.invokevirtual 191, 3) := by decide +kernel
theorem dX7_home_14 : decode cX7_home 14 = .ok (.aload_n 0, 1) := by decide +kernel
theorem dX7_home_15 : decode cX7_home 15 = .ok (.iload_n 1, 1) := by decide +kernel
theorem dX7_home_16 : decode cX7_home 16 = .ok (.invokevirtual 237, 3) := by decide +kernel
theorem dX7_home_19 : decode cX7_home 19 = .ok (.ireturn, 1) := by decide +kernel
theorem dX7_shed_0 : decode cX7_shed 0 = .ok (.aload_n 0, 1) := by decide +kernel
theorem dX7_shed_1 : decode cX7_shed 1 = .ok (.iload_n 1, 1) := by decide +kernel
theorem dX7_shed_2 : decode cX7_shed 2 = .ok (.invokevirtual 203, 3) := by decide +kernel
theorem dX7_shed_5 : decode cX7_shed 5 = .ok (.ifCond .eq 17, 3) := by decide +kernel
theorem dX7_shed_8 : decode cX7_shed 8 = .ok (.iload_n 2, 1) := by decide +kernel
theorem dX7_shed_9 : decode cX7_shed 9 = .ok (.invokestatic 234, 3) := by decide +kernel
theorem dX7_shed_12 : decode cX7_shed 12 = .ok (.ifCond .eq 10, 3) := by decide +kernel
theorem dX7_shed_15 : decode cX7_shed 15 = .ok (.iload_n 3, 1) := by decide +kernel
theorem dX7_shed_16 : decode cX7_shed 16 = .ok (.invokestatic 240, 3) := by decide +kernel
theorem dX7_shed_19 : decode cX7_shed 19 = .ok (.ifCond .ne 5, 3) := by decide +kernel
theorem dX7_shed_22 : decode cX7_shed 22 = .ok (.iconst (-1), 1) := by decide +kernel
theorem dX7_shed_23 : decode cX7_shed 23 = .ok (.ireturn, 1) := by decide +kernel
theorem dX7_shed_24 : decode cX7_shed 24 = .ok (.ldc 243, 2) := by decide +kernel
theorem dX7_shed_26 : decode cX7_shed 26 = .ok (.istore 4, 2) := by decide +kernel
theorem dX7_shed_28 : decode cX7_shed 28 = .ok (.iconst 0, 1) := by decide +kernel
theorem dX7_shed_29 : decode cX7_shed 29 = .ok (.istore 5, 2) := by decide +kernel
theorem dX7_shed_31 : decode cX7_shed 31 = .ok (.iconst 0, 1) := by decide +kernel
theorem dX7_shed_32 : decode cX7_shed 32 = .ok (.istore 6, 2) := by decide +kernel
theorem dX7_shed_34 : decode cX7_shed 34 = .ok (.iload 6, 2) := by decide +kernel
theorem dX7_shed_36 : decode cX7_shed 36 = .ok (.bipush 10, 2) := by decide +kernel
theorem dX7_shed_38 : decode cX7_shed 38 = .ok (.if_icmp .ge 58, 3) := by decide +kernel
theorem dX7_shed_41 : decode cX7_shed 41 = .ok (.aload_n 0, 1) := by decide +kernel
theorem dX7_shed_42 : decode cX7_shed 42 = .ok (.invokevirtual 191, 3) := by decide +kernel
theorem dX7_shed_45 : decode cX7_shed 45 = .ok (.aload_n 0, 1) := by decide +kernel
theorem dX7_shed_46 : decode cX7_shed 46 = .ok (.getfield 13, 3) := by decide +kernel
theorem dX7_shed_49 : decode cX7_shed 49 = .ok (.iload_n 1, 1) := by decide +kernel
theorem dX7_shed_50 : decode cX7_shed 50 = .ok (.iload 6, 2) := by decide +kernel
theorem dX7_shed_52 : decode cX7_shed 52 = .ok (.iastore, 1) := by decide +kernel
theorem dX7_shed_53 : decode cX7_shed 53 = .ok (.aload_n 0, 1) := by decide +kernel
theorem dX7_shed_54 : decode cX7_shed 54 = .ok (.iload_n 2, 1) := by decide +kernel
theorem dX7_shed_55 : decode cX7_shed 55 = .ok (.invokevirtual 226, 3) := by decide +kernel
theorem dX7_shed_58 : decode cX7_shed 58 = .ok (.aload_n 0, 1) := by decide +kernel
theorem dX7_shed_59 : decode cX7_shed 59 = .ok (.iload_n 1, 1) := by decide +kernel
theorem dX7_shed_60 : decode cX7_shed 60 = .ok (.invokevirtual 149, 3) := by decide +kernel
theorem dX7_shed_63 : decode cX7_shed 63 = .ok (.istore 7, 2) := by decide +kernel
theorem dX7_shed_65 : decode cX7_shed 65 = .ok (.iload 7, 2) := by decide +kernel
theorem dX7_shed_67 : decode cX7_shed 67 = .ok (.iload 4, 2) := by decide +kernel
theorem dX7_shed_69 : decode cX7_shed 69 = .ok (.if_icmp .ge 8, 3) := by decide +kernel
theorem dX7_shed_72 : decode cX7_shed 72 = .ok (.iload 6, 2) := by decide +kernel
theorem dX7_shed_74 : decode cX7_shed 74 = .ok (.goto 5, 3) := by decide +kernel
theorem dX7_shed_77 : decode cX7_shed 77 = .ok (.iload 5, 2) := by decide +kernel
theorem dX7_shed_79 : decode cX7_shed 79 = .ok (.istore 5, 2) := by decide +kernel
theorem dX7_shed_81 : decode cX7_shed 81 = .ok (.iload 7, 2) := by decide +kernel
theorem dX7_shed_83 : decode cX7_shed 83 = .ok (.iload 4, 2) := by decide +kernel
theorem dX7_shed_85 : decode cX7_shed 85 = .ok (.invokestatic 244, 3) := by decide +kernel
theorem dX7_shed_88 : decode cX7_shed 88 = .ok (.istore 4, 2) := by decide +kernel
theorem dX7_shed_90 : decode cX7_shed 90 = .ok (.iinc 6 1, 3) := by decide +kernel
theorem dX7_shed_93 : decode cX7_shed 93 = .ok (.goto (-59), 3) := by decide +kernel
theorem dX7_shed_96 : decode cX7_shed 96 = .ok (.iload_n 3, 1) := by decide +kernel
theorem dX7_shed_97 : decode cX7_shed 97 = .ok (.ifCond .ne 8, 3) := by decide +kernel
theorem dX7_shed_100 : decode cX7_shed 100 = .ok (.iload 5, 2) := by decide +kernel
theorem dX7_shed_102 : decode cX7_shed 102 = .ok (.goto 5, 3) := by decide +kernel
theorem dX7_shed_105 : decode cX7_shed 105 = .ok (.iload 4, 2) := by decide +kernel
theorem dX7_shed_107 : decode cX7_shed 107 = .ok (.ireturn, 1) := by decide +kernel
theorem dX7_calm_0 : decode cX7_calm 0 = .ok (.iload_n 1, 1) := by decide +kernel
theorem dX7_calm_1 : decode cX7_calm 1 = .ok (.invokestatic 234, 3) := by decide +kernel
theorem dX7_calm_4 : decode cX7_calm 4 = .ok (.ifCond .eq 10, 3) := by decide +kernel
theorem dX7_calm_7 : decode cX7_calm 7 = .ok (.iload_n 2, 1) := by decide +kernel
theorem dX7_calm_8 : decode cX7_calm 8 = .ok (.invokestatic 240, 3) := by decide +kernel
theorem dX7_calm_11 : decode cX7_calm 11 = .ok (.ifCond .ne 5, 3) := by decide +kernel
theorem dX7_calm_14 : decode cX7_calm 14 = .ok (.iconst (-1), 1) := by decide +kernel
theorem dX7_calm_15 : decode cX7_calm 15 = .ok (.ireturn, 1) := by decide +kernel
theorem dX7_calm_16 : decode cX7_calm 16 = .ok (.aload_n 0, 1) := by decide +kernel
theorem dX7_calm_17 : decode cX7_calm 17 = .ok (.invokevirtual 191, 3) := by decide +kernel
theorem dX7_calm_20 : decode cX7_calm 20 = .ok (.aload_n 0, 1) := by decide +kernel
theorem dX7_calm_21 : decode cX7_calm 21 = .ok (.iload_n 1, 1) := by decide +kernel
theorem dX7_calm_22 : decode cX7_calm 22 = .ok (.invokevirtual 226, 3) := by decide +kernel
theorem dX7_calm_25 : decode cX7_calm 25 = .ok (.aload_n 0, 1) := by decide +kernel
theorem dX7_calm_26 : decode cX7_calm 26 = .ok (.invokevirtual 194, 3) := by decide +kernel
theorem dX7_calm_29 : decode cX7_calm 29 = .ok (.istore_n 3, 1) := by decide +kernel
theorem dX7_calm_30 : decode cX7_calm 30 = .ok (.bipush (-4), 2) := by decide +kernel
theorem dX7_calm_32 : decode cX7_calm 32 = .ok (.istore 4, 2) := by decide +kernel
theorem dX7_calm_34 : decode cX7_calm 34 = .ok (.iconst 0, 1) := by decide +kernel
theorem dX7_calm_35 : decode cX7_calm 35 = .ok (.istore 5, 2) := by decide +kernel
theorem dX7_calm_37 : decode cX7_calm 37 = .ok (.iload 5, 2) := by decide +kernel
theorem dX7_calm_39 : decode cX7_calm 39 = .ok (.bipush 6, 2) := by decide +kernel
theorem dX7_calm_41 : decode cX7_calm 41 = .ok (.if_icmp .ge 63, 3) := by decide +kernel
theorem dX7_calm_44 : decode cX7_calm 44 = .ok (.aload_n 0, 1) := by decide +kernel
theorem dX7_calm_45 : decode cX7_calm 45 = .ok (.invokevirtual 191, 3) := by decide +kernel
theorem dX7_calm_48 : decode cX7_calm 48 = .ok (.aload_n 0, 1) := by decide +kernel
theorem dX7_calm_49 : decode cX7_calm 49 = .ok (.getfield 13, 3) := by decide +kernel
theorem dX7_calm_52 : decode cX7_calm 52 = .ok (.bipush 35, 2) := by decide +kernel
theorem dX7_calm_54 : decode cX7_calm 54 = .ok (.iload 5, 2) := by decide +kernel
theorem dX7_calm_56 : decode cX7_calm 56 = .ok (.iadd, 1) := by decide +kernel
theorem dX7_calm_57 : decode cX7_calm 57 = .ok (.iconst 0, 1) := by decide +kernel
theorem dX7_calm_58 : decode cX7_calm 58 = .ok (.iastore, 1) := by decide +kernel
theorem dX7_calm_59 : decode cX7_calm 59 = .ok (.aload_n 0, 1) := by decide +kernel
theorem dX7_calm_60 : decode cX7_calm 60 = .ok (.iload_n 1, 1) := by decide +kernel
theorem dX7_calm_61 : decode cX7_calm 61 = .ok (.invokevirtual 226, 3) := by decide +kernel
theorem dX7_calm_64 : decode cX7_calm 64 = .ok (.aload_n 0, 1) := by decide +kernel
theorem dX7_calm_65 : decode cX7_calm 65 = .ok (.invokevirtual 194, 3) := by decide +kernel
theorem dX7_calm_68 : decode cX7_calm 68 = .ok (.istore 6, 2) := by decide +kernel
theorem dX7_calm_70 : decode cX7_calm 70 = .ok (.iload 6, 2) := by decide +kernel
theorem dX7_calm_72 : decode cX7_calm 72 = .ok (.iload_n 3, 1) := by decide +kernel
theorem dX7_calm_73 : decode cX7_calm 73 = .ok (.if_icmp .le 8, 3) := by decide +kernel
theorem dX7_calm_76 : decode cX7_calm 76 = .ok (.iload 5, 2) := by decide +kernel
theorem dX7_calm_78 : decode cX7_calm 78 = .ok (.goto 5, 3) := by decide +kernel
theorem dX7_calm_81 : decode cX7_calm 81 = .ok (.iload 4, 2) := by decide +kernel
theorem dX7_calm_83 : decode cX7_calm 83 = .ok (.istore 4, 2) := by decide +kernel
theorem dX7_calm_85 : decode cX7_calm 85 = .ok (.iload 6, 2) := by decide +kernel
theorem dX7_calm_87 : decode cX7_calm 87 = .ok (.iload_n 3, 1) := by decide +kernel
theorem dX7_calm_88 : decode cX7_calm 88 = .ok (.if_icmp .le 8, 3) := by decide +kernel
theorem dX7_calm_91 : decode cX7_calm 91 = .ok (.iload 6, 2) := by decide +kernel
theorem dX7_calm_93 : decode cX7_calm 93 = .ok (.goto 4, 3) := by decide +kernel
theorem dX7_calm_96 : decode cX7_calm 96 = .ok (.iload_n 3, 1) := by decide +kernel
theorem dX7_calm_97 : decode cX7_calm 97 = .ok (.istore_n 3, 1) := by decide +kernel
theorem dX7_calm_98 : decode cX7_calm 98 = .ok (.iinc 5 1, 3) := by decide +kernel
theorem dX7_calm_101 : decode cX7_calm 101 = .ok (.goto (-64), 3) := by decide +kernel
theorem dX7_calm_104 : decode cX7_calm 104 = .ok (.iload 4, 2) := by decide +kernel
theorem dX7_calm_106 : decode cX7_calm 106 = .ok (.bipush (-4), 2) := by decide +kernel
theorem dX7_calm_108 : decode cX7_calm 108 = .ok (.if_icmp .ne 8, 3) := by decide +kernel
theorem dX7_calm_111 : decode cX7_calm 111 = .ok (.bipush (-4), 2) := by decide +kernel
theorem dX7_calm_113 : decode cX7_calm 113 = .ok (.goto 13, 3) := by decide +kernel
theorem dX7_calm_116 : decode cX7_calm 116 = .ok (.iload_n 2, 1) := by decide +kernel
theorem dX7_calm_117 : decode cX7_calm 117 = .ok (.ifCond .ne 8, 3) := by decide +kernel
theorem dX7_calm_120 : decode cX7_calm 120 = .ok (.iload 4, 2) := by decide +kernel
theorem dX7_calm_122 : decode cX7_calm 122 = .ok (.goto 4, 3) := by decide +kernel
theorem dX7_calm_125 : decode cX7_calm 125 = .ok (.iload_n 3, 1) := by decide +kernel
theorem dX7_calm_126 : decode cX7_calm 126 = .ok (.ireturn, 1) := by decide +kernel
theorem dX7_kind_0 : decode cX7_kind 0 = .ok (.aload_n 0, 1) := by decide +kernel
theorem dX7_kind_1 : decode cX7_kind 1 = .ok (.iload_n 1, 1) := by decide +kernel
theorem dX7_kind_2 : decode cX7_kind 2 = .ok (.invokevirtual 207, 3) := by decide +kernel
theorem dX7_kind_5 : decode cX7_kind 5 = .ok (.ifCond .eq 10, 3) := by decide +kernel
theorem dX7_kind_8 : decode cX7_kind 8 = .ok (.iload_n 2, 1) := by decide +kernel
theorem dX7_kind_9 : decode cX7_kind 9 = .ok (.invokestatic 240, 3) := by decide +kernel
theorem dX7_kind_12 : decode cX7_kind 12 = .ok (.ifCond .ne 5, 3) := by decide +kernel
theorem dX7_kind_15 : decode cX7_kind 15 = .ok (.iconst (-1), 1) := by decide +kernel
theorem dX7_kind_16 : decode cX7_kind 16 = .ok (.ireturn, 1) := by decide +kernel
theorem dX7_kind_17 : decode cX7_kind 17 = .ok (.ldc 243, 2) := by decide +kernel
theorem dX7_kind_19 : decode cX7_kind 19 = .ok (.istore_n 3, 1) := by decide +kernel
theorem dX7_kind_20 : decode cX7_kind 20 = .ok (.bipush (-4), 2) := by decide +kernel
theorem dX7_kind_22 : decode cX7_kind 22 = .ok (.istore 4, 2) := by decide +kernel
theorem dX7_kind_24 : decode cX7_kind 24 = .ok (.iconst 0, 1) := by decide +kernel
theorem dX7_kind_25 : decode cX7_kind 25 = .ok (.istore 5, 2) := by decide +kernel
theorem dX7_kind_27 : decode cX7_kind 27 = .ok (.iload 5, 2) := by decide +kernel
theorem dX7_kind_29 : decode cX7_kind 29 = .ok (.iconst 4, 1) := by decide +kernel
theorem dX7_kind_30 : decode cX7_kind 30 = .ok (.if_icmp .ge 74, 3) := by decide +kernel
theorem dX7_kind_33 : decode cX7_kind 33 = .ok (.aload_n 0, 1) := by decide +kernel
theorem dX7_kind_34 : decode cX7_kind 34 = .ok (.invokevirtual 191, 3) := by decide +kernel
theorem dX7_kind_37 : decode cX7_kind 37 = .ok (.aload_n 0, 1) := by decide +kernel
theorem dX7_kind_38 : decode cX7_kind 38 = .ok (.iload_n 1, 1) := by decide +kernel
theorem dX7_kind_39 : decode cX7_kind 39 = .ok (.iconst 0, 1) := by decide +kernel
theorem dX7_kind_40 : decode cX7_kind 40 = .ok (.iload 5, 2) := by decide +kernel
theorem dX7_kind_42 : decode cX7_kind 42 = .ok (.invokevirtual 158, 3) := by decide +kernel
theorem dX7_kind_45 : decode cX7_kind 45 = .ok (.aload_n 0, 1) := by decide +kernel
theorem dX7_kind_46 : decode cX7_kind 46 = .ok (.iload_n 1, 1) := by decide +kernel
theorem dX7_kind_47 : decode cX7_kind 47 = .ok (.invokevirtual 237, 3) := by decide +kernel
theorem dX7_kind_50 : decode cX7_kind 50 = .ok (.istore 6, 2) := by decide +kernel
theorem dX7_kind_52 : decode cX7_kind 52 = .ok (.iload 6, 2) := by decide +kernel
theorem dX7_kind_54 : decode cX7_kind 54 = .ok (.bipush (-4), 2) := by decide +kernel
theorem dX7_kind_56 : decode cX7_kind 56 = .ok (.if_icmp .eq 13, 3) := by decide +kernel
theorem dX7_kind_59 : decode cX7_kind 59 = .ok (.iload 6, 2) := by decide +kernel
theorem dX7_kind_61 : decode cX7_kind 61 = .ok (.iload_n 3, 1) := by decide +kernel
theorem dX7_kind_62 : decode cX7_kind 62 = .ok (.if_icmp .ge 7, 3) := by decide +kernel
theorem dX7_kind_65 : decode cX7_kind 65 = .ok (.iconst 1, 1) := by decide +kernel
theorem dX7_kind_66 : decode cX7_kind 66 = .ok (.goto 4, 3) := by decide +kernel
theorem dX7_kind_69 : decode cX7_kind 69 = .ok (.iconst 0, 1) := by decide +kernel
theorem dX7_kind_70 : decode cX7_kind 70 = .ok (.istore 7, 2) := by decide +kernel
theorem dX7_kind_72 : decode cX7_kind 72 = .ok (.iload 7, 2) := by decide +kernel
theorem dX7_kind_74 : decode cX7_kind 74 = .ok (.ifCond .eq 8, 3) := by decide +kernel
theorem dX7_kind_77 : decode cX7_kind 77 = .ok (.iload 5, 2) := by decide +kernel
theorem dX7_kind_79 : decode cX7_kind 79 = .ok (.goto 5, 3) := by decide +kernel
theorem dX7_kind_82 : decode cX7_kind 82 = .ok (.iload 4, 2) := by decide +kernel
theorem dX7_kind_84 : decode cX7_kind 84 = .ok (.istore 4, 2) := by decide +kernel
theorem dX7_kind_86 : decode cX7_kind 86 = .ok (.iload 7, 2) := by decide +kernel
theorem dX7_kind_88 : decode cX7_kind 88 = .ok (.ifCond .eq 8, 3) := by decide +kernel
theorem dX7_kind_91 : decode cX7_kind 91 = .ok (.iload 6, 2) := by decide +kernel
theorem dX7_kind_93 : decode cX7_kind 93 = .ok (.goto 4, 3) := by decide +kernel
theorem dX7_kind_96 : decode cX7_kind 96 = .ok (.iload_n 3, 1) := by decide +kernel
theorem dX7_kind_97 : decode cX7_kind 97 = .ok (.istore_n 3, 1) := by decide +kernel
theorem dX7_kind_98 : decode cX7_kind 98 = .ok (.iinc 5 1, 3) := by decide +kernel
theorem dX7_kind_101 : decode cX7_kind 101 = .ok (.goto (-74), 3) := by decide +kernel
theorem dX7_kind_104 : decode cX7_kind 104 = .ok (.iload 4, 2) := by decide +kernel
theorem dX7_kind_106 : decode cX7_kind 106 = .ok (.bipush (-4), 2) := by decide +kernel
theorem dX7_kind_108 : decode cX7_kind 108 = .ok (.if_icmp .ne 8, 3) := by decide +kernel
theorem dX7_kind_111 : decode cX7_kind 111 = .ok (.bipush (-4), 2) := by decide +kernel
theorem dX7_kind_113 : decode cX7_kind 113 = .ok (.goto 13, 3) := by decide +kernel
theorem dX7_kind_116 : decode cX7_kind 116 = .ok (.iload_n 2, 1) := by decide +kernel
theorem dX7_kind_117 : decode cX7_kind 117 = .ok (.ifCond .ne 8, 3) := by decide +kernel
theorem dX7_kind_120 : decode cX7_kind 120 = .ok (.iload 4, 2) := by decide +kernel
theorem dX7_kind_122 : decode cX7_kind 122 = .ok (.goto 4, 3) := by decide +kernel
theorem dX7_kind_125 : decode cX7_kind 125 = .ok (.iload_n 3, 1) := by decide +kernel
theorem dX7_kind_126 : decode cX7_kind 126 = .ok (.ireturn, 1) := by decide +kernel
theorem dX7_swap_0 : decode cX7_swap 0 = .ok (.iload_n 1, 1) := by decide +kernel
theorem dX7_swap_1 : decode cX7_swap 1 = .ok (.invokestatic 234, 3) := by decide +kernel
theorem dX7_swap_4 : decode cX7_swap 4 = .ok (.ifCond .eq 10, 3) := by decide +kernel
theorem dX7_swap_7 : decode cX7_swap 7 = .ok (.iload_n 2, 1) := by decide +kernel
theorem dX7_swap_8 : decode cX7_swap 8 = .ok (.invokestatic 240, 3) := by decide +kernel
theorem dX7_swap_11 : decode cX7_swap 11 = .ok (.ifCond .ne 5, 3) := by decide +kernel
theorem dX7_swap_14 : decode cX7_swap 14 = .ok (.iconst (-1), 1) := by decide +kernel
theorem dX7_swap_15 : decode cX7_swap 15 = .ok (.ireturn, 1) := by decide +kernel
theorem dX7_swap_16 : decode cX7_swap 16 = .ok (.aload_n 0, 1) := by decide +kernel
theorem dX7_swap_17 : decode cX7_swap 17 = .ok (.invokevirtual 191, 3) := by decide +kernel
theorem dX7_swap_20 : decode cX7_swap 20 = .ok (.aload_n 0, 1) := by decide +kernel
theorem dX7_swap_21 : decode cX7_swap 21 = .ok (.iload_n 1, 1) := by decide +kernel
theorem dX7_swap_22 : decode cX7_swap 22 = .ok (.invokevirtual 226, 3) := by decide +kernel
theorem dX7_swap_25 : decode cX7_swap 25 = .ok (.aload_n 0, 1) := by decide +kernel
theorem dX7_swap_26 : decode cX7_swap 26 = .ok (.invokevirtual 197, 3) := by decide +kernel
theorem dX7_swap_29 : decode cX7_swap 29 = .ok (.istore_n 3, 1) := by decide +kernel
theorem dX7_swap_30 : decode cX7_swap 30 = .ok (.bipush (-4), 2) := by decide +kernel
theorem dX7_swap_32 : decode cX7_swap 32 = .ok (.istore 4, 2) := by decide +kernel
theorem dX7_swap_34 : decode cX7_swap 34 = .ok (.iconst 0, 1) := by decide +kernel
theorem dX7_swap_35 : decode cX7_swap 35 = .ok (.istore 5, 2) := by decide +kernel
theorem dX7_swap_37 : decode cX7_swap 37 = .ok (.iload 5, 2) := by decide +kernel
theorem dX7_swap_39 : decode cX7_swap 39 = .ok (.aload_n 0, 1) := by decide +kernel
theorem dX7_swap_40 : decode cX7_swap 40 = .ok (.getfield 60, 3) := by decide +kernel
theorem dX7_swap_43 : decode cX7_swap 43 = .ok (.if_icmp .ge 107, 3) := by decide +kernel
theorem dX7_swap_46 : decode cX7_swap 46 = .ok (.iload 5, 2) := by decide +kernel
theorem dX7_swap_48 : decode cX7_swap 48 = .ok (.iconst 1, 1) := by decide +kernel
theorem dX7_swap_49 : decode cX7_swap 49 = .ok (.iadd, 1) := by decide +kernel
theorem dX7_swap_50 : decode cX7_swap 50 = .ok (.istore 6, 2) := by decide +kernel
theorem dX7_swap_52 : decode cX7_swap 52 = .ok (.iload 6, 2) := by decide +kernel
theorem dX7_swap_54 : decode cX7_swap 54 = .ok (.aload_n 0, 1) := by decide +kernel
theorem dX7_swap_55 : decode cX7_swap 55 = .ok (.getfield 60, 3) := by decide +kernel
theorem dX7_swap_58 : decode cX7_swap 58 = .ok (.if_icmp .ge 86, 3) := by decide +kernel
theorem dX7_swap_61 : decode cX7_swap 61 = .ok (.aload_n 0, 1) := by decide +kernel
theorem dX7_swap_62 : decode cX7_swap 62 = .ok (.invokevirtual 191, 3) := by decide +kernel
theorem dX7_swap_65 : decode cX7_swap 65 = .ok (.aload_n 0, 1) := by decide +kernel
theorem dX7_swap_66 : decode cX7_swap 66 = .ok (.getfield 13, 3) := by decide +kernel
theorem dX7_swap_69 : decode cX7_swap 69 = .ok (.iload 5, 2) := by decide +kernel
theorem dX7_swap_71 : decode cX7_swap 71 = .ok (.aload_n 0, 1) := by decide +kernel
theorem dX7_swap_72 : decode cX7_swap 72 = .ok (.getfield 7, 3) := by decide +kernel
theorem dX7_swap_75 : decode cX7_swap 75 = .ok (.iload 6, 2) := by decide +kernel
theorem dX7_swap_77 : decode cX7_swap 77 = .ok (.iaload, 1) := by decide +kernel
theorem dX7_swap_78 : decode cX7_swap 78 = .ok (.iastore, 1) := by decide +kernel
theorem dX7_swap_79 : decode cX7_swap 79 = .ok (.aload_n 0, 1) := by decide +kernel
theorem dX7_swap_80 : decode cX7_swap 80 = .ok (.getfield 13, 3) := by decide +kernel
theorem dX7_swap_83 : decode cX7_swap 83 = .ok (.iload 6, 2) := by decide +kernel
theorem dX7_swap_85 : decode cX7_swap 85 = .ok (.aload_n 0, 1) := by decide +kernel
theorem dX7_swap_86 : decode cX7_swap 86 = .ok (.getfield 7, 3) := by decide +kernel
theorem dX7_swap_89 : decode cX7_swap 89 = .ok (.iload 5, 2) := by decide +kernel
theorem dX7_swap_91 : decode cX7_swap 91 = .ok (.iaload, 1) := by decide +kernel
theorem dX7_swap_92 : decode cX7_swap 92 = .ok (.iastore, 1) := by decide +kernel
theorem dX7_swap_93 : decode cX7_swap 93 = .ok (.aload_n 0, 1) := by decide +kernel
theorem dX7_swap_94 : decode cX7_swap 94 = .ok (.iload_n 1, 1) := by decide +kernel
theorem dX7_swap_95 : decode cX7_swap 95 = .ok (.invokevirtual 226, 3) := by decide +kernel
theorem dX7_swap_98 : decode cX7_swap 98 = .ok (.aload_n 0, 1) := by decide +kernel
theorem dX7_swap_99 : decode cX7_swap 99 = .ok (.invokevirtual 197, 3) := by decide +kernel
theorem dX7_swap_102 : decode cX7_swap 102 = .ok (.istore 7, 2) := by decide +kernel
theorem dX7_swap_104 : decode cX7_swap 104 = .ok (.iload 7, 2) := by decide +kernel
theorem dX7_swap_106 : decode cX7_swap 106 = .ok (.iload_n 3, 1) := by decide +kernel
theorem dX7_swap_107 : decode cX7_swap 107 = .ok (.if_icmp .le 14, 3) := by decide +kernel
theorem dX7_swap_110 : decode cX7_swap 110 = .ok (.bipush 10, 2) := by decide +kernel
theorem dX7_swap_112 : decode cX7_swap 112 = .ok (.iload 5, 2) := by decide +kernel
theorem dX7_swap_114 : decode cX7_swap 114 = .ok (.imul, 1) := by decide +kernel
theorem dX7_swap_115 : decode cX7_swap 115 = .ok (.iload 6, 2) := by decide +kernel
theorem dX7_swap_117 : decode cX7_swap 117 = .ok (.iadd, 1) := by decide +kernel
theorem dX7_swap_118 : decode cX7_swap 118 = .ok (.goto 5, 3) := by decide +kernel
theorem dX7_swap_121 : decode cX7_swap 121 = .ok (.iload 4, 2) := by decide +kernel
theorem dX7_swap_123 : decode cX7_swap 123 = .ok (.istore 4, 2) := by decide +kernel
theorem dX7_swap_125 : decode cX7_swap 125 = .ok (.iload 7, 2) := by decide +kernel
theorem dX7_swap_127 : decode cX7_swap 127 = .ok (.iload_n 3, 1) := by decide +kernel
theorem dX7_swap_128 : decode cX7_swap 128 = .ok (.if_icmp .le 8, 3) := by decide +kernel
theorem dX7_swap_131 : decode cX7_swap 131 = .ok (.iload 7, 2) := by decide +kernel
theorem dX7_swap_133 : decode cX7_swap 133 = .ok (.goto 4, 3) := by decide +kernel
theorem dX7_swap_136 : decode cX7_swap 136 = .ok (.iload_n 3, 1) := by decide +kernel
theorem dX7_swap_137 : decode cX7_swap 137 = .ok (.istore_n 3, 1) := by decide +kernel
theorem dX7_swap_138 : decode cX7_swap 138 = .ok (.iinc 6 1, 3) := by decide +kernel
theorem dX7_swap_141 : decode cX7_swap 141 = .ok (.goto (-89), 3) := by decide +kernel
theorem dX7_swap_144 : decode cX7_swap 144 = .ok (.iinc 5 1, 3) := by decide +kernel
theorem dX7_swap_147 : decode cX7_swap 147 = .ok (.goto (-110), 3) := by decide +kernel
theorem dX7_swap_150 : decode cX7_swap 150 = .ok (.iload 4, 2) := by decide +kernel
theorem dX7_swap_152 : decode cX7_swap 152 = .ok (.bipush (-4), 2) := by decide +kernel
theorem dX7_swap_154 : decode cX7_swap 154 = .ok (.if_icmp .ne 8, 3) := by decide +kernel
theorem dX7_swap_157 : decode cX7_swap 157 = .ok (.bipush (-4), 2) := by decide +kernel
theorem dX7_swap_159 : decode cX7_swap 159 = .ok (.goto 13, 3) := by decide +kernel
theorem dX7_swap_162 : decode cX7_swap 162 = .ok (.iload_n 2, 1) := by decide +kernel
theorem dX7_swap_163 : decode cX7_swap 163 = .ok (.ifCond .ne 8, 3) := by decide +kernel
theorem dX7_swap_166 : decode cX7_swap 166 = .ok (.iload 4, 2) := by decide +kernel
theorem dX7_swap_168 : decode cX7_swap 168 = .ok (.goto 4, 3) := by decide +kernel
theorem dX7_swap_171 : decode cX7_swap 171 = .ok (.iload_n 3, 1) := by decide +kernel
theorem dX7_swap_172 : decode cX7_swap 172 = .ok (.ireturn, 1) := by decide +kernel
theorem dX7_isMadeWayFor_0 : decode cX7_isMadeWayFor 0 = .ok (.iconst 1, 1) := by decide +kernel
theorem dX7_isMadeWayFor_1 : decode cX7_isMadeWayFor 1 = .ok (.istore_n 2, 1) := by decide +kernel
theorem dX7_isMadeWayFor_2 : decode cX7_isMadeWayFor 2 = .ok (.iconst 0, 1) := by decide +kernel
theorem dX7_isMadeWayFor_3 : decode cX7_isMadeWayFor 3 = .ok (.istore_n 3, 1) := by decide +kernel
theorem dX7_isMadeWayFor_4 : decode cX7_isMadeWayFor 4 = .ok (.iload_n 3, 1) := by decide +kernel
theorem dX7_isMadeWayFor_5 : decode cX7_isMadeWayFor 5 = .ok (.aload_n 0, 1) := by decide +kernel
theorem dX7_isMadeWayFor_6 : decode cX7_isMadeWayFor 6 = .ok (.getfield 60, 3) := by decide +kernel
theorem dX7_isMadeWayFor_9 : decode cX7_isMadeWayFor 9 = .ok (.if_icmp .ge 37, 3) := by decide +kernel
theorem dX7_isMadeWayFor_12 : decode cX7_isMadeWayFor 12 = .ok (.iload_n 2, 1) := by decide +kernel
theorem dX7_isMadeWayFor_13 : decode cX7_isMadeWayFor 13 = .ok (.ifCond .eq 25, 3) := by decide +kernel
theorem dX7_isMadeWayFor_16 : decode cX7_isMadeWayFor 16 = .ok (.iload_n 3, 1) := by decide +kernel
theorem dX7_isMadeWayFor_17 : decode cX7_isMadeWayFor 17 = .ok (.iload_n 1, 1) := by decide +kernel
theorem dX7_isMadeWayFor_18 : decode cX7_isMadeWayFor 18 = .ok (.if_icmp .eq 16, 3) := by decide +kernel
theorem dX7_isMadeWayFor_21 : decode cX7_isMadeWayFor 21 = .ok (.aload_n 0, 1) := by decide +kernel
theorem dX7_isMadeWayFor_22 : decode cX7_isMadeWayFor 22 = .ok (.iload_n 3, 1) := by decide +kernel
theorem dX7_isMadeWayFor_23 : decode cX7_isMadeWayFor 23 = .ok (.invokevirtual 149, 3) := by decide +kernel
theorem dX7_isMadeWayFor_26 : decode cX7_isMadeWayFor 26 = .ok (.aload_n 0, 1) := by decide +kernel
theorem dX7_isMadeWayFor_27 : decode cX7_isMadeWayFor 27 = .ok (.iload_n 1, 1) := by decide +kernel
theorem dX7_isMadeWayFor_28 : decode cX7_isMadeWayFor 28 = .ok (.invokevirtual 149, 3) := by decide +kernel
theorem dX7_isMadeWayFor_31 : decode cX7_isMadeWayFor 31 = .ok (.if_icmp .ge 7, 3) := by decide +kernel
theorem dX7_isMadeWayFor_34 : decode cX7_isMadeWayFor 34 = .ok (.iconst 1, 1) := by decide +kernel
theorem dX7_isMadeWayFor_35 : decode cX7_isMadeWayFor 35 = .ok (.goto 4, 3) := by decide +kernel
theorem dX7_isMadeWayFor_38 : decode cX7_isMadeWayFor 38 = .ok (.iconst 0, 1) := by decide +kernel
theorem dX7_isMadeWayFor_39 : decode cX7_isMadeWayFor 39 = .ok (.istore_n 2, 1) := by decide +kernel
theorem dX7_isMadeWayFor_40 : decode cX7_isMadeWayFor 40 = .ok (.iinc 3 1, 3) := by decide +kernel
theorem dX7_isMadeWayFor_43 : decode cX7_isMadeWayFor 43 = .ok (.goto (-39), 3) := by decide +kernel
theorem dX7_isMadeWayFor_46 : decode cX7_isMadeWayFor 46 = .ok (.iload_n 2, 1) := by decide +kernel
theorem dX7_isMadeWayFor_47 : decode cX7_isMadeWayFor 47 = .ok (.ireturn, 1) := by decide +kernel
theorem dX7_need_0 : decode cX7_need 0 = .ok (.aload_n 0, 1) := by decide +kernel
theorem dX7_need_1 : decode cX7_need 1 = .ok (.iload_n 1, 1) := by decide +kernel
theorem dX7_need_2 : decode cX7_need 2 = .ok (.invokevirtual 207, 3) := by decide +kernel
theorem dX7_need_5 : decode cX7_need 5 = .ok (.ifCond .eq 18, 3) := by decide +kernel
theorem dX7_need_8 : decode cX7_need 8 = .ok (.aload_n 0, 1) := by decide +kernel
theorem dX7_need_9 : decode cX7_need 9 = .ok (.iload_n 2, 1) := by decide +kernel
theorem dX7_need_10 : decode cX7_need 10 = .ok (.invokevirtual 203, 3) := by decide +kernel
theorem dX7_need_13 : decode cX7_need 13 = .ok (.ifCond .eq 10, 3) := by decide +kernel
theorem dX7_need_16 : decode cX7_need 16 = .ok (.iload_n 3, 1) := by decide +kernel
theorem dX7_need_17 : decode cX7_need 17 = .ok (.invokestatic 234, 3) := by decide +kernel
theorem dX7_need_20 : decode cX7_need 20 = .ok (.ifCond .ne 5, 3) := by decide +kernel
theorem dX7_need_23 : decode cX7_need 23 = .ok (.iconst (-1), 1) := by decide +kernel
theorem dX7_need_24 : decode cX7_need 24 = .ok (.ireturn, 1) := by decide +kernel
theorem dX7_need_25 : decode cX7_need 25 = .ok (.iconst 1, 1) := by decide +kernel
theorem dX7_need_26 : decode cX7_need 26 = .ok (.istore 4, 2) := by decide +kernel
theorem dX7_need_28 : decode cX7_need 28 = .ok (.iload 4, 2) := by decide +kernel
theorem dX7_need_30 : decode cX7_need 30 = .ok (.bipush 9, 2) := by decide +kernel
theorem dX7_need_32 : decode cX7_need 32 = .ok (.if_icmp .gt 37, 3) := by decide +kernel
theorem dX7_need_35 : decode cX7_need 35 = .ok (.aload_n 0, 1) := by decide +kernel
theorem dX7_need_36 : decode cX7_need 36 = .ok (.invokevirtual 191, 3) := by decide +kernel
theorem dX7_need_39 : decode cX7_need 39 = .ok (.aload_n 0, 1) := by decide +kernel
theorem dX7_need_40 : decode cX7_need 40 = .ok (.iload_n 1, 1) := by decide +kernel
theorem dX7_need_41 : decode cX7_need 41 = .ok (.iconst 1, 1) := by decide +kernel
theorem dX7_need_42 : decode cX7_need 42 = .ok (.iload 4, 2) := by decide +kernel
theorem dX7_need_44 : decode cX7_need 44 = .ok (.invokevirtual 158, 3) := by decide +kernel
theorem dX7_need_47 : decode cX7_need 47 = .ok (.aload_n 0, 1) := by decide +kernel
theorem dX7_need_48 : decode cX7_need 48 = .ok (.iload_n 3, 1) := by decide +kernel
theorem dX7_need_49 : decode cX7_need 49 = .ok (.invokevirtual 226, 3) := by decide +kernel
theorem dX7_need_52 : decode cX7_need 52 = .ok (.aload_n 0, 1) := by decide +kernel
theorem dX7_need_53 : decode cX7_need 53 = .ok (.iload_n 2, 1) := by decide +kernel
theorem dX7_need_54 : decode cX7_need 54 = .ok (.invokevirtual 247, 3) := by decide +kernel
theorem dX7_need_57 : decode cX7_need 57 = .ok (.ifCond .eq 6, 3) := by decide +kernel
theorem dX7_need_60 : decode cX7_need 60 = .ok (.iload 4, 2) := by decide +kernel
theorem dX7_need_62 : decode cX7_need 62 = .ok (.ireturn, 1) := by decide +kernel
theorem dX7_need_63 : decode cX7_need 63 = .ok (.iinc 4 1, 3) := by decide +kernel
theorem dX7_need_66 : decode cX7_need 66 = .ok (.goto (-38), 3) := by decide +kernel
theorem dX7_need_69 : decode cX7_need 69 = .ok (.bipush (-4), 2) := by decide +kernel
theorem dX7_need_71 : decode cX7_need 71 = .ok (.ireturn, 1) := by decide +kernel
theorem dX7_off_0 : decode cX7_off 0 = .ok (.aload_n 0, 1) := by decide +kernel
theorem dX7_off_1 : decode cX7_off 1 = .ok (.iload_n 1, 1) := by decide +kernel
theorem dX7_off_2 : decode cX7_off 2 = .ok (.invokevirtual 203, 3) := by decide +kernel
theorem dX7_off_5 : decode cX7_off 5 = .ok (.ifCond .eq 17, 3) := by decide +kernel
theorem dX7_off_8 : decode cX7_off 8 = .ok (.iload_n 2, 1) := by decide +kernel
theorem dX7_off_9 : decode cX7_off 9 = .ok (.invokestatic 234, 3) := by decide +kernel
theorem dX7_off_12 : decode cX7_off 12 = .ok (.ifCond .eq 10, 3) := by decide +kernel
theorem dX7_off_15 : decode cX7_off 15 = .ok (.iload_n 3, 1) := by decide +kernel
theorem dX7_off_16 : decode cX7_off 16 = .ok (.invokestatic 240, 3) := by decide +kernel
theorem dX7_off_19 : decode cX7_off 19 = .ok (.ifCond .ne 5, 3) := by decide +kernel
theorem dX7_off_22 : decode cX7_off 22 = .ok (.iconst (-1), 1) := by decide +kernel
theorem dX7_off_23 : decode cX7_off 23 = .ok (.ireturn, 1) := by decide +kernel
theorem dX7_off_24 : decode cX7_off 24 = .ok (.aload_n 0, 1) := by decide +kernel
theorem dX7_off_25 : decode cX7_off 25 = .ok (.invokevirtual 191, 3) := by decide +kernel
theorem dX7_off_28 : decode cX7_off 28 = .ok (.aload_n 0, 1) := by decide +kernel
theorem dX7_off_29 : decode cX7_off 29 = .ok (.iload_n 2, 1) := by decide +kernel
theorem dX7_off_30 : decode cX7_off 30 = .ok (.invokevirtual 226, 3) := by decide +kernel
theorem dX7_off_33 : decode cX7_off 33 = .ok (.aload_n 0, 1) := by decide +kernel
theorem dX7_off_34 : decode cX7_off 34 = .ok (.iload_n 1, 1) := by decide +kernel
theorem dX7_off_35 : decode cX7_off 35 = .ok (.invokevirtual 149, 3) := by decide +kernel
theorem dX7_off_38 : decode cX7_off 38 = .ok (.istore 4, 2) := by decide +kernel
theorem dX7_off_40 : decode cX7_off 40 = .ok (.bipush (-4), 2) := by decide +kernel
theorem dX7_off_42 : decode cX7_off 42 = .ok (.istore 5, 2) := by decide +kernel
theorem dX7_off_44 : decode cX7_off 44 = .ok (.iconst 0, 1) := by decide +kernel
theorem dX7_off_45 : decode cX7_off 45 = .ok (.istore 6, 2) := by decide +kernel
theorem dX7_off_47 : decode cX7_off 47 = .ok (.iload 6, 2) := by decide +kernel
theorem dX7_off_49 : decode cX7_off 49 = .ok (.aload_n 0, 1) := by decide +kernel
theorem dX7_off_50 : decode cX7_off 50 = .ok (.getfield 7, 3) := by decide +kernel
theorem dX7_off_53 : decode cX7_off 53 = .ok (.bipush 34, 2) := by decide +kernel
theorem dX7_off_55 : decode cX7_off 55 = .ok (.iaload, 1) := by decide +kernel
theorem dX7_off_56 : decode cX7_off 56 = .ok (.if_icmp .ge 56, 3) := by decide +kernel
theorem dX7_off_59 : decode cX7_off 59 = .ok (.aload_n 0, 1) := by decide +kernel
theorem dX7_off_60 : decode cX7_off 60 = .ok (.invokevirtual 191, 3) := by decide +kernel
theorem dX7_off_63 : decode cX7_off 63 = .ok (.aload_n 0, 1) := by decide +kernel
theorem dX7_off_64 : decode cX7_off 64 = .ok (.iload 6, 2) := by decide +kernel
theorem dX7_off_66 : decode cX7_off 66 = .ok (.putfield 140, 3) := by decide +kernel
theorem dX7_off_69 : decode cX7_off 69 = .ok (.aload_n 0, 1) := by decide +kernel
theorem dX7_off_70 : decode cX7_off 70 = .ok (.iload_n 2, 1) := by decide +kernel
theorem dX7_off_71 : decode cX7_off 71 = .ok (.invokevirtual 226, 3) := by decide +kernel
theorem dX7_off_74 : decode cX7_off 74 = .ok (.aload_n 0, 1) := by decide +kernel
theorem dX7_off_75 : decode cX7_off 75 = .ok (.iload_n 1, 1) := by decide +kernel
theorem dX7_off_76 : decode cX7_off 76 = .ok (.invokevirtual 149, 3) := by decide +kernel
theorem dX7_off_79 : decode cX7_off 79 = .ok (.istore 7, 2) := by decide +kernel
theorem dX7_off_81 : decode cX7_off 81 = .ok (.iload 7, 2) := by decide +kernel
theorem dX7_off_83 : decode cX7_off 83 = .ok (.iload 4, 2) := by decide +kernel
theorem dX7_off_85 : decode cX7_off 85 = .ok (.if_icmp .ge 8, 3) := by decide +kernel
theorem dX7_off_88 : decode cX7_off 88 = .ok (.iload 6, 2) := by decide +kernel
theorem dX7_off_90 : decode cX7_off 90 = .ok (.goto 5, 3) := by decide +kernel
theorem dX7_off_93 : decode cX7_off 93 = .ok (.iload 5, 2) := by decide +kernel
theorem dX7_off_95 : decode cX7_off 95 = .ok (.istore 5, 2) := by decide +kernel
theorem dX7_off_97 : decode cX7_off 97 = .ok (.iload 7, 2) := by decide +kernel
theorem dX7_off_99 : decode cX7_off 99 = .ok (.iload 4, 2) := by decide +kernel
theorem dX7_off_101 : decode cX7_off 101 = .ok (.invokestatic 244, 3) := by decide +kernel
theorem dX7_off_104 : decode cX7_off 104 = .ok (.istore 4, 2) := by decide +kernel
theorem dX7_off_106 : decode cX7_off 106 = .ok (.iinc 6 1, 3) := by decide +kernel
theorem dX7_off_109 : decode cX7_off 109 = .ok (.goto (-62), 3) := by decide +kernel
theorem dX7_off_112 : decode cX7_off 112 = .ok (.iload 5, 2) := by decide +kernel
theorem dX7_off_114 : decode cX7_off 114 = .ok (.bipush (-4), 2) := by decide +kernel
theorem dX7_off_116 : decode cX7_off 116 = .ok (.if_icmp .ne 8, 3) := by decide +kernel
theorem dX7_off_119 : decode cX7_off 119 = .ok (.bipush (-4), 2) := by decide +kernel
theorem dX7_off_121 : decode cX7_off 121 = .ok (.goto 14, 3) := by decide +kernel
theorem dX7_off_124 : decode cX7_off 124 = .ok (.iload_n 3, 1) := by decide +kernel
theorem dX7_off_125 : decode cX7_off 125 = .ok (.ifCond .ne 8, 3) := by decide +kernel
theorem dX7_off_128 : decode cX7_off 128 = .ok (.iload 5, 2) := by decide +kernel
theorem dX7_off_130 : decode cX7_off 130 = .ok (.goto 5, 3) := by decide +kernel
theorem dX7_off_133 : decode cX7_off 133 = .ok (.iload 4, 2) := by decide +kernel
theorem dX7_off_135 : decode cX7_off 135 = .ok (.ireturn, 1) := by decide +kernel
theorem dX7_common_0 : decode cX7_common 0 = .ok (.lload_n 0, 1) := by decide +kernel
theorem dX7_common_1 : decode cX7_common 1 = .ok (.lstore 4, 2) := by decide +kernel
theorem dX7_common_3 : decode cX7_common 3 = .ok (.lload_n 2, 1) := by decide +kernel
theorem dX7_common_4 : decode cX7_common 4 = .ok (.lstore 6, 2) := by decide +kernel
theorem dX7_common_6 : decode cX7_common 6 = .ok (.lload 6, 2) := by decide +kernel
theorem dX7_common_8 : decode cX7_common 8 = .ok (.lconst 0, 1) := by decide +kernel
theorem dX7_common_9 : decode cX7_common 9 = .ok (.lcmp, 1) := by decide +kernel
theorem dX7_common_10 : decode cX7_common 10 = .ok (.ifCond .eq 21, 3) := by decide +kernel
theorem dX7_common_13 : decode cX7_common 13 = .ok (.lload 4, 2) := by decide +kernel
theorem dX7_common_15 : decode cX7_common 15 = .ok (.lload 6, 2) := by decide +kernel
theorem dX7_common_17 : decode cX7_common 17 = .ok (.lrem, 1) := by decide +kernel
theorem dX7_common_18 : decode cX7_common 18 = .ok (.lstore 8, 2) := by decide +kernel
theorem dX7_common_20 : decode cX7_common 20 = .ok (.lload 6, 2) := by decide +kernel
theorem dX7_common_22 : decode cX7_common 22 = .ok (.lstore 4, 2) := by decide +kernel
theorem dX7_common_24 : decode cX7_common 24 = .ok (.lload 8, 2) := by decide +kernel
theorem dX7_common_26 : decode cX7_common 26 = .ok (.lstore 6, 2) := by decide +kernel
theorem dX7_common_28 : decode cX7_common 28 = .ok (.goto (-22), 3) := by decide +kernel
theorem dX7_common_31 : decode cX7_common 31 = .ok (.lload 4, 2) := by decide +kernel
theorem dX7_common_33 : decode cX7_common 33 = .ok (.lreturn, 1) := by decide +kernel
theorem dX7_told_0 : decode cX7_told 0 = .ok (.lload_n 2, 1) := by decide +kernel
theorem dX7_told_1 : decode cX7_told 1 = .ok (.lload_n 0, 1) := by decide +kernel
theorem dX7_told_2 : decode cX7_told 2 = .ok (.invokestatic 250, 3) := by decide +kernel
theorem dX7_told_5 : decode cX7_told 5 = .ok (.lstore 5, 2) := by decide +kernel
theorem dX7_told_7 : decode cX7_told 7 = .ok (.iload 4, 2) := by decide +kernel
theorem dX7_told_9 : decode cX7_told 9 = .ok (.ifCond .ne 10, 3) := by decide +kernel
theorem dX7_told_12 : decode cX7_told 12 = .ok (.lload_n 0, 1) := by decide +kernel
theorem dX7_told_13 : decode cX7_told 13 = .ok (.lload 5, 2) := by decide +kernel
theorem dX7_told_15 : decode cX7_told 15 = .ok (.ldiv, 1) := by decide +kernel
theorem dX7_told_16 : decode cX7_told 16 = .ok (.goto 7, 3) := by decide +kernel
theorem dX7_told_19 : decode cX7_told 19 = .ok (.lload_n 2, 1) := by decide +kernel
theorem dX7_told_20 : decode cX7_told 20 = .ok (.lload 5, 2) := by decide +kernel
theorem dX7_told_22 : decode cX7_told 22 = .ok (.ldiv, 1) := by decide +kernel
theorem dX7_told_23 : decode cX7_told 23 = .ok (.lreturn, 1) := by decide +kernel
theorem dX7_findOdds_0 : decode cX7_findOdds 0 = .ok (.aload_n 0, 1) := by decide +kernel
theorem dX7_findOdds_1 : decode cX7_findOdds 1 = .ok (.lconst 0, 1) := by decide +kernel
theorem dX7_findOdds_2 : decode cX7_findOdds 2 = .ok (.putfield 254, 3) := by decide +kernel
theorem dX7_findOdds_5 : decode cX7_findOdds 5 = .ok (.aload_n 0, 1) := by decide +kernel
theorem dX7_findOdds_6 : decode cX7_findOdds 6 = .ok (.lconst 0, 1) := by decide +kernel
theorem dX7_findOdds_7 : decode cX7_findOdds 7 = .ok (.putfield 258, 3) := by decide +kernel
theorem dX7_findOdds_10 : decode cX7_findOdds 10 = .ok (.aload_n 0, 1) := by decide +kernel
theorem dX7_findOdds_11 : decode cX7_findOdds 11 = .ok (.lconst 1, 1) := by decide +kernel
theorem dX7_findOdds_12 : decode cX7_findOdds 12 = .ok (.putfield 261, 3) := by decide +kernel
theorem dX7_findOdds_15 : decode cX7_findOdds 15 = .ok (.iconst 0, 1) := by decide +kernel
theorem dX7_findOdds_16 : decode cX7_findOdds 16 = .ok (.istore 5, 2) := by decide +kernel
theorem dX7_findOdds_18 : decode cX7_findOdds 18 = .ok (.iload 5, 2) := by decide +kernel
theorem dX7_findOdds_20 : decode cX7_findOdds 20 = .ok (.iload 4, 2) := by decide +kernel
theorem dX7_findOdds_22 : decode cX7_findOdds 22 = .ok (.if_icmp .ge 21, 3) := by decide +kernel
theorem dX7_findOdds_25 : decode cX7_findOdds 25 = .ok (.aload_n 0, 1) := by decide +kernel
theorem dX7_findOdds_26 : decode cX7_findOdds 26 = .ok (.dup, 1) := by decide +kernel
theorem dX7_findOdds_27 : decode cX7_findOdds 27 = .ok (.getfield 261, 3) := by decide +kernel
theorem dX7_findOdds_30 : decode cX7_findOdds 30 = .ok (.ldc2_w 264, 3) := by decide +kernel
theorem dX7_findOdds_33 : decode cX7_findOdds 33 = .ok (.lmul, 1) := by decide +kernel
theorem dX7_findOdds_34 : decode cX7_findOdds 34 = .ok (.putfield 261, 3) := by decide +kernel
theorem dX7_findOdds_37 : decode cX7_findOdds 37 = .ok (.iinc 5 1, 3) := by decide +kernel
theorem dX7_findOdds_40 : decode cX7_findOdds 40 = .ok (.goto (-22), 3) := by decide +kernel
theorem dX7_findOdds_43 : decode cX7_findOdds 43 = .ok (.iconst 0, 1) := by decide +kernel
theorem dX7_findOdds_44 : decode cX7_findOdds 44 = .ok (.istore 5, 2) := by decide +kernel
theorem dX7_findOdds_46 : decode cX7_findOdds 46 = .ok (.iload 5, 2) := by decide +kernel
theorem dX7_findOdds_48 : decode cX7_findOdds 48 = .ok (.iconst 1, 1) := by decide +kernel
theorem dX7_findOdds_49 : decode cX7_findOdds 49 = .ok (.iload 4, 2) := by decide +kernel
theorem dX7_findOdds_51 : decode cX7_findOdds 51 = .ok (.ishl, 1) := by decide +kernel
theorem dX7_findOdds_52 : decode cX7_findOdds 52 = .ok (.if_icmp .ge 147, 3) := by decide +kernel
theorem dX7_findOdds_55 : decode cX7_findOdds 55 = .ok (.lconst 1, 1) := by decide +kernel
theorem dX7_findOdds_56 : decode cX7_findOdds 56 = .ok (.lstore 6, 2) := by decide +kernel
theorem dX7_findOdds_58 : decode cX7_findOdds 58 = .ok (.aload_n 0, 1) := by decide +kernel
theorem dX7_findOdds_59 : decode cX7_findOdds 59 = .ok (.invokevirtual 191, 3) := by decide +kernel
theorem dX7_findOdds_62 : decode cX7_findOdds 62 = .ok (.iconst 0, 1) := by decide +kernel
theorem dX7_findOdds_63 : decode cX7_findOdds 63 = .ok (.istore 8, 2) := by decide +kernel
theorem dX7_findOdds_65 : decode cX7_findOdds 65 = .ok (.iload 8, 2) := by decide +kernel
theorem dX7_findOdds_67 : decode cX7_findOdds 67 = .ok (.iload 4, 2) := by decide +kernel
theorem dX7_findOdds_69 : decode cX7_findOdds 69 = .ok (.if_icmp .ge 64, 3) := by decide +kernel
theorem dX7_findOdds_72 : decode cX7_findOdds 72 = .ok (.iload 5, 2) := by decide +kernel
theorem dX7_findOdds_74 : decode cX7_findOdds 74 = .ok (.iload 8, 2) := by decide +kernel
theorem dX7_findOdds_76 : decode cX7_findOdds 76 = .ok (.ishr, 1) := by decide +kernel
theorem dX7_findOdds_77 : decode cX7_findOdds 77 = .ok (.iconst 1, 1) := by decide +kernel
theorem dX7_findOdds_78 : decode cX7_findOdds 78 = .ok (.iand, 1) := by decide +kernel
theorem dX7_findOdds_79 : decode cX7_findOdds 79 = .ok (.iconst 1, 1) := by decide +kernel
theorem dX7_findOdds_80 : decode cX7_findOdds 80 = .ok (.if_icmp .ne 7, 3) := by decide +kernel
theorem dX7_findOdds_83 : decode cX7_findOdds 83 = .ok (.iconst 1, 1) := by decide +kernel
theorem dX7_findOdds_84 : decode cX7_findOdds 84 = .ok (.goto 4, 3) := by decide +kernel
theorem dX7_findOdds_87 : decode cX7_findOdds 87 = .ok (.iconst 0, 1) := by decide +kernel
theorem dX7_findOdds_88 : decode cX7_findOdds 88 = .ok (.istore 9, 2) := by decide +kernel
theorem dX7_findOdds_90 : decode cX7_findOdds 90 = .ok (.lload 6, 2) := by decide +kernel
theorem dX7_findOdds_92 : decode cX7_findOdds 92 = .ok (.iload 9, 2) := by decide +kernel
theorem dX7_findOdds_94 : decode cX7_findOdds 94 = .ok (.ifCond .eq 8, 3) := by decide +kernel
theorem dX7_findOdds_97 : decode cX7_findOdds 97 = .ok (.iload_n 1, 1) := by decide +kernel
theorem dX7_findOdds_98 : decode cX7_findOdds 98 = .ok (.i2l, 1) := by decide +kernel
theorem dX7_findOdds_99 : decode cX7_findOdds 99 = .ok (.goto 8, 3) := by decide +kernel
theorem dX7_findOdds_102 : decode cX7_findOdds 102 = .ok (.bipush 10, 2) := by decide +kernel
theorem dX7_findOdds_104 : decode cX7_findOdds 104 = .ok (.iload_n 1, 1) := by decide +kernel
theorem dX7_findOdds_105 : decode cX7_findOdds 105 = .ok (.isub, 1) := by decide +kernel
theorem dX7_findOdds_106 : decode cX7_findOdds 106 = .ok (.i2l, 1) := by decide +kernel
theorem dX7_findOdds_107 : decode cX7_findOdds 107 = .ok (.lmul, 1) := by decide +kernel
theorem dX7_findOdds_108 : decode cX7_findOdds 108 = .ok (.lstore 6, 2) := by decide +kernel
theorem dX7_findOdds_110 : decode cX7_findOdds 110 = .ok (.aload_n 0, 1) := by decide +kernel
theorem dX7_findOdds_111 : decode cX7_findOdds 111 = .ok (.iload 9, 2) := by decide +kernel
theorem dX7_findOdds_113 : decode cX7_findOdds 113 = .ok (.ifCond .eq 7, 3) := by decide +kernel
theorem dX7_findOdds_116 : decode cX7_findOdds 116 = .ok (.iconst 0, 1) := by decide +kernel
theorem dX7_findOdds_117 : decode cX7_findOdds 117 = .ok (.goto 7, 3) := by decide +kernel
theorem dX7_findOdds_120 : decode cX7_findOdds 120 = .ok (.aload_n 0, 1) := by decide +kernel
theorem dX7_findOdds_121 : decode cX7_findOdds 121 = .ok (.invokevirtual 181, 3) := by decide +kernel
theorem dX7_findOdds_124 : decode cX7_findOdds 124 = .ok (.invokevirtual 184, 3) := by decide +kernel
theorem dX7_findOdds_127 : decode cX7_findOdds 127 = .ok (.iinc 8 1, 3) := by decide +kernel
theorem dX7_findOdds_130 : decode cX7_findOdds 130 = .ok (.goto (-65), 3) := by decide +kernel
theorem dX7_findOdds_133 : decode cX7_findOdds 133 = .ok (.aload_n 0, 1) := by decide +kernel
theorem dX7_findOdds_134 : decode cX7_findOdds 134 = .ok (.dup, 1) := by decide +kernel
theorem dX7_findOdds_135 : decode cX7_findOdds 135 = .ok (.getfield 254, 3) := by decide +kernel
theorem dX7_findOdds_138 : decode cX7_findOdds 138 = .ok (.iload_n 2, 1) := by decide +kernel
theorem dX7_findOdds_139 : decode cX7_findOdds 139 = .ok (.bipush (-4), 2) := by decide +kernel
theorem dX7_findOdds_141 : decode cX7_findOdds 141 = .ok (.if_icmp .eq 19, 3) := by decide +kernel
theorem dX7_findOdds_144 : decode cX7_findOdds 144 = .ok (.aload_n 0, 1) := by decide +kernel
theorem dX7_findOdds_145 : decode cX7_findOdds 145 = .ok (.iload_n 2, 1) := by decide +kernel
theorem dX7_findOdds_146 : decode cX7_findOdds 146 = .ok (.iconst 4, 1) := by decide +kernel
theorem dX7_findOdds_147 : decode cX7_findOdds 147 = .ok (.invokevirtual 143, 3) := by decide +kernel
theorem dX7_findOdds_150 : decode cX7_findOdds 150 = .ok (.bipush (-4), 2) := by decide +kernel
theorem dX7_findOdds_152 : decode cX7_findOdds 152 = .ok (.if_icmp .eq 8, 3) := by decide +kernel
theorem dX7_findOdds_155 : decode cX7_findOdds 155 = .ok (.lload 6, 2) := by decide +kernel
theorem dX7_findOdds_157 : decode cX7_findOdds 157 = .ok (.goto 4, 3) := by decide +kernel
theorem dX7_findOdds_160 : decode cX7_findOdds 160 = .ok (.lconst 0, 1) := by decide +kernel
theorem dX7_findOdds_161 : decode cX7_findOdds 161 = .ok (.ladd, 1) := by decide +kernel
theorem dX7_findOdds_162 : decode cX7_findOdds 162 = .ok (.putfield 254, 3) := by decide +kernel
theorem dX7_findOdds_165 : decode cX7_findOdds 165 = .ok (.aload_n 0, 1) := by decide +kernel
theorem dX7_findOdds_166 : decode cX7_findOdds 166 = .ok (.dup, 1) := by decide +kernel
theorem dX7_findOdds_167 : decode cX7_findOdds 167 = .ok (.getfield 258, 3) := by decide +kernel
theorem dX7_findOdds_170 : decode cX7_findOdds 170 = .ok (.iload_n 3, 1) := by decide +kernel
theorem dX7_findOdds_171 : decode cX7_findOdds 171 = .ok (.bipush (-4), 2) := by decide +kernel
theorem dX7_findOdds_173 : decode cX7_findOdds 173 = .ok (.if_icmp .eq 15, 3) := by decide +kernel
theorem dX7_findOdds_176 : decode cX7_findOdds 176 = .ok (.lload 6, 2) := by decide +kernel
theorem dX7_findOdds_178 : decode cX7_findOdds 178 = .ok (.aload_n 0, 1) := by decide +kernel
theorem dX7_findOdds_179 : decode cX7_findOdds 179 = .ok (.iload_n 3, 1) := by decide +kernel
theorem dX7_findOdds_180 : decode cX7_findOdds 180 = .ok (.invokevirtual 149, 3) := by decide +kernel
theorem dX7_findOdds_183 : decode cX7_findOdds 183 = .ok (.i2l, 1) := by decide +kernel
theorem dX7_findOdds_184 : decode cX7_findOdds 184 = .ok (.lmul, 1) := by decide +kernel
theorem dX7_findOdds_185 : decode cX7_findOdds 185 = .ok (.goto 4, 3) := by decide +kernel
theorem dX7_findOdds_188 : decode cX7_findOdds 188 = .ok (.lconst 0, 1) := by decide +kernel
theorem dX7_findOdds_189 : decode cX7_findOdds 189 = .ok (.ladd, 1) := by decide +kernel
theorem dX7_findOdds_190 : decode cX7_findOdds 190 = .ok (.putfield 258, 3) := by decide +kernel
theorem dX7_findOdds_193 : decode cX7_findOdds 193 = .ok (.iinc 5 1, 3) := by decide +kernel
theorem dX7_findOdds_196 : decode cX7_findOdds 196 = .ok (.goto (-150), 3) := by decide +kernel
theorem dX7_findOdds_199 : decode cX7_findOdds 199 = .ok (.return_, 1) := by decide +kernel
theorem dX7_luck_0 : decode cX7_luck 0 = .ok (.iload_n 1, 1) := by decide +kernel
theorem dX7_luck_1 : decode cX7_luck 1 = .ok (.i2l, 1) := by decide +kernel
theorem dX7_luck_2 : decode cX7_luck 2 = .ok (.lconst 0, 1) := by decide +kernel
theorem dX7_luck_3 : decode cX7_luck 3 = .ok (.ldc2_w 264, 3) := by decide +kernel
theorem dX7_luck_6 : decode cX7_luck 6 = .ok (.invokestatic 65, 3) := by decide +kernel
theorem dX7_luck_9 : decode cX7_luck 9 = .ok (.ifCond .eq 31, 3) := by decide +kernel
theorem dX7_luck_12 : decode cX7_luck 12 = .ok (.aload_n 0, 1) := by decide +kernel
theorem dX7_luck_13 : decode cX7_luck 13 = .ok (.iload_n 2, 1) := by decide +kernel
theorem dX7_luck_14 : decode cX7_luck 14 = .ok (.invokevirtual 207, 3) := by decide +kernel
theorem dX7_luck_17 : decode cX7_luck 17 = .ok (.ifCond .eq 23, 3) := by decide +kernel
theorem dX7_luck_20 : decode cX7_luck 20 = .ok (.iload_n 3, 1) := by decide +kernel
theorem dX7_luck_21 : decode cX7_luck 21 = .ok (.i2l, 1) := by decide +kernel
theorem dX7_luck_22 : decode cX7_luck 22 = .ok (.lconst 0, 1) := by decide +kernel
theorem dX7_luck_23 : decode cX7_luck 23 = .ok (.ldc2_w 266, 3) := by decide +kernel
theorem dX7_luck_26 : decode cX7_luck 26 = .ok (.invokestatic 65, 3) := by decide +kernel
theorem dX7_luck_29 : decode cX7_luck 29 = .ok (.ifCond .eq 11, 3) := by decide +kernel
theorem dX7_luck_32 : decode cX7_luck 32 = .ok (.iload 4, 2) := by decide +kernel
theorem dX7_luck_34 : decode cX7_luck 34 = .ok (.invokestatic 240, 3) := by decide +kernel
theorem dX7_luck_37 : decode cX7_luck 37 = .ok (.ifCond .ne 7, 3) := by decide +kernel
theorem dX7_luck_40 : decode cX7_luck 40 = .ok (.ldc2_w 268, 3) := by decide +kernel
theorem dX7_luck_43 : decode cX7_luck 43 = .ok (.lreturn, 1) := by decide +kernel
theorem dX7_luck_44 : decode cX7_luck 44 = .ok (.aload_n 0, 1) := by decide +kernel
theorem dX7_luck_45 : decode cX7_luck 45 = .ok (.iload_n 1, 1) := by decide +kernel
theorem dX7_luck_46 : decode cX7_luck 46 = .ok (.iload_n 2, 1) := by decide +kernel
theorem dX7_luck_47 : decode cX7_luck 47 = .ok (.bipush (-4), 2) := by decide +kernel
theorem dX7_luck_49 : decode cX7_luck 49 = .ok (.iload_n 3, 1) := by decide +kernel
theorem dX7_luck_50 : decode cX7_luck 50 = .ok (.invokevirtual 270, 3) := by decide +kernel
theorem dX7_luck_53 : decode cX7_luck 53 = .ok (.aload_n 0, 1) := by decide +kernel
theorem dX7_luck_54 : decode cX7_luck 54 = .ok (.getfield 254, 3) := by decide +kernel
theorem dX7_luck_57 : decode cX7_luck 57 = .ok (.aload_n 0, 1) := by decide +kernel
theorem dX7_luck_58 : decode cX7_luck 58 = .ok (.getfield 261, 3) := by decide +kernel
theorem dX7_luck_61 : decode cX7_luck 61 = .ok (.iload 4, 2) := by decide +kernel
theorem dX7_luck_63 : decode cX7_luck 63 = .ok (.invokestatic 274, 3) := by decide +kernel
theorem dX7_luck_66 : decode cX7_luck 66 = .ok (.lreturn, 1) := by decide +kernel
theorem dX7_mean_0 : decode cX7_mean 0 = .ok (.iload_n 1, 1) := by decide +kernel
theorem dX7_mean_1 : decode cX7_mean 1 = .ok (.i2l, 1) := by decide +kernel
theorem dX7_mean_2 : decode cX7_mean 2 = .ok (.lconst 0, 1) := by decide +kernel
theorem dX7_mean_3 : decode cX7_mean 3 = .ok (.ldc2_w 264, 3) := by decide +kernel
theorem dX7_mean_6 : decode cX7_mean 6 = .ok (.invokestatic 65, 3) := by decide +kernel
theorem dX7_mean_9 : decode cX7_mean 9 = .ok (.ifCond .eq 31, 3) := by decide +kernel
theorem dX7_mean_12 : decode cX7_mean 12 = .ok (.aload_n 0, 1) := by decide +kernel
theorem dX7_mean_13 : decode cX7_mean 13 = .ok (.iload_n 2, 1) := by decide +kernel
theorem dX7_mean_14 : decode cX7_mean 14 = .ok (.invokevirtual 203, 3) := by decide +kernel
theorem dX7_mean_17 : decode cX7_mean 17 = .ok (.ifCond .eq 23, 3) := by decide +kernel
theorem dX7_mean_20 : decode cX7_mean 20 = .ok (.iload_n 3, 1) := by decide +kernel
theorem dX7_mean_21 : decode cX7_mean 21 = .ok (.i2l, 1) := by decide +kernel
theorem dX7_mean_22 : decode cX7_mean 22 = .ok (.lconst 0, 1) := by decide +kernel
theorem dX7_mean_23 : decode cX7_mean 23 = .ok (.ldc2_w 266, 3) := by decide +kernel
theorem dX7_mean_26 : decode cX7_mean 26 = .ok (.invokestatic 65, 3) := by decide +kernel
theorem dX7_mean_29 : decode cX7_mean 29 = .ok (.ifCond .eq 11, 3) := by decide +kernel
theorem dX7_mean_32 : decode cX7_mean 32 = .ok (.iload 4, 2) := by decide +kernel
theorem dX7_mean_34 : decode cX7_mean 34 = .ok (.invokestatic 240, 3) := by decide +kernel
theorem dX7_mean_37 : decode cX7_mean 37 = .ok (.ifCond .ne 7, 3) := by decide +kernel
theorem dX7_mean_40 : decode cX7_mean 40 = .ok (.ldc2_w 268, 3) := by decide +kernel
theorem dX7_mean_43 : decode cX7_mean 43 = .ok (.lreturn, 1) := by decide +kernel
theorem dX7_mean_44 : decode cX7_mean 44 = .ok (.aload_n 0, 1) := by decide +kernel
theorem dX7_mean_45 : decode cX7_mean 45 = .ok (.iload_n 1, 1) := by decide +kernel
theorem dX7_mean_46 : decode cX7_mean 46 = .ok (.bipush (-4), 2) := by decide +kernel
theorem dX7_mean_48 : decode cX7_mean 48 = .ok (.iload_n 2, 1) := by decide +kernel
theorem dX7_mean_49 : decode cX7_mean 49 = .ok (.iload_n 3, 1) := by decide +kernel
theorem dX7_mean_50 : decode cX7_mean 50 = .ok (.invokevirtual 270, 3) := by decide +kernel
theorem dX7_mean_53 : decode cX7_mean 53 = .ok (.aload_n 0, 1) := by decide +kernel
theorem dX7_mean_54 : decode cX7_mean 54 = .ok (.getfield 258, 3) := by decide +kernel
theorem dX7_mean_57 : decode cX7_mean 57 = .ok (.aload_n 0, 1) := by decide +kernel
theorem dX7_mean_58 : decode cX7_mean 58 = .ok (.getfield 261, 3) := by decide +kernel
theorem dX7_mean_61 : decode cX7_mean 61 = .ok (.iload 4, 2) := by decide +kernel
theorem dX7_mean_63 : decode cX7_mean 63 = .ok (.invokestatic 274, 3) := by decide +kernel
theorem dX7_mean_66 : decode cX7_mean 66 = .ok (.lreturn, 1) := by decide +kernel
theorem dX7_see_0 : decode cX7_see 0 = .ok (.iload_n 1, 1) := by decide +kernel
theorem dX7_see_1 : decode cX7_see 1 = .ok (.i2l, 1) := by decide +kernel
theorem dX7_see_2 : decode cX7_see 2 = .ok (.lconst 0, 1) := by decide +kernel
theorem dX7_see_3 : decode cX7_see 3 = .ok (.ldc2_w 278, 3) := by decide +kernel
theorem dX7_see_6 : decode cX7_see 6 = .ok (.invokestatic 65, 3) := by decide +kernel
theorem dX7_see_9 : decode cX7_see 9 = .ok (.ifCond .eq 23, 3) := by decide +kernel
theorem dX7_see_12 : decode cX7_see 12 = .ok (.aload_n 0, 1) := by decide +kernel
theorem dX7_see_13 : decode cX7_see 13 = .ok (.iload_n 2, 1) := by decide +kernel
theorem dX7_see_14 : decode cX7_see 14 = .ok (.invokevirtual 203, 3) := by decide +kernel
theorem dX7_see_17 : decode cX7_see 17 = .ok (.ifCond .eq 15, 3) := by decide +kernel
theorem dX7_see_20 : decode cX7_see 20 = .ok (.iload_n 3, 1) := by decide +kernel
theorem dX7_see_21 : decode cX7_see 21 = .ok (.i2l, 1) := by decide +kernel
theorem dX7_see_22 : decode cX7_see 22 = .ok (.lconst 0, 1) := by decide +kernel
theorem dX7_see_23 : decode cX7_see 23 = .ok (.ldc2_w 280, 3) := by decide +kernel
theorem dX7_see_26 : decode cX7_see 26 = .ok (.invokestatic 65, 3) := by decide +kernel
theorem dX7_see_29 : decode cX7_see 29 = .ok (.ifCond .ne 5, 3) := by decide +kernel
theorem dX7_see_32 : decode cX7_see 32 = .ok (.iconst (-1), 1) := by decide +kernel
theorem dX7_see_33 : decode cX7_see 33 = .ok (.ireturn, 1) := by decide +kernel
theorem dX7_see_34 : decode cX7_see 34 = .ok (.aload_n 0, 1) := by decide +kernel
theorem dX7_see_35 : decode cX7_see 35 = .ok (.getfield 7, 3) := by decide +kernel
theorem dX7_see_38 : decode cX7_see 38 = .ok (.bipush 42, 2) := by decide +kernel
theorem dX7_see_40 : decode cX7_see 40 = .ok (.iaload, 1) := by decide +kernel
theorem dX7_see_41 : decode cX7_see 41 = .ok (.bipush 6, 2) := by decide +kernel
theorem dX7_see_43 : decode cX7_see 43 = .ok (.if_icmp .ne 6, 3) := by decide +kernel
theorem dX7_see_46 : decode cX7_see 46 = .ok (.bipush (-3), 2) := by decide +kernel
theorem dX7_see_48 : decode cX7_see 48 = .ok (.ireturn, 1) := by decide +kernel
theorem dX7_see_49 : decode cX7_see 49 = .ok (.bipush 43, 2) := by decide +kernel
theorem dX7_see_51 : decode cX7_see 51 = .ok (.iconst 3, 1) := by decide +kernel
theorem dX7_see_52 : decode cX7_see 52 = .ok (.aload_n 0, 1) := by decide +kernel
theorem dX7_see_53 : decode cX7_see 53 = .ok (.getfield 7, 3) := by decide +kernel
theorem dX7_see_56 : decode cX7_see 56 = .ok (.bipush 42, 2) := by decide +kernel
theorem dX7_see_58 : decode cX7_see 58 = .ok (.iaload, 1) := by decide +kernel
theorem dX7_see_59 : decode cX7_see 59 = .ok (.imul, 1) := by decide +kernel
theorem dX7_see_60 : decode cX7_see 60 = .ok (.iadd, 1) := by decide +kernel
theorem dX7_see_61 : decode cX7_see 61 = .ok (.istore 4, 2) := by decide +kernel
theorem dX7_see_63 : decode cX7_see 63 = .ok (.aload_n 0, 1) := by decide +kernel
theorem dX7_see_64 : decode cX7_see 64 = .ok (.getfield 7, 3) := by decide +kernel
theorem dX7_see_67 : decode cX7_see 67 = .ok (.iload 4, 2) := by decide +kernel
theorem dX7_see_69 : decode cX7_see 69 = .ok (.iload_n 1, 1) := by decide +kernel
theorem dX7_see_70 : decode cX7_see 70 = .ok (.iastore, 1) := by decide +kernel
theorem dX7_see_71 : decode cX7_see 71 = .ok (.aload_n 0, 1) := by decide +kernel
theorem dX7_see_72 : decode cX7_see 72 = .ok (.getfield 7, 3) := by decide +kernel
theorem dX7_see_75 : decode cX7_see 75 = .ok (.iload 4, 2) := by decide +kernel
theorem dX7_see_77 : decode cX7_see 77 = .ok (.iconst 1, 1) := by decide +kernel
theorem dX7_see_78 : decode cX7_see 78 = .ok (.iadd, 1) := by decide +kernel
theorem dX7_see_79 : decode cX7_see 79 = .ok (.iload_n 2, 1) := by decide +kernel
theorem dX7_see_80 : decode cX7_see 80 = .ok (.iastore, 1) := by decide +kernel
theorem dX7_see_81 : decode cX7_see 81 = .ok (.aload_n 0, 1) := by decide +kernel
theorem dX7_see_82 : decode cX7_see 82 = .ok (.getfield 7, 3) := by decide +kernel
theorem dX7_see_85 : decode cX7_see 85 = .ok (.iload 4, 2) := by decide +kernel
theorem dX7_see_87 : decode cX7_see 87 = .ok (.iconst 2, 1) := by decide +kernel
theorem dX7_see_88 : decode cX7_see 88 = .ok (.iadd, 1) := by decide +kernel
theorem dX7_see_89 : decode cX7_see 89 = .ok (.iload_n 3, 1) := by decide +kernel
theorem dX7_see_90 : decode cX7_see 90 = .ok (.iastore, 1) := by decide +kernel
theorem dX7_see_91 : decode cX7_see 91 = .ok (.aload_n 0, 1) := by decide +kernel
theorem dX7_see_92 : decode cX7_see 92 = .ok (.getfield 7, 3) := by decide +kernel
theorem dX7_see_95 : decode cX7_see 95 = .ok (.bipush 42, 2) := by decide +kernel
theorem dX7_see_97 : decode cX7_see 97 = .ok (.dup2, 1) := by decide +kernel
theorem dX7_see_98 : decode cX7_see 98 = .ok (.iaload, 1) := by decide +kernel
theorem dX7_see_99 : decode cX7_see 99 = .ok (.iconst 1, 1) := by decide +kernel
theorem dX7_see_100 : decode cX7_see 100 = .ok (.iadd, 1) := by decide +kernel
theorem dX7_see_101 : decode cX7_see 101 = .ok (.iastore, 1) := by decide +kernel
theorem dX7_see_102 : decode cX7_see 102 = .ok (.aload_n 0, 1) := by decide +kernel
theorem dX7_see_103 : decode cX7_see 103 = .ok (.getfield 7, 3) := by decide +kernel
theorem dX7_see_106 : decode cX7_see 106 = .ok (.bipush 42, 2) := by decide +kernel
theorem dX7_see_108 : decode cX7_see 108 = .ok (.iaload, 1) := by decide +kernel
theorem dX7_see_109 : decode cX7_see 109 = .ok (.ireturn, 1) := by decide +kernel
theorem dX7_forget_0 : decode cX7_forget 0 = .ok (.iload_n 1, 1) := by decide +kernel
theorem dX7_forget_1 : decode cX7_forget 1 = .ok (.i2l, 1) := by decide +kernel
theorem dX7_forget_2 : decode cX7_forget 2 = .ok (.lconst 0, 1) := by decide +kernel
theorem dX7_forget_3 : decode cX7_forget 3 = .ok (.aload_n 0, 1) := by decide +kernel
theorem dX7_forget_4 : decode cX7_forget 4 = .ok (.getfield 7, 3) := by decide +kernel
theorem dX7_forget_7 : decode cX7_forget 7 = .ok (.bipush 42, 2) := by decide +kernel
theorem dX7_forget_9 : decode cX7_forget 9 = .ok (.iaload, 1) := by decide +kernel
theorem dX7_forget_10 : decode cX7_forget 10 = .ok (.i2l, 1) := by decide +kernel
theorem dX7_forget_11 : decode cX7_forget 11 = .ok (.invokestatic 65, 3) := by decide +kernel
theorem dX7_forget_14 : decode cX7_forget 14 = .ok (.ifCond .eq 13, 3) := by decide +kernel
theorem dX7_forget_17 : decode cX7_forget 17 = .ok (.aload_n 0, 1) := by decide +kernel
theorem dX7_forget_18 : decode cX7_forget 18 = .ok (.bipush 42, 2) := by decide +kernel
theorem dX7_forget_20 : decode cX7_forget 20 = .ok (.iload_n 1, 1) := by decide +kernel
theorem dX7_forget_21 : decode cX7_forget 21 = .ok (.invokevirtual 218, 3) := by decide +kernel
theorem dX7_forget_24 : decode cX7_forget 24 = .ok (.goto 4, 3) := by decide +kernel
theorem dX7_forget_27 : decode cX7_forget 27 = .ok (.iconst (-1), 1) := by decide +kernel
theorem dX7_forget_28 : decode cX7_forget 28 = .ok (.ireturn, 1) := by decide +kernel
theorem dX7_isSoWith_0 : decode cX7_isSoWith 0 = .ok (.aload_n 0, 1) := by decide +kernel
theorem dX7_isSoWith_1 : decode cX7_isSoWith 1 = .ok (.invokevirtual 191, 3) := by decide +kernel
theorem dX7_isSoWith_4 : decode cX7_isSoWith 4 = .ok (.aload_n 0, 1) := by decide +kernel
theorem dX7_isSoWith_5 : decode cX7_isSoWith 5 = .ok (.iload_n 1, 1) := by decide +kernel
theorem dX7_isSoWith_6 : decode cX7_isSoWith 6 = .ok (.iload_n 2, 1) := by decide +kernel
theorem dX7_isSoWith_7 : decode cX7_isSoWith 7 = .ok (.iload_n 3, 1) := by decide +kernel
theorem dX7_isSoWith_8 : decode cX7_isSoWith 8 = .ok (.invokevirtual 158, 3) := by decide +kernel
theorem dX7_isSoWith_11 : decode cX7_isSoWith 11 = .ok (.iconst 0, 1) := by decide +kernel
theorem dX7_isSoWith_12 : decode cX7_isSoWith 12 = .ok (.istore 4, 2) := by decide +kernel
theorem dX7_isSoWith_14 : decode cX7_isSoWith 14 = .ok (.iload 4, 2) := by decide +kernel
theorem dX7_isSoWith_16 : decode cX7_isSoWith 16 = .ok (.bipush 20, 2) := by decide +kernel
theorem dX7_isSoWith_18 : decode cX7_isSoWith 18 = .ok (.if_icmp .gt 53, 3) := by decide +kernel
theorem dX7_isSoWith_21 : decode cX7_isSoWith 21 = .ok (.iconst 0, 1) := by decide +kernel
theorem dX7_isSoWith_22 : decode cX7_isSoWith 22 = .ok (.istore 5, 2) := by decide +kernel
theorem dX7_isSoWith_24 : decode cX7_isSoWith 24 = .ok (.iload 5, 2) := by decide +kernel
theorem dX7_isSoWith_26 : decode cX7_isSoWith 26 = .ok (.aload_n 0, 1) := by decide +kernel
theorem dX7_isSoWith_27 : decode cX7_isSoWith 27 = .ok (.getfield 60, 3) := by decide +kernel
theorem dX7_isSoWith_30 : decode cX7_isSoWith 30 = .ok (.if_icmp .ge 27, 3) := by decide +kernel
theorem dX7_isSoWith_33 : decode cX7_isSoWith 33 = .ok (.aload_n 0, 1) := by decide +kernel
theorem dX7_isSoWith_34 : decode cX7_isSoWith 34 = .ok (.getfield 26, 3) := by decide +kernel
theorem dX7_isSoWith_37 : decode cX7_isSoWith 37 = .ok (.iconst 4, 1) := by decide +kernel
theorem dX7_isSoWith_38 : decode cX7_isSoWith 38 = .ok (.iload 4, 2) := by decide +kernel
theorem dX7_isSoWith_40 : decode cX7_isSoWith 40 = .ok (.imul, 1) := by decide +kernel
theorem dX7_isSoWith_41 : decode cX7_isSoWith 41 = .ok (.iload 5, 2) := by decide +kernel
theorem dX7_isSoWith_43 : decode cX7_isSoWith 43 = .ok (.iadd, 1) := by decide +kernel
theorem dX7_isSoWith_44 : decode cX7_isSoWith 44 = .ok (.aload_n 0, 1) := by decide +kernel
theorem dX7_isSoWith_45 : decode cX7_isSoWith 45 = .ok (.iload 5, 2) := by decide +kernel
theorem dX7_isSoWith_47 : decode cX7_isSoWith 47 = .ok (.invokevirtual 149, 3) := by decide +kernel
theorem dX7_isSoWith_50 : decode cX7_isSoWith 50 = .ok (.iastore, 1) := by decide +kernel
theorem dX7_isSoWith_51 : decode cX7_isSoWith 51 = .ok (.iinc 5 1, 3) := by decide +kernel
theorem dX7_isSoWith_54 : decode cX7_isSoWith 54 = .ok (.goto (-30), 3) := by decide +kernel
theorem dX7_isSoWith_57 : decode cX7_isSoWith 57 = .ok (.aload_n 0, 1) := by decide +kernel
theorem dX7_isSoWith_58 : decode cX7_isSoWith 58 = .ok (.aload_n 0, 1) := by decide +kernel
theorem dX7_isSoWith_59 : decode cX7_isSoWith 59 = .ok (.invokevirtual 181, 3) := by decide +kernel
theorem dX7_isSoWith_62 : decode cX7_isSoWith 62 = .ok (.invokevirtual 184, 3) := by decide +kernel
theorem dX7_isSoWith_65 : decode cX7_isSoWith 65 = .ok (.iinc 4 1, 3) := by decide +kernel
theorem dX7_isSoWith_68 : decode cX7_isSoWith 68 = .ok (.goto (-54), 3) := by decide +kernel
theorem dX7_isSoWith_71 : decode cX7_isSoWith 71 = .ok (.iconst 1, 1) := by decide +kernel
theorem dX7_isSoWith_72 : decode cX7_isSoWith 72 = .ok (.istore 4, 2) := by decide +kernel
theorem dX7_isSoWith_74 : decode cX7_isSoWith 74 = .ok (.iconst 0, 1) := by decide +kernel
theorem dX7_isSoWith_75 : decode cX7_isSoWith 75 = .ok (.istore 5, 2) := by decide +kernel
theorem dX7_isSoWith_77 : decode cX7_isSoWith 77 = .ok (.iload 5, 2) := by decide +kernel
theorem dX7_isSoWith_79 : decode cX7_isSoWith 79 = .ok (.aload_n 0, 1) := by decide +kernel
theorem dX7_isSoWith_80 : decode cX7_isSoWith 80 = .ok (.getfield 7, 3) := by decide +kernel
theorem dX7_isSoWith_83 : decode cX7_isSoWith 83 = .ok (.bipush 42, 2) := by decide +kernel
theorem dX7_isSoWith_85 : decode cX7_isSoWith 85 = .ok (.iaload, 1) := by decide +kernel
theorem dX7_isSoWith_86 : decode cX7_isSoWith 86 = .ok (.if_icmp .ge 66, 3) := by decide +kernel
theorem dX7_isSoWith_89 : decode cX7_isSoWith 89 = .ok (.bipush 43, 2) := by decide +kernel
theorem dX7_isSoWith_91 : decode cX7_isSoWith 91 = .ok (.iconst 3, 1) := by decide +kernel
theorem dX7_isSoWith_92 : decode cX7_isSoWith 92 = .ok (.iload 5, 2) := by decide +kernel
theorem dX7_isSoWith_94 : decode cX7_isSoWith 94 = .ok (.imul, 1) := by decide +kernel
theorem dX7_isSoWith_95 : decode cX7_isSoWith 95 = .ok (.iadd, 1) := by decide +kernel
theorem dX7_isSoWith_96 : decode cX7_isSoWith 96 = .ok (.istore 6, 2) := by decide +kernel
theorem dX7_isSoWith_98 : decode cX7_isSoWith 98 = .ok (.iload 4, 2) := by decide +kernel
theorem dX7_isSoWith_100 : decode cX7_isSoWith 100 = .ok (.ifCond .eq 43, 3) := by decide +kernel
theorem dX7_isSoWith_103 : decode cX7_isSoWith 103 = .ok (.aload_n 0, 1) := by decide +kernel
theorem dX7_isSoWith_104 : decode cX7_isSoWith 104 = .ok (.getfield 26, 3) := by decide +kernel
theorem dX7_isSoWith_107 : decode cX7_isSoWith 107 = .ok (.iconst 4, 1) := by decide +kernel
theorem dX7_isSoWith_108 : decode cX7_isSoWith 108 = .ok (.aload_n 0, 1) := by decide +kernel
theorem dX7_isSoWith_109 : decode cX7_isSoWith 109 = .ok (.getfield 7, 3) := by decide +kernel
theorem dX7_isSoWith_112 : decode cX7_isSoWith 112 = .ok (.iload 6, 2) := by decide +kernel
theorem dX7_isSoWith_114 : decode cX7_isSoWith 114 = .ok (.iaload, 1) := by decide +kernel
theorem dX7_isSoWith_115 : decode cX7_isSoWith 115 = .ok (.imul, 1) := by decide +kernel
theorem dX7_isSoWith_116 : decode cX7_isSoWith 116 = .ok (.aload_n 0, 1) := by decide +kernel
theorem dX7_isSoWith_117 : decode cX7_isSoWith 117 = .ok (.getfield 7, 3) := by decide +kernel
theorem dX7_isSoWith_120 : decode cX7_isSoWith 120 = .ok (.iload 6, 2) := by decide +kernel
theorem dX7_isSoWith_122 : decode cX7_isSoWith 122 = .ok (.iconst 1, 1) := by decide +kernel
theorem dX7_isSoWith_123 : decode cX7_isSoWith 123 = .ok (.iadd, 1) := by decide +kernel
theorem dX7_isSoWith_124 : decode cX7_isSoWith 124 = .ok (.iaload, 1) := by decide +kernel
theorem dX7_isSoWith_125 : decode cX7_isSoWith 125 = .ok (.iadd, 1) := by decide +kernel
theorem dX7_isSoWith_126 : decode cX7_isSoWith 126 = .ok (.iaload, 1) := by decide +kernel
theorem dX7_isSoWith_127 : decode cX7_isSoWith 127 = .ok (.aload_n 0, 1) := by decide +kernel
theorem dX7_isSoWith_128 : decode cX7_isSoWith 128 = .ok (.getfield 7, 3) := by decide +kernel
theorem dX7_isSoWith_131 : decode cX7_isSoWith 131 = .ok (.iload 6, 2) := by decide +kernel
theorem dX7_isSoWith_133 : decode cX7_isSoWith 133 = .ok (.iconst 2, 1) := by decide +kernel
theorem dX7_isSoWith_134 : decode cX7_isSoWith 134 = .ok (.iadd, 1) := by decide +kernel
theorem dX7_isSoWith_135 : decode cX7_isSoWith 135 = .ok (.iaload, 1) := by decide +kernel
theorem dX7_isSoWith_136 : decode cX7_isSoWith 136 = .ok (.if_icmp .ne 7, 3) := by decide +kernel
theorem dX7_isSoWith_139 : decode cX7_isSoWith 139 = .ok (.iconst 1, 1) := by decide +kernel
theorem dX7_isSoWith_140 : decode cX7_isSoWith 140 = .ok (.goto 4, 3) := by decide +kernel
theorem dX7_isSoWith_143 : decode cX7_isSoWith 143 = .ok (.iconst 0, 1) := by decide +kernel
theorem dX7_isSoWith_144 : decode cX7_isSoWith 144 = .ok (.istore 4, 2) := by decide +kernel
theorem dX7_isSoWith_146 : decode cX7_isSoWith 146 = .ok (.iinc 5 1, 3) := by decide +kernel
theorem dX7_isSoWith_149 : decode cX7_isSoWith 149 = .ok (.goto (-72), 3) := by decide +kernel
theorem dX7_isSoWith_152 : decode cX7_isSoWith 152 = .ok (.iload 4, 2) := by decide +kernel
theorem dX7_isSoWith_154 : decode cX7_isSoWith 154 = .ok (.ireturn, 1) := by decide +kernel
theorem dX7_owners_0 : decode cX7_owners 0 = .ok (.aload_n 0, 1) := by decide +kernel
theorem dX7_owners_1 : decode cX7_owners 1 = .ok (.iload_n 1, 1) := by decide +kernel
theorem dX7_owners_2 : decode cX7_owners 2 = .ok (.invokevirtual 207, 3) := by decide +kernel
theorem dX7_owners_5 : decode cX7_owners 5 = .ok (.ifCond .ne 5, 3) := by decide +kernel
theorem dX7_owners_8 : decode cX7_owners 8 = .ok (.iconst (-1), 1) := by decide +kernel
theorem dX7_owners_9 : decode cX7_owners 9 = .ok (.ireturn, 1) := by decide +kernel
theorem dX7_owners_10 : decode cX7_owners 10 = .ok (.iconst 0, 1) := by decide +kernel
theorem dX7_owners_11 : decode cX7_owners 11 = .ok (.istore_n 2, 1) := by decide +kernel
theorem dX7_owners_12 : decode cX7_owners 12 = .ok (.iconst 0, 1) := by decide +kernel
theorem dX7_owners_13 : decode cX7_owners 13 = .ok (.istore_n 3, 1) := by decide +kernel
theorem dX7_owners_14 : decode cX7_owners 14 = .ok (.iload_n 3, 1) := by decide +kernel
theorem dX7_owners_15 : decode cX7_owners 15 = .ok (.aload_n 0, 1) := by decide +kernel
theorem dX7_owners_16 : decode cX7_owners 16 = .ok (.getfield 60, 3) := by decide +kernel
theorem dX7_owners_19 : decode cX7_owners 19 = .ok (.if_icmp .ge 24, 3) := by decide +kernel
theorem dX7_owners_22 : decode cX7_owners 22 = .ok (.iload_n 2, 1) := by decide +kernel
theorem dX7_owners_23 : decode cX7_owners 23 = .ok (.aload_n 0, 1) := by decide +kernel
theorem dX7_owners_24 : decode cX7_owners 24 = .ok (.iload_n 1, 1) := by decide +kernel
theorem dX7_owners_25 : decode cX7_owners 25 = .ok (.iconst 2, 1) := by decide +kernel
theorem dX7_owners_26 : decode cX7_owners 26 = .ok (.iload_n 3, 1) := by decide +kernel
theorem dX7_owners_27 : decode cX7_owners 27 = .ok (.invokevirtual 282, 3) := by decide +kernel
theorem dX7_owners_30 : decode cX7_owners 30 = .ok (.invokestatic 187, 3) := by decide +kernel
theorem dX7_owners_33 : decode cX7_owners 33 = .ok (.iload_n 3, 1) := by decide +kernel
theorem dX7_owners_34 : decode cX7_owners 34 = .ok (.ishl, 1) := by decide +kernel
theorem dX7_owners_35 : decode cX7_owners 35 = .ok (.ior, 1) := by decide +kernel
theorem dX7_owners_36 : decode cX7_owners 36 = .ok (.istore_n 2, 1) := by decide +kernel
theorem dX7_owners_37 : decode cX7_owners 37 = .ok (.iinc 3 1, 3) := by decide +kernel
theorem dX7_owners_40 : decode cX7_owners 40 = .ok (.goto (-26), 3) := by decide +kernel
theorem dX7_owners_43 : decode cX7_owners 43 = .ok (.iload_n 2, 1) := by decide +kernel
theorem dX7_owners_44 : decode cX7_owners 44 = .ok (.ireturn, 1) := by decide +kernel
theorem dX7_kinds_0 : decode cX7_kinds 0 = .ok (.aload_n 0, 1) := by decide +kernel
theorem dX7_kinds_1 : decode cX7_kinds 1 = .ok (.iload_n 1, 1) := by decide +kernel
theorem dX7_kinds_2 : decode cX7_kinds 2 = .ok (.invokevirtual 207, 3) := by decide +kernel
theorem dX7_kinds_5 : decode cX7_kinds 5 = .ok (.ifCond .ne 5, 3) := by decide +kernel
theorem dX7_kinds_8 : decode cX7_kinds 8 = .ok (.iconst (-1), 1) := by decide +kernel
theorem dX7_kinds_9 : decode cX7_kinds 9 = .ok (.ireturn, 1) := by decide +kernel
theorem dX7_kinds_10 : decode cX7_kinds 10 = .ok (.iconst 0, 1) := by decide +kernel
theorem dX7_kinds_11 : decode cX7_kinds 11 = .ok (.istore_n 2, 1) := by decide +kernel
theorem dX7_kinds_12 : decode cX7_kinds 12 = .ok (.iconst 0, 1) := by decide +kernel
theorem dX7_kinds_13 : decode cX7_kinds 13 = .ok (.istore_n 3, 1) := by decide +kernel
theorem dX7_kinds_14 : decode cX7_kinds 14 = .ok (.iload_n 3, 1) := by decide +kernel
theorem dX7_kinds_15 : decode cX7_kinds 15 = .ok (.iconst 4, 1) := by decide +kernel
theorem dX7_kinds_16 : decode cX7_kinds 16 = .ok (.if_icmp .ge 24, 3) := by decide +kernel
theorem dX7_kinds_19 : decode cX7_kinds 19 = .ok (.iload_n 2, 1) := by decide +kernel
theorem dX7_kinds_20 : decode cX7_kinds 20 = .ok (.aload_n 0, 1) := by decide +kernel
theorem dX7_kinds_21 : decode cX7_kinds 21 = .ok (.iload_n 1, 1) := by decide +kernel
theorem dX7_kinds_22 : decode cX7_kinds 22 = .ok (.iconst 0, 1) := by decide +kernel
theorem dX7_kinds_23 : decode cX7_kinds 23 = .ok (.iload_n 3, 1) := by decide +kernel
theorem dX7_kinds_24 : decode cX7_kinds 24 = .ok (.invokevirtual 282, 3) := by decide +kernel
theorem dX7_kinds_27 : decode cX7_kinds 27 = .ok (.invokestatic 187, 3) := by decide +kernel
theorem dX7_kinds_30 : decode cX7_kinds 30 = .ok (.iload_n 3, 1) := by decide +kernel
theorem dX7_kinds_31 : decode cX7_kinds 31 = .ok (.ishl, 1) := by decide +kernel
theorem dX7_kinds_32 : decode cX7_kinds 32 = .ok (.ior, 1) := by decide +kernel
theorem dX7_kinds_33 : decode cX7_kinds 33 = .ok (.istore_n 2, 1) := by decide +kernel
theorem dX7_kinds_34 : decode cX7_kinds 34 = .ok (.iinc 3 1, 3) := by decide +kernel
theorem dX7_kinds_37 : decode cX7_kinds 37 = .ok (.goto (-23), 3) := by decide +kernel
theorem dX7_kinds_40 : decode cX7_kinds 40 = .ok (.iload_n 2, 1) := by decide +kernel
theorem dX7_kinds_41 : decode cX7_kinds 41 = .ok (.ireturn, 1) := by decide +kernel
theorem dX7_ask_0 : decode cX7_ask 0 = .ok (.aload_n 0, 1) := by decide +kernel
theorem dX7_ask_1 : decode cX7_ask 1 = .ok (.iload_n 1, 1) := by decide +kernel
theorem dX7_ask_2 : decode cX7_ask 2 = .ok (.invokevirtual 207, 3) := by decide +kernel
theorem dX7_ask_5 : decode cX7_ask 5 = .ok (.ifCond .eq 10, 3) := by decide +kernel
theorem dX7_ask_8 : decode cX7_ask 8 = .ok (.iload_n 2, 1) := by decide +kernel
theorem dX7_ask_9 : decode cX7_ask 9 = .ok (.invokestatic 240, 3) := by decide +kernel
theorem dX7_ask_12 : decode cX7_ask 12 = .ok (.ifCond .ne 5, 3) := by decide +kernel
theorem dX7_ask_15 : decode cX7_ask 15 = .ok (.iconst (-1), 1) := by decide +kernel
theorem dX7_ask_16 : decode cX7_ask 16 = .ok (.ireturn, 1) := by decide +kernel
theorem dX7_ask_17 : decode cX7_ask 17 = .ok (.iconst 0, 1) := by decide +kernel
theorem dX7_ask_18 : decode cX7_ask 18 = .ok (.istore_n 3, 1) := by decide +kernel
theorem dX7_ask_19 : decode cX7_ask 19 = .ok (.iconst 0, 1) := by decide +kernel
theorem dX7_ask_20 : decode cX7_ask 20 = .ok (.istore 4, 2) := by decide +kernel
theorem dX7_ask_22 : decode cX7_ask 22 = .ok (.iload 4, 2) := by decide +kernel
theorem dX7_ask_24 : decode cX7_ask 24 = .ok (.aload_n 0, 1) := by decide +kernel
theorem dX7_ask_25 : decode cX7_ask 25 = .ok (.getfield 60, 3) := by decide +kernel
theorem dX7_ask_28 : decode cX7_ask 28 = .ok (.if_icmp .ge 58, 3) := by decide +kernel
theorem dX7_ask_31 : decode cX7_ask 31 = .ok (.aload_n 0, 1) := by decide +kernel
theorem dX7_ask_32 : decode cX7_ask 32 = .ok (.iload_n 1, 1) := by decide +kernel
theorem dX7_ask_33 : decode cX7_ask 33 = .ok (.iconst 2, 1) := by decide +kernel
theorem dX7_ask_34 : decode cX7_ask 34 = .ok (.iload 4, 2) := by decide +kernel
theorem dX7_ask_36 : decode cX7_ask 36 = .ok (.invokevirtual 282, 3) := by decide +kernel
theorem dX7_ask_39 : decode cX7_ask 39 = .ok (.ifCond .eq 41, 3) := by decide +kernel
theorem dX7_ask_42 : decode cX7_ask 42 = .ok (.iconst 0, 1) := by decide +kernel
theorem dX7_ask_43 : decode cX7_ask 43 = .ok (.istore 5, 2) := by decide +kernel
theorem dX7_ask_45 : decode cX7_ask 45 = .ok (.iload 5, 2) := by decide +kernel
theorem dX7_ask_47 : decode cX7_ask 47 = .ok (.bipush 84, 2) := by decide +kernel
theorem dX7_ask_49 : decode cX7_ask 49 = .ok (.if_icmp .ge 28, 3) := by decide +kernel
theorem dX7_ask_52 : decode cX7_ask 52 = .ok (.aload_n 0, 1) := by decide +kernel
theorem dX7_ask_53 : decode cX7_ask 53 = .ok (.getfield 29, 3) := by decide +kernel
theorem dX7_ask_56 : decode cX7_ask 56 = .ok (.bipush 84, 2) := by decide +kernel
theorem dX7_ask_58 : decode cX7_ask 58 = .ok (.iload_n 3, 1) := by decide +kernel
theorem dX7_ask_59 : decode cX7_ask 59 = .ok (.imul, 1) := by decide +kernel
theorem dX7_ask_60 : decode cX7_ask 60 = .ok (.iload 5, 2) := by decide +kernel
theorem dX7_ask_62 : decode cX7_ask 62 = .ok (.iadd, 1) := by decide +kernel
theorem dX7_ask_63 : decode cX7_ask 63 = .ok (.aload_n 0, 1) := by decide +kernel
theorem dX7_ask_64 : decode cX7_ask 64 = .ok (.getfield 26, 3) := by decide +kernel
theorem dX7_ask_67 : decode cX7_ask 67 = .ok (.iload 5, 2) := by decide +kernel
theorem dX7_ask_69 : decode cX7_ask 69 = .ok (.iaload, 1) := by decide +kernel
theorem dX7_ask_70 : decode cX7_ask 70 = .ok (.iastore, 1) := by decide +kernel
theorem dX7_ask_71 : decode cX7_ask 71 = .ok (.iinc 5 1, 3) := by decide +kernel
theorem dX7_ask_74 : decode cX7_ask 74 = .ok (.goto (-29), 3) := by decide +kernel
theorem dX7_ask_77 : decode cX7_ask 77 = .ok (.iinc 3 1, 3) := by decide +kernel
theorem dX7_ask_80 : decode cX7_ask 80 = .ok (.iinc 4 1, 3) := by decide +kernel
theorem dX7_ask_83 : decode cX7_ask 83 = .ok (.goto (-61), 3) := by decide +kernel
theorem dX7_ask_86 : decode cX7_ask 86 = .ok (.iload_n 3, 1) := by decide +kernel
theorem dX7_ask_87 : decode cX7_ask 87 = .ok (.istore 4, 2) := by decide +kernel
theorem dX7_ask_89 : decode cX7_ask 89 = .ok (.bipush (-4), 2) := by decide +kernel
theorem dX7_ask_91 : decode cX7_ask 91 = .ok (.istore 5, 2) := by decide +kernel
theorem dX7_ask_93 : decode cX7_ask 93 = .ok (.iconst 0, 1) := by decide +kernel
theorem dX7_ask_94 : decode cX7_ask 94 = .ok (.istore 6, 2) := by decide +kernel
theorem dX7_ask_96 : decode cX7_ask 96 = .ok (.iload 6, 2) := by decide +kernel
theorem dX7_ask_98 : decode cX7_ask 98 = .ok (.bipush 84, 2) := by decide +kernel
theorem dX7_ask_100 : decode cX7_ask 100 = .ok (.if_icmp .ge 129, 3) := by decide +kernel
theorem dX7_ask_103 : decode cX7_ask 103 = .ok (.iconst 0, 1) := by decide +kernel
theorem dX7_ask_104 : decode cX7_ask 104 = .ok (.istore 7, 2) := by decide +kernel
theorem dX7_ask_106 : decode cX7_ask 106 = .ok (.iconst 0, 1) := by decide +kernel
theorem dX7_ask_107 : decode cX7_ask 107 = .ok (.istore 8, 2) := by decide +kernel
theorem dX7_ask_109 : decode cX7_ask 109 = .ok (.iload 8, 2) := by decide +kernel
theorem dX7_ask_111 : decode cX7_ask 111 = .ok (.iload_n 3, 1) := by decide +kernel
theorem dX7_ask_112 : decode cX7_ask 112 = .ok (.if_icmp .ge 85, 3) := by decide +kernel
theorem dX7_ask_115 : decode cX7_ask 115 = .ok (.iconst 0, 1) := by decide +kernel
theorem dX7_ask_116 : decode cX7_ask 116 = .ok (.istore 9, 2) := by decide +kernel
theorem dX7_ask_118 : decode cX7_ask 118 = .ok (.iconst 0, 1) := by decide +kernel
theorem dX7_ask_119 : decode cX7_ask 119 = .ok (.istore 10, 2) := by decide +kernel
theorem dX7_ask_121 : decode cX7_ask 121 = .ok (.iload 10, 2) := by decide +kernel
theorem dX7_ask_123 : decode cX7_ask 123 = .ok (.iload_n 3, 1) := by decide +kernel
theorem dX7_ask_124 : decode cX7_ask 124 = .ok (.if_icmp .ge 51, 3) := by decide +kernel
theorem dX7_ask_127 : decode cX7_ask 127 = .ok (.iload 9, 2) := by decide +kernel
theorem dX7_ask_129 : decode cX7_ask 129 = .ok (.aload_n 0, 1) := by decide +kernel
theorem dX7_ask_130 : decode cX7_ask 130 = .ok (.getfield 29, 3) := by decide +kernel
theorem dX7_ask_133 : decode cX7_ask 133 = .ok (.bipush 84, 2) := by decide +kernel
theorem dX7_ask_135 : decode cX7_ask 135 = .ok (.iload 8, 2) := by decide +kernel
theorem dX7_ask_137 : decode cX7_ask 137 = .ok (.imul, 1) := by decide +kernel
theorem dX7_ask_138 : decode cX7_ask 138 = .ok (.iload 6, 2) := by decide +kernel
theorem dX7_ask_140 : decode cX7_ask 140 = .ok (.iadd, 1) := by decide +kernel
theorem dX7_ask_141 : decode cX7_ask 141 = .ok (.iaload, 1) := by decide +kernel
theorem dX7_ask_142 : decode cX7_ask 142 = .ok (.aload_n 0, 1) := by decide +kernel
theorem dX7_ask_143 : decode cX7_ask 143 = .ok (.getfield 29, 3) := by decide +kernel
theorem dX7_ask_146 : decode cX7_ask 146 = .ok (.bipush 84, 2) := by decide +kernel
theorem dX7_ask_148 : decode cX7_ask 148 = .ok (.iload 10, 2) := by decide +kernel
theorem dX7_ask_150 : decode cX7_ask 150 = .ok (.imul, 1) := by decide +kernel
theorem dX7_ask_151 : decode cX7_ask 151 = .ok (.iload 6, 2) := by decide +kernel
theorem dX7_ask_153 : decode cX7_ask 153 = .ok (.iadd, 1) := by decide +kernel
theorem dX7_ask_154 : decode cX7_ask 154 = .ok (.iaload, 1) := by decide +kernel
theorem dX7_ask_155 : decode cX7_ask 155 = .ok (.if_icmp .ne 7, 3) := by decide +kernel
theorem dX7_ask_158 : decode cX7_ask 158 = .ok (.iconst 1, 1) := by decide +kernel
theorem dX7_ask_159 : decode cX7_ask 159 = .ok (.goto 4, 3) := by decide +kernel
theorem dX7_ask_162 : decode cX7_ask 162 = .ok (.iconst 0, 1) := by decide +kernel
theorem dX7_ask_163 : decode cX7_ask 163 = .ok (.invokestatic 187, 3) := by decide +kernel
theorem dX7_ask_166 : decode cX7_ask 166 = .ok (.iadd, 1) := by decide +kernel
theorem dX7_ask_167 : decode cX7_ask 167 = .ok (.istore 9, 2) := by decide +kernel
theorem dX7_ask_169 : decode cX7_ask 169 = .ok (.iinc 10 1, 3) := by decide +kernel
theorem dX7_ask_172 : decode cX7_ask 172 = .ok (.goto (-51), 3) := by decide +kernel
theorem dX7_ask_175 : decode cX7_ask 175 = .ok (.iload 9, 2) := by decide +kernel
theorem dX7_ask_177 : decode cX7_ask 177 = .ok (.iload 7, 2) := by decide +kernel
theorem dX7_ask_179 : decode cX7_ask 179 = .ok (.if_icmp .le 8, 3) := by decide +kernel
theorem dX7_ask_182 : decode cX7_ask 182 = .ok (.iload 9, 2) := by decide +kernel
theorem dX7_ask_184 : decode cX7_ask 184 = .ok (.goto 5, 3) := by decide +kernel
theorem dX7_ask_187 : decode cX7_ask 187 = .ok (.iload 7, 2) := by decide +kernel
theorem dX7_ask_189 : decode cX7_ask 189 = .ok (.istore 7, 2) := by decide +kernel
theorem dX7_ask_191 : decode cX7_ask 191 = .ok (.iinc 8 1, 3) := by decide +kernel
theorem dX7_ask_194 : decode cX7_ask 194 = .ok (.goto (-85), 3) := by decide +kernel
theorem dX7_ask_197 : decode cX7_ask 197 = .ok (.iload 6, 2) := by decide +kernel
theorem dX7_ask_199 : decode cX7_ask 199 = .ok (.iconst 4, 1) := by decide +kernel
theorem dX7_ask_200 : decode cX7_ask 200 = .ok (.irem, 1) := by decide +kernel
theorem dX7_ask_201 : decode cX7_ask 201 = .ok (.aload_n 0, 1) := by decide +kernel
theorem dX7_ask_202 : decode cX7_ask 202 = .ok (.getfield 60, 3) := by decide +kernel
theorem dX7_ask_205 : decode cX7_ask 205 = .ok (.if_icmp .ge 18, 3) := by decide +kernel
theorem dX7_ask_208 : decode cX7_ask 208 = .ok (.iload 7, 2) := by decide +kernel
theorem dX7_ask_210 : decode cX7_ask 210 = .ok (.iload 4, 2) := by decide +kernel
theorem dX7_ask_212 : decode cX7_ask 212 = .ok (.if_icmp .ge 11, 3) := by decide +kernel
theorem dX7_ask_215 : decode cX7_ask 215 = .ok (.iload 7, 2) := by decide +kernel
theorem dX7_ask_217 : decode cX7_ask 217 = .ok (.istore 4, 2) := by decide +kernel
theorem dX7_ask_219 : decode cX7_ask 219 = .ok (.iload 6, 2) := by decide +kernel
theorem dX7_ask_221 : decode cX7_ask 221 = .ok (.istore 5, 2) := by decide +kernel
theorem dX7_ask_223 : decode cX7_ask 223 = .ok (.iinc 6 1, 3) := by decide +kernel
theorem dX7_ask_226 : decode cX7_ask 226 = .ok (.goto (-130), 3) := by decide +kernel
theorem dX7_ask_229 : decode cX7_ask 229 = .ok (.iload 5, 2) := by decide +kernel
theorem dX7_ask_231 : decode cX7_ask 231 = .ok (.bipush (-4), 2) := by decide +kernel
theorem dX7_ask_233 : decode cX7_ask 233 = .ok (.if_icmp .ne 8, 3) := by decide +kernel
theorem dX7_ask_236 : decode cX7_ask 236 = .ok (.bipush (-4), 2) := by decide +kernel
theorem dX7_ask_238 : decode cX7_ask 238 = .ok (.goto 24, 3) := by decide +kernel
theorem dX7_ask_241 : decode cX7_ask 241 = .ok (.iload_n 2, 1) := by decide +kernel
theorem dX7_ask_242 : decode cX7_ask 242 = .ok (.ifCond .ne 18, 3) := by decide +kernel
theorem dX7_ask_245 : decode cX7_ask 245 = .ok (.bipush 10, 2) := by decide +kernel
theorem dX7_ask_247 : decode cX7_ask 247 = .ok (.iload 5, 2) := by decide +kernel
theorem dX7_ask_249 : decode cX7_ask 249 = .ok (.iconst 4, 1) := by decide +kernel
theorem dX7_ask_250 : decode cX7_ask 250 = .ok (.idiv, 1) := by decide +kernel
theorem dX7_ask_251 : decode cX7_ask 251 = .ok (.imul, 1) := by decide +kernel
theorem dX7_ask_252 : decode cX7_ask 252 = .ok (.iload 5, 2) := by decide +kernel
theorem dX7_ask_254 : decode cX7_ask 254 = .ok (.iconst 4, 1) := by decide +kernel
theorem dX7_ask_255 : decode cX7_ask 255 = .ok (.irem, 1) := by decide +kernel
theorem dX7_ask_256 : decode cX7_ask 256 = .ok (.iadd, 1) := by decide +kernel
theorem dX7_ask_257 : decode cX7_ask 257 = .ok (.goto 5, 3) := by decide +kernel
theorem dX7_ask_260 : decode cX7_ask 260 = .ok (.iload 4, 2) := by decide +kernel
theorem dX7_ask_262 : decode cX7_ask 262 = .ok (.ireturn, 1) := by decide +kernel
theorem dX7_drift_0 : decode cX7_drift 0 = .ok (.iload_n 2, 1) := by decide +kernel
theorem dX7_drift_1 : decode cX7_drift 1 = .ok (.i2l, 1) := by decide +kernel
theorem dX7_drift_2 : decode cX7_drift 2 = .ok (.lconst 1, 1) := by decide +kernel
theorem dX7_drift_3 : decode cX7_drift 3 = .ok (.ldc2_w 232, 3) := by decide +kernel
theorem dX7_drift_6 : decode cX7_drift 6 = .ok (.invokestatic 65, 3) := by decide +kernel
theorem dX7_drift_9 : decode cX7_drift 9 = .ok (.ifCond .eq 10, 3) := by decide +kernel
theorem dX7_drift_12 : decode cX7_drift 12 = .ok (.iload_n 3, 1) := by decide +kernel
theorem dX7_drift_13 : decode cX7_drift 13 = .ok (.invokestatic 240, 3) := by decide +kernel
theorem dX7_drift_16 : decode cX7_drift 16 = .ok (.ifCond .ne 5, 3) := by decide +kernel
theorem dX7_drift_19 : decode cX7_drift 19 = .ok (.iconst (-1), 1) := by decide +kernel
theorem dX7_drift_20 : decode cX7_drift 20 = .ok (.ireturn, 1) := by decide +kernel
theorem dX7_drift_21 : decode cX7_drift 21 = .ok (.aload_n 0, 1) := by decide +kernel
theorem dX7_drift_22 : decode cX7_drift 22 = .ok (.getfield 7, 3) := by decide +kernel
theorem dX7_drift_25 : decode cX7_drift 25 = .ok (.bipush 34, 2) := by decide +kernel
theorem dX7_drift_27 : decode cX7_drift 27 = .ok (.iaload, 1) := by decide +kernel
theorem dX7_drift_28 : decode cX7_drift 28 = .ok (.ifCond .ne 6, 3) := by decide +kernel
theorem dX7_drift_31 : decode cX7_drift 31 = .ok (.bipush (-2), 2) := by decide +kernel
theorem dX7_drift_33 : decode cX7_drift 33 = .ok (.ireturn, 1) := by decide +kernel
theorem dX7_drift_34 : decode cX7_drift 34 = .ok (.iload_n 1, 1) := by decide +kernel
theorem dX7_drift_35 : decode cX7_drift 35 = .ok (.istore 4, 2) := by decide +kernel
theorem dX7_drift_37 : decode cX7_drift 37 = .ok (.aload_n 0, 1) := by decide +kernel
theorem dX7_drift_38 : decode cX7_drift 38 = .ok (.invokevirtual 191, 3) := by decide +kernel
theorem dX7_drift_41 : decode cX7_drift 41 = .ok (.aload_n 0, 1) := by decide +kernel
theorem dX7_drift_42 : decode cX7_drift 42 = .ok (.iconst 0, 1) := by decide +kernel
theorem dX7_drift_43 : decode cX7_drift 43 = .ok (.putfield 171, 3) := by decide +kernel
theorem dX7_drift_46 : decode cX7_drift 46 = .ok (.iconst 0, 1) := by decide +kernel
theorem dX7_drift_47 : decode cX7_drift 47 = .ok (.istore 5, 2) := by decide +kernel
theorem dX7_drift_49 : decode cX7_drift 49 = .ok (.iload 5, 2) := by decide +kernel
theorem dX7_drift_51 : decode cX7_drift 51 = .ok (.iload_n 2, 1) := by decide +kernel
theorem dX7_drift_52 : decode cX7_drift 52 = .ok (.if_icmp .ge 37, 3) := by decide +kernel
theorem dX7_drift_55 : decode cX7_drift 55 = .ok (.iload 4, 2) := by decide +kernel
theorem dX7_drift_57 : decode cX7_drift 57 = .ok (.ldc_w 285, 3) := by decide +kernel
theorem dX7_drift_60 : decode cX7_drift 60 = .ok (.imul, 1) := by decide +kernel
theorem dX7_drift_61 : decode cX7_drift 61 = .ok (.sipush 12345, 3) := by decide +kernel
theorem dX7_drift_64 : decode cX7_drift 64 = .ok (.iadd, 1) := by decide +kernel
theorem dX7_drift_65 : decode cX7_drift 65 = .ok (.istore 4, 2) := by decide +kernel
theorem dX7_drift_67 : decode cX7_drift 67 = .ok (.aload_n 0, 1) := by decide +kernel
theorem dX7_drift_68 : decode cX7_drift 68 = .ok (.iload 4, 2) := by decide +kernel
theorem dX7_drift_70 : decode cX7_drift 70 = .ok (.bipush 16, 2) := by decide +kernel
theorem dX7_drift_72 : decode cX7_drift 72 = .ok (.ishr, 1) := by decide +kernel
theorem dX7_drift_73 : decode cX7_drift 73 = .ok (.sipush 32767, 3) := by decide +kernel
theorem dX7_drift_76 : decode cX7_drift 76 = .ok (.iand, 1) := by decide +kernel
theorem dX7_drift_77 : decode cX7_drift 77 = .ok (.bipush 10, 2) := by decide +kernel
theorem dX7_drift_79 : decode cX7_drift 79 = .ok (.irem, 1) := by decide +kernel
theorem dX7_drift_80 : decode cX7_drift 80 = .ok (.invokevirtual 184, 3) := by decide +kernel
theorem dX7_drift_83 : decode cX7_drift 83 = .ok (.iinc 5 1, 3) := by decide +kernel
theorem dX7_drift_86 : decode cX7_drift 86 = .ok (.goto (-37), 3) := by decide +kernel
theorem dX7_drift_89 : decode cX7_drift 89 = .ok (.iload_n 3, 1) := by decide +kernel
theorem dX7_drift_90 : decode cX7_drift 90 = .ok (.ifCond .ne 10, 3) := by decide +kernel
theorem dX7_drift_93 : decode cX7_drift 93 = .ok (.aload_n 0, 1) := by decide +kernel
theorem dX7_drift_94 : decode cX7_drift 94 = .ok (.getfield 171, 3) := by decide +kernel
theorem dX7_drift_97 : decode cX7_drift 97 = .ok (.goto 7, 3) := by decide +kernel
theorem dX7_drift_100 : decode cX7_drift 100 = .ok (.aload_n 0, 1) := by decide +kernel
theorem dX7_drift_101 : decode cX7_drift 101 = .ok (.invokevirtual 197, 3) := by decide +kernel
theorem dX7_drift_104 : decode cX7_drift 104 = .ok (.ireturn, 1) := by decide +kernel
theorem dX7_copies_0 : decode cX7_copies 0 = .ok (.iconst 0, 1) := by decide +kernel
theorem dX7_copies_1 : decode cX7_copies 1 = .ok (.istore_n 3, 1) := by decide +kernel
theorem dX7_copies_2 : decode cX7_copies 2 = .ok (.iload_n 3, 1) := by decide +kernel
theorem dX7_copies_3 : decode cX7_copies 3 = .ok (.bipush 61, 2) := by decide +kernel
theorem dX7_copies_5 : decode cX7_copies 5 = .ok (.if_icmp .ge 25, 3) := by decide +kernel
theorem dX7_copies_8 : decode cX7_copies 8 = .ok (.aload_n 0, 1) := by decide +kernel
theorem dX7_copies_9 : decode cX7_copies 9 = .ok (.getfield 7, 3) := by decide +kernel
theorem dX7_copies_12 : decode cX7_copies 12 = .ok (.iload_n 1, 1) := by decide +kernel
theorem dX7_copies_13 : decode cX7_copies 13 = .ok (.iload_n 3, 1) := by decide +kernel
theorem dX7_copies_14 : decode cX7_copies 14 = .ok (.iadd, 1) := by decide +kernel
theorem dX7_copies_15 : decode cX7_copies 15 = .ok (.aload_n 0, 1) := by decide +kernel
theorem dX7_copies_16 : decode cX7_copies 16 = .ok (.getfield 7, 3) := by decide +kernel
theorem dX7_copies_19 : decode cX7_copies 19 = .ok (.iload_n 2, 1) := by decide +kernel
theorem dX7_copies_20 : decode cX7_copies 20 = .ok (.iload_n 3, 1) := by decide +kernel
theorem dX7_copies_21 : decode cX7_copies 21 = .ok (.iadd, 1) := by decide +kernel
theorem dX7_copies_22 : decode cX7_copies 22 = .ok (.iaload, 1) := by decide +kernel
theorem dX7_copies_23 : decode cX7_copies 23 = .ok (.iastore, 1) := by decide +kernel
theorem dX7_copies_24 : decode cX7_copies 24 = .ok (.iinc 3 1, 3) := by decide +kernel
theorem dX7_copies_27 : decode cX7_copies 27 = .ok (.goto (-25), 3) := by decide +kernel
theorem dX7_copies_30 : decode cX7_copies 30 = .ok (.return_, 1) := by decide +kernel
theorem dX7_keep_0 : decode cX7_keep 0 = .ok (.iload_n 1, 1) := by decide +kernel
theorem dX7_keep_1 : decode cX7_keep 1 = .ok (.i2l, 1) := by decide +kernel
theorem dX7_keep_2 : decode cX7_keep 2 = .ok (.lconst 0, 1) := by decide +kernel
theorem dX7_keep_3 : decode cX7_keep 3 = .ok (.lconst 1, 1) := by decide +kernel
theorem dX7_keep_4 : decode cX7_keep 4 = .ok (.invokestatic 65, 3) := by decide +kernel
theorem dX7_keep_7 : decode cX7_keep 7 = .ok (.ifCond .ne 5, 3) := by decide +kernel
theorem dX7_keep_10 : decode cX7_keep 10 = .ok (.iconst (-1), 1) := by decide +kernel
theorem dX7_keep_11 : decode cX7_keep 11 = .ok (.ireturn, 1) := by decide +kernel
theorem dX7_keep_12 : decode cX7_keep 12 = .ok (.aload_n 0, 1) := by decide +kernel
theorem dX7_keep_13 : decode cX7_keep 13 = .ok (.getfield 16, 3) := by decide +kernel
theorem dX7_keep_16 : decode cX7_keep 16 = .ok (.iload_n 1, 1) := by decide +kernel
theorem dX7_keep_17 : decode cX7_keep 17 = .ok (.baload, 1) := by decide +kernel
theorem dX7_keep_18 : decode cX7_keep 18 = .ok (.invokestatic 187, 3) := by decide +kernel
theorem dX7_keep_21 : decode cX7_keep 21 = .ok (.istore_n 2, 1) := by decide +kernel
theorem dX7_keep_22 : decode cX7_keep 22 = .ok (.aload_n 0, 1) := by decide +kernel
theorem dX7_keep_23 : decode cX7_keep 23 = .ok (.getfield 16, 3) := by decide +kernel
theorem dX7_keep_26 : decode cX7_keep 26 = .ok (.iload_n 1, 1) := by decide +kernel
theorem dX7_keep_27 : decode cX7_keep 27 = .ok (.iconst 1, 1) := by decide +kernel
theorem dX7_keep_28 : decode cX7_keep 28 = .ok (.bastore, 1) := by decide +kernel
theorem dX7_keep_29 : decode cX7_keep 29 = .ok (.aload_n 0, 1) := by decide +kernel
theorem dX7_keep_30 : decode cX7_keep 30 = .ok (.bipush 61, 2) := by decide +kernel
theorem dX7_keep_32 : decode cX7_keep 32 = .ok (.iload_n 1, 1) := by decide +kernel
theorem dX7_keep_33 : decode cX7_keep 33 = .ok (.iconst 1, 1) := by decide +kernel
theorem dX7_keep_34 : decode cX7_keep 34 = .ok (.iadd, 1) := by decide +kernel
theorem dX7_keep_35 : decode cX7_keep 35 = .ok (.imul, 1) := by decide +kernel
theorem dX7_keep_36 : decode cX7_keep 36 = .ok (.iconst 0, 1) := by decide +kernel
theorem dX7_keep_37 : decode cX7_keep 37 = .ok (.invokevirtual 286, 3) := by decide +kernel
theorem dX7_keep_40 : decode cX7_keep 40 = .ok (.iload_n 2, 1) := by decide +kernel
theorem dX7_keep_41 : decode cX7_keep 41 = .ok (.ireturn, 1) := by decide +kernel
theorem dX7_back_0 : decode cX7_back 0 = .ok (.iload_n 1, 1) := by decide +kernel
theorem dX7_back_1 : decode cX7_back 1 = .ok (.i2l, 1) := by decide +kernel
theorem dX7_back_2 : decode cX7_back 2 = .ok (.lconst 0, 1) := by decide +kernel
theorem dX7_back_3 : decode cX7_back 3 = .ok (.lconst 1, 1) := by decide +kernel
theorem dX7_back_4 : decode cX7_back 4 = .ok (.invokestatic 65, 3) := by decide +kernel
theorem dX7_back_7 : decode cX7_back 7 = .ok (.ifCond .ne 5, 3) := by decide +kernel
theorem dX7_back_10 : decode cX7_back 10 = .ok (.iconst (-1), 1) := by decide +kernel
theorem dX7_back_11 : decode cX7_back 11 = .ok (.ireturn, 1) := by decide +kernel
theorem dX7_back_12 : decode cX7_back 12 = .ok (.aload_n 0, 1) := by decide +kernel
theorem dX7_back_13 : decode cX7_back 13 = .ok (.getfield 16, 3) := by decide +kernel
theorem dX7_back_16 : decode cX7_back 16 = .ok (.iload_n 1, 1) := by decide +kernel
theorem dX7_back_17 : decode cX7_back 17 = .ok (.baload, 1) := by decide +kernel
theorem dX7_back_18 : decode cX7_back 18 = .ok (.ifCond .ne 6, 3) := by decide +kernel
theorem dX7_back_21 : decode cX7_back 21 = .ok (.bipush (-2), 2) := by decide +kernel
theorem dX7_back_23 : decode cX7_back 23 = .ok (.ireturn, 1) := by decide +kernel
theorem dX7_back_24 : decode cX7_back 24 = .ok (.aload_n 0, 1) := by decide +kernel
theorem dX7_back_25 : decode cX7_back 25 = .ok (.iconst 0, 1) := by decide +kernel
theorem dX7_back_26 : decode cX7_back 26 = .ok (.bipush 61, 2) := by decide +kernel
theorem dX7_back_28 : decode cX7_back 28 = .ok (.iload_n 1, 1) := by decide +kernel
theorem dX7_back_29 : decode cX7_back 29 = .ok (.iconst 1, 1) := by decide +kernel
theorem dX7_back_30 : decode cX7_back 30 = .ok (.iadd, 1) := by decide +kernel
theorem dX7_back_31 : decode cX7_back 31 = .ok (.imul, 1) := by decide +kernel
theorem dX7_back_32 : decode cX7_back 32 = .ok (.invokevirtual 286, 3) := by decide +kernel
theorem dX7_back_35 : decode cX7_back 35 = .ok (.aload_n 0, 1) := by decide +kernel
theorem dX7_back_36 : decode cX7_back 36 = .ok (.getfield 7, 3) := by decide +kernel
theorem dX7_back_39 : decode cX7_back 39 = .ok (.bipush 41, 2) := by decide +kernel
theorem dX7_back_41 : decode cX7_back 41 = .ok (.iaload, 1) := by decide +kernel
theorem dX7_back_42 : decode cX7_back 42 = .ok (.ireturn, 1) := by decide +kernel
theorem dX7_isSheet_0 : decode cX7_isSheet 0 = .ok (.iload_n 0, 1) := by decide +kernel
theorem dX7_isSheet_1 : decode cX7_isSheet 1 = .ok (.i2l, 1) := by decide +kernel
theorem dX7_isSheet_2 : decode cX7_isSheet 2 = .ok (.lconst 0, 1) := by decide +kernel
theorem dX7_isSheet_3 : decode cX7_isSheet 3 = .ok (.ldc2_w 212, 3) := by decide +kernel
theorem dX7_isSheet_6 : decode cX7_isSheet 6 = .ok (.invokestatic 65, 3) := by decide +kernel
theorem dX7_isSheet_9 : decode cX7_isSheet 9 = .ok (.ifCond .eq 19, 3) := by decide +kernel
theorem dX7_isSheet_12 : decode cX7_isSheet 12 = .ok (.iload_n 1, 1) := by decide +kernel
theorem dX7_isSheet_13 : decode cX7_isSheet 13 = .ok (.i2l, 1) := by decide +kernel
theorem dX7_isSheet_14 : decode cX7_isSheet 14 = .ok (.lconst 0, 1) := by decide +kernel
theorem dX7_isSheet_15 : decode cX7_isSheet 15 = .ok (.ldc2_w 289, 3) := by decide +kernel
theorem dX7_isSheet_18 : decode cX7_isSheet 18 = .ok (.invokestatic 65, 3) := by decide +kernel
theorem dX7_isSheet_21 : decode cX7_isSheet 21 = .ok (.ifCond .eq 7, 3) := by decide +kernel
theorem dX7_isSheet_24 : decode cX7_isSheet 24 = .ok (.iconst 1, 1) := by decide +kernel
theorem dX7_isSheet_25 : decode cX7_isSheet 25 = .ok (.goto 4, 3) := by decide +kernel
theorem dX7_isSheet_28 : decode cX7_isSheet 28 = .ok (.iconst 0, 1) := by decide +kernel
theorem dX7_isSheet_29 : decode cX7_isSheet 29 = .ok (.ireturn, 1) := by decide +kernel
theorem dX7_sheet_0 : decode cX7_sheet 0 = .ok (.iload_n 1, 1) := by decide +kernel
theorem dX7_sheet_1 : decode cX7_sheet 1 = .ok (.iload_n 2, 1) := by decide +kernel
theorem dX7_sheet_2 : decode cX7_sheet 2 = .ok (.invokestatic 291, 3) := by decide +kernel
theorem dX7_sheet_5 : decode cX7_sheet 5 = .ok (.ifCond .eq 9, 3) := by decide +kernel
theorem dX7_sheet_8 : decode cX7_sheet 8 = .ok (.iload_n 3, 1) := by decide +kernel
theorem dX7_sheet_9 : decode cX7_sheet 9 = .ok (.bipush 40, 2) := by decide +kernel
theorem dX7_sheet_11 : decode cX7_sheet 11 = .ok (.if_icmp .le 5, 3) := by decide +kernel
theorem dX7_sheet_14 : decode cX7_sheet 14 = .ok (.iconst (-1), 1) := by decide +kernel
theorem dX7_sheet_15 : decode cX7_sheet 15 = .ok (.ireturn, 1) := by decide +kernel
theorem dX7_sheet_16 : decode cX7_sheet 16 = .ok (.iload_n 3, 1) := by decide +kernel
theorem dX7_sheet_17 : decode cX7_sheet 17 = .ok (.ifCond .ge 6, 3) := by decide +kernel
theorem dX7_sheet_20 : decode cX7_sheet 20 = .ok (.bipush (-14), 2) := by decide +kernel
theorem dX7_sheet_22 : decode cX7_sheet 22 = .ok (.ireturn, 1) := by decide +kernel
theorem dX7_sheet_23 : decode cX7_sheet 23 = .ok (.aload_n 0, 1) := by decide +kernel
theorem dX7_sheet_24 : decode cX7_sheet 24 = .ok (.getfield 32, 3) := by decide +kernel
theorem dX7_sheet_27 : decode cX7_sheet 27 = .ok (.iload_n 1, 1) := by decide +kernel
theorem dX7_sheet_28 : decode cX7_sheet 28 = .ok (.iload_n 2, 1) := by decide +kernel
theorem dX7_sheet_29 : decode cX7_sheet 29 = .ok (.iastore, 1) := by decide +kernel
theorem dX7_sheet_30 : decode cX7_sheet 30 = .ok (.aload_n 0, 1) := by decide +kernel
theorem dX7_sheet_31 : decode cX7_sheet 31 = .ok (.getfield 35, 3) := by decide +kernel
theorem dX7_sheet_34 : decode cX7_sheet 34 = .ok (.iload_n 1, 1) := by decide +kernel
theorem dX7_sheet_35 : decode cX7_sheet 35 = .ok (.iload_n 3, 1) := by decide +kernel
theorem dX7_sheet_36 : decode cX7_sheet 36 = .ok (.iastore, 1) := by decide +kernel
theorem dX7_sheet_37 : decode cX7_sheet 37 = .ok (.iconst 0, 1) := by decide +kernel
theorem dX7_sheet_38 : decode cX7_sheet 38 = .ok (.istore 4, 2) := by decide +kernel
theorem dX7_sheet_40 : decode cX7_sheet 40 = .ok (.iload 4, 2) := by decide +kernel
theorem dX7_sheet_42 : decode cX7_sheet 42 = .ok (.bipush 40, 2) := by decide +kernel
theorem dX7_sheet_44 : decode cX7_sheet 44 = .ok (.if_icmp .ge 22, 3) := by decide +kernel
theorem dX7_sheet_47 : decode cX7_sheet 47 = .ok (.aload_n 0, 1) := by decide +kernel
theorem dX7_sheet_48 : decode cX7_sheet 48 = .ok (.getfield 38, 3) := by decide +kernel
theorem dX7_sheet_51 : decode cX7_sheet 51 = .ok (.bipush 40, 2) := by decide +kernel
theorem dX7_sheet_53 : decode cX7_sheet 53 = .ok (.iload_n 1, 1) := by decide +kernel
theorem dX7_sheet_54 : decode cX7_sheet 54 = .ok (.imul, 1) := by decide +kernel
theorem dX7_sheet_55 : decode cX7_sheet 55 = .ok (.iload 4, 2) := by decide +kernel
theorem dX7_sheet_57 : decode cX7_sheet 57 = .ok (.iadd, 1) := by decide +kernel
theorem dX7_sheet_58 : decode cX7_sheet 58 = .ok (.iconst 0, 1) := by decide +kernel
theorem dX7_sheet_59 : decode cX7_sheet 59 = .ok (.iastore, 1) := by decide +kernel
theorem dX7_sheet_60 : decode cX7_sheet 60 = .ok (.iinc 4 1, 3) := by decide +kernel
theorem dX7_sheet_63 : decode cX7_sheet 63 = .ok (.goto (-23), 3) := by decide +kernel
theorem dX7_sheet_66 : decode cX7_sheet 66 = .ok (.iconst 1, 1) := by decide +kernel
theorem dX7_sheet_67 : decode cX7_sheet 67 = .ok (.ireturn, 1) := by decide +kernel
theorem dX7_lay_0 : decode cX7_lay 0 = .ok (.iload_n 1, 1) := by decide +kernel
theorem dX7_lay_1 : decode cX7_lay 1 = .ok (.iconst 0, 1) := by decide +kernel
theorem dX7_lay_2 : decode cX7_lay 2 = .ok (.invokestatic 291, 3) := by decide +kernel
theorem dX7_lay_5 : decode cX7_lay 5 = .ok (.ifCond .ne 5, 3) := by decide +kernel
theorem dX7_lay_8 : decode cX7_lay 8 = .ok (.iconst (-1), 1) := by decide +kernel
theorem dX7_lay_9 : decode cX7_lay 9 = .ok (.ireturn, 1) := by decide +kernel
theorem dX7_lay_10 : decode cX7_lay 10 = .ok (.aload_n 0, 1) := by decide +kernel
theorem dX7_lay_11 : decode cX7_lay 11 = .ok (.getfield 32, 3) := by decide +kernel
theorem dX7_lay_14 : decode cX7_lay 14 = .ok (.iload_n 1, 1) := by decide +kernel
theorem dX7_lay_15 : decode cX7_lay 15 = .ok (.iaload, 1) := by decide +kernel
theorem dX7_lay_16 : decode cX7_lay 16 = .ok (.bipush (-4), 2) := by decide +kernel
theorem dX7_lay_18 : decode cX7_lay 18 = .ok (.if_icmp .ne 6, 3) := by decide +kernel
theorem dX7_lay_21 : decode cX7_lay 21 = .ok (.bipush (-11), 2) := by decide +kernel
theorem dX7_lay_23 : decode cX7_lay 23 = .ok (.ireturn, 1) := by decide +kernel
theorem dX7_lay_24 : decode cX7_lay 24 = .ok (.iload_n 2, 1) := by decide +kernel
theorem dX7_lay_25 : decode cX7_lay 25 = .ok (.i2l, 1) := by decide +kernel
theorem dX7_lay_26 : decode cX7_lay 26 = .ok (.lconst 0, 1) := by decide +kernel
theorem dX7_lay_27 : decode cX7_lay 27 = .ok (.aload_n 0, 1) := by decide +kernel
theorem dX7_lay_28 : decode cX7_lay 28 = .ok (.getfield 35, 3) := by decide +kernel
theorem dX7_lay_31 : decode cX7_lay 31 = .ok (.iload_n 1, 1) := by decide +kernel
theorem dX7_lay_32 : decode cX7_lay 32 = .ok (.iaload, 1) := by decide +kernel
theorem dX7_lay_33 : decode cX7_lay 33 = .ok (.iconst 1, 1) := by decide +kernel
theorem dX7_lay_34 : decode cX7_lay 34 = .ok (.isub, 1) := by decide +kernel
theorem dX7_lay_35 : decode cX7_lay 35 = .ok (.i2l, 1) := by decide +kernel
theorem dX7_lay_36 : decode cX7_lay 36 = .ok (.invokestatic 65, 3) := by decide +kernel
theorem dX7_lay_39 : decode cX7_lay 39 = .ok (.ifCond .ne 6, 3) := by decide +kernel
theorem dX7_lay_42 : decode cX7_lay 42 = .ok (.bipush (-12), 2) := by decide +kernel
theorem dX7_lay_44 : decode cX7_lay 44 = .ok (.ireturn, 1) := by decide +kernel
theorem dX7_lay_45 : decode cX7_lay 45 = .ok (.aload_n 0, 1) := by decide +kernel
theorem dX7_lay_46 : decode cX7_lay 46 = .ok (.getfield 38, 3) := by decide +kernel
theorem dX7_lay_49 : decode cX7_lay 49 = .ok (.bipush 40, 2) := by decide +kernel
theorem dX7_lay_51 : decode cX7_lay 51 = .ok (.iload_n 1, 1) := by decide +kernel
theorem dX7_lay_52 : decode cX7_lay 52 = .ok (.imul, 1) := by decide +kernel
theorem dX7_lay_53 : decode cX7_lay 53 = .ok (.iload_n 2, 1) := by decide +kernel
theorem dX7_lay_54 : decode cX7_lay 54 = .ok (.iadd, 1) := by decide +kernel
theorem dX7_lay_55 : decode cX7_lay 55 = .ok (.aload_n 0, 1) := by decide +kernel
theorem dX7_lay_56 : decode cX7_lay 56 = .ok (.getfield 32, 3) := by decide +kernel
theorem dX7_lay_59 : decode cX7_lay 59 = .ok (.iload_n 1, 1) := by decide +kernel
theorem dX7_lay_60 : decode cX7_lay 60 = .ok (.iaload, 1) := by decide +kernel
theorem dX7_lay_61 : decode cX7_lay 61 = .ok (.ifCond .ne 8, 3) := by decide +kernel
theorem dX7_lay_64 : decode cX7_lay 64 = .ok (.iload_n 3, 1) := by decide +kernel
theorem dX7_lay_65 : decode cX7_lay 65 = .ok (.i2b, 1) := by decide +kernel
theorem dX7_lay_66 : decode cX7_lay 66 = .ok (.goto 19, 3) := by decide +kernel
theorem dX7_lay_69 : decode cX7_lay 69 = .ok (.aload_n 0, 1) := by decide +kernel
theorem dX7_lay_70 : decode cX7_lay 70 = .ok (.getfield 32, 3) := by decide +kernel
theorem dX7_lay_73 : decode cX7_lay 73 = .ok (.iload_n 1, 1) := by decide +kernel
theorem dX7_lay_74 : decode cX7_lay 74 = .ok (.iaload, 1) := by decide +kernel
theorem dX7_lay_75 : decode cX7_lay 75 = .ok (.iconst 1, 1) := by decide +kernel
theorem dX7_lay_76 : decode cX7_lay 76 = .ok (.if_icmp .ne 8, 3) := by decide +kernel
theorem dX7_lay_79 : decode cX7_lay 79 = .ok (.iload_n 3, 1) := by decide +kernel
theorem dX7_lay_80 : decode cX7_lay 80 = .ok (.i2s, 1) := by decide +kernel
theorem dX7_lay_81 : decode cX7_lay 81 = .ok (.goto 4, 3) := by decide +kernel
theorem dX7_lay_84 : decode cX7_lay 84 = .ok (.iload_n 3, 1) := by decide +kernel
theorem dX7_lay_85 : decode cX7_lay 85 = .ok (.iastore, 1) := by decide +kernel
theorem dX7_lay_86 : decode cX7_lay 86 = .ok (.iconst 1, 1) := by decide +kernel
theorem dX7_lay_87 : decode cX7_lay 87 = .ok (.ireturn, 1) := by decide +kernel
theorem dX7_read_0 : decode cX7_read 0 = .ok (.iload_n 1, 1) := by decide +kernel
theorem dX7_read_1 : decode cX7_read 1 = .ok (.iload_n 2, 1) := by decide +kernel
theorem dX7_read_2 : decode cX7_read 2 = .ok (.invokestatic 291, 3) := by decide +kernel
theorem dX7_read_5 : decode cX7_read 5 = .ok (.ifCond .eq 16, 3) := by decide +kernel
theorem dX7_read_8 : decode cX7_read 8 = .ok (.iload 4, 2) := by decide +kernel
theorem dX7_read_10 : decode cX7_read 10 = .ok (.i2l, 1) := by decide +kernel
theorem dX7_read_11 : decode cX7_read 11 = .ok (.lconst 0, 1) := by decide +kernel
theorem dX7_read_12 : decode cX7_read 12 = .ok (.ldc2_w 294, 3) := by decide +kernel
theorem dX7_read_15 : decode cX7_read 15 = .ok (.invokestatic 65, 3) := by decide +kernel
theorem dX7_read_18 : decode cX7_read 18 = .ok (.ifCond .ne 5, 3) := by decide +kernel
theorem dX7_read_21 : decode cX7_read 21 = .ok (.iconst (-1), 1) := by decide +kernel
theorem dX7_read_22 : decode cX7_read 22 = .ok (.ireturn, 1) := by decide +kernel
theorem dX7_read_23 : decode cX7_read 23 = .ok (.iconst 0, 1) := by decide +kernel
theorem dX7_read_24 : decode cX7_read 24 = .ok (.istore 5, 2) := by decide +kernel
theorem dX7_read_26 : decode cX7_read 26 = .ok (.iload 5, 2) := by decide +kernel
theorem dX7_read_28 : decode cX7_read 28 = .ok (.bipush 61, 2) := by decide +kernel
theorem dX7_read_30 : decode cX7_read 30 = .ok (.if_icmp .ge 23, 3) := by decide +kernel
theorem dX7_read_33 : decode cX7_read 33 = .ok (.aload_n 0, 1) := by decide +kernel
theorem dX7_read_34 : decode cX7_read 34 = .ok (.getfield 41, 3) := by decide +kernel
theorem dX7_read_37 : decode cX7_read 37 = .ok (.iload 5, 2) := by decide +kernel
theorem dX7_read_39 : decode cX7_read 39 = .ok (.aload_n 0, 1) := by decide +kernel
theorem dX7_read_40 : decode cX7_read 40 = .ok (.getfield 7, 3) := by decide +kernel
theorem dX7_read_43 : decode cX7_read 43 = .ok (.iload 5, 2) := by decide +kernel
theorem dX7_read_45 : decode cX7_read 45 = .ok (.iaload, 1) := by decide +kernel
theorem dX7_read_46 : decode cX7_read 46 = .ok (.iastore, 1) := by decide +kernel
theorem dX7_read_47 : decode cX7_read 47 = .ok (.iinc 5 1, 3) := by decide +kernel
theorem dX7_read_50 : decode cX7_read 50 = .ok (.goto (-24), 3) := by decide +kernel
theorem dX7_read_53 : decode cX7_read 53 = .ok (.iconst 0, 1) := by decide +kernel
theorem dX7_read_54 : decode cX7_read 54 = .ok (.istore 5, 2) := by decide +kernel
theorem dX7_read_56 : decode cX7_read 56 = .ok (.iconst 0, 1) := by decide +kernel
theorem dX7_read_57 : decode cX7_read 57 = .ok (.istore 6, 2) := by decide +kernel
theorem dX7_read_59 : decode cX7_read 59 = .ok (.iconst 0, 1) := by decide +kernel
theorem dX7_read_60 : decode cX7_read 60 = .ok (.istore 7, 2) := by decide +kernel
theorem dX7_read_62 : decode cX7_read 62 = .ok (.iload 7, 2) := by decide +kernel
theorem dX7_read_64 : decode cX7_read 64 = .ok (.iload 4, 2) := by decide +kernel
theorem dX7_read_66 : decode cX7_read 66 = .ok (.if_icmp .ge 193, 3) := by decide +kernel
theorem dX7_read_69 : decode cX7_read 69 = .ok (.iload 5, 2) := by decide +kernel
theorem dX7_read_71 : decode cX7_read 71 = .ok (.ifCond .ne 188, 3) := by decide +kernel
theorem dX7_read_74 : decode cX7_read 74 = .ok (.iconst 0, 1) := by decide +kernel
theorem dX7_read_75 : decode cX7_read 75 = .ok (.istore 8, 2) := by decide +kernel
theorem dX7_read_77 : decode cX7_read 77 = .ok (.iload 8, 2) := by decide +kernel
theorem dX7_read_79 : decode cX7_read 79 = .ok (.iconst 3, 1) := by decide +kernel
theorem dX7_read_80 : decode cX7_read 80 = .ok (.if_icmp .ge 84, 3) := by decide +kernel
theorem dX7_read_83 : decode cX7_read 83 = .ok (.iload 5, 2) := by decide +kernel
theorem dX7_read_85 : decode cX7_read 85 = .ok (.ifCond .ne 79, 3) := by decide +kernel
theorem dX7_read_88 : decode cX7_read 88 = .ok (.iload_n 3, 1) := by decide +kernel
theorem dX7_read_89 : decode cX7_read 89 = .ok (.i2l, 1) := by decide +kernel
theorem dX7_read_90 : decode cX7_read 90 = .ok (.iconst 3, 1) := by decide +kernel
theorem dX7_read_91 : decode cX7_read 91 = .ok (.iload 7, 2) := by decide +kernel
theorem dX7_read_93 : decode cX7_read 93 = .ok (.imul, 1) := by decide +kernel
theorem dX7_read_94 : decode cX7_read 94 = .ok (.i2l, 1) := by decide +kernel
theorem dX7_read_95 : decode cX7_read 95 = .ok (.ladd, 1) := by decide +kernel
theorem dX7_read_96 : decode cX7_read 96 = .ok (.iload 8, 2) := by decide +kernel
theorem dX7_read_98 : decode cX7_read 98 = .ok (.i2l, 1) := by decide +kernel
theorem dX7_read_99 : decode cX7_read 99 = .ok (.ladd, 1) := by decide +kernel
theorem dX7_read_100 : decode cX7_read 100 = .ok (.lstore 9, 2) := by decide +kernel
theorem dX7_read_102 : decode cX7_read 102 = .ok (.aload_n 0, 1) := by decide +kernel
theorem dX7_read_103 : decode cX7_read 103 = .ok (.getfield 32, 3) := by decide +kernel
theorem dX7_read_106 : decode cX7_read 106 = .ok (.iload_n 1, 1) := by decide +kernel
theorem dX7_read_107 : decode cX7_read 107 = .ok (.iaload, 1) := by decide +kernel
theorem dX7_read_108 : decode cX7_read 108 = .ok (.bipush (-4), 2) := by decide +kernel
theorem dX7_read_110 : decode cX7_read 110 = .ok (.if_icmp .ne 7, 3) := by decide +kernel
theorem dX7_read_113 : decode cX7_read 113 = .ok (.iconst 1, 1) := by decide +kernel
theorem dX7_read_114 : decode cX7_read 114 = .ok (.goto 42, 3) := by decide +kernel
theorem dX7_read_117 : decode cX7_read 117 = .ok (.aload_n 0, 1) := by decide +kernel
theorem dX7_read_118 : decode cX7_read 118 = .ok (.getfield 32, 3) := by decide +kernel
theorem dX7_read_121 : decode cX7_read 121 = .ok (.iload_n 1, 1) := by decide +kernel
theorem dX7_read_122 : decode cX7_read 122 = .ok (.iaload, 1) := by decide +kernel
theorem dX7_read_123 : decode cX7_read 123 = .ok (.iload_n 2, 1) := by decide +kernel
theorem dX7_read_124 : decode cX7_read 124 = .ok (.if_icmp .eq 7, 3) := by decide +kernel
theorem dX7_read_127 : decode cX7_read 127 = .ok (.iconst 3, 1) := by decide +kernel
theorem dX7_read_128 : decode cX7_read 128 = .ok (.goto 28, 3) := by decide +kernel
theorem dX7_read_131 : decode cX7_read 131 = .ok (.lload 9, 2) := by decide +kernel
theorem dX7_read_133 : decode cX7_read 133 = .ok (.lconst 0, 1) := by decide +kernel
theorem dX7_read_134 : decode cX7_read 134 = .ok (.lcmp, 1) := by decide +kernel
theorem dX7_read_135 : decode cX7_read 135 = .ok (.ifCond .lt 16, 3) := by decide +kernel
theorem dX7_read_138 : decode cX7_read 138 = .ok (.lload 9, 2) := by decide +kernel
theorem dX7_read_140 : decode cX7_read 140 = .ok (.aload_n 0, 1) := by decide +kernel
theorem dX7_read_141 : decode cX7_read 141 = .ok (.getfield 35, 3) := by decide +kernel
theorem dX7_read_144 : decode cX7_read 144 = .ok (.iload_n 1, 1) := by decide +kernel
theorem dX7_read_145 : decode cX7_read 145 = .ok (.iaload, 1) := by decide +kernel
theorem dX7_read_146 : decode cX7_read 146 = .ok (.i2l, 1) := by decide +kernel
theorem dX7_read_147 : decode cX7_read 147 = .ok (.lcmp, 1) := by decide +kernel
theorem dX7_read_148 : decode cX7_read 148 = .ok (.ifCond .lt 7, 3) := by decide +kernel
theorem dX7_read_151 : decode cX7_read 151 = .ok (.iconst 2, 1) := by decide +kernel
theorem dX7_read_152 : decode cX7_read 152 = .ok (.goto 4, 3) := by decide +kernel
theorem dX7_read_155 : decode cX7_read 155 = .ok (.iconst 0, 1) := by decide +kernel
theorem dX7_read_156 : decode cX7_read 156 = .ok (.istore 5, 2) := by decide +kernel
theorem dX7_read_158 : decode cX7_read 158 = .ok (.iinc 8 1, 3) := by decide +kernel
theorem dX7_read_161 : decode cX7_read 161 = .ok (.goto (-84), 3) := by decide +kernel
theorem dX7_read_164 : decode cX7_read 164 = .ok (.iload 5, 2) := by decide +kernel
theorem dX7_read_166 : decode cX7_read 166 = .ok (.ifCond .ne 87, 3) := by decide +kernel
theorem dX7_read_169 : decode cX7_read 169 = .ok (.bipush 40, 2) := by decide +kernel
theorem dX7_read_171 : decode cX7_read 171 = .ok (.iload_n 1, 1) := by decide +kernel
theorem dX7_read_172 : decode cX7_read 172 = .ok (.imul, 1) := by decide +kernel
theorem dX7_read_173 : decode cX7_read 173 = .ok (.iload_n 3, 1) := by decide +kernel
theorem dX7_read_174 : decode cX7_read 174 = .ok (.iadd, 1) := by decide +kernel
theorem dX7_read_175 : decode cX7_read 175 = .ok (.iconst 3, 1) := by decide +kernel
theorem dX7_read_176 : decode cX7_read 176 = .ok (.iload 7, 2) := by decide +kernel
theorem dX7_read_178 : decode cX7_read 178 = .ok (.imul, 1) := by decide +kernel
theorem dX7_read_179 : decode cX7_read 179 = .ok (.iadd, 1) := by decide +kernel
theorem dX7_read_180 : decode cX7_read 180 = .ok (.istore 8, 2) := by decide +kernel
theorem dX7_read_182 : decode cX7_read 182 = .ok (.aload_n 0, 1) := by decide +kernel
theorem dX7_read_183 : decode cX7_read 183 = .ok (.aload_n 0, 1) := by decide +kernel
theorem dX7_read_184 : decode cX7_read 184 = .ok (.getfield 38, 3) := by decide +kernel
theorem dX7_read_187 : decode cX7_read 187 = .ok (.iload 8, 2) := by decide +kernel
theorem dX7_read_189 : decode cX7_read 189 = .ok (.iaload, 1) := by decide +kernel
theorem dX7_read_190 : decode cX7_read 190 = .ok (.aload_n 0, 1) := by decide +kernel
theorem dX7_read_191 : decode cX7_read 191 = .ok (.getfield 38, 3) := by decide +kernel
theorem dX7_read_194 : decode cX7_read 194 = .ok (.iload 8, 2) := by decide +kernel
theorem dX7_read_196 : decode cX7_read 196 = .ok (.iconst 1, 1) := by decide +kernel
theorem dX7_read_197 : decode cX7_read 197 = .ok (.iadd, 1) := by decide +kernel
theorem dX7_read_198 : decode cX7_read 198 = .ok (.iaload, 1) := by decide +kernel
theorem dX7_read_199 : decode cX7_read 199 = .ok (.aload_n 0, 1) := by decide +kernel
theorem dX7_read_200 : decode cX7_read 200 = .ok (.getfield 38, 3) := by decide +kernel
theorem dX7_read_203 : decode cX7_read 203 = .ok (.iload 8, 2) := by decide +kernel
theorem dX7_read_205 : decode cX7_read 205 = .ok (.iconst 2, 1) := by decide +kernel
theorem dX7_read_206 : decode cX7_read 206 = .ok (.iadd, 1) := by decide +kernel
theorem dX7_read_207 : decode cX7_read 207 = .ok (.iaload, 1) := by decide +kernel
theorem dX7_read_208 : decode cX7_read 208 = .ok (.invokevirtual 296, 3) := by decide +kernel
theorem dX7_read_211 : decode cX7_read 211 = .ok (.ifCond .ge 39, 3) := by decide +kernel
theorem dX7_read_214 : decode cX7_read 214 = .ok (.iconst 0, 1) := by decide +kernel
theorem dX7_read_215 : decode cX7_read 215 = .ok (.istore 9, 2) := by decide +kernel
theorem dX7_read_217 : decode cX7_read 217 = .ok (.iload 9, 2) := by decide +kernel
theorem dX7_read_219 : decode cX7_read 219 = .ok (.bipush 61, 2) := by decide +kernel
theorem dX7_read_221 : decode cX7_read 221 = .ok (.if_icmp .ge 23, 3) := by decide +kernel
theorem dX7_read_224 : decode cX7_read 224 = .ok (.aload_n 0, 1) := by decide +kernel
theorem dX7_read_225 : decode cX7_read 225 = .ok (.getfield 7, 3) := by decide +kernel
theorem dX7_read_228 : decode cX7_read 228 = .ok (.iload 9, 2) := by decide +kernel
theorem dX7_read_230 : decode cX7_read 230 = .ok (.aload_n 0, 1) := by decide +kernel
theorem dX7_read_231 : decode cX7_read 231 = .ok (.getfield 41, 3) := by decide +kernel
theorem dX7_read_234 : decode cX7_read 234 = .ok (.iload 9, 2) := by decide +kernel
theorem dX7_read_236 : decode cX7_read 236 = .ok (.iaload, 1) := by decide +kernel
theorem dX7_read_237 : decode cX7_read 237 = .ok (.iastore, 1) := by decide +kernel
theorem dX7_read_238 : decode cX7_read 238 = .ok (.iinc 9 1, 3) := by decide +kernel
theorem dX7_read_241 : decode cX7_read 241 = .ok (.goto (-24), 3) := by decide +kernel
theorem dX7_read_244 : decode cX7_read 244 = .ok (.bipush (-20), 2) := by decide +kernel
theorem dX7_read_246 : decode cX7_read 246 = .ok (.iload 7, 2) := by decide +kernel
theorem dX7_read_248 : decode cX7_read 248 = .ok (.isub, 1) := by decide +kernel
theorem dX7_read_249 : decode cX7_read 249 = .ok (.ireturn, 1) := by decide +kernel
theorem dX7_read_250 : decode cX7_read 250 = .ok (.iinc 6 1, 3) := by decide +kernel
theorem dX7_read_253 : decode cX7_read 253 = .ok (.iinc 7 1, 3) := by decide +kernel
theorem dX7_read_256 : decode cX7_read 256 = .ok (.goto (-194), 3) := by decide +kernel
theorem dX7_read_259 : decode cX7_read 259 = .ok (.aload_n 0, 1) := by decide +kernel
theorem dX7_read_260 : decode cX7_read 260 = .ok (.iload 5, 2) := by decide +kernel
theorem dX7_read_262 : decode cX7_read 262 = .ok (.putfield 300, 3) := by decide +kernel
theorem dX7_read_265 : decode cX7_read 265 = .ok (.iload 6, 2) := by decide +kernel
theorem dX7_read_267 : decode cX7_read 267 = .ok (.ireturn, 1) := by decide +kernel
theorem dX7_torn_0 : decode cX7_torn 0 = .ok (.aload_n 0, 1) := by decide +kernel
theorem dX7_torn_1 : decode cX7_torn 1 = .ok (.getfield 300, 3) := by decide +kernel
theorem dX7_torn_4 : decode cX7_torn 4 = .ok (.ireturn, 1) := by decide +kernel
theorem dX7_count_0 : decode cX7_count 0 = .ok (.aload_n 0, 1) := by decide +kernel
theorem dX7_count_1 : decode cX7_count 1 = .ok (.invokevirtual 191, 3) := by decide +kernel
theorem dX7_count_4 : decode cX7_count 4 = .ok (.iconst 0, 1) := by decide +kernel
theorem dX7_count_5 : decode cX7_count 5 = .ok (.istore_n 2, 1) := by decide +kernel
theorem dX7_count_6 : decode cX7_count 6 = .ok (.iconst 0, 1) := by decide +kernel
theorem dX7_count_7 : decode cX7_count 7 = .ok (.istore_n 3, 1) := by decide +kernel
theorem dX7_count_8 : decode cX7_count 8 = .ok (.iconst 0, 1) := by decide +kernel
theorem dX7_count_9 : decode cX7_count 9 = .ok (.istore 4, 2) := by decide +kernel
theorem dX7_count_11 : decode cX7_count 11 = .ok (.iload 4, 2) := by decide +kernel
theorem dX7_count_13 : decode cX7_count 13 = .ok (.aload_n 0, 1) := by decide +kernel
theorem dX7_count_14 : decode cX7_count 14 = .ok (.getfield 7, 3) := by decide +kernel
theorem dX7_count_17 : decode cX7_count 17 = .ok (.bipush 34, 2) := by decide +kernel
theorem dX7_count_19 : decode cX7_count 19 = .ok (.iaload, 1) := by decide +kernel
theorem dX7_count_20 : decode cX7_count 20 = .ok (.if_icmp .ge 19, 3) := by decide +kernel
theorem dX7_count_23 : decode cX7_count 23 = .ok (.iload_n 2, 1) := by decide +kernel
theorem dX7_count_24 : decode cX7_count 24 = .ok (.aload_n 0, 1) := by decide +kernel
theorem dX7_count_25 : decode cX7_count 25 = .ok (.iload 4, 2) := by decide +kernel
theorem dX7_count_27 : decode cX7_count 27 = .ok (.iconst 1, 1) := by decide +kernel
theorem dX7_count_28 : decode cX7_count 28 = .ok (.invokevirtual 143, 3) := by decide +kernel
theorem dX7_count_31 : decode cX7_count 31 = .ok (.iadd, 1) := by decide +kernel
theorem dX7_count_32 : decode cX7_count 32 = .ok (.istore_n 2, 1) := by decide +kernel
theorem dX7_count_33 : decode cX7_count 33 = .ok (.iinc 4 1, 3) := by decide +kernel
theorem dX7_count_36 : decode cX7_count 36 = .ok (.goto (-25), 3) := by decide +kernel
theorem dX7_count_39 : decode cX7_count 39 = .ok (.iconst 0, 1) := by decide +kernel
theorem dX7_count_40 : decode cX7_count 40 = .ok (.istore 4, 2) := by decide +kernel
theorem dX7_count_42 : decode cX7_count 42 = .ok (.iload 4, 2) := by decide +kernel
theorem dX7_count_44 : decode cX7_count 44 = .ok (.bipush 6, 2) := by decide +kernel
theorem dX7_count_46 : decode cX7_count 46 = .ok (.if_icmp .ge 22, 3) := by decide +kernel
theorem dX7_count_49 : decode cX7_count 49 = .ok (.iload_n 3, 1) := by decide +kernel
theorem dX7_count_50 : decode cX7_count 50 = .ok (.aload_n 0, 1) := by decide +kernel
theorem dX7_count_51 : decode cX7_count 51 = .ok (.getfield 7, 3) := by decide +kernel
theorem dX7_count_54 : decode cX7_count 54 = .ok (.bipush 35, 2) := by decide +kernel
theorem dX7_count_56 : decode cX7_count 56 = .ok (.iload 4, 2) := by decide +kernel
theorem dX7_count_58 : decode cX7_count 58 = .ok (.iadd, 1) := by decide +kernel
theorem dX7_count_59 : decode cX7_count 59 = .ok (.iaload, 1) := by decide +kernel
theorem dX7_count_60 : decode cX7_count 60 = .ok (.iadd, 1) := by decide +kernel
theorem dX7_count_61 : decode cX7_count 61 = .ok (.istore_n 3, 1) := by decide +kernel
theorem dX7_count_62 : decode cX7_count 62 = .ok (.iinc 4 1, 3) := by decide +kernel
theorem dX7_count_65 : decode cX7_count 65 = .ok (.goto (-23), 3) := by decide +kernel
theorem dX7_count_68 : decode cX7_count 68 = .ok (.iload_n 1, 1) := by decide +kernel
theorem dX7_count_69 : decode cX7_count 69 = .ok (.tableswitch 99 0 5 #[39, 47, 67, 72, 95, 97], 39) := by decide +kernel
theorem dX7_count_108 : decode cX7_count 108 = .ok (.aload_n 0, 1) := by decide +kernel
theorem dX7_count_109 : decode cX7_count 109 = .ok (.getfield 7, 3) := by decide +kernel
theorem dX7_count_112 : decode cX7_count 112 = .ok (.bipush 42, 2) := by decide +kernel
theorem dX7_count_114 : decode cX7_count 114 = .ok (.iaload, 1) := by decide +kernel
theorem dX7_count_115 : decode cX7_count 115 = .ok (.ireturn, 1) := by decide +kernel
theorem dX7_count_116 : decode cX7_count 116 = .ok (.aload_n 0, 1) := by decide +kernel
theorem dX7_count_117 : decode cX7_count 117 = .ok (.getfield 16, 3) := by decide +kernel
theorem dX7_count_120 : decode cX7_count 120 = .ok (.iconst 0, 1) := by decide +kernel
theorem dX7_count_121 : decode cX7_count 121 = .ok (.baload, 1) := by decide +kernel
theorem dX7_count_122 : decode cX7_count 122 = .ok (.invokestatic 187, 3) := by decide +kernel
theorem dX7_count_125 : decode cX7_count 125 = .ok (.aload_n 0, 1) := by decide +kernel
theorem dX7_count_126 : decode cX7_count 126 = .ok (.getfield 16, 3) := by decide +kernel
theorem dX7_count_129 : decode cX7_count 129 = .ok (.iconst 1, 1) := by decide +kernel
theorem dX7_count_130 : decode cX7_count 130 = .ok (.baload, 1) := by decide +kernel
theorem dX7_count_131 : decode cX7_count 131 = .ok (.invokestatic 187, 3) := by decide +kernel
theorem dX7_count_134 : decode cX7_count 134 = .ok (.iadd, 1) := by decide +kernel
theorem dX7_count_135 : decode cX7_count 135 = .ok (.ireturn, 1) := by decide +kernel
theorem dX7_count_136 : decode cX7_count 136 = .ok (.aload_n 0, 1) := by decide +kernel
theorem dX7_count_137 : decode cX7_count 137 = .ok (.getfield 69, 3) := by decide +kernel
theorem dX7_count_140 : decode cX7_count 140 = .ok (.ireturn, 1) := by decide +kernel
theorem dX7_count_141 : decode cX7_count 141 = .ok (.aload_n 0, 1) := by decide +kernel
theorem dX7_count_142 : decode cX7_count 142 = .ok (.getfield 32, 3) := by decide +kernel
theorem dX7_count_145 : decode cX7_count 145 = .ok (.iconst 0, 1) := by decide +kernel
theorem dX7_count_146 : decode cX7_count 146 = .ok (.iaload, 1) := by decide +kernel
theorem dX7_count_147 : decode cX7_count 147 = .ok (.bipush (-4), 2) := by decide +kernel
theorem dX7_count_149 : decode cX7_count 149 = .ok (.if_icmp .ne 8, 3) := by decide +kernel
theorem dX7_count_152 : decode cX7_count 152 = .ok (.bipush (-4), 2) := by decide +kernel
theorem dX7_count_154 : decode cX7_count 154 = .ok (.goto 9, 3) := by decide +kernel
theorem dX7_count_157 : decode cX7_count 157 = .ok (.aload_n 0, 1) := by decide +kernel
theorem dX7_count_158 : decode cX7_count 158 = .ok (.getfield 35, 3) := by decide +kernel
theorem dX7_count_161 : decode cX7_count 161 = .ok (.iconst 0, 1) := by decide +kernel
theorem dX7_count_162 : decode cX7_count 162 = .ok (.iaload, 1) := by decide +kernel
theorem dX7_count_163 : decode cX7_count 163 = .ok (.ireturn, 1) := by decide +kernel
theorem dX7_count_164 : decode cX7_count 164 = .ok (.iload_n 2, 1) := by decide +kernel
theorem dX7_count_165 : decode cX7_count 165 = .ok (.ireturn, 1) := by decide +kernel
theorem dX7_count_166 : decode cX7_count 166 = .ok (.iload_n 3, 1) := by decide +kernel
theorem dX7_count_167 : decode cX7_count 167 = .ok (.ireturn, 1) := by decide +kernel
theorem dX7_count_168 : decode cX7_count 168 = .ok (.iconst (-1), 1) := by decide +kernel
theorem dX7_count_169 : decode cX7_count 169 = .ok (.ireturn, 1) := by decide +kernel
theorem dJ6_bitCount_0f7a4_0 : decode cJ6_bitCount_0f7a4 0 = .ok (.iload_n 0, 1) := by decide +kernel
theorem dJ6_bitCount_0f7a4_1 : decode cJ6_bitCount_0f7a4 1 = .ok (.iload_n 0, 1) := by decide +kernel
theorem dJ6_bitCount_0f7a4_2 : decode cJ6_bitCount_0f7a4 2 = .ok (.iconst 1, 1) := by decide +kernel
theorem dJ6_bitCount_0f7a4_3 : decode cJ6_bitCount_0f7a4 3 = .ok (.iushr, 1) := by decide +kernel
theorem dJ6_bitCount_0f7a4_4 : decode cJ6_bitCount_0f7a4 4 = .ok (.ldc_w 265, 3) := by decide +kernel
theorem dJ6_bitCount_0f7a4_7 : decode cJ6_bitCount_0f7a4 7 = .ok (.iand, 1) := by decide +kernel
theorem dJ6_bitCount_0f7a4_8 : decode cJ6_bitCount_0f7a4 8 = .ok (.isub, 1) := by decide +kernel
theorem dJ6_bitCount_0f7a4_9 : decode cJ6_bitCount_0f7a4 9 = .ok (.istore_n 0, 1) := by decide +kernel
theorem dJ6_bitCount_0f7a4_10 : decode cJ6_bitCount_0f7a4 10 = .ok (.iload_n 0, 1) := by decide +kernel
theorem dJ6_bitCount_0f7a4_11 : decode cJ6_bitCount_0f7a4 11 = .ok (.ldc_w 266, 3) := by decide +kernel
theorem dJ6_bitCount_0f7a4_14 : decode cJ6_bitCount_0f7a4 14 = .ok (.iand, 1) := by decide +kernel
theorem dJ6_bitCount_0f7a4_15 : decode cJ6_bitCount_0f7a4 15 = .ok (.iload_n 0, 1) := by decide +kernel
theorem dJ6_bitCount_0f7a4_16 : decode cJ6_bitCount_0f7a4 16 = .ok (.iconst 2, 1) := by decide +kernel
theorem dJ6_bitCount_0f7a4_17 : decode cJ6_bitCount_0f7a4 17 = .ok (.iushr, 1) := by decide +kernel
theorem dJ6_bitCount_0f7a4_18 : decode cJ6_bitCount_0f7a4 18 = .ok (.ldc_w 266, 3) := by decide +kernel
theorem dJ6_bitCount_0f7a4_21 : decode cJ6_bitCount_0f7a4 21 = .ok (.iand, 1) := by decide +kernel
theorem dJ6_bitCount_0f7a4_22 : decode cJ6_bitCount_0f7a4 22 = .ok (.iadd, 1) := by decide +kernel
theorem dJ6_bitCount_0f7a4_23 : decode cJ6_bitCount_0f7a4 23 = .ok (.istore_n 0, 1) := by decide +kernel
theorem dJ6_bitCount_0f7a4_24 : decode cJ6_bitCount_0f7a4 24 = .ok (.iload_n 0, 1) := by decide +kernel
theorem dJ6_bitCount_0f7a4_25 : decode cJ6_bitCount_0f7a4 25 = .ok (.iload_n 0, 1) := by decide +kernel
theorem dJ6_bitCount_0f7a4_26 : decode cJ6_bitCount_0f7a4 26 = .ok (.iconst 4, 1) := by decide +kernel
theorem dJ6_bitCount_0f7a4_27 : decode cJ6_bitCount_0f7a4 27 = .ok (.iushr, 1) := by decide +kernel
theorem dJ6_bitCount_0f7a4_28 : decode cJ6_bitCount_0f7a4 28 = .ok (.iadd, 1) := by decide +kernel
theorem dJ6_bitCount_0f7a4_29 : decode cJ6_bitCount_0f7a4 29 = .ok (.ldc_w 267, 3) := by decide +kernel
theorem dJ6_bitCount_0f7a4_32 : decode cJ6_bitCount_0f7a4 32 = .ok (.iand, 1) := by decide +kernel
theorem dJ6_bitCount_0f7a4_33 : decode cJ6_bitCount_0f7a4 33 = .ok (.istore_n 0, 1) := by decide +kernel
theorem dJ6_bitCount_0f7a4_34 : decode cJ6_bitCount_0f7a4 34 = .ok (.iload_n 0, 1) := by decide +kernel
theorem dJ6_bitCount_0f7a4_35 : decode cJ6_bitCount_0f7a4 35 = .ok (.iload_n 0, 1) := by decide +kernel
theorem dJ6_bitCount_0f7a4_36 : decode cJ6_bitCount_0f7a4 36 = .ok (.bipush 8, 2) := by decide +kernel
theorem dJ6_bitCount_0f7a4_38 : decode cJ6_bitCount_0f7a4 38 = .ok (.iushr, 1) := by decide +kernel
theorem dJ6_bitCount_0f7a4_39 : decode cJ6_bitCount_0f7a4 39 = .ok (.iadd, 1) := by decide +kernel
theorem dJ6_bitCount_0f7a4_40 : decode cJ6_bitCount_0f7a4 40 = .ok (.istore_n 0, 1) := by decide +kernel
theorem dJ6_bitCount_0f7a4_41 : decode cJ6_bitCount_0f7a4 41 = .ok (.iload_n 0, 1) := by decide +kernel
theorem dJ6_bitCount_0f7a4_42 : decode cJ6_bitCount_0f7a4 42 = .ok (.iload_n 0, 1) := by decide +kernel
theorem dJ6_bitCount_0f7a4_43 : decode cJ6_bitCount_0f7a4 43 = .ok (.bipush 16, 2) := by decide +kernel
theorem dJ6_bitCount_0f7a4_45 : decode cJ6_bitCount_0f7a4 45 = .ok (.iushr, 1) := by decide +kernel
theorem dJ6_bitCount_0f7a4_46 : decode cJ6_bitCount_0f7a4 46 = .ok (.iadd, 1) := by decide +kernel
theorem dJ6_bitCount_0f7a4_47 : decode cJ6_bitCount_0f7a4 47 = .ok (.istore_n 0, 1) := by decide +kernel
theorem dJ6_bitCount_0f7a4_48 : decode cJ6_bitCount_0f7a4 48 = .ok (.iload_n 0, 1) := by decide +kernel
theorem dJ6_bitCount_0f7a4_49 : decode cJ6_bitCount_0f7a4 49 = .ok (.bipush 63, 2) := by decide +kernel
theorem dJ6_bitCount_0f7a4_51 : decode cJ6_bitCount_0f7a4 51 = .ok (.iand, 1) := by decide +kernel
theorem dJ6_bitCount_0f7a4_52 : decode cJ6_bitCount_0f7a4 52 = .ok (.ireturn, 1) := by decide +kernel
theorem dJ9_max_7cf53_0 : decode cJ9_max_7cf53 0 = .ok (.iload_n 0, 1) := by decide +kernel
theorem dJ9_max_7cf53_1 : decode cJ9_max_7cf53 1 = .ok (.iload_n 1, 1) := by decide +kernel
theorem dJ9_max_7cf53_2 : decode cJ9_max_7cf53 2 = .ok (.if_icmp .lt 7, 3) := by decide +kernel
theorem dJ9_max_7cf53_5 : decode cJ9_max_7cf53 5 = .ok (.iload_n 0, 1) := by decide +kernel
theorem dJ9_max_7cf53_6 : decode cJ9_max_7cf53 6 = .ok (.goto 4, 3) := by decide +kernel
theorem dJ9_max_7cf53_9 : decode cJ9_max_7cf53 9 = .ok (.iload_n 1, 1) := by decide +kernel
theorem dJ9_max_7cf53_10 : decode cJ9_max_7cf53 10 = .ok (.ireturn, 1) := by decide +kernel
theorem dJ9_min_7cf53_0 : decode cJ9_min_7cf53 0 = .ok (.iload_n 0, 1) := by decide +kernel
theorem dJ9_min_7cf53_1 : decode cJ9_min_7cf53 1 = .ok (.iload_n 1, 1) := by decide +kernel
theorem dJ9_min_7cf53_2 : decode cJ9_min_7cf53 2 = .ok (.if_icmp .gt 7, 3) := by decide +kernel
theorem dJ9_min_7cf53_5 : decode cJ9_min_7cf53 5 = .ok (.iload_n 0, 1) := by decide +kernel
theorem dJ9_min_7cf53_6 : decode cJ9_min_7cf53 6 = .ok (.goto 4, 3) := by decide +kernel
theorem dJ9_min_7cf53_9 : decode cJ9_min_7cf53 9 = .ok (.iload_n 1, 1) := by decide +kernel
theorem dJ9_min_7cf53_10 : decode cJ9_min_7cf53 10 = .ok (.ireturn, 1) := by decide +kernel
theorem dJ0_length_8abf5_0 : decode cJ0_length_8abf5 0 = .ok (.aload_n 0, 1) := by decide +kernel
theorem dJ0_length_8abf5_1 : decode cJ0_length_8abf5 1 = .ok (.getfield 9, 3) := by decide +kernel
theorem dJ0_length_8abf5_4 : decode cJ0_length_8abf5 4 = .ok (.arraylength, 1) := by decide +kernel
theorem dJ0_length_8abf5_5 : decode cJ0_length_8abf5 5 = .ok (.aload_n 0, 1) := by decide +kernel
theorem dJ0_length_8abf5_6 : decode cJ0_length_8abf5 6 = .ok (.invokevirtual 335, 3) := by decide +kernel
theorem dJ0_length_8abf5_9 : decode cJ0_length_8abf5 9 = .ok (.ishr, 1) := by decide +kernel
theorem dJ0_length_8abf5_10 : decode cJ0_length_8abf5 10 = .ok (.ireturn, 1) := by decide +kernel
theorem dJ0_charAt_5068e_0 : decode cJ0_charAt_5068e 0 = .ok (.aload_n 0, 1) := by decide +kernel
theorem dJ0_charAt_5068e_1 : decode cJ0_charAt_5068e 1 = .ok (.invokevirtual 492, 3) := by decide +kernel
theorem dJ0_charAt_5068e_4 : decode cJ0_charAt_5068e 4 = .ok (.ifCond .eq 12, 3) := by decide +kernel
theorem dJ0_charAt_5068e_7 : decode cJ0_charAt_5068e 7 = .ok (.aload_n 0, 1) := by decide +kernel
theorem dJ0_charAt_5068e_8 : decode cJ0_charAt_5068e 8 = .ok (.getfield 9, 3) := by decide +kernel
theorem dJ0_charAt_5068e_11 : decode cJ0_charAt_5068e 11 = .ok (.iload_n 1, 1) := by decide +kernel
theorem dJ0_charAt_5068e_12 : decode cJ0_charAt_5068e 12 = .ok (.invokestatic 495, 3) := by decide +kernel
theorem dJ0_charAt_5068e_15 : decode cJ0_charAt_5068e 15 = .ok (.ireturn, 1) := by decide +kernel
theorem dJ0_charAt_5068e_16 : decode cJ0_charAt_5068e 16 = .ok (.aload_n 0, 1) := by decide +kernel
theorem dJ0_charAt_5068e_17 : decode cJ0_charAt_5068e 17 = .ok (.getfield 9, 3) := by decide +kernel
theorem dJ0_charAt_5068e_20 : decode cJ0_charAt_5068e 20 = .ok (.iload_n 1, 1) := by decide +kernel
theorem dJ0_charAt_5068e_21 : decode cJ0_charAt_5068e 21 = .ok (.invokestatic 498, 3) := by decide +kernel
theorem dJ0_charAt_5068e_24 : decode cJ0_charAt_5068e 24 = .ok (.ireturn, 1) := by decide +kernel
theorem dJ0_coder_7d493_0 : decode cJ0_coder_7d493 0 = .ok (.getstatic 38, 3) := by decide +kernel
theorem dJ0_coder_7d493_3 : decode cJ0_coder_7d493 3 = .ok (.ifCond .eq 10, 3) := by decide +kernel
theorem dJ0_coder_7d493_6 : decode cJ0_coder_7d493 6 = .ok (.aload_n 0, 1) := by decide +kernel
theorem dJ0_coder_7d493_7 : decode cJ0_coder_7d493 7 = .ok (.getfield 15, 3) := by decide +kernel
theorem dJ0_coder_7d493_10 : decode cJ0_coder_7d493 10 = .ok (.goto 4, 3) := by decide +kernel
theorem dJ0_coder_7d493_13 : decode cJ0_coder_7d493 13 = .ok (.iconst 1, 1) := by decide +kernel
theorem dJ0_coder_7d493_14 : decode cJ0_coder_7d493 14 = .ok (.ireturn, 1) := by decide +kernel
theorem dJ0_isLatin1_aae02_0 : decode cJ0_isLatin1_aae02 0 = .ok (.getstatic 38, 3) := by decide +kernel
theorem dJ0_isLatin1_aae02_3 : decode cJ0_isLatin1_aae02 3 = .ok (.ifCond .eq 14, 3) := by decide +kernel
theorem dJ0_isLatin1_aae02_6 : decode cJ0_isLatin1_aae02 6 = .ok (.aload_n 0, 1) := by decide +kernel
theorem dJ0_isLatin1_aae02_7 : decode cJ0_isLatin1_aae02 7 = .ok (.getfield 15, 3) := by decide +kernel
theorem dJ0_isLatin1_aae02_10 : decode cJ0_isLatin1_aae02 10 = .ok (.ifCond .ne 7, 3) := by decide +kernel
theorem dJ0_isLatin1_aae02_13 : decode cJ0_isLatin1_aae02 13 = .ok (.iconst 1, 1) := by decide +kernel
theorem dJ0_isLatin1_aae02_14 : decode cJ0_isLatin1_aae02 14 = .ok (.goto 4, 3) := by decide +kernel
theorem dJ0_isLatin1_aae02_17 : decode cJ0_isLatin1_aae02 17 = .ok (.iconst 0, 1) := by decide +kernel
theorem dJ0_isLatin1_aae02_18 : decode cJ0_isLatin1_aae02 18 = .ok (.ireturn, 1) := by decide +kernel
theorem dJ0_checkIndex_df160_0 : decode cJ0_checkIndex_df160 0 = .ok (.iload_n 0, 1) := by decide +kernel
theorem dJ0_checkIndex_df160_1 : decode cJ0_checkIndex_df160 1 = .ok (.iload_n 1, 1) := by decide +kernel
theorem dJ0_checkIndex_df160_2 : decode cJ0_checkIndex_df160 2 = .ok (.getstatic 1053, 3) := by decide +kernel
theorem dJ0_checkIndex_df160_5 : decode cJ0_checkIndex_df160 5 = .ok (.invokestatic 1059, 3) := by decide +kernel
theorem dJ0_checkIndex_df160_8 : decode cJ0_checkIndex_df160 8 = .ok (.pop, 1) := by decide +kernel
theorem dJ0_checkIndex_df160_9 : decode cJ0_checkIndex_df160 9 = .ok (.return_, 1) := by decide +kernel
theorem dJ1_charAt_3b067_0 : decode cJ1_charAt_3b067 0 = .ok (.iload_n 1, 1) := by decide +kernel
theorem dJ1_charAt_3b067_1 : decode cJ1_charAt_3b067 1 = .ok (.aload_n 0, 1) := by decide +kernel
theorem dJ1_charAt_3b067_2 : decode cJ1_charAt_3b067 2 = .ok (.arraylength, 1) := by decide +kernel
theorem dJ1_charAt_3b067_3 : decode cJ1_charAt_3b067 3 = .ok (.invokestatic 9, 3) := by decide +kernel
theorem dJ1_charAt_3b067_6 : decode cJ1_charAt_3b067 6 = .ok (.aload_n 0, 1) := by decide +kernel
theorem dJ1_charAt_3b067_7 : decode cJ1_charAt_3b067 7 = .ok (.iload_n 1, 1) := by decide +kernel
theorem dJ1_charAt_3b067_8 : decode cJ1_charAt_3b067 8 = .ok (.baload, 1) := by decide +kernel
theorem dJ1_charAt_3b067_9 : decode cJ1_charAt_3b067 9 = .ok (.sipush 255, 3) := by decide +kernel
theorem dJ1_charAt_3b067_12 : decode cJ1_charAt_3b067 12 = .ok (.iand, 1) := by decide +kernel
theorem dJ1_charAt_3b067_13 : decode cJ1_charAt_3b067 13 = .ok (.i2c, 1) := by decide +kernel
theorem dJ1_charAt_3b067_14 : decode cJ1_charAt_3b067 14 = .ok (.ireturn, 1) := by decide +kernel
theorem dJ2_getChar_3b067_0 : decode cJ2_getChar_3b067 0 = .ok (.getstatic 44, 3) := by decide +kernel
theorem dJ2_getChar_3b067_3 : decode cJ2_getChar_3b067 3 = .ok (.ifCond .ne 25, 3) := by decide +kernel
theorem dJ2_getChar_3b067_6 : decode cJ2_getChar_3b067 6 = .ok (.iload_n 1, 1) := by decide +kernel
theorem dJ2_getChar_3b067_7 : decode cJ2_getChar_3b067 7 = .ok (.ifCond .lt 11, 3) := by decide +kernel
end
section
theorem dJ2_getChar_3b067_10 : decode cJ2_getChar_3b067 10 = .ok (.iload_n 1, 1) := by decide +kernel
theorem dJ2_getChar_3b067_11 : decode cJ2_getChar_3b067 11 = .ok (.aload_n 0, 1) := by decide +kernel
theorem dJ2_getChar_3b067_12 : decode cJ2_getChar_3b067 12 = .ok (.invokestatic 48, 3) := by decide +kernel
theorem dJ2_getChar_3b067_15 : decode cJ2_getChar_3b067 15 = .ok (.if_icmp .lt 13, 3) := by decide +kernel
theorem dJ2_getChar_3b067_18 : decode cJ2_getChar_3b067 18 = .ok (.new 52, 3) := by decide +kernel
theorem dJ2_getChar_3b067_21 : decode cJ2_getChar_3b067 21 = .ok (.dup, 1) := by decide +kernel
theorem dJ2_getChar_3b067_22 : decode cJ2_getChar_3b067 22 = .ok (.ldc 54, 2) := by decide +kernel
theorem dJ2_getChar_3b067_24 : decode cJ2_getChar_3b067 24 = .ok (.invokespecial 56, 3) := by decide +kernel
theorem dJ2_getChar_3b067_27 : decode cJ2_getChar_3b067 27 = .ok (.athrow, 1) := by decide +kernel
theorem dJ2_getChar_3b067_28 : decode cJ2_getChar_3b067 28 = .ok (.iload_n 1, 1) := by decide +kernel
theorem dJ2_getChar_3b067_29 : decode cJ2_getChar_3b067 29 = .ok (.iconst 1, 1) := by decide +kernel
theorem dJ2_getChar_3b067_30 : decode cJ2_getChar_3b067 30 = .ok (.ishl, 1) := by decide +kernel
theorem dJ2_getChar_3b067_31 : decode cJ2_getChar_3b067 31 = .ok (.istore_n 1, 1) := by decide +kernel
theorem dJ2_getChar_3b067_32 : decode cJ2_getChar_3b067 32 = .ok (.aload_n 0, 1) := by decide +kernel
theorem dJ2_getChar_3b067_33 : decode cJ2_getChar_3b067 33 = .ok (.iload_n 1, 1) := by decide +kernel
theorem dJ2_getChar_3b067_34 : decode cJ2_getChar_3b067 34 = .ok (.iinc 1 1, 3) := by decide +kernel
theorem dJ2_getChar_3b067_37 : decode cJ2_getChar_3b067 37 = .ok (.baload, 1) := by decide +kernel
theorem dJ2_getChar_3b067_38 : decode cJ2_getChar_3b067 38 = .ok (.sipush 255, 3) := by decide +kernel
theorem dJ2_getChar_3b067_41 : decode cJ2_getChar_3b067 41 = .ok (.iand, 1) := by decide +kernel
theorem dJ2_getChar_3b067_42 : decode cJ2_getChar_3b067 42 = .ok (.getstatic 59, 3) := by decide +kernel
theorem dJ2_getChar_3b067_45 : decode cJ2_getChar_3b067 45 = .ok (.ishl, 1) := by decide +kernel
theorem dJ2_getChar_3b067_46 : decode cJ2_getChar_3b067 46 = .ok (.aload_n 0, 1) := by decide +kernel
theorem dJ2_getChar_3b067_47 : decode cJ2_getChar_3b067 47 = .ok (.iload_n 1, 1) := by decide +kernel
theorem dJ2_getChar_3b067_48 : decode cJ2_getChar_3b067 48 = .ok (.baload, 1) := by decide +kernel
theorem dJ2_getChar_3b067_49 : decode cJ2_getChar_3b067 49 = .ok (.sipush 255, 3) := by decide +kernel
theorem dJ2_getChar_3b067_52 : decode cJ2_getChar_3b067 52 = .ok (.iand, 1) := by decide +kernel
theorem dJ2_getChar_3b067_53 : decode cJ2_getChar_3b067 53 = .ok (.getstatic 63, 3) := by decide +kernel
theorem dJ2_getChar_3b067_56 : decode cJ2_getChar_3b067 56 = .ok (.ishl, 1) := by decide +kernel
theorem dJ2_getChar_3b067_57 : decode cJ2_getChar_3b067 57 = .ok (.ior, 1) := by decide +kernel
theorem dJ2_getChar_3b067_58 : decode cJ2_getChar_3b067 58 = .ok (.i2c, 1) := by decide +kernel
theorem dJ2_getChar_3b067_59 : decode cJ2_getChar_3b067 59 = .ok (.ireturn, 1) := by decide +kernel
theorem dJ2_length_9d52b_0 : decode cJ2_length_9d52b 0 = .ok (.aload_n 0, 1) := by decide +kernel
theorem dJ2_length_9d52b_1 : decode cJ2_length_9d52b 1 = .ok (.arraylength, 1) := by decide +kernel
theorem dJ2_length_9d52b_2 : decode cJ2_length_9d52b 2 = .ok (.iconst 1, 1) := by decide +kernel
theorem dJ2_length_9d52b_3 : decode cJ2_length_9d52b 3 = .ok (.ishr, 1) := by decide +kernel
theorem dJ2_length_9d52b_4 : decode cJ2_length_9d52b 4 = .ok (.ireturn, 1) := by decide +kernel
theorem dJ2_charAt_3b067_0 : decode cJ2_charAt_3b067 0 = .ok (.iload_n 1, 1) := by decide +kernel
theorem dJ2_charAt_3b067_1 : decode cJ2_charAt_3b067 1 = .ok (.aload_n 0, 1) := by decide +kernel
theorem dJ2_charAt_3b067_2 : decode cJ2_charAt_3b067 2 = .ok (.invokestatic 67, 3) := by decide +kernel
theorem dJ2_charAt_3b067_5 : decode cJ2_charAt_3b067 5 = .ok (.aload_n 0, 1) := by decide +kernel
theorem dJ2_charAt_3b067_6 : decode cJ2_charAt_3b067 6 = .ok (.iload_n 1, 1) := by decide +kernel
theorem dJ2_charAt_3b067_7 : decode cJ2_charAt_3b067 7 = .ok (.invokestatic 71, 3) := by decide +kernel
theorem dJ2_charAt_3b067_10 : decode cJ2_charAt_3b067 10 = .ok (.ireturn, 1) := by decide +kernel
theorem dJ2_checkIndex_2214a_0 : decode cJ2_checkIndex_2214a 0 = .ok (.iload_n 0, 1) := by decide +kernel
theorem dJ2_checkIndex_2214a_1 : decode cJ2_checkIndex_2214a 1 = .ok (.aload_n 1, 1) := by decide +kernel
theorem dJ2_checkIndex_2214a_2 : decode cJ2_checkIndex_2214a 2 = .ok (.invokestatic 48, 3) := by decide +kernel
theorem dJ2_checkIndex_2214a_5 : decode cJ2_checkIndex_2214a 5 = .ok (.invokestatic 414, 3) := by decide +kernel
theorem dJ2_checkIndex_2214a_8 : decode cJ2_checkIndex_2214a 8 = .ok (.return_, 1) := by decide +kernel
theorem dJ7_fill_53178_0 : decode cJ7_fill_53178 0 = .ok (.iconst 0, 1) := by decide +kernel
theorem dJ7_fill_53178_1 : decode cJ7_fill_53178 1 = .ok (.istore_n 2, 1) := by decide +kernel
theorem dJ7_fill_53178_2 : decode cJ7_fill_53178 2 = .ok (.aload_n 0, 1) := by decide +kernel
theorem dJ7_fill_53178_3 : decode cJ7_fill_53178 3 = .ok (.arraylength, 1) := by decide +kernel
theorem dJ7_fill_53178_4 : decode cJ7_fill_53178 4 = .ok (.istore_n 3, 1) := by decide +kernel
theorem dJ7_fill_53178_5 : decode cJ7_fill_53178 5 = .ok (.iload_n 2, 1) := by decide +kernel
theorem dJ7_fill_53178_6 : decode cJ7_fill_53178 6 = .ok (.iload_n 3, 1) := by decide +kernel
theorem dJ7_fill_53178_7 : decode cJ7_fill_53178 7 = .ok (.if_icmp .ge 13, 3) := by decide +kernel
theorem dJ7_fill_53178_10 : decode cJ7_fill_53178 10 = .ok (.aload_n 0, 1) := by decide +kernel
theorem dJ7_fill_53178_11 : decode cJ7_fill_53178 11 = .ok (.iload_n 2, 1) := by decide +kernel
theorem dJ7_fill_53178_12 : decode cJ7_fill_53178 12 = .ok (.iload_n 1, 1) := by decide +kernel
theorem dJ7_fill_53178_13 : decode cJ7_fill_53178 13 = .ok (.iastore, 1) := by decide +kernel
theorem dJ7_fill_53178_14 : decode cJ7_fill_53178 14 = .ok (.iinc 2 1, 3) := by decide +kernel
theorem dJ7_fill_53178_17 : decode cJ7_fill_53178 17 = .ok (.goto (-12), 3) := by decide +kernel
theorem dJ7_fill_53178_20 : decode cJ7_fill_53178 20 = .ok (.return_, 1) := by decide +kernel
theorem dJ3_checkIndex_8e157_0 : decode cJ3_checkIndex_8e157 0 = .ok (.iload_n 0, 1) := by decide +kernel
theorem dJ3_checkIndex_8e157_1 : decode cJ3_checkIndex_8e157 1 = .ok (.ifCond .lt 8, 3) := by decide +kernel
theorem dJ3_checkIndex_8e157_4 : decode cJ3_checkIndex_8e157 4 = .ok (.iload_n 0, 1) := by decide +kernel
theorem dJ3_checkIndex_8e157_5 : decode cJ3_checkIndex_8e157 5 = .ok (.iload_n 1, 1) := by decide +kernel
theorem dJ3_checkIndex_8e157_6 : decode cJ3_checkIndex_8e157 6 = .ok (.if_icmp .lt 10, 3) := by decide +kernel
theorem dJ3_checkIndex_8e157_9 : decode cJ3_checkIndex_8e157 9 = .ok (.aload_n 2, 1) := by decide +kernel
theorem dJ3_checkIndex_8e157_10 : decode cJ3_checkIndex_8e157 10 = .ok (.iload_n 0, 1) := by decide +kernel
theorem dJ3_checkIndex_8e157_11 : decode cJ3_checkIndex_8e157 11 = .ok (.iload_n 1, 1) := by decide +kernel
theorem dJ3_checkIndex_8e157_12 : decode cJ3_checkIndex_8e157 12 = .ok (.invokestatic 95, 3) := by decide +kernel
theorem dJ3_checkIndex_8e157_15 : decode cJ3_checkIndex_8e157 15 = .ok (.athrow, 1) := by decide +kernel
theorem dJ3_checkIndex_8e157_16 : decode cJ3_checkIndex_8e157 16 = .ok (.iload_n 0, 1) := by decide +kernel
theorem dJ3_checkIndex_8e157_17 : decode cJ3_checkIndex_8e157 17 = .ok (.ireturn, 1) := by decide +kernel
theorem dL_law_0 : decode cL_law 0 = .ok (.new 7, 3) := by decide +kernel
theorem dL_law_3 : decode cL_law 3 = .ok (.dup, 1) := by decide +kernel
theorem dL_law_4 : decode cL_law 4 = .ok (.invokespecial 9, 3) := by decide +kernel
theorem dL_law_7 : decode cL_law 7 = .ok (.astore_n 1, 1) := by decide +kernel
theorem dL_law_8 : decode cL_law 8 = .ok (.new 10, 3) := by decide +kernel
theorem dL_law_11 : decode cL_law 11 = .ok (.dup, 1) := by decide +kernel
theorem dL_law_12 : decode cL_law 12 = .ok (.invokespecial 12, 3) := by decide +kernel
theorem dL_law_15 : decode cL_law 15 = .ok (.astore_n 2, 1) := by decide +kernel
theorem dL_law_16 : decode cL_law 16 = .ok (.iconst 0, 1) := by decide +kernel
theorem dL_law_17 : decode cL_law 17 = .ok (.istore_n 3, 1) := by decide +kernel
theorem dL_law_18 : decode cL_law 18 = .ok (.iload_n 3, 1) := by decide +kernel
theorem dL_law_19 : decode cL_law 19 = .ok (.aload_n 0, 1) := by decide +kernel
theorem dL_law_20 : decode cL_law 20 = .ok (.arraylength, 1) := by decide +kernel
theorem dL_law_21 : decode cL_law 21 = .ok (.iconst 5, 1) := by decide +kernel
theorem dL_law_22 : decode cL_law 22 = .ok (.isub, 1) := by decide +kernel
theorem dL_law_23 : decode cL_law 23 = .ok (.if_icmp .gt 1483, 3) := by decide +kernel
theorem dL_law_26 : decode cL_law 26 = .ok (.aload_n 0, 1) := by decide +kernel
theorem dL_law_27 : decode cL_law 27 = .ok (.iload_n 3, 1) := by decide +kernel
theorem dL_law_28 : decode cL_law 28 = .ok (.iaload, 1) := by decide +kernel
theorem dL_law_29 : decode cL_law 29 = .ok (.bipush 63, 2) := by decide +kernel
theorem dL_law_31 : decode cL_law 31 = .ok (.iand, 1) := by decide +kernel
theorem dL_law_32 : decode cL_law 32 = .ok (.tableswitch 1468 0 39 #[176, 199, 222, 235, 248, 271, 304, 337, 360, 393, 436, 469, 502, 545, 578, 601, 634, 667, 700, 723, 766, 799, 832, 865, 908, 951, 1005, 1059, 1102, 1125, 1148, 1171, 1204, 1247, 1270, 1293, 1336, 1379, 1432, 1445], 176) := by decide +kernel
theorem dL_law_208 : decode cL_law 208 = .ok (.aload_n 1, 1) := by decide +kernel
theorem dL_law_209 : decode cL_law 209 = .ok (.aload_n 0, 1) := by decide +kernel
theorem dL_law_210 : decode cL_law 210 = .ok (.iload_n 3, 1) := by decide +kernel
theorem dL_law_211 : decode cL_law 211 = .ok (.iconst 1, 1) := by decide +kernel
theorem dL_law_212 : decode cL_law 212 = .ok (.iadd, 1) := by decide +kernel
theorem dL_law_213 : decode cL_law 213 = .ok (.iaload, 1) := by decide +kernel
theorem dL_law_214 : decode cL_law 214 = .ok (.invokevirtual 13, 3) := by decide +kernel
theorem dL_law_217 : decode cL_law 217 = .ok (.aload_n 2, 1) := by decide +kernel
theorem dL_law_218 : decode cL_law 218 = .ok (.aload_n 0, 1) := by decide +kernel
theorem dL_law_219 : decode cL_law 219 = .ok (.iload_n 3, 1) := by decide +kernel
theorem dL_law_220 : decode cL_law 220 = .ok (.iconst 1, 1) := by decide +kernel
theorem dL_law_221 : decode cL_law 221 = .ok (.iadd, 1) := by decide +kernel
theorem dL_law_222 : decode cL_law 222 = .ok (.iaload, 1) := by decide +kernel
theorem dL_law_223 : decode cL_law 223 = .ok (.invokevirtual 17, 3) := by decide +kernel
theorem dL_law_226 : decode cL_law 226 = .ok (.if_icmp .eq 1274, 3) := by decide +kernel
theorem dL_law_229 : decode cL_law 229 = .ok (.iconst 0, 1) := by decide +kernel
theorem dL_law_230 : decode cL_law 230 = .ok (.ireturn, 1) := by decide +kernel
theorem dL_law_231 : decode cL_law 231 = .ok (.aload_n 1, 1) := by decide +kernel
theorem dL_law_232 : decode cL_law 232 = .ok (.aload_n 0, 1) := by decide +kernel
theorem dL_law_233 : decode cL_law 233 = .ok (.iload_n 3, 1) := by decide +kernel
theorem dL_law_234 : decode cL_law 234 = .ok (.iconst 1, 1) := by decide +kernel
theorem dL_law_235 : decode cL_law 235 = .ok (.iadd, 1) := by decide +kernel
theorem dL_law_236 : decode cL_law 236 = .ok (.iaload, 1) := by decide +kernel
theorem dL_law_237 : decode cL_law 237 = .ok (.invokevirtual 18, 3) := by decide +kernel
theorem dL_law_240 : decode cL_law 240 = .ok (.aload_n 2, 1) := by decide +kernel
theorem dL_law_241 : decode cL_law 241 = .ok (.aload_n 0, 1) := by decide +kernel
theorem dL_law_242 : decode cL_law 242 = .ok (.iload_n 3, 1) := by decide +kernel
theorem dL_law_243 : decode cL_law 243 = .ok (.iconst 1, 1) := by decide +kernel
theorem dL_law_244 : decode cL_law 244 = .ok (.iadd, 1) := by decide +kernel
theorem dL_law_245 : decode cL_law 245 = .ok (.iaload, 1) := by decide +kernel
theorem dL_law_246 : decode cL_law 246 = .ok (.invokevirtual 21, 3) := by decide +kernel
theorem dL_law_249 : decode cL_law 249 = .ok (.if_icmp .eq 1251, 3) := by decide +kernel
theorem dL_law_252 : decode cL_law 252 = .ok (.iconst 0, 1) := by decide +kernel
theorem dL_law_253 : decode cL_law 253 = .ok (.ireturn, 1) := by decide +kernel
theorem dL_law_254 : decode cL_law 254 = .ok (.aload_n 1, 1) := by decide +kernel
theorem dL_law_255 : decode cL_law 255 = .ok (.invokevirtual 22, 3) := by decide +kernel
theorem dL_law_258 : decode cL_law 258 = .ok (.aload_n 2, 1) := by decide +kernel
theorem dL_law_259 : decode cL_law 259 = .ok (.invokevirtual 26, 3) := by decide +kernel
theorem dL_law_262 : decode cL_law 262 = .ok (.if_icmp .eq 1238, 3) := by decide +kernel
theorem dL_law_265 : decode cL_law 265 = .ok (.iconst 0, 1) := by decide +kernel
theorem dL_law_266 : decode cL_law 266 = .ok (.ireturn, 1) := by decide +kernel
theorem dL_law_267 : decode cL_law 267 = .ok (.aload_n 1, 1) := by decide +kernel
theorem dL_law_268 : decode cL_law 268 = .ok (.invokevirtual 27, 3) := by decide +kernel
theorem dL_law_271 : decode cL_law 271 = .ok (.aload_n 2, 1) := by decide +kernel
theorem dL_law_272 : decode cL_law 272 = .ok (.invokevirtual 30, 3) := by decide +kernel
theorem dL_law_275 : decode cL_law 275 = .ok (.if_icmp .eq 1225, 3) := by decide +kernel
theorem dL_law_278 : decode cL_law 278 = .ok (.iconst 0, 1) := by decide +kernel
theorem dL_law_279 : decode cL_law 279 = .ok (.ireturn, 1) := by decide +kernel
theorem dL_law_280 : decode cL_law 280 = .ok (.aload_n 1, 1) := by decide +kernel
theorem dL_law_281 : decode cL_law 281 = .ok (.aload_n 0, 1) := by decide +kernel
theorem dL_law_282 : decode cL_law 282 = .ok (.iload_n 3, 1) := by decide +kernel
theorem dL_law_283 : decode cL_law 283 = .ok (.iconst 1, 1) := by decide +kernel
theorem dL_law_284 : decode cL_law 284 = .ok (.iadd, 1) := by decide +kernel
theorem dL_law_285 : decode cL_law 285 = .ok (.iaload, 1) := by decide +kernel
theorem dL_law_286 : decode cL_law 286 = .ok (.invokevirtual 31, 3) := by decide +kernel
theorem dL_law_289 : decode cL_law 289 = .ok (.aload_n 2, 1) := by decide +kernel
theorem dL_law_290 : decode cL_law 290 = .ok (.aload_n 0, 1) := by decide +kernel
theorem dL_law_291 : decode cL_law 291 = .ok (.iload_n 3, 1) := by decide +kernel
theorem dL_law_292 : decode cL_law 292 = .ok (.iconst 1, 1) := by decide +kernel
theorem dL_law_293 : decode cL_law 293 = .ok (.iadd, 1) := by decide +kernel
theorem dL_law_294 : decode cL_law 294 = .ok (.iaload, 1) := by decide +kernel
theorem dL_law_295 : decode cL_law 295 = .ok (.invokevirtual 34, 3) := by decide +kernel
theorem dL_law_298 : decode cL_law 298 = .ok (.if_icmp .eq 1202, 3) := by decide +kernel
theorem dL_law_301 : decode cL_law 301 = .ok (.iconst 0, 1) := by decide +kernel
theorem dL_law_302 : decode cL_law 302 = .ok (.ireturn, 1) := by decide +kernel
theorem dL_law_303 : decode cL_law 303 = .ok (.aload_n 1, 1) := by decide +kernel
theorem dL_law_304 : decode cL_law 304 = .ok (.aload_n 0, 1) := by decide +kernel
theorem dL_law_305 : decode cL_law 305 = .ok (.iload_n 3, 1) := by decide +kernel
theorem dL_law_306 : decode cL_law 306 = .ok (.iconst 1, 1) := by decide +kernel
theorem dL_law_307 : decode cL_law 307 = .ok (.iadd, 1) := by decide +kernel
theorem dL_law_308 : decode cL_law 308 = .ok (.iaload, 1) := by decide +kernel
theorem dL_law_309 : decode cL_law 309 = .ok (.aload_n 0, 1) := by decide +kernel
theorem dL_law_310 : decode cL_law 310 = .ok (.iload_n 3, 1) := by decide +kernel
theorem dL_law_311 : decode cL_law 311 = .ok (.iconst 2, 1) := by decide +kernel
theorem dL_law_312 : decode cL_law 312 = .ok (.iadd, 1) := by decide +kernel
theorem dL_law_313 : decode cL_law 313 = .ok (.iaload, 1) := by decide +kernel
theorem dL_law_314 : decode cL_law 314 = .ok (.invokevirtual 35, 3) := by decide +kernel
theorem dL_law_317 : decode cL_law 317 = .ok (.aload_n 2, 1) := by decide +kernel
theorem dL_law_318 : decode cL_law 318 = .ok (.aload_n 0, 1) := by decide +kernel
theorem dL_law_319 : decode cL_law 319 = .ok (.iload_n 3, 1) := by decide +kernel
theorem dL_law_320 : decode cL_law 320 = .ok (.iconst 1, 1) := by decide +kernel
theorem dL_law_321 : decode cL_law 321 = .ok (.iadd, 1) := by decide +kernel
theorem dL_law_322 : decode cL_law 322 = .ok (.iaload, 1) := by decide +kernel
theorem dL_law_323 : decode cL_law 323 = .ok (.aload_n 0, 1) := by decide +kernel
theorem dL_law_324 : decode cL_law 324 = .ok (.iload_n 3, 1) := by decide +kernel
theorem dL_law_325 : decode cL_law 325 = .ok (.iconst 2, 1) := by decide +kernel
theorem dL_law_326 : decode cL_law 326 = .ok (.iadd, 1) := by decide +kernel
theorem dL_law_327 : decode cL_law 327 = .ok (.iaload, 1) := by decide +kernel
theorem dL_law_328 : decode cL_law 328 = .ok (.invokevirtual 39, 3) := by decide +kernel
theorem dL_law_331 : decode cL_law 331 = .ok (.if_icmp .eq 1169, 3) := by decide +kernel
theorem dL_law_334 : decode cL_law 334 = .ok (.iconst 0, 1) := by decide +kernel
theorem dL_law_335 : decode cL_law 335 = .ok (.ireturn, 1) := by decide +kernel
theorem dL_law_336 : decode cL_law 336 = .ok (.aload_n 1, 1) := by decide +kernel
theorem dL_law_337 : decode cL_law 337 = .ok (.aload_n 0, 1) := by decide +kernel
theorem dL_law_338 : decode cL_law 338 = .ok (.iload_n 3, 1) := by decide +kernel
theorem dL_law_339 : decode cL_law 339 = .ok (.iconst 1, 1) := by decide +kernel
theorem dL_law_340 : decode cL_law 340 = .ok (.iadd, 1) := by decide +kernel
theorem dL_law_341 : decode cL_law 341 = .ok (.iaload, 1) := by decide +kernel
theorem dL_law_342 : decode cL_law 342 = .ok (.aload_n 0, 1) := by decide +kernel
theorem dL_law_343 : decode cL_law 343 = .ok (.iload_n 3, 1) := by decide +kernel
theorem dL_law_344 : decode cL_law 344 = .ok (.iconst 2, 1) := by decide +kernel
theorem dL_law_345 : decode cL_law 345 = .ok (.iadd, 1) := by decide +kernel
theorem dL_law_346 : decode cL_law 346 = .ok (.iaload, 1) := by decide +kernel
theorem dL_law_347 : decode cL_law 347 = .ok (.invokevirtual 40, 3) := by decide +kernel
theorem dL_law_350 : decode cL_law 350 = .ok (.aload_n 2, 1) := by decide +kernel
theorem dL_law_351 : decode cL_law 351 = .ok (.aload_n 0, 1) := by decide +kernel
theorem dL_law_352 : decode cL_law 352 = .ok (.iload_n 3, 1) := by decide +kernel
theorem dL_law_353 : decode cL_law 353 = .ok (.iconst 1, 1) := by decide +kernel
theorem dL_law_354 : decode cL_law 354 = .ok (.iadd, 1) := by decide +kernel
theorem dL_law_355 : decode cL_law 355 = .ok (.iaload, 1) := by decide +kernel
theorem dL_law_356 : decode cL_law 356 = .ok (.aload_n 0, 1) := by decide +kernel
theorem dL_law_357 : decode cL_law 357 = .ok (.iload_n 3, 1) := by decide +kernel
theorem dL_law_358 : decode cL_law 358 = .ok (.iconst 2, 1) := by decide +kernel
theorem dL_law_359 : decode cL_law 359 = .ok (.iadd, 1) := by decide +kernel
theorem dL_law_360 : decode cL_law 360 = .ok (.iaload, 1) := by decide +kernel
theorem dL_law_361 : decode cL_law 361 = .ok (.invokevirtual 43, 3) := by decide +kernel
theorem dL_law_364 : decode cL_law 364 = .ok (.if_icmp .eq 1136, 3) := by decide +kernel
theorem dL_law_367 : decode cL_law 367 = .ok (.iconst 0, 1) := by decide +kernel
theorem dL_law_368 : decode cL_law 368 = .ok (.ireturn, 1) := by decide +kernel
theorem dL_law_369 : decode cL_law 369 = .ok (.aload_n 1, 1) := by decide +kernel
theorem dL_law_370 : decode cL_law 370 = .ok (.aload_n 0, 1) := by decide +kernel
theorem dL_law_371 : decode cL_law 371 = .ok (.iload_n 3, 1) := by decide +kernel
theorem dL_law_372 : decode cL_law 372 = .ok (.iconst 1, 1) := by decide +kernel
theorem dL_law_373 : decode cL_law 373 = .ok (.iadd, 1) := by decide +kernel
theorem dL_law_374 : decode cL_law 374 = .ok (.iaload, 1) := by decide +kernel
theorem dL_law_375 : decode cL_law 375 = .ok (.invokevirtual 44, 3) := by decide +kernel
theorem dL_law_378 : decode cL_law 378 = .ok (.aload_n 2, 1) := by decide +kernel
theorem dL_law_379 : decode cL_law 379 = .ok (.aload_n 0, 1) := by decide +kernel
theorem dL_law_380 : decode cL_law 380 = .ok (.iload_n 3, 1) := by decide +kernel
theorem dL_law_381 : decode cL_law 381 = .ok (.iconst 1, 1) := by decide +kernel
theorem dL_law_382 : decode cL_law 382 = .ok (.iadd, 1) := by decide +kernel
theorem dL_law_383 : decode cL_law 383 = .ok (.iaload, 1) := by decide +kernel
theorem dL_law_384 : decode cL_law 384 = .ok (.invokevirtual 47, 3) := by decide +kernel
theorem dL_law_387 : decode cL_law 387 = .ok (.if_icmp .eq 1113, 3) := by decide +kernel
theorem dL_law_390 : decode cL_law 390 = .ok (.iconst 0, 1) := by decide +kernel
theorem dL_law_391 : decode cL_law 391 = .ok (.ireturn, 1) := by decide +kernel
theorem dL_law_392 : decode cL_law 392 = .ok (.aload_n 1, 1) := by decide +kernel
theorem dL_law_393 : decode cL_law 393 = .ok (.aload_n 0, 1) := by decide +kernel
theorem dL_law_394 : decode cL_law 394 = .ok (.iload_n 3, 1) := by decide +kernel
theorem dL_law_395 : decode cL_law 395 = .ok (.iconst 1, 1) := by decide +kernel
theorem dL_law_396 : decode cL_law 396 = .ok (.iadd, 1) := by decide +kernel
theorem dL_law_397 : decode cL_law 397 = .ok (.iaload, 1) := by decide +kernel
theorem dL_law_398 : decode cL_law 398 = .ok (.aload_n 0, 1) := by decide +kernel
theorem dL_law_399 : decode cL_law 399 = .ok (.iload_n 3, 1) := by decide +kernel
theorem dL_law_400 : decode cL_law 400 = .ok (.iconst 2, 1) := by decide +kernel
theorem dL_law_401 : decode cL_law 401 = .ok (.iadd, 1) := by decide +kernel
theorem dL_law_402 : decode cL_law 402 = .ok (.iaload, 1) := by decide +kernel
theorem dL_law_403 : decode cL_law 403 = .ok (.invokevirtual 48, 3) := by decide +kernel
theorem dL_law_406 : decode cL_law 406 = .ok (.aload_n 2, 1) := by decide +kernel
theorem dL_law_407 : decode cL_law 407 = .ok (.aload_n 0, 1) := by decide +kernel
theorem dL_law_408 : decode cL_law 408 = .ok (.iload_n 3, 1) := by decide +kernel
theorem dL_law_409 : decode cL_law 409 = .ok (.iconst 1, 1) := by decide +kernel
theorem dL_law_410 : decode cL_law 410 = .ok (.iadd, 1) := by decide +kernel
theorem dL_law_411 : decode cL_law 411 = .ok (.iaload, 1) := by decide +kernel
theorem dL_law_412 : decode cL_law 412 = .ok (.aload_n 0, 1) := by decide +kernel
theorem dL_law_413 : decode cL_law 413 = .ok (.iload_n 3, 1) := by decide +kernel
theorem dL_law_414 : decode cL_law 414 = .ok (.iconst 2, 1) := by decide +kernel
theorem dL_law_415 : decode cL_law 415 = .ok (.iadd, 1) := by decide +kernel
theorem dL_law_416 : decode cL_law 416 = .ok (.iaload, 1) := by decide +kernel
theorem dL_law_417 : decode cL_law 417 = .ok (.invokevirtual 51, 3) := by decide +kernel
theorem dL_law_420 : decode cL_law 420 = .ok (.if_icmp .eq 1080, 3) := by decide +kernel
theorem dL_law_423 : decode cL_law 423 = .ok (.iconst 0, 1) := by decide +kernel
theorem dL_law_424 : decode cL_law 424 = .ok (.ireturn, 1) := by decide +kernel
theorem dL_law_425 : decode cL_law 425 = .ok (.aload_n 1, 1) := by decide +kernel
theorem dL_law_426 : decode cL_law 426 = .ok (.aload_n 0, 1) := by decide +kernel
theorem dL_law_427 : decode cL_law 427 = .ok (.iload_n 3, 1) := by decide +kernel
theorem dL_law_428 : decode cL_law 428 = .ok (.iconst 1, 1) := by decide +kernel
theorem dL_law_429 : decode cL_law 429 = .ok (.iadd, 1) := by decide +kernel
theorem dL_law_430 : decode cL_law 430 = .ok (.iaload, 1) := by decide +kernel
theorem dL_law_431 : decode cL_law 431 = .ok (.aload_n 0, 1) := by decide +kernel
theorem dL_law_432 : decode cL_law 432 = .ok (.iload_n 3, 1) := by decide +kernel
theorem dL_law_433 : decode cL_law 433 = .ok (.iconst 2, 1) := by decide +kernel
theorem dL_law_434 : decode cL_law 434 = .ok (.iadd, 1) := by decide +kernel
theorem dL_law_435 : decode cL_law 435 = .ok (.iaload, 1) := by decide +kernel
theorem dL_law_436 : decode cL_law 436 = .ok (.aload_n 0, 1) := by decide +kernel
theorem dL_law_437 : decode cL_law 437 = .ok (.iload_n 3, 1) := by decide +kernel
theorem dL_law_438 : decode cL_law 438 = .ok (.iconst 3, 1) := by decide +kernel
theorem dL_law_439 : decode cL_law 439 = .ok (.iadd, 1) := by decide +kernel
theorem dL_law_440 : decode cL_law 440 = .ok (.iaload, 1) := by decide +kernel
theorem dL_law_441 : decode cL_law 441 = .ok (.invokevirtual 52, 3) := by decide +kernel
theorem dL_law_444 : decode cL_law 444 = .ok (.aload_n 2, 1) := by decide +kernel
theorem dL_law_445 : decode cL_law 445 = .ok (.aload_n 0, 1) := by decide +kernel
theorem dL_law_446 : decode cL_law 446 = .ok (.iload_n 3, 1) := by decide +kernel
theorem dL_law_447 : decode cL_law 447 = .ok (.iconst 1, 1) := by decide +kernel
theorem dL_law_448 : decode cL_law 448 = .ok (.iadd, 1) := by decide +kernel
theorem dL_law_449 : decode cL_law 449 = .ok (.iaload, 1) := by decide +kernel
theorem dL_law_450 : decode cL_law 450 = .ok (.aload_n 0, 1) := by decide +kernel
theorem dL_law_451 : decode cL_law 451 = .ok (.iload_n 3, 1) := by decide +kernel
theorem dL_law_452 : decode cL_law 452 = .ok (.iconst 2, 1) := by decide +kernel
theorem dL_law_453 : decode cL_law 453 = .ok (.iadd, 1) := by decide +kernel
theorem dL_law_454 : decode cL_law 454 = .ok (.iaload, 1) := by decide +kernel
theorem dL_law_455 : decode cL_law 455 = .ok (.aload_n 0, 1) := by decide +kernel
theorem dL_law_456 : decode cL_law 456 = .ok (.iload_n 3, 1) := by decide +kernel
theorem dL_law_457 : decode cL_law 457 = .ok (.iconst 3, 1) := by decide +kernel
theorem dL_law_458 : decode cL_law 458 = .ok (.iadd, 1) := by decide +kernel
theorem dL_law_459 : decode cL_law 459 = .ok (.iaload, 1) := by decide +kernel
theorem dL_law_460 : decode cL_law 460 = .ok (.invokevirtual 56, 3) := by decide +kernel
theorem dL_law_463 : decode cL_law 463 = .ok (.if_icmp .eq 1037, 3) := by decide +kernel
theorem dL_law_466 : decode cL_law 466 = .ok (.iconst 0, 1) := by decide +kernel
theorem dL_law_467 : decode cL_law 467 = .ok (.ireturn, 1) := by decide +kernel
theorem dL_law_468 : decode cL_law 468 = .ok (.aload_n 1, 1) := by decide +kernel
theorem dL_law_469 : decode cL_law 469 = .ok (.aload_n 0, 1) := by decide +kernel
theorem dL_law_470 : decode cL_law 470 = .ok (.iload_n 3, 1) := by decide +kernel
theorem dL_law_471 : decode cL_law 471 = .ok (.iconst 1, 1) := by decide +kernel
theorem dL_law_472 : decode cL_law 472 = .ok (.iadd, 1) := by decide +kernel
theorem dL_law_473 : decode cL_law 473 = .ok (.iaload, 1) := by decide +kernel
theorem dL_law_474 : decode cL_law 474 = .ok (.aload_n 0, 1) := by decide +kernel
theorem dL_law_475 : decode cL_law 475 = .ok (.iload_n 3, 1) := by decide +kernel
theorem dL_law_476 : decode cL_law 476 = .ok (.iconst 2, 1) := by decide +kernel
theorem dL_law_477 : decode cL_law 477 = .ok (.iadd, 1) := by decide +kernel
theorem dL_law_478 : decode cL_law 478 = .ok (.iaload, 1) := by decide +kernel
theorem dL_law_479 : decode cL_law 479 = .ok (.invokevirtual 57, 3) := by decide +kernel
theorem dL_law_482 : decode cL_law 482 = .ok (.aload_n 2, 1) := by decide +kernel
theorem dL_law_483 : decode cL_law 483 = .ok (.aload_n 0, 1) := by decide +kernel
theorem dL_law_484 : decode cL_law 484 = .ok (.iload_n 3, 1) := by decide +kernel
theorem dL_law_485 : decode cL_law 485 = .ok (.iconst 1, 1) := by decide +kernel
theorem dL_law_486 : decode cL_law 486 = .ok (.iadd, 1) := by decide +kernel
theorem dL_law_487 : decode cL_law 487 = .ok (.iaload, 1) := by decide +kernel
theorem dL_law_488 : decode cL_law 488 = .ok (.aload_n 0, 1) := by decide +kernel
theorem dL_law_489 : decode cL_law 489 = .ok (.iload_n 3, 1) := by decide +kernel
theorem dL_law_490 : decode cL_law 490 = .ok (.iconst 2, 1) := by decide +kernel
theorem dL_law_491 : decode cL_law 491 = .ok (.iadd, 1) := by decide +kernel
theorem dL_law_492 : decode cL_law 492 = .ok (.iaload, 1) := by decide +kernel
theorem dL_law_493 : decode cL_law 493 = .ok (.invokevirtual 60, 3) := by decide +kernel
theorem dL_law_496 : decode cL_law 496 = .ok (.if_icmp .eq 1004, 3) := by decide +kernel
theorem dL_law_499 : decode cL_law 499 = .ok (.iconst 0, 1) := by decide +kernel
theorem dL_law_500 : decode cL_law 500 = .ok (.ireturn, 1) := by decide +kernel
theorem dL_law_501 : decode cL_law 501 = .ok (.aload_n 1, 1) := by decide +kernel
theorem dL_law_502 : decode cL_law 502 = .ok (.aload_n 0, 1) := by decide +kernel
theorem dL_law_503 : decode cL_law 503 = .ok (.iload_n 3, 1) := by decide +kernel
theorem dL_law_504 : decode cL_law 504 = .ok (.iconst 1, 1) := by decide +kernel
theorem dL_law_505 : decode cL_law 505 = .ok (.iadd, 1) := by decide +kernel
theorem dL_law_506 : decode cL_law 506 = .ok (.iaload, 1) := by decide +kernel
theorem dL_law_507 : decode cL_law 507 = .ok (.aload_n 0, 1) := by decide +kernel
theorem dL_law_508 : decode cL_law 508 = .ok (.iload_n 3, 1) := by decide +kernel
theorem dL_law_509 : decode cL_law 509 = .ok (.iconst 2, 1) := by decide +kernel
theorem dL_law_510 : decode cL_law 510 = .ok (.iadd, 1) := by decide +kernel
theorem dL_law_511 : decode cL_law 511 = .ok (.iaload, 1) := by decide +kernel
theorem dL_law_512 : decode cL_law 512 = .ok (.invokevirtual 61, 3) := by decide +kernel
theorem dL_law_515 : decode cL_law 515 = .ok (.aload_n 2, 1) := by decide +kernel
theorem dL_law_516 : decode cL_law 516 = .ok (.aload_n 0, 1) := by decide +kernel
theorem dL_law_517 : decode cL_law 517 = .ok (.iload_n 3, 1) := by decide +kernel
theorem dL_law_518 : decode cL_law 518 = .ok (.iconst 1, 1) := by decide +kernel
theorem dL_law_519 : decode cL_law 519 = .ok (.iadd, 1) := by decide +kernel
theorem dL_law_520 : decode cL_law 520 = .ok (.iaload, 1) := by decide +kernel
theorem dL_law_521 : decode cL_law 521 = .ok (.aload_n 0, 1) := by decide +kernel
theorem dL_law_522 : decode cL_law 522 = .ok (.iload_n 3, 1) := by decide +kernel
theorem dL_law_523 : decode cL_law 523 = .ok (.iconst 2, 1) := by decide +kernel
theorem dL_law_524 : decode cL_law 524 = .ok (.iadd, 1) := by decide +kernel
theorem dL_law_525 : decode cL_law 525 = .ok (.iaload, 1) := by decide +kernel
theorem dL_law_526 : decode cL_law 526 = .ok (.invokevirtual 64, 3) := by decide +kernel
theorem dL_law_529 : decode cL_law 529 = .ok (.if_icmp .eq 971, 3) := by decide +kernel
theorem dL_law_532 : decode cL_law 532 = .ok (.iconst 0, 1) := by decide +kernel
theorem dL_law_533 : decode cL_law 533 = .ok (.ireturn, 1) := by decide +kernel
theorem dL_law_534 : decode cL_law 534 = .ok (.aload_n 1, 1) := by decide +kernel
theorem dL_law_535 : decode cL_law 535 = .ok (.aload_n 0, 1) := by decide +kernel
theorem dL_law_536 : decode cL_law 536 = .ok (.iload_n 3, 1) := by decide +kernel
theorem dL_law_537 : decode cL_law 537 = .ok (.iconst 1, 1) := by decide +kernel
theorem dL_law_538 : decode cL_law 538 = .ok (.iadd, 1) := by decide +kernel
theorem dL_law_539 : decode cL_law 539 = .ok (.iaload, 1) := by decide +kernel
theorem dL_law_540 : decode cL_law 540 = .ok (.aload_n 0, 1) := by decide +kernel
theorem dL_law_541 : decode cL_law 541 = .ok (.iload_n 3, 1) := by decide +kernel
theorem dL_law_542 : decode cL_law 542 = .ok (.iconst 2, 1) := by decide +kernel
theorem dL_law_543 : decode cL_law 543 = .ok (.iadd, 1) := by decide +kernel
theorem dL_law_544 : decode cL_law 544 = .ok (.iaload, 1) := by decide +kernel
theorem dL_law_545 : decode cL_law 545 = .ok (.aload_n 0, 1) := by decide +kernel
theorem dL_law_546 : decode cL_law 546 = .ok (.iload_n 3, 1) := by decide +kernel
theorem dL_law_547 : decode cL_law 547 = .ok (.iconst 3, 1) := by decide +kernel
theorem dL_law_548 : decode cL_law 548 = .ok (.iadd, 1) := by decide +kernel
theorem dL_law_549 : decode cL_law 549 = .ok (.iaload, 1) := by decide +kernel
theorem dL_law_550 : decode cL_law 550 = .ok (.invokevirtual 65, 3) := by decide +kernel
theorem dL_law_553 : decode cL_law 553 = .ok (.aload_n 2, 1) := by decide +kernel
theorem dL_law_554 : decode cL_law 554 = .ok (.aload_n 0, 1) := by decide +kernel
theorem dL_law_555 : decode cL_law 555 = .ok (.iload_n 3, 1) := by decide +kernel
theorem dL_law_556 : decode cL_law 556 = .ok (.iconst 1, 1) := by decide +kernel
theorem dL_law_557 : decode cL_law 557 = .ok (.iadd, 1) := by decide +kernel
theorem dL_law_558 : decode cL_law 558 = .ok (.iaload, 1) := by decide +kernel
theorem dL_law_559 : decode cL_law 559 = .ok (.aload_n 0, 1) := by decide +kernel
theorem dL_law_560 : decode cL_law 560 = .ok (.iload_n 3, 1) := by decide +kernel
theorem dL_law_561 : decode cL_law 561 = .ok (.iconst 2, 1) := by decide +kernel
theorem dL_law_562 : decode cL_law 562 = .ok (.iadd, 1) := by decide +kernel
theorem dL_law_563 : decode cL_law 563 = .ok (.iaload, 1) := by decide +kernel
theorem dL_law_564 : decode cL_law 564 = .ok (.aload_n 0, 1) := by decide +kernel
theorem dL_law_565 : decode cL_law 565 = .ok (.iload_n 3, 1) := by decide +kernel
theorem dL_law_566 : decode cL_law 566 = .ok (.iconst 3, 1) := by decide +kernel
theorem dL_law_567 : decode cL_law 567 = .ok (.iadd, 1) := by decide +kernel
theorem dL_law_568 : decode cL_law 568 = .ok (.iaload, 1) := by decide +kernel
theorem dL_law_569 : decode cL_law 569 = .ok (.invokevirtual 68, 3) := by decide +kernel
theorem dL_law_572 : decode cL_law 572 = .ok (.if_icmp .eq 928, 3) := by decide +kernel
theorem dL_law_575 : decode cL_law 575 = .ok (.iconst 0, 1) := by decide +kernel
theorem dL_law_576 : decode cL_law 576 = .ok (.ireturn, 1) := by decide +kernel
theorem dL_law_577 : decode cL_law 577 = .ok (.aload_n 1, 1) := by decide +kernel
theorem dL_law_578 : decode cL_law 578 = .ok (.aload_n 0, 1) := by decide +kernel
theorem dL_law_579 : decode cL_law 579 = .ok (.iload_n 3, 1) := by decide +kernel
theorem dL_law_580 : decode cL_law 580 = .ok (.iconst 1, 1) := by decide +kernel
theorem dL_law_581 : decode cL_law 581 = .ok (.iadd, 1) := by decide +kernel
theorem dL_law_582 : decode cL_law 582 = .ok (.iaload, 1) := by decide +kernel
theorem dL_law_583 : decode cL_law 583 = .ok (.aload_n 0, 1) := by decide +kernel
theorem dL_law_584 : decode cL_law 584 = .ok (.iload_n 3, 1) := by decide +kernel
theorem dL_law_585 : decode cL_law 585 = .ok (.iconst 2, 1) := by decide +kernel
theorem dL_law_586 : decode cL_law 586 = .ok (.iadd, 1) := by decide +kernel
theorem dL_law_587 : decode cL_law 587 = .ok (.iaload, 1) := by decide +kernel
theorem dL_law_588 : decode cL_law 588 = .ok (.invokevirtual 69, 3) := by decide +kernel
theorem dL_law_591 : decode cL_law 591 = .ok (.aload_n 2, 1) := by decide +kernel
theorem dL_law_592 : decode cL_law 592 = .ok (.aload_n 0, 1) := by decide +kernel
theorem dL_law_593 : decode cL_law 593 = .ok (.iload_n 3, 1) := by decide +kernel
theorem dL_law_594 : decode cL_law 594 = .ok (.iconst 1, 1) := by decide +kernel
theorem dL_law_595 : decode cL_law 595 = .ok (.iadd, 1) := by decide +kernel
theorem dL_law_596 : decode cL_law 596 = .ok (.iaload, 1) := by decide +kernel
theorem dL_law_597 : decode cL_law 597 = .ok (.aload_n 0, 1) := by decide +kernel
theorem dL_law_598 : decode cL_law 598 = .ok (.iload_n 3, 1) := by decide +kernel
theorem dL_law_599 : decode cL_law 599 = .ok (.iconst 2, 1) := by decide +kernel
theorem dL_law_600 : decode cL_law 600 = .ok (.iadd, 1) := by decide +kernel
theorem dL_law_601 : decode cL_law 601 = .ok (.iaload, 1) := by decide +kernel
theorem dL_law_602 : decode cL_law 602 = .ok (.invokevirtual 72, 3) := by decide +kernel
theorem dL_law_605 : decode cL_law 605 = .ok (.if_icmp .eq 895, 3) := by decide +kernel
theorem dL_law_608 : decode cL_law 608 = .ok (.iconst 0, 1) := by decide +kernel
theorem dL_law_609 : decode cL_law 609 = .ok (.ireturn, 1) := by decide +kernel
theorem dL_law_610 : decode cL_law 610 = .ok (.aload_n 1, 1) := by decide +kernel
theorem dL_law_611 : decode cL_law 611 = .ok (.aload_n 0, 1) := by decide +kernel
theorem dL_law_612 : decode cL_law 612 = .ok (.iload_n 3, 1) := by decide +kernel
theorem dL_law_613 : decode cL_law 613 = .ok (.iconst 1, 1) := by decide +kernel
theorem dL_law_614 : decode cL_law 614 = .ok (.iadd, 1) := by decide +kernel
theorem dL_law_615 : decode cL_law 615 = .ok (.iaload, 1) := by decide +kernel
theorem dL_law_616 : decode cL_law 616 = .ok (.invokevirtual 73, 3) := by decide +kernel
theorem dL_law_619 : decode cL_law 619 = .ok (.aload_n 2, 1) := by decide +kernel
theorem dL_law_620 : decode cL_law 620 = .ok (.aload_n 0, 1) := by decide +kernel
theorem dL_law_621 : decode cL_law 621 = .ok (.iload_n 3, 1) := by decide +kernel
theorem dL_law_622 : decode cL_law 622 = .ok (.iconst 1, 1) := by decide +kernel
theorem dL_law_623 : decode cL_law 623 = .ok (.iadd, 1) := by decide +kernel
theorem dL_law_624 : decode cL_law 624 = .ok (.iaload, 1) := by decide +kernel
theorem dL_law_625 : decode cL_law 625 = .ok (.invokevirtual 76, 3) := by decide +kernel
theorem dL_law_628 : decode cL_law 628 = .ok (.if_icmp .eq 872, 3) := by decide +kernel
theorem dL_law_631 : decode cL_law 631 = .ok (.iconst 0, 1) := by decide +kernel
theorem dL_law_632 : decode cL_law 632 = .ok (.ireturn, 1) := by decide +kernel
theorem dL_law_633 : decode cL_law 633 = .ok (.aload_n 1, 1) := by decide +kernel
theorem dL_law_634 : decode cL_law 634 = .ok (.aload_n 0, 1) := by decide +kernel
theorem dL_law_635 : decode cL_law 635 = .ok (.iload_n 3, 1) := by decide +kernel
theorem dL_law_636 : decode cL_law 636 = .ok (.iconst 1, 1) := by decide +kernel
theorem dL_law_637 : decode cL_law 637 = .ok (.iadd, 1) := by decide +kernel
theorem dL_law_638 : decode cL_law 638 = .ok (.iaload, 1) := by decide +kernel
theorem dL_law_639 : decode cL_law 639 = .ok (.aload_n 0, 1) := by decide +kernel
theorem dL_law_640 : decode cL_law 640 = .ok (.iload_n 3, 1) := by decide +kernel
theorem dL_law_641 : decode cL_law 641 = .ok (.iconst 2, 1) := by decide +kernel
theorem dL_law_642 : decode cL_law 642 = .ok (.iadd, 1) := by decide +kernel
theorem dL_law_643 : decode cL_law 643 = .ok (.iaload, 1) := by decide +kernel
theorem dL_law_644 : decode cL_law 644 = .ok (.invokevirtual 77, 3) := by decide +kernel
theorem dL_law_647 : decode cL_law 647 = .ok (.aload_n 2, 1) := by decide +kernel
theorem dL_law_648 : decode cL_law 648 = .ok (.aload_n 0, 1) := by decide +kernel
theorem dL_law_649 : decode cL_law 649 = .ok (.iload_n 3, 1) := by decide +kernel
theorem dL_law_650 : decode cL_law 650 = .ok (.iconst 1, 1) := by decide +kernel
theorem dL_law_651 : decode cL_law 651 = .ok (.iadd, 1) := by decide +kernel
theorem dL_law_652 : decode cL_law 652 = .ok (.iaload, 1) := by decide +kernel
theorem dL_law_653 : decode cL_law 653 = .ok (.aload_n 0, 1) := by decide +kernel
theorem dL_law_654 : decode cL_law 654 = .ok (.iload_n 3, 1) := by decide +kernel
theorem dL_law_655 : decode cL_law 655 = .ok (.iconst 2, 1) := by decide +kernel
theorem dL_law_656 : decode cL_law 656 = .ok (.iadd, 1) := by decide +kernel
theorem dL_law_657 : decode cL_law 657 = .ok (.iaload, 1) := by decide +kernel
theorem dL_law_658 : decode cL_law 658 = .ok (.invokevirtual 80, 3) := by decide +kernel
theorem dL_law_661 : decode cL_law 661 = .ok (.if_icmp .eq 839, 3) := by decide +kernel
theorem dL_law_664 : decode cL_law 664 = .ok (.iconst 0, 1) := by decide +kernel
theorem dL_law_665 : decode cL_law 665 = .ok (.ireturn, 1) := by decide +kernel
theorem dL_law_666 : decode cL_law 666 = .ok (.aload_n 1, 1) := by decide +kernel
theorem dL_law_667 : decode cL_law 667 = .ok (.aload_n 0, 1) := by decide +kernel
theorem dL_law_668 : decode cL_law 668 = .ok (.iload_n 3, 1) := by decide +kernel
theorem dL_law_669 : decode cL_law 669 = .ok (.iconst 1, 1) := by decide +kernel
theorem dL_law_670 : decode cL_law 670 = .ok (.iadd, 1) := by decide +kernel
theorem dL_law_671 : decode cL_law 671 = .ok (.iaload, 1) := by decide +kernel
theorem dL_law_672 : decode cL_law 672 = .ok (.aload_n 0, 1) := by decide +kernel
theorem dL_law_673 : decode cL_law 673 = .ok (.iload_n 3, 1) := by decide +kernel
theorem dL_law_674 : decode cL_law 674 = .ok (.iconst 2, 1) := by decide +kernel
theorem dL_law_675 : decode cL_law 675 = .ok (.iadd, 1) := by decide +kernel
theorem dL_law_676 : decode cL_law 676 = .ok (.iaload, 1) := by decide +kernel
theorem dL_law_677 : decode cL_law 677 = .ok (.invokevirtual 81, 3) := by decide +kernel
theorem dL_law_680 : decode cL_law 680 = .ok (.aload_n 2, 1) := by decide +kernel
theorem dL_law_681 : decode cL_law 681 = .ok (.aload_n 0, 1) := by decide +kernel
theorem dL_law_682 : decode cL_law 682 = .ok (.iload_n 3, 1) := by decide +kernel
theorem dL_law_683 : decode cL_law 683 = .ok (.iconst 1, 1) := by decide +kernel
theorem dL_law_684 : decode cL_law 684 = .ok (.iadd, 1) := by decide +kernel
theorem dL_law_685 : decode cL_law 685 = .ok (.iaload, 1) := by decide +kernel
theorem dL_law_686 : decode cL_law 686 = .ok (.aload_n 0, 1) := by decide +kernel
theorem dL_law_687 : decode cL_law 687 = .ok (.iload_n 3, 1) := by decide +kernel
theorem dL_law_688 : decode cL_law 688 = .ok (.iconst 2, 1) := by decide +kernel
theorem dL_law_689 : decode cL_law 689 = .ok (.iadd, 1) := by decide +kernel
theorem dL_law_690 : decode cL_law 690 = .ok (.iaload, 1) := by decide +kernel
theorem dL_law_691 : decode cL_law 691 = .ok (.invokevirtual 84, 3) := by decide +kernel
theorem dL_law_694 : decode cL_law 694 = .ok (.if_icmp .eq 806, 3) := by decide +kernel
theorem dL_law_697 : decode cL_law 697 = .ok (.iconst 0, 1) := by decide +kernel
theorem dL_law_698 : decode cL_law 698 = .ok (.ireturn, 1) := by decide +kernel
theorem dL_law_699 : decode cL_law 699 = .ok (.aload_n 1, 1) := by decide +kernel
theorem dL_law_700 : decode cL_law 700 = .ok (.aload_n 0, 1) := by decide +kernel
theorem dL_law_701 : decode cL_law 701 = .ok (.iload_n 3, 1) := by decide +kernel
theorem dL_law_702 : decode cL_law 702 = .ok (.iconst 1, 1) := by decide +kernel
theorem dL_law_703 : decode cL_law 703 = .ok (.iadd, 1) := by decide +kernel
theorem dL_law_704 : decode cL_law 704 = .ok (.iaload, 1) := by decide +kernel
theorem dL_law_705 : decode cL_law 705 = .ok (.aload_n 0, 1) := by decide +kernel
theorem dL_law_706 : decode cL_law 706 = .ok (.iload_n 3, 1) := by decide +kernel
theorem dL_law_707 : decode cL_law 707 = .ok (.iconst 2, 1) := by decide +kernel
theorem dL_law_708 : decode cL_law 708 = .ok (.iadd, 1) := by decide +kernel
theorem dL_law_709 : decode cL_law 709 = .ok (.iaload, 1) := by decide +kernel
theorem dL_law_710 : decode cL_law 710 = .ok (.invokevirtual 85, 3) := by decide +kernel
theorem dL_law_713 : decode cL_law 713 = .ok (.aload_n 2, 1) := by decide +kernel
theorem dL_law_714 : decode cL_law 714 = .ok (.aload_n 0, 1) := by decide +kernel
theorem dL_law_715 : decode cL_law 715 = .ok (.iload_n 3, 1) := by decide +kernel
theorem dL_law_716 : decode cL_law 716 = .ok (.iconst 1, 1) := by decide +kernel
theorem dL_law_717 : decode cL_law 717 = .ok (.iadd, 1) := by decide +kernel
theorem dL_law_718 : decode cL_law 718 = .ok (.iaload, 1) := by decide +kernel
theorem dL_law_719 : decode cL_law 719 = .ok (.aload_n 0, 1) := by decide +kernel
theorem dL_law_720 : decode cL_law 720 = .ok (.iload_n 3, 1) := by decide +kernel
theorem dL_law_721 : decode cL_law 721 = .ok (.iconst 2, 1) := by decide +kernel
theorem dL_law_722 : decode cL_law 722 = .ok (.iadd, 1) := by decide +kernel
theorem dL_law_723 : decode cL_law 723 = .ok (.iaload, 1) := by decide +kernel
theorem dL_law_724 : decode cL_law 724 = .ok (.invokevirtual 88, 3) := by decide +kernel
theorem dL_law_727 : decode cL_law 727 = .ok (.if_icmp .eq 773, 3) := by decide +kernel
theorem dL_law_730 : decode cL_law 730 = .ok (.iconst 0, 1) := by decide +kernel
theorem dL_law_731 : decode cL_law 731 = .ok (.ireturn, 1) := by decide +kernel
theorem dL_law_732 : decode cL_law 732 = .ok (.aload_n 1, 1) := by decide +kernel
theorem dL_law_733 : decode cL_law 733 = .ok (.aload_n 0, 1) := by decide +kernel
theorem dL_law_734 : decode cL_law 734 = .ok (.iload_n 3, 1) := by decide +kernel
theorem dL_law_735 : decode cL_law 735 = .ok (.iconst 1, 1) := by decide +kernel
theorem dL_law_736 : decode cL_law 736 = .ok (.iadd, 1) := by decide +kernel
theorem dL_law_737 : decode cL_law 737 = .ok (.iaload, 1) := by decide +kernel
theorem dL_law_738 : decode cL_law 738 = .ok (.invokevirtual 89, 3) := by decide +kernel
theorem dL_law_741 : decode cL_law 741 = .ok (.aload_n 2, 1) := by decide +kernel
theorem dL_law_742 : decode cL_law 742 = .ok (.aload_n 0, 1) := by decide +kernel
theorem dL_law_743 : decode cL_law 743 = .ok (.iload_n 3, 1) := by decide +kernel
theorem dL_law_744 : decode cL_law 744 = .ok (.iconst 1, 1) := by decide +kernel
theorem dL_law_745 : decode cL_law 745 = .ok (.iadd, 1) := by decide +kernel
theorem dL_law_746 : decode cL_law 746 = .ok (.iaload, 1) := by decide +kernel
theorem dL_law_747 : decode cL_law 747 = .ok (.invokevirtual 92, 3) := by decide +kernel
theorem dL_law_750 : decode cL_law 750 = .ok (.if_icmp .eq 750, 3) := by decide +kernel
theorem dL_law_753 : decode cL_law 753 = .ok (.iconst 0, 1) := by decide +kernel
theorem dL_law_754 : decode cL_law 754 = .ok (.ireturn, 1) := by decide +kernel
theorem dL_law_755 : decode cL_law 755 = .ok (.aload_n 1, 1) := by decide +kernel
theorem dL_law_756 : decode cL_law 756 = .ok (.aload_n 0, 1) := by decide +kernel
theorem dL_law_757 : decode cL_law 757 = .ok (.iload_n 3, 1) := by decide +kernel
theorem dL_law_758 : decode cL_law 758 = .ok (.iconst 1, 1) := by decide +kernel
theorem dL_law_759 : decode cL_law 759 = .ok (.iadd, 1) := by decide +kernel
theorem dL_law_760 : decode cL_law 760 = .ok (.iaload, 1) := by decide +kernel
theorem dL_law_761 : decode cL_law 761 = .ok (.aload_n 0, 1) := by decide +kernel
theorem dL_law_762 : decode cL_law 762 = .ok (.iload_n 3, 1) := by decide +kernel
theorem dL_law_763 : decode cL_law 763 = .ok (.iconst 2, 1) := by decide +kernel
theorem dL_law_764 : decode cL_law 764 = .ok (.iadd, 1) := by decide +kernel
theorem dL_law_765 : decode cL_law 765 = .ok (.iaload, 1) := by decide +kernel
theorem dL_law_766 : decode cL_law 766 = .ok (.aload_n 0, 1) := by decide +kernel
theorem dL_law_767 : decode cL_law 767 = .ok (.iload_n 3, 1) := by decide +kernel
theorem dL_law_768 : decode cL_law 768 = .ok (.iconst 3, 1) := by decide +kernel
theorem dL_law_769 : decode cL_law 769 = .ok (.iadd, 1) := by decide +kernel
theorem dL_law_770 : decode cL_law 770 = .ok (.iaload, 1) := by decide +kernel
theorem dL_law_771 : decode cL_law 771 = .ok (.invokevirtual 93, 3) := by decide +kernel
theorem dL_law_774 : decode cL_law 774 = .ok (.aload_n 2, 1) := by decide +kernel
theorem dL_law_775 : decode cL_law 775 = .ok (.aload_n 0, 1) := by decide +kernel
theorem dL_law_776 : decode cL_law 776 = .ok (.iload_n 3, 1) := by decide +kernel
theorem dL_law_777 : decode cL_law 777 = .ok (.iconst 1, 1) := by decide +kernel
theorem dL_law_778 : decode cL_law 778 = .ok (.iadd, 1) := by decide +kernel
theorem dL_law_779 : decode cL_law 779 = .ok (.iaload, 1) := by decide +kernel
theorem dL_law_780 : decode cL_law 780 = .ok (.aload_n 0, 1) := by decide +kernel
theorem dL_law_781 : decode cL_law 781 = .ok (.iload_n 3, 1) := by decide +kernel
theorem dL_law_782 : decode cL_law 782 = .ok (.iconst 2, 1) := by decide +kernel
theorem dL_law_783 : decode cL_law 783 = .ok (.iadd, 1) := by decide +kernel
theorem dL_law_784 : decode cL_law 784 = .ok (.iaload, 1) := by decide +kernel
theorem dL_law_785 : decode cL_law 785 = .ok (.aload_n 0, 1) := by decide +kernel
theorem dL_law_786 : decode cL_law 786 = .ok (.iload_n 3, 1) := by decide +kernel
theorem dL_law_787 : decode cL_law 787 = .ok (.iconst 3, 1) := by decide +kernel
theorem dL_law_788 : decode cL_law 788 = .ok (.iadd, 1) := by decide +kernel
theorem dL_law_789 : decode cL_law 789 = .ok (.iaload, 1) := by decide +kernel
theorem dL_law_790 : decode cL_law 790 = .ok (.invokevirtual 96, 3) := by decide +kernel
theorem dL_law_793 : decode cL_law 793 = .ok (.if_icmp .eq 707, 3) := by decide +kernel
theorem dL_law_796 : decode cL_law 796 = .ok (.iconst 0, 1) := by decide +kernel
theorem dL_law_797 : decode cL_law 797 = .ok (.ireturn, 1) := by decide +kernel
theorem dL_law_798 : decode cL_law 798 = .ok (.aload_n 1, 1) := by decide +kernel
theorem dL_law_799 : decode cL_law 799 = .ok (.aload_n 0, 1) := by decide +kernel
theorem dL_law_800 : decode cL_law 800 = .ok (.iload_n 3, 1) := by decide +kernel
theorem dL_law_801 : decode cL_law 801 = .ok (.iconst 1, 1) := by decide +kernel
theorem dL_law_802 : decode cL_law 802 = .ok (.iadd, 1) := by decide +kernel
theorem dL_law_803 : decode cL_law 803 = .ok (.iaload, 1) := by decide +kernel
theorem dL_law_804 : decode cL_law 804 = .ok (.aload_n 0, 1) := by decide +kernel
theorem dL_law_805 : decode cL_law 805 = .ok (.iload_n 3, 1) := by decide +kernel
theorem dL_law_806 : decode cL_law 806 = .ok (.iconst 2, 1) := by decide +kernel
theorem dL_law_807 : decode cL_law 807 = .ok (.iadd, 1) := by decide +kernel
theorem dL_law_808 : decode cL_law 808 = .ok (.iaload, 1) := by decide +kernel
theorem dL_law_809 : decode cL_law 809 = .ok (.invokevirtual 97, 3) := by decide +kernel
theorem dL_law_812 : decode cL_law 812 = .ok (.aload_n 2, 1) := by decide +kernel
theorem dL_law_813 : decode cL_law 813 = .ok (.aload_n 0, 1) := by decide +kernel
theorem dL_law_814 : decode cL_law 814 = .ok (.iload_n 3, 1) := by decide +kernel
theorem dL_law_815 : decode cL_law 815 = .ok (.iconst 1, 1) := by decide +kernel
theorem dL_law_816 : decode cL_law 816 = .ok (.iadd, 1) := by decide +kernel
theorem dL_law_817 : decode cL_law 817 = .ok (.iaload, 1) := by decide +kernel
theorem dL_law_818 : decode cL_law 818 = .ok (.aload_n 0, 1) := by decide +kernel
theorem dL_law_819 : decode cL_law 819 = .ok (.iload_n 3, 1) := by decide +kernel
theorem dL_law_820 : decode cL_law 820 = .ok (.iconst 2, 1) := by decide +kernel
theorem dL_law_821 : decode cL_law 821 = .ok (.iadd, 1) := by decide +kernel
theorem dL_law_822 : decode cL_law 822 = .ok (.iaload, 1) := by decide +kernel
theorem dL_law_823 : decode cL_law 823 = .ok (.invokevirtual 100, 3) := by decide +kernel
theorem dL_law_826 : decode cL_law 826 = .ok (.if_icmp .eq 674, 3) := by decide +kernel
theorem dL_law_829 : decode cL_law 829 = .ok (.iconst 0, 1) := by decide +kernel
theorem dL_law_830 : decode cL_law 830 = .ok (.ireturn, 1) := by decide +kernel
theorem dL_law_831 : decode cL_law 831 = .ok (.aload_n 1, 1) := by decide +kernel
theorem dL_law_832 : decode cL_law 832 = .ok (.aload_n 0, 1) := by decide +kernel
theorem dL_law_833 : decode cL_law 833 = .ok (.iload_n 3, 1) := by decide +kernel
theorem dL_law_834 : decode cL_law 834 = .ok (.iconst 1, 1) := by decide +kernel
theorem dL_law_835 : decode cL_law 835 = .ok (.iadd, 1) := by decide +kernel
theorem dL_law_836 : decode cL_law 836 = .ok (.iaload, 1) := by decide +kernel
theorem dL_law_837 : decode cL_law 837 = .ok (.aload_n 0, 1) := by decide +kernel
theorem dL_law_838 : decode cL_law 838 = .ok (.iload_n 3, 1) := by decide +kernel
theorem dL_law_839 : decode cL_law 839 = .ok (.iconst 2, 1) := by decide +kernel
theorem dL_law_840 : decode cL_law 840 = .ok (.iadd, 1) := by decide +kernel
theorem dL_law_841 : decode cL_law 841 = .ok (.iaload, 1) := by decide +kernel
theorem dL_law_842 : decode cL_law 842 = .ok (.invokevirtual 101, 3) := by decide +kernel
theorem dL_law_845 : decode cL_law 845 = .ok (.aload_n 2, 1) := by decide +kernel
theorem dL_law_846 : decode cL_law 846 = .ok (.aload_n 0, 1) := by decide +kernel
theorem dL_law_847 : decode cL_law 847 = .ok (.iload_n 3, 1) := by decide +kernel
theorem dL_law_848 : decode cL_law 848 = .ok (.iconst 1, 1) := by decide +kernel
theorem dL_law_849 : decode cL_law 849 = .ok (.iadd, 1) := by decide +kernel
theorem dL_law_850 : decode cL_law 850 = .ok (.iaload, 1) := by decide +kernel
theorem dL_law_851 : decode cL_law 851 = .ok (.aload_n 0, 1) := by decide +kernel
theorem dL_law_852 : decode cL_law 852 = .ok (.iload_n 3, 1) := by decide +kernel
theorem dL_law_853 : decode cL_law 853 = .ok (.iconst 2, 1) := by decide +kernel
theorem dL_law_854 : decode cL_law 854 = .ok (.iadd, 1) := by decide +kernel
theorem dL_law_855 : decode cL_law 855 = .ok (.iaload, 1) := by decide +kernel
theorem dL_law_856 : decode cL_law 856 = .ok (.invokevirtual 104, 3) := by decide +kernel
theorem dL_law_859 : decode cL_law 859 = .ok (.if_icmp .eq 641, 3) := by decide +kernel
theorem dL_law_862 : decode cL_law 862 = .ok (.iconst 0, 1) := by decide +kernel
theorem dL_law_863 : decode cL_law 863 = .ok (.ireturn, 1) := by decide +kernel
theorem dL_law_864 : decode cL_law 864 = .ok (.aload_n 1, 1) := by decide +kernel
theorem dL_law_865 : decode cL_law 865 = .ok (.aload_n 0, 1) := by decide +kernel
theorem dL_law_866 : decode cL_law 866 = .ok (.iload_n 3, 1) := by decide +kernel
theorem dL_law_867 : decode cL_law 867 = .ok (.iconst 1, 1) := by decide +kernel
theorem dL_law_868 : decode cL_law 868 = .ok (.iadd, 1) := by decide +kernel
theorem dL_law_869 : decode cL_law 869 = .ok (.iaload, 1) := by decide +kernel
theorem dL_law_870 : decode cL_law 870 = .ok (.aload_n 0, 1) := by decide +kernel
theorem dL_law_871 : decode cL_law 871 = .ok (.iload_n 3, 1) := by decide +kernel
theorem dL_law_872 : decode cL_law 872 = .ok (.iconst 2, 1) := by decide +kernel
theorem dL_law_873 : decode cL_law 873 = .ok (.iadd, 1) := by decide +kernel
theorem dL_law_874 : decode cL_law 874 = .ok (.iaload, 1) := by decide +kernel
theorem dL_law_875 : decode cL_law 875 = .ok (.invokevirtual 105, 3) := by decide +kernel
theorem dL_law_878 : decode cL_law 878 = .ok (.aload_n 2, 1) := by decide +kernel
theorem dL_law_879 : decode cL_law 879 = .ok (.aload_n 0, 1) := by decide +kernel
theorem dL_law_880 : decode cL_law 880 = .ok (.iload_n 3, 1) := by decide +kernel
theorem dL_law_881 : decode cL_law 881 = .ok (.iconst 1, 1) := by decide +kernel
theorem dL_law_882 : decode cL_law 882 = .ok (.iadd, 1) := by decide +kernel
theorem dL_law_883 : decode cL_law 883 = .ok (.iaload, 1) := by decide +kernel
theorem dL_law_884 : decode cL_law 884 = .ok (.aload_n 0, 1) := by decide +kernel
theorem dL_law_885 : decode cL_law 885 = .ok (.iload_n 3, 1) := by decide +kernel
theorem dL_law_886 : decode cL_law 886 = .ok (.iconst 2, 1) := by decide +kernel
theorem dL_law_887 : decode cL_law 887 = .ok (.iadd, 1) := by decide +kernel
theorem dL_law_888 : decode cL_law 888 = .ok (.iaload, 1) := by decide +kernel
theorem dL_law_889 : decode cL_law 889 = .ok (.invokevirtual 108, 3) := by decide +kernel
theorem dL_law_892 : decode cL_law 892 = .ok (.if_icmp .eq 608, 3) := by decide +kernel
theorem dL_law_895 : decode cL_law 895 = .ok (.iconst 0, 1) := by decide +kernel
theorem dL_law_896 : decode cL_law 896 = .ok (.ireturn, 1) := by decide +kernel
theorem dL_law_897 : decode cL_law 897 = .ok (.aload_n 1, 1) := by decide +kernel
theorem dL_law_898 : decode cL_law 898 = .ok (.aload_n 0, 1) := by decide +kernel
theorem dL_law_899 : decode cL_law 899 = .ok (.iload_n 3, 1) := by decide +kernel
theorem dL_law_900 : decode cL_law 900 = .ok (.iconst 1, 1) := by decide +kernel
theorem dL_law_901 : decode cL_law 901 = .ok (.iadd, 1) := by decide +kernel
theorem dL_law_902 : decode cL_law 902 = .ok (.iaload, 1) := by decide +kernel
theorem dL_law_903 : decode cL_law 903 = .ok (.aload_n 0, 1) := by decide +kernel
theorem dL_law_904 : decode cL_law 904 = .ok (.iload_n 3, 1) := by decide +kernel
theorem dL_law_905 : decode cL_law 905 = .ok (.iconst 2, 1) := by decide +kernel
theorem dL_law_906 : decode cL_law 906 = .ok (.iadd, 1) := by decide +kernel
theorem dL_law_907 : decode cL_law 907 = .ok (.iaload, 1) := by decide +kernel
theorem dL_law_908 : decode cL_law 908 = .ok (.aload_n 0, 1) := by decide +kernel
theorem dL_law_909 : decode cL_law 909 = .ok (.iload_n 3, 1) := by decide +kernel
theorem dL_law_910 : decode cL_law 910 = .ok (.iconst 3, 1) := by decide +kernel
theorem dL_law_911 : decode cL_law 911 = .ok (.iadd, 1) := by decide +kernel
theorem dL_law_912 : decode cL_law 912 = .ok (.iaload, 1) := by decide +kernel
theorem dL_law_913 : decode cL_law 913 = .ok (.invokevirtual 109, 3) := by decide +kernel
theorem dL_law_916 : decode cL_law 916 = .ok (.aload_n 2, 1) := by decide +kernel
theorem dL_law_917 : decode cL_law 917 = .ok (.aload_n 0, 1) := by decide +kernel
theorem dL_law_918 : decode cL_law 918 = .ok (.iload_n 3, 1) := by decide +kernel
theorem dL_law_919 : decode cL_law 919 = .ok (.iconst 1, 1) := by decide +kernel
theorem dL_law_920 : decode cL_law 920 = .ok (.iadd, 1) := by decide +kernel
theorem dL_law_921 : decode cL_law 921 = .ok (.iaload, 1) := by decide +kernel
theorem dL_law_922 : decode cL_law 922 = .ok (.aload_n 0, 1) := by decide +kernel
theorem dL_law_923 : decode cL_law 923 = .ok (.iload_n 3, 1) := by decide +kernel
theorem dL_law_924 : decode cL_law 924 = .ok (.iconst 2, 1) := by decide +kernel
theorem dL_law_925 : decode cL_law 925 = .ok (.iadd, 1) := by decide +kernel
theorem dL_law_926 : decode cL_law 926 = .ok (.iaload, 1) := by decide +kernel
theorem dL_law_927 : decode cL_law 927 = .ok (.aload_n 0, 1) := by decide +kernel
theorem dL_law_928 : decode cL_law 928 = .ok (.iload_n 3, 1) := by decide +kernel
theorem dL_law_929 : decode cL_law 929 = .ok (.iconst 3, 1) := by decide +kernel
theorem dL_law_930 : decode cL_law 930 = .ok (.iadd, 1) := by decide +kernel
theorem dL_law_931 : decode cL_law 931 = .ok (.iaload, 1) := by decide +kernel
theorem dL_law_932 : decode cL_law 932 = .ok (.invokevirtual 112, 3) := by decide +kernel
theorem dL_law_935 : decode cL_law 935 = .ok (.if_icmp .eq 565, 3) := by decide +kernel
theorem dL_law_938 : decode cL_law 938 = .ok (.iconst 0, 1) := by decide +kernel
theorem dL_law_939 : decode cL_law 939 = .ok (.ireturn, 1) := by decide +kernel
theorem dL_law_940 : decode cL_law 940 = .ok (.aload_n 1, 1) := by decide +kernel
theorem dL_law_941 : decode cL_law 941 = .ok (.aload_n 0, 1) := by decide +kernel
theorem dL_law_942 : decode cL_law 942 = .ok (.iload_n 3, 1) := by decide +kernel
theorem dL_law_943 : decode cL_law 943 = .ok (.iconst 1, 1) := by decide +kernel
theorem dL_law_944 : decode cL_law 944 = .ok (.iadd, 1) := by decide +kernel
theorem dL_law_945 : decode cL_law 945 = .ok (.iaload, 1) := by decide +kernel
theorem dL_law_946 : decode cL_law 946 = .ok (.aload_n 0, 1) := by decide +kernel
theorem dL_law_947 : decode cL_law 947 = .ok (.iload_n 3, 1) := by decide +kernel
theorem dL_law_948 : decode cL_law 948 = .ok (.iconst 2, 1) := by decide +kernel
theorem dL_law_949 : decode cL_law 949 = .ok (.iadd, 1) := by decide +kernel
theorem dL_law_950 : decode cL_law 950 = .ok (.iaload, 1) := by decide +kernel
theorem dL_law_951 : decode cL_law 951 = .ok (.aload_n 0, 1) := by decide +kernel
theorem dL_law_952 : decode cL_law 952 = .ok (.iload_n 3, 1) := by decide +kernel
theorem dL_law_953 : decode cL_law 953 = .ok (.iconst 3, 1) := by decide +kernel
theorem dL_law_954 : decode cL_law 954 = .ok (.iadd, 1) := by decide +kernel
theorem dL_law_955 : decode cL_law 955 = .ok (.iaload, 1) := by decide +kernel
theorem dL_law_956 : decode cL_law 956 = .ok (.invokevirtual 113, 3) := by decide +kernel
theorem dL_law_959 : decode cL_law 959 = .ok (.aload_n 2, 1) := by decide +kernel
theorem dL_law_960 : decode cL_law 960 = .ok (.aload_n 0, 1) := by decide +kernel
theorem dL_law_961 : decode cL_law 961 = .ok (.iload_n 3, 1) := by decide +kernel
theorem dL_law_962 : decode cL_law 962 = .ok (.iconst 1, 1) := by decide +kernel
theorem dL_law_963 : decode cL_law 963 = .ok (.iadd, 1) := by decide +kernel
theorem dL_law_964 : decode cL_law 964 = .ok (.iaload, 1) := by decide +kernel
theorem dL_law_965 : decode cL_law 965 = .ok (.aload_n 0, 1) := by decide +kernel
theorem dL_law_966 : decode cL_law 966 = .ok (.iload_n 3, 1) := by decide +kernel
theorem dL_law_967 : decode cL_law 967 = .ok (.iconst 2, 1) := by decide +kernel
theorem dL_law_968 : decode cL_law 968 = .ok (.iadd, 1) := by decide +kernel
theorem dL_law_969 : decode cL_law 969 = .ok (.iaload, 1) := by decide +kernel
theorem dL_law_970 : decode cL_law 970 = .ok (.aload_n 0, 1) := by decide +kernel
theorem dL_law_971 : decode cL_law 971 = .ok (.iload_n 3, 1) := by decide +kernel
theorem dL_law_972 : decode cL_law 972 = .ok (.iconst 3, 1) := by decide +kernel
theorem dL_law_973 : decode cL_law 973 = .ok (.iadd, 1) := by decide +kernel
theorem dL_law_974 : decode cL_law 974 = .ok (.iaload, 1) := by decide +kernel
theorem dL_law_975 : decode cL_law 975 = .ok (.invokevirtual 116, 3) := by decide +kernel
theorem dL_law_978 : decode cL_law 978 = .ok (.if_icmp .eq 522, 3) := by decide +kernel
theorem dL_law_981 : decode cL_law 981 = .ok (.iconst 0, 1) := by decide +kernel
theorem dL_law_982 : decode cL_law 982 = .ok (.ireturn, 1) := by decide +kernel
theorem dL_law_983 : decode cL_law 983 = .ok (.aload_n 1, 1) := by decide +kernel
theorem dL_law_984 : decode cL_law 984 = .ok (.aload_n 0, 1) := by decide +kernel
theorem dL_law_985 : decode cL_law 985 = .ok (.iload_n 3, 1) := by decide +kernel
theorem dL_law_986 : decode cL_law 986 = .ok (.iconst 1, 1) := by decide +kernel
theorem dL_law_987 : decode cL_law 987 = .ok (.iadd, 1) := by decide +kernel
theorem dL_law_988 : decode cL_law 988 = .ok (.iaload, 1) := by decide +kernel
theorem dL_law_989 : decode cL_law 989 = .ok (.aload_n 0, 1) := by decide +kernel
theorem dL_law_990 : decode cL_law 990 = .ok (.iload_n 3, 1) := by decide +kernel
theorem dL_law_991 : decode cL_law 991 = .ok (.iconst 2, 1) := by decide +kernel
theorem dL_law_992 : decode cL_law 992 = .ok (.iadd, 1) := by decide +kernel
theorem dL_law_993 : decode cL_law 993 = .ok (.iaload, 1) := by decide +kernel
theorem dL_law_994 : decode cL_law 994 = .ok (.aload_n 0, 1) := by decide +kernel
theorem dL_law_995 : decode cL_law 995 = .ok (.iload_n 3, 1) := by decide +kernel
theorem dL_law_996 : decode cL_law 996 = .ok (.iconst 3, 1) := by decide +kernel
theorem dL_law_997 : decode cL_law 997 = .ok (.iadd, 1) := by decide +kernel
theorem dL_law_998 : decode cL_law 998 = .ok (.iaload, 1) := by decide +kernel
theorem dL_law_999 : decode cL_law 999 = .ok (.aload_n 0, 1) := by decide +kernel
theorem dL_law_1000 : decode cL_law 1000 = .ok (.iload_n 3, 1) := by decide +kernel
theorem dL_law_1001 : decode cL_law 1001 = .ok (.iconst 4, 1) := by decide +kernel
theorem dL_law_1002 : decode cL_law 1002 = .ok (.iadd, 1) := by decide +kernel
theorem dL_law_1003 : decode cL_law 1003 = .ok (.iaload, 1) := by decide +kernel
theorem dL_law_1004 : decode cL_law 1004 = .ok (.invokevirtual 117, 3) := by decide +kernel
theorem dL_law_1007 : decode cL_law 1007 = .ok (.aload_n 2, 1) := by decide +kernel
theorem dL_law_1008 : decode cL_law 1008 = .ok (.aload_n 0, 1) := by decide +kernel
theorem dL_law_1009 : decode cL_law 1009 = .ok (.iload_n 3, 1) := by decide +kernel
theorem dL_law_1010 : decode cL_law 1010 = .ok (.iconst 1, 1) := by decide +kernel
theorem dL_law_1011 : decode cL_law 1011 = .ok (.iadd, 1) := by decide +kernel
theorem dL_law_1012 : decode cL_law 1012 = .ok (.iaload, 1) := by decide +kernel
theorem dL_law_1013 : decode cL_law 1013 = .ok (.aload_n 0, 1) := by decide +kernel
theorem dL_law_1014 : decode cL_law 1014 = .ok (.iload_n 3, 1) := by decide +kernel
theorem dL_law_1015 : decode cL_law 1015 = .ok (.iconst 2, 1) := by decide +kernel
theorem dL_law_1016 : decode cL_law 1016 = .ok (.iadd, 1) := by decide +kernel
theorem dL_law_1017 : decode cL_law 1017 = .ok (.iaload, 1) := by decide +kernel
theorem dL_law_1018 : decode cL_law 1018 = .ok (.aload_n 0, 1) := by decide +kernel
theorem dL_law_1019 : decode cL_law 1019 = .ok (.iload_n 3, 1) := by decide +kernel
theorem dL_law_1020 : decode cL_law 1020 = .ok (.iconst 3, 1) := by decide +kernel
theorem dL_law_1021 : decode cL_law 1021 = .ok (.iadd, 1) := by decide +kernel
theorem dL_law_1022 : decode cL_law 1022 = .ok (.iaload, 1) := by decide +kernel
theorem dL_law_1023 : decode cL_law 1023 = .ok (.aload_n 0, 1) := by decide +kernel
theorem dL_law_1024 : decode cL_law 1024 = .ok (.iload_n 3, 1) := by decide +kernel
theorem dL_law_1025 : decode cL_law 1025 = .ok (.iconst 4, 1) := by decide +kernel
theorem dL_law_1026 : decode cL_law 1026 = .ok (.iadd, 1) := by decide +kernel
theorem dL_law_1027 : decode cL_law 1027 = .ok (.iaload, 1) := by decide +kernel
theorem dL_law_1028 : decode cL_law 1028 = .ok (.invokevirtual 121, 3) := by decide +kernel
theorem dL_law_1031 : decode cL_law 1031 = .ok (.lcmp, 1) := by decide +kernel
theorem dL_law_1032 : decode cL_law 1032 = .ok (.ifCond .eq 468, 3) := by decide +kernel
theorem dL_law_1035 : decode cL_law 1035 = .ok (.iconst 0, 1) := by decide +kernel
theorem dL_law_1036 : decode cL_law 1036 = .ok (.ireturn, 1) := by decide +kernel
theorem dL_law_1037 : decode cL_law 1037 = .ok (.aload_n 1, 1) := by decide +kernel
theorem dL_law_1038 : decode cL_law 1038 = .ok (.aload_n 0, 1) := by decide +kernel
theorem dL_law_1039 : decode cL_law 1039 = .ok (.iload_n 3, 1) := by decide +kernel
theorem dL_law_1040 : decode cL_law 1040 = .ok (.iconst 1, 1) := by decide +kernel
theorem dL_law_1041 : decode cL_law 1041 = .ok (.iadd, 1) := by decide +kernel
theorem dL_law_1042 : decode cL_law 1042 = .ok (.iaload, 1) := by decide +kernel
theorem dL_law_1043 : decode cL_law 1043 = .ok (.aload_n 0, 1) := by decide +kernel
theorem dL_law_1044 : decode cL_law 1044 = .ok (.iload_n 3, 1) := by decide +kernel
theorem dL_law_1045 : decode cL_law 1045 = .ok (.iconst 2, 1) := by decide +kernel
theorem dL_law_1046 : decode cL_law 1046 = .ok (.iadd, 1) := by decide +kernel
theorem dL_law_1047 : decode cL_law 1047 = .ok (.iaload, 1) := by decide +kernel
theorem dL_law_1048 : decode cL_law 1048 = .ok (.aload_n 0, 1) := by decide +kernel
theorem dL_law_1049 : decode cL_law 1049 = .ok (.iload_n 3, 1) := by decide +kernel
theorem dL_law_1050 : decode cL_law 1050 = .ok (.iconst 3, 1) := by decide +kernel
theorem dL_law_1051 : decode cL_law 1051 = .ok (.iadd, 1) := by decide +kernel
theorem dL_law_1052 : decode cL_law 1052 = .ok (.iaload, 1) := by decide +kernel
theorem dL_law_1053 : decode cL_law 1053 = .ok (.aload_n 0, 1) := by decide +kernel
theorem dL_law_1054 : decode cL_law 1054 = .ok (.iload_n 3, 1) := by decide +kernel
theorem dL_law_1055 : decode cL_law 1055 = .ok (.iconst 4, 1) := by decide +kernel
theorem dL_law_1056 : decode cL_law 1056 = .ok (.iadd, 1) := by decide +kernel
theorem dL_law_1057 : decode cL_law 1057 = .ok (.iaload, 1) := by decide +kernel
theorem dL_law_1058 : decode cL_law 1058 = .ok (.invokevirtual 122, 3) := by decide +kernel
theorem dL_law_1061 : decode cL_law 1061 = .ok (.aload_n 2, 1) := by decide +kernel
theorem dL_law_1062 : decode cL_law 1062 = .ok (.aload_n 0, 1) := by decide +kernel
theorem dL_law_1063 : decode cL_law 1063 = .ok (.iload_n 3, 1) := by decide +kernel
theorem dL_law_1064 : decode cL_law 1064 = .ok (.iconst 1, 1) := by decide +kernel
theorem dL_law_1065 : decode cL_law 1065 = .ok (.iadd, 1) := by decide +kernel
theorem dL_law_1066 : decode cL_law 1066 = .ok (.iaload, 1) := by decide +kernel
theorem dL_law_1067 : decode cL_law 1067 = .ok (.aload_n 0, 1) := by decide +kernel
theorem dL_law_1068 : decode cL_law 1068 = .ok (.iload_n 3, 1) := by decide +kernel
theorem dL_law_1069 : decode cL_law 1069 = .ok (.iconst 2, 1) := by decide +kernel
theorem dL_law_1070 : decode cL_law 1070 = .ok (.iadd, 1) := by decide +kernel
theorem dL_law_1071 : decode cL_law 1071 = .ok (.iaload, 1) := by decide +kernel
theorem dL_law_1072 : decode cL_law 1072 = .ok (.aload_n 0, 1) := by decide +kernel
theorem dL_law_1073 : decode cL_law 1073 = .ok (.iload_n 3, 1) := by decide +kernel
theorem dL_law_1074 : decode cL_law 1074 = .ok (.iconst 3, 1) := by decide +kernel
theorem dL_law_1075 : decode cL_law 1075 = .ok (.iadd, 1) := by decide +kernel
theorem dL_law_1076 : decode cL_law 1076 = .ok (.iaload, 1) := by decide +kernel
theorem dL_law_1077 : decode cL_law 1077 = .ok (.aload_n 0, 1) := by decide +kernel
theorem dL_law_1078 : decode cL_law 1078 = .ok (.iload_n 3, 1) := by decide +kernel
theorem dL_law_1079 : decode cL_law 1079 = .ok (.iconst 4, 1) := by decide +kernel
theorem dL_law_1080 : decode cL_law 1080 = .ok (.iadd, 1) := by decide +kernel
theorem dL_law_1081 : decode cL_law 1081 = .ok (.iaload, 1) := by decide +kernel
theorem dL_law_1082 : decode cL_law 1082 = .ok (.invokevirtual 125, 3) := by decide +kernel
theorem dL_law_1085 : decode cL_law 1085 = .ok (.lcmp, 1) := by decide +kernel
theorem dL_law_1086 : decode cL_law 1086 = .ok (.ifCond .eq 414, 3) := by decide +kernel
theorem dL_law_1089 : decode cL_law 1089 = .ok (.iconst 0, 1) := by decide +kernel
theorem dL_law_1090 : decode cL_law 1090 = .ok (.ireturn, 1) := by decide +kernel
theorem dL_law_1091 : decode cL_law 1091 = .ok (.aload_n 1, 1) := by decide +kernel
theorem dL_law_1092 : decode cL_law 1092 = .ok (.aload_n 0, 1) := by decide +kernel
theorem dL_law_1093 : decode cL_law 1093 = .ok (.iload_n 3, 1) := by decide +kernel
theorem dL_law_1094 : decode cL_law 1094 = .ok (.iconst 1, 1) := by decide +kernel
theorem dL_law_1095 : decode cL_law 1095 = .ok (.iadd, 1) := by decide +kernel
theorem dL_law_1096 : decode cL_law 1096 = .ok (.iaload, 1) := by decide +kernel
theorem dL_law_1097 : decode cL_law 1097 = .ok (.aload_n 0, 1) := by decide +kernel
theorem dL_law_1098 : decode cL_law 1098 = .ok (.iload_n 3, 1) := by decide +kernel
theorem dL_law_1099 : decode cL_law 1099 = .ok (.iconst 2, 1) := by decide +kernel
theorem dL_law_1100 : decode cL_law 1100 = .ok (.iadd, 1) := by decide +kernel
theorem dL_law_1101 : decode cL_law 1101 = .ok (.iaload, 1) := by decide +kernel
theorem dL_law_1102 : decode cL_law 1102 = .ok (.aload_n 0, 1) := by decide +kernel
theorem dL_law_1103 : decode cL_law 1103 = .ok (.iload_n 3, 1) := by decide +kernel
theorem dL_law_1104 : decode cL_law 1104 = .ok (.iconst 3, 1) := by decide +kernel
theorem dL_law_1105 : decode cL_law 1105 = .ok (.iadd, 1) := by decide +kernel
theorem dL_law_1106 : decode cL_law 1106 = .ok (.iaload, 1) := by decide +kernel
theorem dL_law_1107 : decode cL_law 1107 = .ok (.invokevirtual 126, 3) := by decide +kernel
theorem dL_law_1110 : decode cL_law 1110 = .ok (.aload_n 2, 1) := by decide +kernel
theorem dL_law_1111 : decode cL_law 1111 = .ok (.aload_n 0, 1) := by decide +kernel
theorem dL_law_1112 : decode cL_law 1112 = .ok (.iload_n 3, 1) := by decide +kernel
theorem dL_law_1113 : decode cL_law 1113 = .ok (.iconst 1, 1) := by decide +kernel
theorem dL_law_1114 : decode cL_law 1114 = .ok (.iadd, 1) := by decide +kernel
theorem dL_law_1115 : decode cL_law 1115 = .ok (.iaload, 1) := by decide +kernel
theorem dL_law_1116 : decode cL_law 1116 = .ok (.aload_n 0, 1) := by decide +kernel
theorem dL_law_1117 : decode cL_law 1117 = .ok (.iload_n 3, 1) := by decide +kernel
theorem dL_law_1118 : decode cL_law 1118 = .ok (.iconst 2, 1) := by decide +kernel
theorem dL_law_1119 : decode cL_law 1119 = .ok (.iadd, 1) := by decide +kernel
theorem dL_law_1120 : decode cL_law 1120 = .ok (.iaload, 1) := by decide +kernel
theorem dL_law_1121 : decode cL_law 1121 = .ok (.aload_n 0, 1) := by decide +kernel
theorem dL_law_1122 : decode cL_law 1122 = .ok (.iload_n 3, 1) := by decide +kernel
theorem dL_law_1123 : decode cL_law 1123 = .ok (.iconst 3, 1) := by decide +kernel
theorem dL_law_1124 : decode cL_law 1124 = .ok (.iadd, 1) := by decide +kernel
theorem dL_law_1125 : decode cL_law 1125 = .ok (.iaload, 1) := by decide +kernel
theorem dL_law_1126 : decode cL_law 1126 = .ok (.invokevirtual 129, 3) := by decide +kernel
theorem dL_law_1129 : decode cL_law 1129 = .ok (.if_icmp .eq 371, 3) := by decide +kernel
theorem dL_law_1132 : decode cL_law 1132 = .ok (.iconst 0, 1) := by decide +kernel
theorem dL_law_1133 : decode cL_law 1133 = .ok (.ireturn, 1) := by decide +kernel
theorem dL_law_1134 : decode cL_law 1134 = .ok (.aload_n 1, 1) := by decide +kernel
theorem dL_law_1135 : decode cL_law 1135 = .ok (.aload_n 0, 1) := by decide +kernel
theorem dL_law_1136 : decode cL_law 1136 = .ok (.iload_n 3, 1) := by decide +kernel
theorem dL_law_1137 : decode cL_law 1137 = .ok (.iconst 1, 1) := by decide +kernel
theorem dL_law_1138 : decode cL_law 1138 = .ok (.iadd, 1) := by decide +kernel
theorem dL_law_1139 : decode cL_law 1139 = .ok (.iaload, 1) := by decide +kernel
theorem dL_law_1140 : decode cL_law 1140 = .ok (.invokevirtual 130, 3) := by decide +kernel
theorem dL_law_1143 : decode cL_law 1143 = .ok (.aload_n 2, 1) := by decide +kernel
theorem dL_law_1144 : decode cL_law 1144 = .ok (.aload_n 0, 1) := by decide +kernel
theorem dL_law_1145 : decode cL_law 1145 = .ok (.iload_n 3, 1) := by decide +kernel
theorem dL_law_1146 : decode cL_law 1146 = .ok (.iconst 1, 1) := by decide +kernel
theorem dL_law_1147 : decode cL_law 1147 = .ok (.iadd, 1) := by decide +kernel
theorem dL_law_1148 : decode cL_law 1148 = .ok (.iaload, 1) := by decide +kernel
theorem dL_law_1149 : decode cL_law 1149 = .ok (.invokevirtual 133, 3) := by decide +kernel
theorem dL_law_1152 : decode cL_law 1152 = .ok (.if_icmp .eq 348, 3) := by decide +kernel
theorem dL_law_1155 : decode cL_law 1155 = .ok (.iconst 0, 1) := by decide +kernel
theorem dL_law_1156 : decode cL_law 1156 = .ok (.ireturn, 1) := by decide +kernel
theorem dL_law_1157 : decode cL_law 1157 = .ok (.aload_n 1, 1) := by decide +kernel
theorem dL_law_1158 : decode cL_law 1158 = .ok (.aload_n 0, 1) := by decide +kernel
theorem dL_law_1159 : decode cL_law 1159 = .ok (.iload_n 3, 1) := by decide +kernel
theorem dL_law_1160 : decode cL_law 1160 = .ok (.iconst 1, 1) := by decide +kernel
theorem dL_law_1161 : decode cL_law 1161 = .ok (.iadd, 1) := by decide +kernel
theorem dL_law_1162 : decode cL_law 1162 = .ok (.iaload, 1) := by decide +kernel
theorem dL_law_1163 : decode cL_law 1163 = .ok (.invokevirtual 134, 3) := by decide +kernel
theorem dL_law_1166 : decode cL_law 1166 = .ok (.aload_n 2, 1) := by decide +kernel
theorem dL_law_1167 : decode cL_law 1167 = .ok (.aload_n 0, 1) := by decide +kernel
theorem dL_law_1168 : decode cL_law 1168 = .ok (.iload_n 3, 1) := by decide +kernel
theorem dL_law_1169 : decode cL_law 1169 = .ok (.iconst 1, 1) := by decide +kernel
theorem dL_law_1170 : decode cL_law 1170 = .ok (.iadd, 1) := by decide +kernel
theorem dL_law_1171 : decode cL_law 1171 = .ok (.iaload, 1) := by decide +kernel
theorem dL_law_1172 : decode cL_law 1172 = .ok (.invokevirtual 137, 3) := by decide +kernel
theorem dL_law_1175 : decode cL_law 1175 = .ok (.if_icmp .eq 325, 3) := by decide +kernel
theorem dL_law_1178 : decode cL_law 1178 = .ok (.iconst 0, 1) := by decide +kernel
theorem dL_law_1179 : decode cL_law 1179 = .ok (.ireturn, 1) := by decide +kernel
theorem dL_law_1180 : decode cL_law 1180 = .ok (.aload_n 1, 1) := by decide +kernel
theorem dL_law_1181 : decode cL_law 1181 = .ok (.aload_n 0, 1) := by decide +kernel
theorem dL_law_1182 : decode cL_law 1182 = .ok (.iload_n 3, 1) := by decide +kernel
theorem dL_law_1183 : decode cL_law 1183 = .ok (.iconst 1, 1) := by decide +kernel
theorem dL_law_1184 : decode cL_law 1184 = .ok (.iadd, 1) := by decide +kernel
theorem dL_law_1185 : decode cL_law 1185 = .ok (.iaload, 1) := by decide +kernel
theorem dL_law_1186 : decode cL_law 1186 = .ok (.invokevirtual 138, 3) := by decide +kernel
theorem dL_law_1189 : decode cL_law 1189 = .ok (.aload_n 2, 1) := by decide +kernel
theorem dL_law_1190 : decode cL_law 1190 = .ok (.aload_n 0, 1) := by decide +kernel
theorem dL_law_1191 : decode cL_law 1191 = .ok (.iload_n 3, 1) := by decide +kernel
theorem dL_law_1192 : decode cL_law 1192 = .ok (.iconst 1, 1) := by decide +kernel
theorem dL_law_1193 : decode cL_law 1193 = .ok (.iadd, 1) := by decide +kernel
theorem dL_law_1194 : decode cL_law 1194 = .ok (.iaload, 1) := by decide +kernel
theorem dL_law_1195 : decode cL_law 1195 = .ok (.invokevirtual 141, 3) := by decide +kernel
theorem dL_law_1198 : decode cL_law 1198 = .ok (.if_icmp .eq 302, 3) := by decide +kernel
theorem dL_law_1201 : decode cL_law 1201 = .ok (.iconst 0, 1) := by decide +kernel
theorem dL_law_1202 : decode cL_law 1202 = .ok (.ireturn, 1) := by decide +kernel
theorem dL_law_1203 : decode cL_law 1203 = .ok (.aload_n 1, 1) := by decide +kernel
theorem dL_law_1204 : decode cL_law 1204 = .ok (.aload_n 0, 1) := by decide +kernel
theorem dL_law_1205 : decode cL_law 1205 = .ok (.iload_n 3, 1) := by decide +kernel
theorem dL_law_1206 : decode cL_law 1206 = .ok (.iconst 1, 1) := by decide +kernel
theorem dL_law_1207 : decode cL_law 1207 = .ok (.iadd, 1) := by decide +kernel
theorem dL_law_1208 : decode cL_law 1208 = .ok (.iaload, 1) := by decide +kernel
theorem dL_law_1209 : decode cL_law 1209 = .ok (.aload_n 0, 1) := by decide +kernel
theorem dL_law_1210 : decode cL_law 1210 = .ok (.iload_n 3, 1) := by decide +kernel
theorem dL_law_1211 : decode cL_law 1211 = .ok (.iconst 2, 1) := by decide +kernel
theorem dL_law_1212 : decode cL_law 1212 = .ok (.iadd, 1) := by decide +kernel
theorem dL_law_1213 : decode cL_law 1213 = .ok (.iaload, 1) := by decide +kernel
theorem dL_law_1214 : decode cL_law 1214 = .ok (.invokevirtual 142, 3) := by decide +kernel
theorem dL_law_1217 : decode cL_law 1217 = .ok (.aload_n 2, 1) := by decide +kernel
theorem dL_law_1218 : decode cL_law 1218 = .ok (.aload_n 0, 1) := by decide +kernel
theorem dL_law_1219 : decode cL_law 1219 = .ok (.iload_n 3, 1) := by decide +kernel
theorem dL_law_1220 : decode cL_law 1220 = .ok (.iconst 1, 1) := by decide +kernel
theorem dL_law_1221 : decode cL_law 1221 = .ok (.iadd, 1) := by decide +kernel
theorem dL_law_1222 : decode cL_law 1222 = .ok (.iaload, 1) := by decide +kernel
theorem dL_law_1223 : decode cL_law 1223 = .ok (.aload_n 0, 1) := by decide +kernel
theorem dL_law_1224 : decode cL_law 1224 = .ok (.iload_n 3, 1) := by decide +kernel
theorem dL_law_1225 : decode cL_law 1225 = .ok (.iconst 2, 1) := by decide +kernel
theorem dL_law_1226 : decode cL_law 1226 = .ok (.iadd, 1) := by decide +kernel
theorem dL_law_1227 : decode cL_law 1227 = .ok (.iaload, 1) := by decide +kernel
theorem dL_law_1228 : decode cL_law 1228 = .ok (.invokevirtual 145, 3) := by decide +kernel
theorem dL_law_1231 : decode cL_law 1231 = .ok (.if_icmp .eq 269, 3) := by decide +kernel
theorem dL_law_1234 : decode cL_law 1234 = .ok (.iconst 0, 1) := by decide +kernel
theorem dL_law_1235 : decode cL_law 1235 = .ok (.ireturn, 1) := by decide +kernel
theorem dL_law_1236 : decode cL_law 1236 = .ok (.aload_n 1, 1) := by decide +kernel
theorem dL_law_1237 : decode cL_law 1237 = .ok (.aload_n 0, 1) := by decide +kernel
theorem dL_law_1238 : decode cL_law 1238 = .ok (.iload_n 3, 1) := by decide +kernel
theorem dL_law_1239 : decode cL_law 1239 = .ok (.iconst 1, 1) := by decide +kernel
theorem dL_law_1240 : decode cL_law 1240 = .ok (.iadd, 1) := by decide +kernel
theorem dL_law_1241 : decode cL_law 1241 = .ok (.iaload, 1) := by decide +kernel
theorem dL_law_1242 : decode cL_law 1242 = .ok (.aload_n 0, 1) := by decide +kernel
theorem dL_law_1243 : decode cL_law 1243 = .ok (.iload_n 3, 1) := by decide +kernel
theorem dL_law_1244 : decode cL_law 1244 = .ok (.iconst 2, 1) := by decide +kernel
theorem dL_law_1245 : decode cL_law 1245 = .ok (.iadd, 1) := by decide +kernel
theorem dL_law_1246 : decode cL_law 1246 = .ok (.iaload, 1) := by decide +kernel
theorem dL_law_1247 : decode cL_law 1247 = .ok (.aload_n 0, 1) := by decide +kernel
theorem dL_law_1248 : decode cL_law 1248 = .ok (.iload_n 3, 1) := by decide +kernel
theorem dL_law_1249 : decode cL_law 1249 = .ok (.iconst 3, 1) := by decide +kernel
theorem dL_law_1250 : decode cL_law 1250 = .ok (.iadd, 1) := by decide +kernel
theorem dL_law_1251 : decode cL_law 1251 = .ok (.iaload, 1) := by decide +kernel
theorem dL_law_1252 : decode cL_law 1252 = .ok (.invokevirtual 146, 3) := by decide +kernel
theorem dL_law_1255 : decode cL_law 1255 = .ok (.aload_n 2, 1) := by decide +kernel
theorem dL_law_1256 : decode cL_law 1256 = .ok (.aload_n 0, 1) := by decide +kernel
theorem dL_law_1257 : decode cL_law 1257 = .ok (.iload_n 3, 1) := by decide +kernel
theorem dL_law_1258 : decode cL_law 1258 = .ok (.iconst 1, 1) := by decide +kernel
theorem dL_law_1259 : decode cL_law 1259 = .ok (.iadd, 1) := by decide +kernel
theorem dL_law_1260 : decode cL_law 1260 = .ok (.iaload, 1) := by decide +kernel
theorem dL_law_1261 : decode cL_law 1261 = .ok (.aload_n 0, 1) := by decide +kernel
theorem dL_law_1262 : decode cL_law 1262 = .ok (.iload_n 3, 1) := by decide +kernel
theorem dL_law_1263 : decode cL_law 1263 = .ok (.iconst 2, 1) := by decide +kernel
theorem dL_law_1264 : decode cL_law 1264 = .ok (.iadd, 1) := by decide +kernel
theorem dL_law_1265 : decode cL_law 1265 = .ok (.iaload, 1) := by decide +kernel
theorem dL_law_1266 : decode cL_law 1266 = .ok (.aload_n 0, 1) := by decide +kernel
theorem dL_law_1267 : decode cL_law 1267 = .ok (.iload_n 3, 1) := by decide +kernel
theorem dL_law_1268 : decode cL_law 1268 = .ok (.iconst 3, 1) := by decide +kernel
theorem dL_law_1269 : decode cL_law 1269 = .ok (.iadd, 1) := by decide +kernel
theorem dL_law_1270 : decode cL_law 1270 = .ok (.iaload, 1) := by decide +kernel
theorem dL_law_1271 : decode cL_law 1271 = .ok (.invokevirtual 149, 3) := by decide +kernel
theorem dL_law_1274 : decode cL_law 1274 = .ok (.if_icmp .eq 226, 3) := by decide +kernel
theorem dL_law_1277 : decode cL_law 1277 = .ok (.iconst 0, 1) := by decide +kernel
theorem dL_law_1278 : decode cL_law 1278 = .ok (.ireturn, 1) := by decide +kernel
theorem dL_law_1279 : decode cL_law 1279 = .ok (.aload_n 1, 1) := by decide +kernel
theorem dL_law_1280 : decode cL_law 1280 = .ok (.aload_n 0, 1) := by decide +kernel
theorem dL_law_1281 : decode cL_law 1281 = .ok (.iload_n 3, 1) := by decide +kernel
theorem dL_law_1282 : decode cL_law 1282 = .ok (.iconst 1, 1) := by decide +kernel
theorem dL_law_1283 : decode cL_law 1283 = .ok (.iadd, 1) := by decide +kernel
theorem dL_law_1284 : decode cL_law 1284 = .ok (.iaload, 1) := by decide +kernel
theorem dL_law_1285 : decode cL_law 1285 = .ok (.invokevirtual 150, 3) := by decide +kernel
theorem dL_law_1288 : decode cL_law 1288 = .ok (.aload_n 2, 1) := by decide +kernel
theorem dL_law_1289 : decode cL_law 1289 = .ok (.aload_n 0, 1) := by decide +kernel
theorem dL_law_1290 : decode cL_law 1290 = .ok (.iload_n 3, 1) := by decide +kernel
theorem dL_law_1291 : decode cL_law 1291 = .ok (.iconst 1, 1) := by decide +kernel
theorem dL_law_1292 : decode cL_law 1292 = .ok (.iadd, 1) := by decide +kernel
theorem dL_law_1293 : decode cL_law 1293 = .ok (.iaload, 1) := by decide +kernel
theorem dL_law_1294 : decode cL_law 1294 = .ok (.invokevirtual 153, 3) := by decide +kernel
theorem dL_law_1297 : decode cL_law 1297 = .ok (.if_icmp .eq 203, 3) := by decide +kernel
theorem dL_law_1300 : decode cL_law 1300 = .ok (.iconst 0, 1) := by decide +kernel
theorem dL_law_1301 : decode cL_law 1301 = .ok (.ireturn, 1) := by decide +kernel
theorem dL_law_1302 : decode cL_law 1302 = .ok (.aload_n 1, 1) := by decide +kernel
theorem dL_law_1303 : decode cL_law 1303 = .ok (.aload_n 0, 1) := by decide +kernel
theorem dL_law_1304 : decode cL_law 1304 = .ok (.iload_n 3, 1) := by decide +kernel
theorem dL_law_1305 : decode cL_law 1305 = .ok (.iconst 1, 1) := by decide +kernel
theorem dL_law_1306 : decode cL_law 1306 = .ok (.iadd, 1) := by decide +kernel
theorem dL_law_1307 : decode cL_law 1307 = .ok (.iaload, 1) := by decide +kernel
theorem dL_law_1308 : decode cL_law 1308 = .ok (.invokevirtual 154, 3) := by decide +kernel
theorem dL_law_1311 : decode cL_law 1311 = .ok (.aload_n 2, 1) := by decide +kernel
theorem dL_law_1312 : decode cL_law 1312 = .ok (.aload_n 0, 1) := by decide +kernel
theorem dL_law_1313 : decode cL_law 1313 = .ok (.iload_n 3, 1) := by decide +kernel
theorem dL_law_1314 : decode cL_law 1314 = .ok (.iconst 1, 1) := by decide +kernel
theorem dL_law_1315 : decode cL_law 1315 = .ok (.iadd, 1) := by decide +kernel
theorem dL_law_1316 : decode cL_law 1316 = .ok (.iaload, 1) := by decide +kernel
theorem dL_law_1317 : decode cL_law 1317 = .ok (.invokevirtual 157, 3) := by decide +kernel
theorem dL_law_1320 : decode cL_law 1320 = .ok (.if_icmp .eq 180, 3) := by decide +kernel
theorem dL_law_1323 : decode cL_law 1323 = .ok (.iconst 0, 1) := by decide +kernel
theorem dL_law_1324 : decode cL_law 1324 = .ok (.ireturn, 1) := by decide +kernel
theorem dL_law_1325 : decode cL_law 1325 = .ok (.aload_n 1, 1) := by decide +kernel
theorem dL_law_1326 : decode cL_law 1326 = .ok (.aload_n 0, 1) := by decide +kernel
theorem dL_law_1327 : decode cL_law 1327 = .ok (.iload_n 3, 1) := by decide +kernel
theorem dL_law_1328 : decode cL_law 1328 = .ok (.iconst 1, 1) := by decide +kernel
theorem dL_law_1329 : decode cL_law 1329 = .ok (.iadd, 1) := by decide +kernel
theorem dL_law_1330 : decode cL_law 1330 = .ok (.iaload, 1) := by decide +kernel
theorem dL_law_1331 : decode cL_law 1331 = .ok (.aload_n 0, 1) := by decide +kernel
theorem dL_law_1332 : decode cL_law 1332 = .ok (.iload_n 3, 1) := by decide +kernel
theorem dL_law_1333 : decode cL_law 1333 = .ok (.iconst 2, 1) := by decide +kernel
theorem dL_law_1334 : decode cL_law 1334 = .ok (.iadd, 1) := by decide +kernel
theorem dL_law_1335 : decode cL_law 1335 = .ok (.iaload, 1) := by decide +kernel
theorem dL_law_1336 : decode cL_law 1336 = .ok (.aload_n 0, 1) := by decide +kernel
theorem dL_law_1337 : decode cL_law 1337 = .ok (.iload_n 3, 1) := by decide +kernel
theorem dL_law_1338 : decode cL_law 1338 = .ok (.iconst 3, 1) := by decide +kernel
theorem dL_law_1339 : decode cL_law 1339 = .ok (.iadd, 1) := by decide +kernel
theorem dL_law_1340 : decode cL_law 1340 = .ok (.iaload, 1) := by decide +kernel
theorem dL_law_1341 : decode cL_law 1341 = .ok (.invokevirtual 158, 3) := by decide +kernel
theorem dL_law_1344 : decode cL_law 1344 = .ok (.aload_n 2, 1) := by decide +kernel
theorem dL_law_1345 : decode cL_law 1345 = .ok (.aload_n 0, 1) := by decide +kernel
theorem dL_law_1346 : decode cL_law 1346 = .ok (.iload_n 3, 1) := by decide +kernel
theorem dL_law_1347 : decode cL_law 1347 = .ok (.iconst 1, 1) := by decide +kernel
theorem dL_law_1348 : decode cL_law 1348 = .ok (.iadd, 1) := by decide +kernel
theorem dL_law_1349 : decode cL_law 1349 = .ok (.iaload, 1) := by decide +kernel
theorem dL_law_1350 : decode cL_law 1350 = .ok (.aload_n 0, 1) := by decide +kernel
theorem dL_law_1351 : decode cL_law 1351 = .ok (.iload_n 3, 1) := by decide +kernel
theorem dL_law_1352 : decode cL_law 1352 = .ok (.iconst 2, 1) := by decide +kernel
theorem dL_law_1353 : decode cL_law 1353 = .ok (.iadd, 1) := by decide +kernel
theorem dL_law_1354 : decode cL_law 1354 = .ok (.iaload, 1) := by decide +kernel
theorem dL_law_1355 : decode cL_law 1355 = .ok (.aload_n 0, 1) := by decide +kernel
theorem dL_law_1356 : decode cL_law 1356 = .ok (.iload_n 3, 1) := by decide +kernel
theorem dL_law_1357 : decode cL_law 1357 = .ok (.iconst 3, 1) := by decide +kernel
theorem dL_law_1358 : decode cL_law 1358 = .ok (.iadd, 1) := by decide +kernel
theorem dL_law_1359 : decode cL_law 1359 = .ok (.iaload, 1) := by decide +kernel
theorem dL_law_1360 : decode cL_law 1360 = .ok (.invokevirtual 161, 3) := by decide +kernel
theorem dL_law_1363 : decode cL_law 1363 = .ok (.if_icmp .eq 137, 3) := by decide +kernel
theorem dL_law_1366 : decode cL_law 1366 = .ok (.iconst 0, 1) := by decide +kernel
theorem dL_law_1367 : decode cL_law 1367 = .ok (.ireturn, 1) := by decide +kernel
theorem dL_law_1368 : decode cL_law 1368 = .ok (.aload_n 1, 1) := by decide +kernel
theorem dL_law_1369 : decode cL_law 1369 = .ok (.aload_n 0, 1) := by decide +kernel
theorem dL_law_1370 : decode cL_law 1370 = .ok (.iload_n 3, 1) := by decide +kernel
theorem dL_law_1371 : decode cL_law 1371 = .ok (.iconst 1, 1) := by decide +kernel
theorem dL_law_1372 : decode cL_law 1372 = .ok (.iadd, 1) := by decide +kernel
theorem dL_law_1373 : decode cL_law 1373 = .ok (.iaload, 1) := by decide +kernel
theorem dL_law_1374 : decode cL_law 1374 = .ok (.aload_n 0, 1) := by decide +kernel
theorem dL_law_1375 : decode cL_law 1375 = .ok (.iload_n 3, 1) := by decide +kernel
theorem dL_law_1376 : decode cL_law 1376 = .ok (.iconst 2, 1) := by decide +kernel
theorem dL_law_1377 : decode cL_law 1377 = .ok (.iadd, 1) := by decide +kernel
theorem dL_law_1378 : decode cL_law 1378 = .ok (.iaload, 1) := by decide +kernel
theorem dL_law_1379 : decode cL_law 1379 = .ok (.aload_n 0, 1) := by decide +kernel
theorem dL_law_1380 : decode cL_law 1380 = .ok (.iload_n 3, 1) := by decide +kernel
theorem dL_law_1381 : decode cL_law 1381 = .ok (.iconst 3, 1) := by decide +kernel
theorem dL_law_1382 : decode cL_law 1382 = .ok (.iadd, 1) := by decide +kernel
theorem dL_law_1383 : decode cL_law 1383 = .ok (.iaload, 1) := by decide +kernel
theorem dL_law_1384 : decode cL_law 1384 = .ok (.invokevirtual 162, 3) := by decide +kernel
theorem dL_law_1387 : decode cL_law 1387 = .ok (.aload_n 2, 1) := by decide +kernel
theorem dL_law_1388 : decode cL_law 1388 = .ok (.aload_n 0, 1) := by decide +kernel
theorem dL_law_1389 : decode cL_law 1389 = .ok (.iload_n 3, 1) := by decide +kernel
theorem dL_law_1390 : decode cL_law 1390 = .ok (.iconst 1, 1) := by decide +kernel
theorem dL_law_1391 : decode cL_law 1391 = .ok (.iadd, 1) := by decide +kernel
theorem dL_law_1392 : decode cL_law 1392 = .ok (.iaload, 1) := by decide +kernel
theorem dL_law_1393 : decode cL_law 1393 = .ok (.aload_n 0, 1) := by decide +kernel
theorem dL_law_1394 : decode cL_law 1394 = .ok (.iload_n 3, 1) := by decide +kernel
theorem dL_law_1395 : decode cL_law 1395 = .ok (.iconst 2, 1) := by decide +kernel
theorem dL_law_1396 : decode cL_law 1396 = .ok (.iadd, 1) := by decide +kernel
theorem dL_law_1397 : decode cL_law 1397 = .ok (.iaload, 1) := by decide +kernel
theorem dL_law_1398 : decode cL_law 1398 = .ok (.aload_n 0, 1) := by decide +kernel
theorem dL_law_1399 : decode cL_law 1399 = .ok (.iload_n 3, 1) := by decide +kernel
theorem dL_law_1400 : decode cL_law 1400 = .ok (.iconst 3, 1) := by decide +kernel
theorem dL_law_1401 : decode cL_law 1401 = .ok (.iadd, 1) := by decide +kernel
theorem dL_law_1402 : decode cL_law 1402 = .ok (.iaload, 1) := by decide +kernel
theorem dL_law_1403 : decode cL_law 1403 = .ok (.invokevirtual 165, 3) := by decide +kernel
theorem dL_law_1406 : decode cL_law 1406 = .ok (.if_icmp .eq 94, 3) := by decide +kernel
theorem dL_law_1409 : decode cL_law 1409 = .ok (.iconst 0, 1) := by decide +kernel
theorem dL_law_1410 : decode cL_law 1410 = .ok (.ireturn, 1) := by decide +kernel
theorem dL_law_1411 : decode cL_law 1411 = .ok (.aload_n 1, 1) := by decide +kernel
theorem dL_law_1412 : decode cL_law 1412 = .ok (.aload_n 0, 1) := by decide +kernel
theorem dL_law_1413 : decode cL_law 1413 = .ok (.iload_n 3, 1) := by decide +kernel
theorem dL_law_1414 : decode cL_law 1414 = .ok (.iconst 1, 1) := by decide +kernel
theorem dL_law_1415 : decode cL_law 1415 = .ok (.iadd, 1) := by decide +kernel
theorem dL_law_1416 : decode cL_law 1416 = .ok (.iaload, 1) := by decide +kernel
theorem dL_law_1417 : decode cL_law 1417 = .ok (.aload_n 0, 1) := by decide +kernel
theorem dL_law_1418 : decode cL_law 1418 = .ok (.iload_n 3, 1) := by decide +kernel
theorem dL_law_1419 : decode cL_law 1419 = .ok (.iconst 2, 1) := by decide +kernel
theorem dL_law_1420 : decode cL_law 1420 = .ok (.iadd, 1) := by decide +kernel
theorem dL_law_1421 : decode cL_law 1421 = .ok (.iaload, 1) := by decide +kernel
theorem dL_law_1422 : decode cL_law 1422 = .ok (.aload_n 0, 1) := by decide +kernel
theorem dL_law_1423 : decode cL_law 1423 = .ok (.iload_n 3, 1) := by decide +kernel
theorem dL_law_1424 : decode cL_law 1424 = .ok (.iconst 3, 1) := by decide +kernel
theorem dL_law_1425 : decode cL_law 1425 = .ok (.iadd, 1) := by decide +kernel
theorem dL_law_1426 : decode cL_law 1426 = .ok (.iaload, 1) := by decide +kernel
theorem dL_law_1427 : decode cL_law 1427 = .ok (.aload_n 0, 1) := by decide +kernel
theorem dL_law_1428 : decode cL_law 1428 = .ok (.iload_n 3, 1) := by decide +kernel
theorem dL_law_1429 : decode cL_law 1429 = .ok (.iconst 4, 1) := by decide +kernel
theorem dL_law_1430 : decode cL_law 1430 = .ok (.iadd, 1) := by decide +kernel
theorem dL_law_1431 : decode cL_law 1431 = .ok (.iaload, 1) := by decide +kernel
theorem dL_law_1432 : decode cL_law 1432 = .ok (.invokevirtual 166, 3) := by decide +kernel
theorem dL_law_1435 : decode cL_law 1435 = .ok (.aload_n 2, 1) := by decide +kernel
theorem dL_law_1436 : decode cL_law 1436 = .ok (.aload_n 0, 1) := by decide +kernel
theorem dL_law_1437 : decode cL_law 1437 = .ok (.iload_n 3, 1) := by decide +kernel
theorem dL_law_1438 : decode cL_law 1438 = .ok (.iconst 1, 1) := by decide +kernel
theorem dL_law_1439 : decode cL_law 1439 = .ok (.iadd, 1) := by decide +kernel
theorem dL_law_1440 : decode cL_law 1440 = .ok (.iaload, 1) := by decide +kernel
theorem dL_law_1441 : decode cL_law 1441 = .ok (.aload_n 0, 1) := by decide +kernel
theorem dL_law_1442 : decode cL_law 1442 = .ok (.iload_n 3, 1) := by decide +kernel
theorem dL_law_1443 : decode cL_law 1443 = .ok (.iconst 2, 1) := by decide +kernel
theorem dL_law_1444 : decode cL_law 1444 = .ok (.iadd, 1) := by decide +kernel
theorem dL_law_1445 : decode cL_law 1445 = .ok (.iaload, 1) := by decide +kernel
theorem dL_law_1446 : decode cL_law 1446 = .ok (.aload_n 0, 1) := by decide +kernel
theorem dL_law_1447 : decode cL_law 1447 = .ok (.iload_n 3, 1) := by decide +kernel
theorem dL_law_1448 : decode cL_law 1448 = .ok (.iconst 3, 1) := by decide +kernel
theorem dL_law_1449 : decode cL_law 1449 = .ok (.iadd, 1) := by decide +kernel
theorem dL_law_1450 : decode cL_law 1450 = .ok (.iaload, 1) := by decide +kernel
theorem dL_law_1451 : decode cL_law 1451 = .ok (.aload_n 0, 1) := by decide +kernel
theorem dL_law_1452 : decode cL_law 1452 = .ok (.iload_n 3, 1) := by decide +kernel
theorem dL_law_1453 : decode cL_law 1453 = .ok (.iconst 4, 1) := by decide +kernel
theorem dL_law_1454 : decode cL_law 1454 = .ok (.iadd, 1) := by decide +kernel
theorem dL_law_1455 : decode cL_law 1455 = .ok (.iaload, 1) := by decide +kernel
theorem dL_law_1456 : decode cL_law 1456 = .ok (.invokevirtual 170, 3) := by decide +kernel
theorem dL_law_1459 : decode cL_law 1459 = .ok (.if_icmp .eq 41, 3) := by decide +kernel
theorem dL_law_1462 : decode cL_law 1462 = .ok (.iconst 0, 1) := by decide +kernel
theorem dL_law_1463 : decode cL_law 1463 = .ok (.ireturn, 1) := by decide +kernel
theorem dL_law_1464 : decode cL_law 1464 = .ok (.aload_n 1, 1) := by decide +kernel
theorem dL_law_1465 : decode cL_law 1465 = .ok (.invokevirtual 171, 3) := by decide +kernel
theorem dL_law_1468 : decode cL_law 1468 = .ok (.aload_n 2, 1) := by decide +kernel
theorem dL_law_1469 : decode cL_law 1469 = .ok (.invokevirtual 174, 3) := by decide +kernel
theorem dL_law_1472 : decode cL_law 1472 = .ok (.if_icmp .eq 28, 3) := by decide +kernel
theorem dL_law_1475 : decode cL_law 1475 = .ok (.iconst 0, 1) := by decide +kernel
theorem dL_law_1476 : decode cL_law 1476 = .ok (.ireturn, 1) := by decide +kernel
theorem dL_law_1477 : decode cL_law 1477 = .ok (.aload_n 1, 1) := by decide +kernel
theorem dL_law_1478 : decode cL_law 1478 = .ok (.aload_n 0, 1) := by decide +kernel
theorem dL_law_1479 : decode cL_law 1479 = .ok (.iload_n 3, 1) := by decide +kernel
theorem dL_law_1480 : decode cL_law 1480 = .ok (.iconst 1, 1) := by decide +kernel
theorem dL_law_1481 : decode cL_law 1481 = .ok (.iadd, 1) := by decide +kernel
theorem dL_law_1482 : decode cL_law 1482 = .ok (.iaload, 1) := by decide +kernel
theorem dL_law_1483 : decode cL_law 1483 = .ok (.invokevirtual 175, 3) := by decide +kernel
theorem dL_law_1486 : decode cL_law 1486 = .ok (.aload_n 2, 1) := by decide +kernel
theorem dL_law_1487 : decode cL_law 1487 = .ok (.aload_n 0, 1) := by decide +kernel
theorem dL_law_1488 : decode cL_law 1488 = .ok (.iload_n 3, 1) := by decide +kernel
theorem dL_law_1489 : decode cL_law 1489 = .ok (.iconst 1, 1) := by decide +kernel
theorem dL_law_1490 : decode cL_law 1490 = .ok (.iadd, 1) := by decide +kernel
theorem dL_law_1491 : decode cL_law 1491 = .ok (.iaload, 1) := by decide +kernel
theorem dL_law_1492 : decode cL_law 1492 = .ok (.invokevirtual 178, 3) := by decide +kernel
theorem dL_law_1495 : decode cL_law 1495 = .ok (.if_icmp .eq 5, 3) := by decide +kernel
theorem dL_law_1498 : decode cL_law 1498 = .ok (.iconst 0, 1) := by decide +kernel
theorem dL_law_1499 : decode cL_law 1499 = .ok (.ireturn, 1) := by decide +kernel
theorem dL_law_1500 : decode cL_law 1500 = .ok (.iinc 3 5, 3) := by decide +kernel
theorem dL_law_1503 : decode cL_law 1503 = .ok (.goto (-1485), 3) := by decide +kernel
theorem dL_law_1506 : decode cL_law 1506 = .ok (.iconst 1, 1) := by decide +kernel
theorem dL_law_1507 : decode cL_law 1507 = .ok (.ireturn, 1) := by decide +kernel
end
