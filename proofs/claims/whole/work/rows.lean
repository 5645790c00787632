section
/-- a private method of a class that the tables say can be made, by its rows of tables_1 -/
def lw_okq (q : MethodName × Nat) : Prop := (q.1.cls ≠ "java/lang/invoke/MethodHandle" ∧ q.1.cls ≠ "java/lang/invoke/VarHandle") ∧ Cond.instantiable q.1.cls q.2 ∈ tables_1 ∧ Cond.privateMethod q.1 ∈ tables_1 ∧ Cond.instanceMethod q.1 ∈ tables_1
theorem lw_p0 : lw_okq (⟨"WhiteSlope$Mountain", "plainRisk", "(I)I"⟩, 14) := ⟨⟨by decide +kernel, by decide +kernel⟩, List.mem_of_getElem? (i := 68) (by decide +kernel), List.mem_of_getElem? (i := 291) (by decide +kernel), List.mem_of_getElem? (i := 292) (by decide +kernel)⟩
theorem lw_p1 : lw_okq (⟨"WhiteSlope$Laws", "lastOf", "(II)I"⟩, 2) := ⟨⟨by decide +kernel, by decide +kernel⟩, List.mem_of_getElem? (i := 27) (by decide +kernel), List.mem_of_getElem? (i := 295) (by decide +kernel), List.mem_of_getElem? (i := 296) (by decide +kernel)⟩
theorem lw_p2 : lw_okq (⟨"WhiteSlope$Laws", "worth", "(IIII)I"⟩, 2) := ⟨⟨by decide +kernel, by decide +kernel⟩, List.mem_of_getElem? (i := 27) (by decide +kernel), List.mem_of_getElem? (i := 304) (by decide +kernel), List.mem_of_getElem? (i := 305) (by decide +kernel)⟩
theorem lw_p3 : lw_okq (⟨"WhiteSlope$Mountain", "riskAbove", "(I)I"⟩, 14) := ⟨⟨by decide +kernel, by decide +kernel⟩, List.mem_of_getElem? (i := 68) (by decide +kernel), List.mem_of_getElem? (i := 325) (by decide +kernel), List.mem_of_getElem? (i := 326) (by decide +kernel)⟩
theorem lw_p4 : lw_okq (⟨"WhiteSlope$Mountain", "risk", "(I)I"⟩, 14) := ⟨⟨by decide +kernel, by decide +kernel⟩, List.mem_of_getElem? (i := 68) (by decide +kernel), List.mem_of_getElem? (i := 331) (by decide +kernel), List.mem_of_getElem? (i := 332) (by decide +kernel)⟩
theorem lw_p5 : lw_okq (⟨"WhiteSlope$Mountain", "sun", "()I"⟩, 14) := ⟨⟨by decide +kernel, by decide +kernel⟩, List.mem_of_getElem? (i := 68) (by decide +kernel), List.mem_of_getElem? (i := 336) (by decide +kernel), List.mem_of_getElem? (i := 337) (by decide +kernel)⟩
theorem lw_p6 : lw_okq (⟨"WhiteSlope$Mountain", "plainHold", "(I)I"⟩, 14) := ⟨⟨by decide +kernel, by decide +kernel⟩, List.mem_of_getElem? (i := 68) (by decide +kernel), List.mem_of_getElem? (i := 343) (by decide +kernel), List.mem_of_getElem? (i := 344) (by decide +kernel)⟩
theorem lw_p7 : lw_okq (⟨"WhiteSlope$Mountain", "drawByLot", "()V"⟩, 14) := ⟨⟨by decide +kernel, by decide +kernel⟩, List.mem_of_getElem? (i := 68) (by decide +kernel), List.mem_of_getElem? (i := 381) (by decide +kernel), List.mem_of_getElem? (i := 382) (by decide +kernel)⟩
theorem lw_p8 : lw_okq (⟨"WhiteSlope$Mountain", "draw", "()I"⟩, 14) := ⟨⟨by decide +kernel, by decide +kernel⟩, List.mem_of_getElem? (i := 68) (by decide +kernel), List.mem_of_getElem? (i := 385) (by decide +kernel), List.mem_of_getElem? (i := 386) (by decide +kernel)⟩
theorem lw_p9 : lw_okq (⟨"WhiteSlope$Mountain", "allLoad", "()I"⟩, 14) := ⟨⟨by decide +kernel, by decide +kernel⟩, List.mem_of_getElem? (i := 68) (by decide +kernel), List.mem_of_getElem? (i := 390) (by decide +kernel), List.mem_of_getElem? (i := 391) (by decide +kernel)⟩
theorem lw_p10 : lw_okq (⟨"WhiteSlope$Mountain", "tickOften", "(I)I"⟩, 14) := ⟨⟨by decide +kernel, by decide +kernel⟩, List.mem_of_getElem? (i := 68) (by decide +kernel), List.mem_of_getElem? (i := 402) (by decide +kernel), List.mem_of_getElem? (i := 403) (by decide +kernel)⟩
theorem lw_p11 : lw_okq (⟨"WhiteSlope$Mountain", "brace", "()V"⟩, 14) := ⟨⟨by decide +kernel, by decide +kernel⟩, List.mem_of_getElem? (i := 68) (by decide +kernel), List.mem_of_getElem? (i := 406) (by decide +kernel), List.mem_of_getElem? (i := 407) (by decide +kernel)⟩
theorem lw_p12 : lw_okq (⟨"WhiteSlope$Mountain", "tick", "()I"⟩, 14) := ⟨⟨by decide +kernel, by decide +kernel⟩, List.mem_of_getElem? (i := 68) (by decide +kernel), List.mem_of_getElem? (i := 411) (by decide +kernel), List.mem_of_getElem? (i := 412) (by decide +kernel)⟩
theorem lw_p13 : lw_okq (⟨"WhiteSlope$Mountain", "snow", "()V"⟩, 14) := ⟨⟨by decide +kernel, by decide +kernel⟩, List.mem_of_getElem? (i := 68) (by decide +kernel), List.mem_of_getElem? (i := 415) (by decide +kernel), List.mem_of_getElem? (i := 416) (by decide +kernel)⟩
theorem lw_p14 : lw_okq (⟨"WhiteSlope$Mountain", "addLoad", "(II)V"⟩, 14) := ⟨⟨by decide +kernel, by decide +kernel⟩, List.mem_of_getElem? (i := 68) (by decide +kernel), List.mem_of_getElem? (i := 419) (by decide +kernel), List.mem_of_getElem? (i := 420) (by decide +kernel)⟩
theorem lw_p15 : lw_okq (⟨"WhiteSlope$Mountain", "drift", "()V"⟩, 14) := ⟨⟨by decide +kernel, by decide +kernel⟩, List.mem_of_getElem? (i := 68) (by decide +kernel), List.mem_of_getElem? (i := 424) (by decide +kernel), List.mem_of_getElem? (i := 425) (by decide +kernel)⟩
def lw_privs_1 : List (MethodName × Nat) := [(⟨"WhiteSlope$Mountain", "plainRisk", "(I)I"⟩, 14), (⟨"WhiteSlope$Laws", "lastOf", "(II)I"⟩, 2), (⟨"WhiteSlope$Laws", "worth", "(IIII)I"⟩, 2), (⟨"WhiteSlope$Mountain", "riskAbove", "(I)I"⟩, 14), (⟨"WhiteSlope$Mountain", "risk", "(I)I"⟩, 14), (⟨"WhiteSlope$Mountain", "sun", "()I"⟩, 14), (⟨"WhiteSlope$Mountain", "plainHold", "(I)I"⟩, 14), (⟨"WhiteSlope$Mountain", "drawByLot", "()V"⟩, 14), (⟨"WhiteSlope$Mountain", "draw", "()I"⟩, 14), (⟨"WhiteSlope$Mountain", "allLoad", "()I"⟩, 14), (⟨"WhiteSlope$Mountain", "tickOften", "(I)I"⟩, 14), (⟨"WhiteSlope$Mountain", "brace", "()V"⟩, 14), (⟨"WhiteSlope$Mountain", "tick", "()I"⟩, 14), (⟨"WhiteSlope$Mountain", "snow", "()V"⟩, 14), (⟨"WhiteSlope$Mountain", "addLoad", "(II)V"⟩, 14), (⟨"WhiteSlope$Mountain", "drift", "()V"⟩, 14)]
theorem lw_r1 : ∀ q ∈ lw_privs_1, lw_okq q := List.forall_mem_cons.mpr ⟨lw_p0, List.forall_mem_cons.mpr ⟨lw_p1, List.forall_mem_cons.mpr ⟨lw_p2, List.forall_mem_cons.mpr ⟨lw_p3, List.forall_mem_cons.mpr ⟨lw_p4, List.forall_mem_cons.mpr ⟨lw_p5, List.forall_mem_cons.mpr ⟨lw_p6, List.forall_mem_cons.mpr ⟨lw_p7, List.forall_mem_cons.mpr ⟨lw_p8, List.forall_mem_cons.mpr ⟨lw_p9, List.forall_mem_cons.mpr ⟨lw_p10, List.forall_mem_cons.mpr ⟨lw_p11, List.forall_mem_cons.mpr ⟨lw_p12, List.forall_mem_cons.mpr ⟨lw_p13, List.forall_mem_cons.mpr ⟨lw_p14, List.forall_mem_cons.mpr ⟨lw_p15, fun _ h => absurd h List.not_mem_nil⟩⟩⟩⟩⟩⟩⟩⟩⟩⟩⟩⟩⟩⟩⟩⟩
theorem lw_p16 : lw_okq (⟨"WhiteSlope$Mountain", "slide", "()I"⟩, 14) := ⟨⟨by decide +kernel, by decide +kernel⟩, List.mem_of_getElem? (i := 68) (by decide +kernel), List.mem_of_getElem? (i := 432) (by decide +kernel), List.mem_of_getElem? (i := 433) (by decide +kernel)⟩
theorem lw_p17 : lw_okq (⟨"WhiteSlope$Mountain", "become", "(LWhiteSlope$Mountain;)V"⟩, 14) := ⟨⟨by decide +kernel, by decide +kernel⟩, List.mem_of_getElem? (i := 68) (by decide +kernel), List.mem_of_getElem? (i := 441) (by decide +kernel), List.mem_of_getElem? (i := 442) (by decide +kernel)⟩
theorem lw_p18 : lw_okq (⟨"WhiteSlope$Mountain", "mostLoaded", "()I"⟩, 14) := ⟨⟨by decide +kernel, by decide +kernel⟩, List.mem_of_getElem? (i := 68) (by decide +kernel), List.mem_of_getElem? (i := 448) (by decide +kernel), List.mem_of_getElem? (i := 449) (by decide +kernel)⟩
theorem lw_p19 : lw_okq (⟨"WhiteSlope$Mountain", "trackRisk", "()I"⟩, 14) := ⟨⟨by decide +kernel, by decide +kernel⟩, List.mem_of_getElem? (i := 68) (by decide +kernel), List.mem_of_getElem? (i := 480) (by decide +kernel), List.mem_of_getElem? (i := 481) (by decide +kernel)⟩
theorem lw_p20 : lw_okq (⟨"WhiteSlope$Mountain", "weighRisks", "()V"⟩, 14) := ⟨⟨by decide +kernel, by decide +kernel⟩, List.mem_of_getElem? (i := 68) (by decide +kernel), List.mem_of_getElem? (i := 484) (by decide +kernel), List.mem_of_getElem? (i := 485) (by decide +kernel)⟩
theorem lw_p21 : lw_okq (⟨"WhiteSlope$Mountain", "trackBreath", "()I"⟩, 14) := ⟨⟨by decide +kernel, by decide +kernel⟩, List.mem_of_getElem? (i := 68) (by decide +kernel), List.mem_of_getElem? (i := 488) (by decide +kernel), List.mem_of_getElem? (i := 489) (by decide +kernel)⟩
theorem lw_p22 : lw_okq (⟨"WhiteSlope$Mountain", "stepInto", "(II)I"⟩, 14) := ⟨⟨by decide +kernel, by decide +kernel⟩, List.mem_of_getElem? (i := 68) (by decide +kernel), List.mem_of_getElem? (i := 492) (by decide +kernel), List.mem_of_getElem? (i := 493) (by decide +kernel)⟩
theorem lw_p23 : lw_okq (⟨"WhiteSlope$Mountain", "trackTurns", "()I"⟩, 14) := ⟨⟨by decide +kernel, by decide +kernel⟩, List.mem_of_getElem? (i := 68) (by decide +kernel), List.mem_of_getElem? (i := 496) (by decide +kernel), List.mem_of_getElem? (i := 497) (by decide +kernel)⟩
theorem lw_p24 : lw_okq (⟨"WhiteSlope$Mountain", "trackSteepest", "()I"⟩, 14) := ⟨⟨by decide +kernel, by decide +kernel⟩, List.mem_of_getElem? (i := 68) (by decide +kernel), List.mem_of_getElem? (i := 500) (by decide +kernel), List.mem_of_getElem? (i := 501) (by decide +kernel)⟩
theorem lw_p25 : lw_okq (⟨"WhiteSlope$Mountain", "trackRiskiest", "()I"⟩, 14) := ⟨⟨by decide +kernel, by decide +kernel⟩, List.mem_of_getElem? (i := 68) (by decide +kernel), List.mem_of_getElem? (i := 504) (by decide +kernel), List.mem_of_getElem? (i := 505) (by decide +kernel)⟩
theorem lw_p26 : lw_okq (⟨"WhiteSlope$Ways", "findTo", "(LWhiteSlope$Mountain;I)V"⟩, 2) := ⟨⟨by decide +kernel, by decide +kernel⟩, List.mem_of_getElem? (i := 131) (by decide +kernel), List.mem_of_getElem? (i := 518) (by decide +kernel), List.mem_of_getElem? (i := 519) (by decide +kernel)⟩
theorem lw_p27 : lw_okq (⟨"WhiteSlope$Ways", "startAt", "(II)V"⟩, 2) := ⟨⟨by decide +kernel, by decide +kernel⟩, List.mem_of_getElem? (i := 131) (by decide +kernel), List.mem_of_getElem? (i := 523) (by decide +kernel), List.mem_of_getElem? (i := 524) (by decide +kernel)⟩
theorem lw_p28 : lw_okq (⟨"WhiteSlope$Ways", "bestDirection", "(LWhiteSlope$Mountain;I)I"⟩, 2) := ⟨⟨by decide +kernel, by decide +kernel⟩, List.mem_of_getElem? (i := 131) (by decide +kernel), List.mem_of_getElem? (i := 528) (by decide +kernel), List.mem_of_getElem? (i := 529) (by decide +kernel)⟩
theorem lw_p29 : lw_okq (⟨"WhiteSlope$Ways", "costBy", "(LWhiteSlope$Mountain;II)I"⟩, 2) := ⟨⟨by decide +kernel, by decide +kernel⟩, List.mem_of_getElem? (i := 131) (by decide +kernel), List.mem_of_getElem? (i := 532) (by decide +kernel), List.mem_of_getElem? (i := 533) (by decide +kernel)⟩
theorem lw_p30 : lw_okq (⟨"WhiteSlope$Ways", "risksFrom", "(I)I"⟩, 2) := ⟨⟨by decide +kernel, by decide +kernel⟩, List.mem_of_getElem? (i := 131) (by decide +kernel), List.mem_of_getElem? (i := 538) (by decide +kernel), List.mem_of_getElem? (i := 539) (by decide +kernel)⟩
theorem lw_p31 : lw_okq (⟨"WhiteSlope$Ways", "stepsFrom", "(I)I"⟩, 2) := ⟨⟨by decide +kernel, by decide +kernel⟩, List.mem_of_getElem? (i := 131) (by decide +kernel), List.mem_of_getElem? (i := 542) (by decide +kernel), List.mem_of_getElem? (i := 543) (by decide +kernel)⟩
def lw_privs_2 : List (MethodName × Nat) := [(⟨"WhiteSlope$Mountain", "slide", "()I"⟩, 14), (⟨"WhiteSlope$Mountain", "become", "(LWhiteSlope$Mountain;)V"⟩, 14), (⟨"WhiteSlope$Mountain", "mostLoaded", "()I"⟩, 14), (⟨"WhiteSlope$Mountain", "trackRisk", "()I"⟩, 14), (⟨"WhiteSlope$Mountain", "weighRisks", "()V"⟩, 14), (⟨"WhiteSlope$Mountain", "trackBreath", "()I"⟩, 14), (⟨"WhiteSlope$Mountain", "stepInto", "(II)I"⟩, 14), (⟨"WhiteSlope$Mountain", "trackTurns", "()I"⟩, 14), (⟨"WhiteSlope$Mountain", "trackSteepest", "()I"⟩, 14), (⟨"WhiteSlope$Mountain", "trackRiskiest", "()I"⟩, 14), (⟨"WhiteSlope$Ways", "findTo", "(LWhiteSlope$Mountain;I)V"⟩, 2), (⟨"WhiteSlope$Ways", "startAt", "(II)V"⟩, 2), (⟨"WhiteSlope$Ways", "bestDirection", "(LWhiteSlope$Mountain;I)I"⟩, 2), (⟨"WhiteSlope$Ways", "costBy", "(LWhiteSlope$Mountain;II)I"⟩, 2), (⟨"WhiteSlope$Ways", "risksFrom", "(I)I"⟩, 2), (⟨"WhiteSlope$Ways", "stepsFrom", "(I)I"⟩, 2)]
theorem lw_r2 : ∀ q ∈ lw_privs_2, lw_okq q := List.forall_mem_cons.mpr ⟨lw_p16, List.forall_mem_cons.mpr ⟨lw_p17, List.forall_mem_cons.mpr ⟨lw_p18, List.forall_mem_cons.mpr ⟨lw_p19, List.forall_mem_cons.mpr ⟨lw_p20, List.forall_mem_cons.mpr ⟨lw_p21, List.forall_mem_cons.mpr ⟨lw_p22, List.forall_mem_cons.mpr ⟨lw_p23, List.forall_mem_cons.mpr ⟨lw_p24, List.forall_mem_cons.mpr ⟨lw_p25, List.forall_mem_cons.mpr ⟨lw_p26, List.forall_mem_cons.mpr ⟨lw_p27, List.forall_mem_cons.mpr ⟨lw_p28, List.forall_mem_cons.mpr ⟨lw_p29, List.forall_mem_cons.mpr ⟨lw_p30, List.forall_mem_cons.mpr ⟨lw_p31, fun _ h => absurd h List.not_mem_nil⟩⟩⟩⟩⟩⟩⟩⟩⟩⟩⟩⟩⟩⟩⟩⟩
theorem lw_p32 : lw_okq (⟨"WhiteSlope$Ways", "breathFrom", "(LWhiteSlope$Mountain;I)I"⟩, 2) := ⟨⟨by decide +kernel, by decide +kernel⟩, List.mem_of_getElem? (i := 131) (by decide +kernel), List.mem_of_getElem? (i := 546) (by decide +kernel), List.mem_of_getElem? (i := 547) (by decide +kernel)⟩
theorem lw_p33 : lw_okq (⟨"WhiteSlope$Ways", "cellFrom", "(LWhiteSlope$Mountain;II)I"⟩, 2) := ⟨⟨by decide +kernel, by decide +kernel⟩, List.mem_of_getElem? (i := 131) (by decide +kernel), List.mem_of_getElem? (i := 552) (by decide +kernel), List.mem_of_getElem? (i := 553) (by decide +kernel)⟩
theorem lw_p34 : lw_okq (⟨"WhiteSlope$Ways", "leastWithin", "(LWhiteSlope$Mountain;III)I"⟩, 2) := ⟨⟨by decide +kernel, by decide +kernel⟩, List.mem_of_getElem? (i := 131) (by decide +kernel), List.mem_of_getElem? (i := 560) (by decide +kernel), List.mem_of_getElem? (i := 561) (by decide +kernel)⟩
theorem lw_p35 : lw_okq (⟨"WhiteSlope$Ways", "leastBeside", "(I)I"⟩, 2) := ⟨⟨by decide +kernel, by decide +kernel⟩, List.mem_of_getElem? (i := 131) (by decide +kernel), List.mem_of_getElem? (i := 565) (by decide +kernel), List.mem_of_getElem? (i := 566) (by decide +kernel)⟩
theorem lw_p36 : lw_okq (⟨"WhiteSlope$Ways", "leastSteep", "(LWhiteSlope$Mountain;II)I"⟩, 2) := ⟨⟨by decide +kernel, by decide +kernel⟩, List.mem_of_getElem? (i := 131) (by decide +kernel), List.mem_of_getElem? (i := 574) (by decide +kernel), List.mem_of_getElem? (i := 575) (by decide +kernel)⟩
theorem lw_p37 : lw_okq (⟨"WhiteSlope$Ways", "comeTo", "(LWhiteSlope$Mountain;II)I"⟩, 2) := ⟨⟨by decide +kernel, by decide +kernel⟩, List.mem_of_getElem? (i := 131) (by decide +kernel), List.mem_of_getElem? (i := 583) (by decide +kernel), List.mem_of_getElem? (i := 584) (by decide +kernel)⟩
theorem lw_p38 : lw_okq (⟨"WhiteSlope$Tape", "hasRoomFor", "(I)Z"⟩, 2) := ⟨⟨by decide +kernel, by decide +kernel⟩, List.mem_of_getElem? (i := 144) (by decide +kernel), List.mem_of_getElem? (i := 599) (by decide +kernel), List.mem_of_getElem? (i := 600) (by decide +kernel)⟩
theorem lw_p39 : lw_okq (⟨"WhiteSlope$Tape", "takeInt", "(I)V"⟩, 2) := ⟨⟨by decide +kernel, by decide +kernel⟩, List.mem_of_getElem? (i := 144) (by decide +kernel), List.mem_of_getElem? (i := 603) (by decide +kernel), List.mem_of_getElem? (i := 604) (by decide +kernel)⟩
theorem lw_p40 : lw_okq (⟨"WhiteSlope$Reader", "faultOfTape", "()I"⟩, 5) := ⟨⟨by decide +kernel, by decide +kernel⟩, List.mem_of_getElem? (i := 160) (by decide +kernel), List.mem_of_getElem? (i := 615) (by decide +kernel), List.mem_of_getElem? (i := 616) (by decide +kernel)⟩
theorem lw_p41 : lw_okq (⟨"WhiteSlope$Law", "begin", "()V"⟩, 4) := ⟨⟨by decide +kernel, by decide +kernel⟩, List.mem_of_getElem? (i := 34) (by decide +kernel), List.mem_of_getElem? (i := 619) (by decide +kernel), List.mem_of_getElem? (i := 620) (by decide +kernel)⟩
theorem lw_p42 : lw_okq (⟨"WhiteSlope$Reader", "readKey", "()V"⟩, 5) := ⟨⟨by decide +kernel, by decide +kernel⟩, List.mem_of_getElem? (i := 160) (by decide +kernel), List.mem_of_getElem? (i := 624) (by decide +kernel), List.mem_of_getElem? (i := 625) (by decide +kernel)⟩
theorem lw_p43 : lw_okq (⟨"WhiteSlope$Reader", "nextByte", "()I"⟩, 5) := ⟨⟨by decide +kernel, by decide +kernel⟩, List.mem_of_getElem? (i := 160) (by decide +kernel), List.mem_of_getElem? (i := 628) (by decide +kernel), List.mem_of_getElem? (i := 629) (by decide +kernel)⟩
theorem lw_p44 : lw_okq (⟨"WhiteSlope$Tape", "byteAt", "(I)I"⟩, 2) := ⟨⟨by decide +kernel, by decide +kernel⟩, List.mem_of_getElem? (i := 144) (by decide +kernel), List.mem_of_getElem? (i := 632) (by decide +kernel), List.mem_of_getElem? (i := 633) (by decide +kernel)⟩
theorem lw_p45 : lw_okq (⟨"WhiteSlope$Tape", "wordEnd", "(I)I"⟩, 2) := ⟨⟨by decide +kernel, by decide +kernel⟩, List.mem_of_getElem? (i := 144) (by decide +kernel), List.mem_of_getElem? (i := 637) (by decide +kernel), List.mem_of_getElem? (i := 638) (by decide +kernel)⟩
theorem lw_p46 : lw_okq (⟨"WhiteSlope$Tape", "isDigitAt", "(I)Z"⟩, 2) := ⟨⟨by decide +kernel, by decide +kernel⟩, List.mem_of_getElem? (i := 144) (by decide +kernel), List.mem_of_getElem? (i := 641) (by decide +kernel), List.mem_of_getElem? (i := 642) (by decide +kernel)⟩
theorem lw_p47 : lw_okq (⟨"WhiteSlope$Tape", "isLetterAt", "(I)Z"⟩, 2) := ⟨⟨by decide +kernel, by decide +kernel⟩, List.mem_of_getElem? (i := 144) (by decide +kernel), List.mem_of_getElem? (i := 646) (by decide +kernel), List.mem_of_getElem? (i := 647) (by decide +kernel)⟩
def lw_privs_3 : List (MethodName × Nat) := [(⟨"WhiteSlope$Ways", "breathFrom", "(LWhiteSlope$Mountain;I)I"⟩, 2), (⟨"WhiteSlope$Ways", "cellFrom", "(LWhiteSlope$Mountain;II)I"⟩, 2), (⟨"WhiteSlope$Ways", "leastWithin", "(LWhiteSlope$Mountain;III)I"⟩, 2), (⟨"WhiteSlope$Ways", "leastBeside", "(I)I"⟩, 2), (⟨"WhiteSlope$Ways", "leastSteep", "(LWhiteSlope$Mountain;II)I"⟩, 2), (⟨"WhiteSlope$Ways", "comeTo", "(LWhiteSlope$Mountain;II)I"⟩, 2), (⟨"WhiteSlope$Tape", "hasRoomFor", "(I)Z"⟩, 2), (⟨"WhiteSlope$Tape", "takeInt", "(I)V"⟩, 2), (⟨"WhiteSlope$Reader", "faultOfTape", "()I"⟩, 5), (⟨"WhiteSlope$Law", "begin", "()V"⟩, 4), (⟨"WhiteSlope$Reader", "readKey", "()V"⟩, 5), (⟨"WhiteSlope$Reader", "nextByte", "()I"⟩, 5), (⟨"WhiteSlope$Tape", "byteAt", "(I)I"⟩, 2), (⟨"WhiteSlope$Tape", "wordEnd", "(I)I"⟩, 2), (⟨"WhiteSlope$Tape", "isDigitAt", "(I)Z"⟩, 2), (⟨"WhiteSlope$Tape", "isLetterAt", "(I)Z"⟩, 2)]
theorem lw_r3 : ∀ q ∈ lw_privs_3, lw_okq q := List.forall_mem_cons.mpr ⟨lw_p32, List.forall_mem_cons.mpr ⟨lw_p33, List.forall_mem_cons.mpr ⟨lw_p34, List.forall_mem_cons.mpr ⟨lw_p35, List.forall_mem_cons.mpr ⟨lw_p36, List.forall_mem_cons.mpr ⟨lw_p37, List.forall_mem_cons.mpr ⟨lw_p38, List.forall_mem_cons.mpr ⟨lw_p39, List.forall_mem_cons.mpr ⟨lw_p40, List.forall_mem_cons.mpr ⟨lw_p41, List.forall_mem_cons.mpr ⟨lw_p42, List.forall_mem_cons.mpr ⟨lw_p43, List.forall_mem_cons.mpr ⟨lw_p44, List.forall_mem_cons.mpr ⟨lw_p45, List.forall_mem_cons.mpr ⟨lw_p46, List.forall_mem_cons.mpr ⟨lw_p47, fun _ h => absurd h List.not_mem_nil⟩⟩⟩⟩⟩⟩⟩⟩⟩⟩⟩⟩⟩⟩⟩⟩
theorem lw_p48 : lw_okq (⟨"WhiteSlope$Reader", "isWord", "(Ljava/lang/String;)Z"⟩, 5) := ⟨⟨by decide +kernel, by decide +kernel⟩, List.mem_of_getElem? (i := 160) (by decide +kernel), List.mem_of_getElem? (i := 651) (by decide +kernel), List.mem_of_getElem? (i := 652) (by decide +kernel)⟩
theorem lw_p49 : lw_okq (⟨"WhiteSlope$Reader", "readLevel", "(III)V"⟩, 5) := ⟨⟨by decide +kernel, by decide +kernel⟩, List.mem_of_getElem? (i := 160) (by decide +kernel), List.mem_of_getElem? (i := 705) (by decide +kernel), List.mem_of_getElem? (i := 706) (by decide +kernel)⟩
theorem lw_p50 : lw_okq (⟨"WhiteSlope$Reader", "readPiece", "(II)V"⟩, 5) := ⟨⟨by decide +kernel, by decide +kernel⟩, List.mem_of_getElem? (i := 160) (by decide +kernel), List.mem_of_getElem? (i := 709) (by decide +kernel), List.mem_of_getElem? (i := 710) (by decide +kernel)⟩
theorem lw_p51 : lw_okq (⟨"WhiteSlope$Reader", "readClosing", "()V"⟩, 5) := ⟨⟨by decide +kernel, by decide +kernel⟩, List.mem_of_getElem? (i := 160) (by decide +kernel), List.mem_of_getElem? (i := 713) (by decide +kernel), List.mem_of_getElem? (i := 714) (by decide +kernel)⟩
theorem lw_p52 : lw_okq (⟨"WhiteSlope$Law", "add", "(I)V"⟩, 4) := ⟨⟨by decide +kernel, by decide +kernel⟩, List.mem_of_getElem? (i := 34) (by decide +kernel), List.mem_of_getElem? (i := 717) (by decide +kernel), List.mem_of_getElem? (i := 718) (by decide +kernel)⟩
theorem lw_p53 : lw_okq (⟨"WhiteSlope$Reader", "readNumber", "()V"⟩, 5) := ⟨⟨by decide +kernel, by decide +kernel⟩, List.mem_of_getElem? (i := 160) (by decide +kernel), List.mem_of_getElem? (i := 722) (by decide +kernel), List.mem_of_getElem? (i := 723) (by decide +kernel)⟩
theorem lw_p54 : lw_okq (⟨"WhiteSlope$Law", "addPiece", "(I)V"⟩, 4) := ⟨⟨by decide +kernel, by decide +kernel⟩, List.mem_of_getElem? (i := 34) (by decide +kernel), List.mem_of_getElem? (i := 726) (by decide +kernel), List.mem_of_getElem? (i := 727) (by decide +kernel)⟩
theorem lw_p55 : lw_okq (⟨"WhiteSlope$Reader", "readName", "(I)V"⟩, 5) := ⟨⟨by decide +kernel, by decide +kernel⟩, List.mem_of_getElem? (i := 160) (by decide +kernel), List.mem_of_getElem? (i := 731) (by decide +kernel), List.mem_of_getElem? (i := 732) (by decide +kernel)⟩
theorem lw_p56 : lw_okq (⟨"WhiteSlope$Reader", "isName", "(I)Z"⟩, 5) := ⟨⟨by decide +kernel, by decide +kernel⟩, List.mem_of_getElem? (i := 160) (by decide +kernel), List.mem_of_getElem? (i := 735) (by decide +kernel), List.mem_of_getElem? (i := 736) (by decide +kernel)⟩
theorem lw_p57 : lw_okq (⟨"WhiteSlope$Law", "become", "(LWhiteSlope$Law;)V"⟩, 4) := ⟨⟨by decide +kernel, by decide +kernel⟩, List.mem_of_getElem? (i := 34) (by decide +kernel), List.mem_of_getElem? (i := 742) (by decide +kernel), List.mem_of_getElem? (i := 743) (by decide +kernel)⟩
theorem lw_p58 : lw_okq (⟨"WhiteSlope$Sheet", "renew", "(II)V"⟩, 3) := ⟨⟨by decide +kernel, by decide +kernel⟩, List.mem_of_getElem? (i := 186) (by decide +kernel), List.mem_of_getElem? (i := 764) (by decide +kernel), List.mem_of_getElem? (i := 765) (by decide +kernel)⟩
theorem lw_p59 : lw_okq (⟨"WhiteSlope$Sheet", "hasPlace", "(I)Z"⟩, 3) := ⟨⟨by decide +kernel, by decide +kernel⟩, List.mem_of_getElem? (i := 186) (by decide +kernel), List.mem_of_getElem? (i := 774) (by decide +kernel), List.mem_of_getElem? (i := 775) (by decide +kernel)⟩
theorem lw_p60 : lw_okq (⟨"WhiteSlope$Sheet", "isNumber", "(I)Z"⟩, 3) := ⟨⟨by decide +kernel, by decide +kernel⟩, List.mem_of_getElem? (i := 186) (by decide +kernel), List.mem_of_getElem? (i := 785) (by decide +kernel), List.mem_of_getElem? (i := 786) (by decide +kernel)⟩
theorem lw_p61 : lw_okq (⟨"WhiteSlope$Sheet", "hasPlaces", "(II)Z"⟩, 3) := ⟨⟨by decide +kernel, by decide +kernel⟩, List.mem_of_getElem? (i := 186) (by decide +kernel), List.mem_of_getElem? (i := 799) (by decide +kernel), List.mem_of_getElem? (i := 800) (by decide +kernel)⟩
theorem lw_p62 : lw_okq (⟨"WhiteSlope$Sheet", "become", "(LWhiteSlope$Sheet;)V"⟩, 3) := ⟨⟨by decide +kernel, by decide +kernel⟩, List.mem_of_getElem? (i := 186) (by decide +kernel), List.mem_of_getElem? (i := 811) (by decide +kernel), List.mem_of_getElem? (i := 812) (by decide +kernel)⟩
theorem lw_p63 : lw_okq (⟨"WhiteSlope", "rightAhead", "(II)I"⟩, 12) := ⟨⟨by decide +kernel, by decide +kernel⟩, List.mem_of_getElem? (i := 19) (by decide +kernel), List.mem_of_getElem? (i := 836) (by decide +kernel), List.mem_of_getElem? (i := 837) (by decide +kernel)⟩
def lw_privs_4 : List (MethodName × Nat) := [(⟨"WhiteSlope$Reader", "isWord", "(Ljava/lang/String;)Z"⟩, 5), (⟨"WhiteSlope$Reader", "readLevel", "(III)V"⟩, 5), (⟨"WhiteSlope$Reader", "readPiece", "(II)V"⟩, 5), (⟨"WhiteSlope$Reader", "readClosing", "()V"⟩, 5), (⟨"WhiteSlope$Law", "add", "(I)V"⟩, 4), (⟨"WhiteSlope$Reader", "readNumber", "()V"⟩, 5), (⟨"WhiteSlope$Law", "addPiece", "(I)V"⟩, 4), (⟨"WhiteSlope$Reader", "readName", "(I)V"⟩, 5), (⟨"WhiteSlope$Reader", "isName", "(I)Z"⟩, 5), (⟨"WhiteSlope$Law", "become", "(LWhiteSlope$Law;)V"⟩, 4), (⟨"WhiteSlope$Sheet", "renew", "(II)V"⟩, 3), (⟨"WhiteSlope$Sheet", "hasPlace", "(I)Z"⟩, 3), (⟨"WhiteSlope$Sheet", "isNumber", "(I)Z"⟩, 3), (⟨"WhiteSlope$Sheet", "hasPlaces", "(II)Z"⟩, 3), (⟨"WhiteSlope$Sheet", "become", "(LWhiteSlope$Sheet;)V"⟩, 3), (⟨"WhiteSlope", "rightAhead", "(II)I"⟩, 12)]
theorem lw_r4 : ∀ q ∈ lw_privs_4, lw_okq q := List.forall_mem_cons.mpr ⟨lw_p48, List.forall_mem_cons.mpr ⟨lw_p49, List.forall_mem_cons.mpr ⟨lw_p50, List.forall_mem_cons.mpr ⟨lw_p51, List.forall_mem_cons.mpr ⟨lw_p52, List.forall_mem_cons.mpr ⟨lw_p53, List.forall_mem_cons.mpr ⟨lw_p54, List.forall_mem_cons.mpr ⟨lw_p55, List.forall_mem_cons.mpr ⟨lw_p56, List.forall_mem_cons.mpr ⟨lw_p57, List.forall_mem_cons.mpr ⟨lw_p58, List.forall_mem_cons.mpr ⟨lw_p59, List.forall_mem_cons.mpr ⟨lw_p60, List.forall_mem_cons.mpr ⟨lw_p61, List.forall_mem_cons.mpr ⟨lw_p62, List.forall_mem_cons.mpr ⟨lw_p63, fun _ h => absurd h List.not_mem_nil⟩⟩⟩⟩⟩⟩⟩⟩⟩⟩⟩⟩⟩⟩⟩⟩
theorem lw_p64 : lw_okq (⟨"WhiteSlopeModel", "of", "(II)I"⟩, 38) := ⟨⟨by decide +kernel, by decide +kernel⟩, List.mem_of_getElem? (i := 852) (by decide +kernel), List.mem_of_getElem? (i := 988) (by decide +kernel), List.mem_of_getElem? (i := 989) (by decide +kernel)⟩
theorem lw_p65 : lw_okq (⟨"WhiteSlopeModel", "sets", "(III)V"⟩, 38) := ⟨⟨by decide +kernel, by decide +kernel⟩, List.mem_of_getElem? (i := 852) (by decide +kernel), List.mem_of_getElem? (i := 992) (by decide +kernel), List.mem_of_getElem? (i := 993) (by decide +kernel)⟩
theorem lw_p66 : lw_okq (⟨"WhiteSlopeModel", "plainRisk", "(I)I"⟩, 38) := ⟨⟨by decide +kernel, by decide +kernel⟩, List.mem_of_getElem? (i := 852) (by decide +kernel), List.mem_of_getElem? (i := 1000) (by decide +kernel), List.mem_of_getElem? (i := 1001) (by decide +kernel)⟩
theorem lw_p67 : lw_okq (⟨"WhiteSlopeModel", "counts", "(I)I"⟩, 38) := ⟨⟨by decide +kernel, by decide +kernel⟩, List.mem_of_getElem? (i := 852) (by decide +kernel), List.mem_of_getElem? (i := 1004) (by decide +kernel), List.mem_of_getElem? (i := 1005) (by decide +kernel)⟩
theorem lw_p68 : lw_okq (⟨"WhiteSlopeModel", "textAt", "(I)I"⟩, 38) := ⟨⟨by decide +kernel, by decide +kernel⟩, List.mem_of_getElem? (i := 852) (by decide +kernel), List.mem_of_getElem? (i := 1008) (by decide +kernel), List.mem_of_getElem? (i := 1009) (by decide +kernel)⟩
theorem lw_p69 : lw_okq (⟨"WhiteSlopeModel", "worked", "(I)I"⟩, 38) := ⟨⟨by decide +kernel, by decide +kernel⟩, List.mem_of_getElem? (i := 852) (by decide +kernel), List.mem_of_getElem? (i := 1012) (by decide +kernel), List.mem_of_getElem? (i := 1013) (by decide +kernel)⟩
theorem lw_p70 : lw_okq (⟨"WhiteSlopeModel", "above", "(I)I"⟩, 38) := ⟨⟨by decide +kernel, by decide +kernel⟩, List.mem_of_getElem? (i := 852) (by decide +kernel), List.mem_of_getElem? (i := 1022) (by decide +kernel), List.mem_of_getElem? (i := 1023) (by decide +kernel)⟩
theorem lw_p71 : lw_okq (⟨"WhiteSlopeModel", "risk", "(I)I"⟩, 38) := ⟨⟨by decide +kernel, by decide +kernel⟩, List.mem_of_getElem? (i := 852) (by decide +kernel), List.mem_of_getElem? (i := 1026) (by decide +kernel), List.mem_of_getElem? (i := 1027) (by decide +kernel)⟩
theorem lw_p72 : lw_okq (⟨"WhiteSlopeModel", "sun", "()I"⟩, 38) := ⟨⟨by decide +kernel, by decide +kernel⟩, List.mem_of_getElem? (i := 852) (by decide +kernel), List.mem_of_getElem? (i := 1030) (by decide +kernel), List.mem_of_getElem? (i := 1031) (by decide +kernel)⟩
theorem lw_p73 : lw_okq (⟨"WhiteSlopeModel", "holds", "(I)I"⟩, 38) := ⟨⟨by decide +kernel, by decide +kernel⟩, List.mem_of_getElem? (i := 852) (by decide +kernel), List.mem_of_getElem? (i := 1034) (by decide +kernel), List.mem_of_getElem? (i := 1035) (by decide +kernel)⟩
theorem lw_p74 : lw_okq (⟨"WhiteSlopeModel", "worth", "(I)I"⟩, 38) := ⟨⟨by decide +kernel, by decide +kernel⟩, List.mem_of_getElem? (i := 852) (by decide +kernel), List.mem_of_getElem? (i := 1038) (by decide +kernel), List.mem_of_getElem? (i := 1039) (by decide +kernel)⟩
theorem lw_p75 : lw_okq (⟨"WhiteSlopeModel", "becomes", "(II)I"⟩, 38) := ⟨⟨by decide +kernel, by decide +kernel⟩, List.mem_of_getElem? (i := 852) (by decide +kernel), List.mem_of_getElem? (i := 1054) (by decide +kernel), List.mem_of_getElem? (i := 1055) (by decide +kernel)⟩
theorem lw_p76 : lw_okq (⟨"WhiteSlopeModel", "drawn", "()I"⟩, 38) := ⟨⟨by decide +kernel, by decide +kernel⟩, List.mem_of_getElem? (i := 852) (by decide +kernel), List.mem_of_getElem? (i := 1073) (by decide +kernel), List.mem_of_getElem? (i := 1074) (by decide +kernel)⟩
theorem lw_p77 : lw_okq (⟨"WhiteSlopeModel", "allLoad", "()I"⟩, 38) := ⟨⟨by decide +kernel, by decide +kernel⟩, List.mem_of_getElem? (i := 852) (by decide +kernel), List.mem_of_getElem? (i := 1078) (by decide +kernel), List.mem_of_getElem? (i := 1079) (by decide +kernel)⟩
theorem lw_p78 : lw_okq (⟨"WhiteSlopeModel", "ticksMany", "(I)I"⟩, 38) := ⟨⟨by decide +kernel, by decide +kernel⟩, List.mem_of_getElem? (i := 852) (by decide +kernel), List.mem_of_getElem? (i := 1091) (by decide +kernel), List.mem_of_getElem? (i := 1092) (by decide +kernel)⟩
theorem lw_p79 : lw_okq (⟨"WhiteSlopeModel", "ticks", "()I"⟩, 38) := ⟨⟨by decide +kernel, by decide +kernel⟩, List.mem_of_getElem? (i := 852) (by decide +kernel), List.mem_of_getElem? (i := 1095) (by decide +kernel), List.mem_of_getElem? (i := 1096) (by decide +kernel)⟩
def lw_privs_5 : List (MethodName × Nat) := [(⟨"WhiteSlopeModel", "of", "(II)I"⟩, 38), (⟨"WhiteSlopeModel", "sets", "(III)V"⟩, 38), (⟨"WhiteSlopeModel", "plainRisk", "(I)I"⟩, 38), (⟨"WhiteSlopeModel", "counts", "(I)I"⟩, 38), (⟨"WhiteSlopeModel", "textAt", "(I)I"⟩, 38), (⟨"WhiteSlopeModel", "worked", "(I)I"⟩, 38), (⟨"WhiteSlopeModel", "above", "(I)I"⟩, 38), (⟨"WhiteSlopeModel", "risk", "(I)I"⟩, 38), (⟨"WhiteSlopeModel", "sun", "()I"⟩, 38), (⟨"WhiteSlopeModel", "holds", "(I)I"⟩, 38), (⟨"WhiteSlopeModel", "worth", "(I)I"⟩, 38), (⟨"WhiteSlopeModel", "becomes", "(II)I"⟩, 38), (⟨"WhiteSlopeModel", "drawn", "()I"⟩, 38), (⟨"WhiteSlopeModel", "allLoad", "()I"⟩, 38), (⟨"WhiteSlopeModel", "ticksMany", "(I)I"⟩, 38), (⟨"WhiteSlopeModel", "ticks", "()I"⟩, 38)]
theorem lw_r5 : ∀ q ∈ lw_privs_5, lw_okq q := List.forall_mem_cons.mpr ⟨lw_p64, List.forall_mem_cons.mpr ⟨lw_p65, List.forall_mem_cons.mpr ⟨lw_p66, List.forall_mem_cons.mpr ⟨lw_p67, List.forall_mem_cons.mpr ⟨lw_p68, List.forall_mem_cons.mpr ⟨lw_p69, List.forall_mem_cons.mpr ⟨lw_p70, List.forall_mem_cons.mpr ⟨lw_p71, List.forall_mem_cons.mpr ⟨lw_p72, List.forall_mem_cons.mpr ⟨lw_p73, List.forall_mem_cons.mpr ⟨lw_p74, List.forall_mem_cons.mpr ⟨lw_p75, List.forall_mem_cons.mpr ⟨lw_p76, List.forall_mem_cons.mpr ⟨lw_p77, List.forall_mem_cons.mpr ⟨lw_p78, List.forall_mem_cons.mpr ⟨lw_p79, fun _ h => absurd h List.not_mem_nil⟩⟩⟩⟩⟩⟩⟩⟩⟩⟩⟩⟩⟩⟩⟩⟩
theorem lw_p80 : lw_okq (⟨"WhiteSlopeModel", "holdsLoads", "()V"⟩, 38) := ⟨⟨by decide +kernel, by decide +kernel⟩, List.mem_of_getElem? (i := 852) (by decide +kernel), List.mem_of_getElem? (i := 1099) (by decide +kernel), List.mem_of_getElem? (i := 1100) (by decide +kernel)⟩
theorem lw_p81 : lw_okq (⟨"WhiteSlopeModel", "laysBy", "()V"⟩, 38) := ⟨⟨by decide +kernel, by decide +kernel⟩, List.mem_of_getElem? (i := 852) (by decide +kernel), List.mem_of_getElem? (i := 1108) (by decide +kernel), List.mem_of_getElem? (i := 1109) (by decide +kernel)⟩
theorem lw_p82 : lw_okq (⟨"WhiteSlopeModel", "laysBack", "()V"⟩, 38) := ⟨⟨by decide +kernel, by decide +kernel⟩, List.mem_of_getElem? (i := 852) (by decide +kernel), List.mem_of_getElem? (i := 1112) (by decide +kernel), List.mem_of_getElem? (i := 1113) (by decide +kernel)⟩
theorem lw_p83 : lw_okq (⟨"WhiteSlopeModel", "trackAt", "(I)I"⟩, 38) := ⟨⟨by decide +kernel, by decide +kernel⟩, List.mem_of_getElem? (i := 852) (by decide +kernel), List.mem_of_getElem? (i := 1125) (by decide +kernel), List.mem_of_getElem? (i := 1126) (by decide +kernel)⟩
theorem lw_p84 : lw_okq (⟨"WhiteSlopeModel", "stepInto", "(II)I"⟩, 38) := ⟨⟨by decide +kernel, by decide +kernel⟩, List.mem_of_getElem? (i := 852) (by decide +kernel), List.mem_of_getElem? (i := 1150) (by decide +kernel), List.mem_of_getElem? (i := 1151) (by decide +kernel)⟩
theorem lw_p85 : lw_okq (⟨"WhiteSlopeModel", "findWays", "(I)V"⟩, 38) := ⟨⟨by decide +kernel, by decide +kernel⟩, List.mem_of_getElem? (i := 852) (by decide +kernel), List.mem_of_getElem? (i := 1166) (by decide +kernel), List.mem_of_getElem? (i := 1167) (by decide +kernel)⟩
theorem lw_p86 : lw_okq (⟨"WhiteSlopeModel", "knowsRisks", "()V"⟩, 38) := ⟨⟨by decide +kernel, by decide +kernel⟩, List.mem_of_getElem? (i := 852) (by decide +kernel), List.mem_of_getElem? (i := 1170) (by decide +kernel), List.mem_of_getElem? (i := 1171) (by decide +kernel)⟩
theorem lw_p87 : lw_okq (⟨"WhiteSlopeModel", "isLess", "(II)Z"⟩, 38) := ⟨⟨by decide +kernel, by decide +kernel⟩, List.mem_of_getElem? (i := 852) (by decide +kernel), List.mem_of_getElem? (i := 1175) (by decide +kernel), List.mem_of_getElem? (i := 1176) (by decide +kernel)⟩
theorem lw_p88 : lw_okq (⟨"WhiteSlopeModel", "comesTo", "(IZI)I"⟩, 38) := ⟨⟨by decide +kernel, by decide +kernel⟩, List.mem_of_getElem? (i := 852) (by decide +kernel), List.mem_of_getElem? (i := 1188) (by decide +kernel), List.mem_of_getElem? (i := 1189) (by decide +kernel)⟩
theorem lw_p89 : lw_okq (⟨"WhiteSlopeModel", "parse", "()I"⟩, 38) := ⟨⟨by decide +kernel, by decide +kernel⟩, List.mem_of_getElem? (i := 852) (by decide +kernel), List.mem_of_getElem? (i := 1215) (by decide +kernel), List.mem_of_getElem? (i := 1216) (by decide +kernel)⟩
theorem lw_p90 : lw_okq (⟨"WhiteSlopeModel", "nextToken", "()V"⟩, 38) := ⟨⟨by decide +kernel, by decide +kernel⟩, List.mem_of_getElem? (i := 852) (by decide +kernel), List.mem_of_getElem? (i := 1219) (by decide +kernel), List.mem_of_getElem? (i := 1220) (by decide +kernel)⟩
theorem lw_p91 : lw_okq (⟨"WhiteSlopeModel", "isLetter", "(I)Z"⟩, 38) := ⟨⟨by decide +kernel, by decide +kernel⟩, List.mem_of_getElem? (i := 852) (by decide +kernel), List.mem_of_getElem? (i := 1223) (by decide +kernel), List.mem_of_getElem? (i := 1224) (by decide +kernel)⟩
theorem lw_p92 : lw_okq (⟨"WhiteSlopeModel", "isDigit", "(I)Z"⟩, 38) := ⟨⟨by decide +kernel, by decide +kernel⟩, List.mem_of_getElem? (i := 852) (by decide +kernel), List.mem_of_getElem? (i := 1229) (by decide +kernel), List.mem_of_getElem? (i := 1230) (by decide +kernel)⟩
theorem lw_p93 : lw_okq (⟨"WhiteSlopeModel", "key", "()I"⟩, 38) := ⟨⟨by decide +kernel, by decide +kernel⟩, List.mem_of_getElem? (i := 852) (by decide +kernel), List.mem_of_getElem? (i := 1234) (by decide +kernel), List.mem_of_getElem? (i := 1235) (by decide +kernel)⟩
theorem lw_p94 : lw_okq (⟨"WhiteSlopeModel", "isWordAt", "(IIII)Z"⟩, 38) := ⟨⟨by decide +kernel, by decide +kernel⟩, List.mem_of_getElem? (i := 852) (by decide +kernel), List.mem_of_getElem? (i := 1238) (by decide +kernel), List.mem_of_getElem? (i := 1239) (by decide +kernel)⟩
theorem lw_p95 : lw_okq (⟨"WhiteSlopeModel", "either", "(I)Z"⟩, 38) := ⟨⟨by decide +kernel, by decide +kernel⟩, List.mem_of_getElem? (i := 852) (by decide +kernel), List.mem_of_getElem? (i := 1242) (by decide +kernel), List.mem_of_getElem? (i := 1243) (by decide +kernel)⟩
def lw_privs_6 : List (MethodName × Nat) := [(⟨"WhiteSlopeModel", "holdsLoads", "()V"⟩, 38), (⟨"WhiteSlopeModel", "laysBy", "()V"⟩, 38), (⟨"WhiteSlopeModel", "laysBack", "()V"⟩, 38), (⟨"WhiteSlopeModel", "trackAt", "(I)I"⟩, 38), (⟨"WhiteSlopeModel", "stepInto", "(II)I"⟩, 38), (⟨"WhiteSlopeModel", "findWays", "(I)V"⟩, 38), (⟨"WhiteSlopeModel", "knowsRisks", "()V"⟩, 38), (⟨"WhiteSlopeModel", "isLess", "(II)Z"⟩, 38), (⟨"WhiteSlopeModel", "comesTo", "(IZI)I"⟩, 38), (⟨"WhiteSlopeModel", "parse", "()I"⟩, 38), (⟨"WhiteSlopeModel", "nextToken", "()V"⟩, 38), (⟨"WhiteSlopeModel", "isLetter", "(I)Z"⟩, 38), (⟨"WhiteSlopeModel", "isDigit", "(I)Z"⟩, 38), (⟨"WhiteSlopeModel", "key", "()I"⟩, 38), (⟨"WhiteSlopeModel", "isWordAt", "(IIII)Z"⟩, 38), (⟨"WhiteSlopeModel", "either", "(I)Z"⟩, 38)]
theorem lw_r6 : ∀ q ∈ lw_privs_6, lw_okq q := List.forall_mem_cons.mpr ⟨lw_p80, List.forall_mem_cons.mpr ⟨lw_p81, List.forall_mem_cons.mpr ⟨lw_p82, List.forall_mem_cons.mpr ⟨lw_p83, List.forall_mem_cons.mpr ⟨lw_p84, List.forall_mem_cons.mpr ⟨lw_p85, List.forall_mem_cons.mpr ⟨lw_p86, List.forall_mem_cons.mpr ⟨lw_p87, List.forall_mem_cons.mpr ⟨lw_p88, List.forall_mem_cons.mpr ⟨lw_p89, List.forall_mem_cons.mpr ⟨lw_p90, List.forall_mem_cons.mpr ⟨lw_p91, List.forall_mem_cons.mpr ⟨lw_p92, List.forall_mem_cons.mpr ⟨lw_p93, List.forall_mem_cons.mpr ⟨lw_p94, List.forall_mem_cons.mpr ⟨lw_p95, fun _ h => absurd h List.not_mem_nil⟩⟩⟩⟩⟩⟩⟩⟩⟩⟩⟩⟩⟩⟩⟩⟩
theorem lw_p96 : lw_okq (⟨"WhiteSlopeModel", "both", "(I)Z"⟩, 38) := ⟨⟨by decide +kernel, by decide +kernel⟩, List.mem_of_getElem? (i := 852) (by decide +kernel), List.mem_of_getElem? (i := 1246) (by decide +kernel), List.mem_of_getElem? (i := 1247) (by decide +kernel)⟩
theorem lw_p97 : lw_okq (⟨"WhiteSlopeModel", "test", "(I)Z"⟩, 38) := ⟨⟨by decide +kernel, by decide +kernel⟩, List.mem_of_getElem? (i := 852) (by decide +kernel), List.mem_of_getElem? (i := 1250) (by decide +kernel), List.mem_of_getElem? (i := 1251) (by decide +kernel)⟩
theorem lw_p98 : lw_okq (⟨"WhiteSlopeModel", "sum", "(I)Z"⟩, 38) := ⟨⟨by decide +kernel, by decide +kernel⟩, List.mem_of_getElem? (i := 852) (by decide +kernel), List.mem_of_getElem? (i := 1254) (by decide +kernel), List.mem_of_getElem? (i := 1255) (by decide +kernel)⟩
theorem lw_p99 : lw_okq (⟨"WhiteSlopeModel", "term", "(I)Z"⟩, 38) := ⟨⟨by decide +kernel, by decide +kernel⟩, List.mem_of_getElem? (i := 852) (by decide +kernel), List.mem_of_getElem? (i := 1258) (by decide +kernel), List.mem_of_getElem? (i := 1259) (by decide +kernel)⟩
theorem lw_p100 : lw_okq (⟨"WhiteSlopeModel", "part0", "(I)Z"⟩, 38) := ⟨⟨by decide +kernel, by decide +kernel⟩, List.mem_of_getElem? (i := 852) (by decide +kernel), List.mem_of_getElem? (i := 1262) (by decide +kernel), List.mem_of_getElem? (i := 1263) (by decide +kernel)⟩
theorem lw_p101 : lw_okq (⟨"WhiteSlopeModel", "step", "(II)V"⟩, 38) := ⟨⟨by decide +kernel, by decide +kernel⟩, List.mem_of_getElem? (i := 852) (by decide +kernel), List.mem_of_getElem? (i := 1266) (by decide +kernel), List.mem_of_getElem? (i := 1267) (by decide +kernel)⟩
theorem lw_p102 : lw_okq (⟨"WhiteSlopeModel", "isSign", "(I)Z"⟩, 38) := ⟨⟨by decide +kernel, by decide +kernel⟩, List.mem_of_getElem? (i := 852) (by decide +kernel), List.mem_of_getElem? (i := 1273) (by decide +kernel), List.mem_of_getElem? (i := 1274) (by decide +kernel)⟩
theorem lw_p103 : lw_okq (⟨"WhiteSlopeModel", "isText", "(I)Z"⟩, 38) := ⟨⟨by decide +kernel, by decide +kernel⟩, List.mem_of_getElem? (i := 852) (by decide +kernel), List.mem_of_getElem? (i := 1281) (by decide +kernel), List.mem_of_getElem? (i := 1282) (by decide +kernel)⟩
theorem lw_p104 : lw_okq (⟨"WhiteSlopeModel", "setAside", "([I[I)V"⟩, 38) := ⟨⟨by decide +kernel, by decide +kernel⟩, List.mem_of_getElem? (i := 852) (by decide +kernel), List.mem_of_getElem? (i := 1348) (by decide +kernel), List.mem_of_getElem? (i := 1349) (by decide +kernel)⟩
def lw_privs_7 : List (MethodName × Nat) := [(⟨"WhiteSlopeModel", "both", "(I)Z"⟩, 38), (⟨"WhiteSlopeModel", "test", "(I)Z"⟩, 38), (⟨"WhiteSlopeModel", "sum", "(I)Z"⟩, 38), (⟨"WhiteSlopeModel", "term", "(I)Z"⟩, 38), (⟨"WhiteSlopeModel", "part0", "(I)Z"⟩, 38), (⟨"WhiteSlopeModel", "step", "(II)V"⟩, 38), (⟨"WhiteSlopeModel", "isSign", "(I)Z"⟩, 38), (⟨"WhiteSlopeModel", "isText", "(I)Z"⟩, 38), (⟨"WhiteSlopeModel", "setAside", "([I[I)V"⟩, 38)]
theorem lw_r7 : ∀ q ∈ lw_privs_7, lw_okq q := List.forall_mem_cons.mpr ⟨lw_p96, List.forall_mem_cons.mpr ⟨lw_p97, List.forall_mem_cons.mpr ⟨lw_p98, List.forall_mem_cons.mpr ⟨lw_p99, List.forall_mem_cons.mpr ⟨lw_p100, List.forall_mem_cons.mpr ⟨lw_p101, List.forall_mem_cons.mpr ⟨lw_p102, List.forall_mem_cons.mpr ⟨lw_p103, List.forall_mem_cons.mpr ⟨lw_p104, fun _ h => absurd h List.not_mem_nil⟩⟩⟩⟩⟩⟩⟩⟩⟩
def lw_privs : List (MethodName × Nat) := lw_privs_1 ++ (lw_privs_2 ++ (lw_privs_3 ++ (lw_privs_4 ++ (lw_privs_5 ++ (lw_privs_6 ++ (lw_privs_7))))))
def lw_tbl : List Cond := k2_sels lw_privs ++ tables_1
theorem lw_privs_ok : ∀ q ∈ lw_privs, lw_okq q := by
  show ∀ q ∈ lw_privs_1 ++ (lw_privs_2 ++ (lw_privs_3 ++ (lw_privs_4 ++ (lw_privs_5 ++ (lw_privs_6 ++ (lw_privs_7)))))), lw_okq q
  exact List.forall_mem_append.mpr ⟨lw_r1, List.forall_mem_append.mpr ⟨lw_r2, List.forall_mem_append.mpr ⟨lw_r3, List.forall_mem_append.mpr ⟨lw_r4, List.forall_mem_append.mpr ⟨lw_r5, List.forall_mem_append.mpr ⟨lw_r6, lw_r7⟩⟩⟩⟩⟩⟩
end
section
def RX0 : String := "WhiteSlope$Kinds"
def TX0 : u_T := fun k => match k with
  | _ => ("", "", "", false)
def tyX0 : Nat → FieldType := fun k => match k with
  | _ => .int
abbrev wsX00 : List Cond := u_ws RX0 TX0 0
theorem nmX0 : ∀ a, a < 0 → ∀ b, b < 0 → a ≠ b → (TX0 a).2.1 ≠ (TX0 b).2.1 := by decide +kernel
theorem tyX0_ok : ∀ k, k < 0 → parseFieldDescriptor (TX0 k).2.2.1 = some (tyX0 k) := by decide +kernel
abbrev cX0_isKind : ByteArray := prog_2_method_2_code
def yX0_isKind : MethodName := ⟨RX0, "isKind", "(I)Z"⟩
abbrev cX0_isUnder : ByteArray := prog_2_method_3_code
def yX0_isUnder : MethodName := ⟨RX0, "isUnder", "(II)Z"⟩
abbrev cX0_risk : ByteArray := prog_2_method_4_code
def yX0_risk : MethodName := ⟨RX0, "risk", "(IIII)I"⟩
abbrev cX0_hold : ByteArray := prog_2_method_5_code
def yX0_hold : MethodName := ⟨RX0, "hold", "(III)I"⟩
abbrev cX0_worth : ByteArray := prog_2_method_6_code
def yX0_worth : MethodName := ⟨RX0, "worth", "(III)I"⟩
def RX1 : String := "WhiteSlope$Law"
def TX1 : u_T := fun k => match k with
  | 0 => ("WhiteSlope$Law", "key", "I", false)
  | 1 => ("WhiteSlope$Law", "pieces", "I", false)
  | 2 => ("WhiteSlope$Law", "length", "I", false)
  | _ => ("WhiteSlope$Law", "codes", "[I", true)
def tyX1 : Nat → FieldType := fun k => match k with
  | 0 => .int
  | 1 => .int
  | 2 => .int
  | _ => .array .int
abbrev wsX10 : List Cond := u_ws RX1 TX1 4
theorem nmX1 : ∀ a, a < 4 → ∀ b, b < 4 → a ≠ b → (TX1 a).2.1 ≠ (TX1 b).2.1 := by decide +kernel
theorem tyX1_ok : ∀ k, k < 4 → parseFieldDescriptor (TX1 k).2.2.1 = some (tyX1 k) := by decide +kernel
abbrev cX1_init : ByteArray := prog_3_method_1_code
def yX1_init : MethodName := ⟨RX1, "<init>", "()V"⟩
abbrev cX1_begin : ByteArray := prog_3_method_2_code
def yX1_begin : MethodName := ⟨RX1, "begin", "()V"⟩
abbrev cX1_add : ByteArray := prog_3_method_3_code
def yX1_add : MethodName := ⟨RX1, "add", "(I)V"⟩
abbrev cX1_addPiece : ByteArray := prog_3_method_4_code
def yX1_addPiece : MethodName := ⟨RX1, "addPiece", "(I)V"⟩
abbrev cX1_become : ByteArray := prog_3_method_5_code
def yX1_become : MethodName := ⟨RX1, "become", "(LWhiteSlope$Law;)V"⟩
def RX2 : String := "WhiteSlope$Laws"
def TX2 : u_T := fun k => match k with
  | 0 => ("WhiteSlope$Laws", "rows", "[LWhiteSlope$Law;", true)
  | _ => ("WhiteSlope$Laws", "stack", "[I", true)
def tyX2 : Nat → FieldType := fun k => match k with
  | 0 => .array (.object "WhiteSlope$Law")
  | _ => .array .int
abbrev wsX20 : List Cond := u_ws RX2 TX2 2
theorem nmX2 : ∀ a, a < 2 → ∀ b, b < 2 → a ≠ b → (TX2 a).2.1 ≠ (TX2 b).2.1 := by decide +kernel
theorem tyX2_ok : ∀ k, k < 2 → parseFieldDescriptor (TX2 k).2.2.1 = some (tyX2 k) := by decide +kernel
abbrev cX2_init : ByteArray := prog_4_method_1_code
def yX2_init : MethodName := ⟨RX2, "<init>", "()V"⟩
abbrev cX2_lastOf : ByteArray := prog_4_method_2_code
def yX2_lastOf : MethodName := ⟨RX2, "lastOf", "(II)I"⟩
abbrev cX2_worth : ByteArray := prog_4_method_3_code
def yX2_worth : MethodName := ⟨RX2, "worth", "(IIII)I"⟩
abbrev cX2_isPiece : ByteArray := prog_4_method_4_code
def yX2_isPiece : MethodName := ⟨RX2, "isPiece", "(I)Z"⟩
abbrev cX2_pieceWorth : ByteArray := prog_4_method_5_code
def yX2_pieceWorth : MethodName := ⟨RX2, "pieceWorth", "(IIII)I"⟩
abbrev cX2_joined : ByteArray := prog_4_method_6_code
def yX2_joined : MethodName := ⟨RX2, "joined", "(III)I"⟩
def RX3 : String := "WhiteSlope$Mountain"
def TX3 : u_T := fun k => match k with
  | 0 => ("WhiteSlope$Mountain", "laws", "LWhiteSlope$Laws;", true)
  | 1 => ("WhiteSlope$Mountain", "kinds", "[I", true)
  | 2 => ("WhiteSlope$Mountain", "steeps", "[I", true)
  | 3 => ("WhiteSlope$Mountain", "loads", "[I", true)
  | 4 => ("WhiteSlope$Mountain", "trackRow", "[I", true)
  | 5 => ("WhiteSlope$Mountain", "risks", "[I", true)
  | 6 => ("WhiteSlope$Mountain", "plainHolds", "[I", true)
  | 7 => ("WhiteSlope$Mountain", "trackCells", "I", false)
  | 8 => ("WhiteSlope$Mountain", "danger", "I", false)
  | 9 => ("WhiteSlope$Mountain", "hour", "I", false)
  | 10 => ("WhiteSlope$Mountain", "fall", "I", false)
  | 11 => ("WhiteSlope$Mountain", "z", "I", false)
  | 12 => ("WhiteSlope$Mountain", "slid", "I", false)
  | _ => ("WhiteSlope$Mountain", "texts", "I", false)
def tyX3 : Nat → FieldType := fun k => match k with
  | 0 => .object "WhiteSlope$Laws"
  | 1 => .array .int
  | 2 => .array .int
  | 3 => .array .int
  | 4 => .array .int
  | 5 => .array .int
  | 6 => .array .int
  | 7 => .int
  | 8 => .int
  | 9 => .int
  | 10 => .int
  | 11 => .int
  | 12 => .int
  | _ => .int
abbrev wsX30 : List Cond := u_ws RX3 TX3 14
theorem nmX3 : ∀ a, a < 14 → ∀ b, b < 14 → a ≠ b → (TX3 a).2.1 ≠ (TX3 b).2.1 := by decide +kernel
theorem tyX3_ok : ∀ k, k < 14 → parseFieldDescriptor (TX3 k).2.2.1 = some (tyX3 k) := by decide +kernel
abbrev cX3_init : ByteArray := prog_5_method_1_code
def yX3_init : MethodName := ⟨RX3, "<init>", "(LWhiteSlope$Laws;)V"⟩
abbrev cX3_become : ByteArray := prog_5_method_2_code
def yX3_become : MethodName := ⟨RX3, "become", "(LWhiteSlope$Mountain;)V"⟩
abbrev cX3_sun : ByteArray := prog_5_method_3_code
def yX3_sun : MethodName := ⟨RX3, "sun", "()I"⟩
abbrev cX3_allLoad : ByteArray := prog_5_method_4_code
def yX3_allLoad : MethodName := ⟨RX3, "allLoad", "()I"⟩
abbrev cX3_mostLoaded : ByteArray := prog_5_method_5_code
def yX3_mostLoaded : MethodName := ⟨RX3, "mostLoaded", "()I"⟩
abbrev cX3_plainRisk : ByteArray := prog_5_method_6_code
def yX3_plainRisk : MethodName := ⟨RX3, "plainRisk", "(I)I"⟩
abbrev cX3_riskAbove : ByteArray := prog_5_method_7_code
def yX3_riskAbove : MethodName := ⟨RX3, "riskAbove", "(I)I"⟩
abbrev cX3_risk : ByteArray := prog_5_method_8_code
def yX3_risk : MethodName := ⟨RX3, "risk", "(I)I"⟩
abbrev cX3_weighRisks : ByteArray := prog_5_method_9_code
def yX3_weighRisks : MethodName := ⟨RX3, "weighRisks", "()V"⟩
abbrev cX3_plainHold : ByteArray := prog_5_method_10_code
def yX3_plainHold : MethodName := ⟨RX3, "plainHold", "(I)I"⟩
abbrev cX3_stepInto : ByteArray := prog_5_method_11_code
def yX3_stepInto : MethodName := ⟨RX3, "stepInto", "(II)I"⟩
abbrev cX3_draw : ByteArray := prog_5_method_12_code
def yX3_draw : MethodName := ⟨RX3, "draw", "()I"⟩
abbrev cX3_drawByLot : ByteArray := prog_5_method_13_code
def yX3_drawByLot : MethodName := ⟨RX3, "drawByLot", "()V"⟩
abbrev cX3_tickOften : ByteArray := prog_5_method_14_code
def yX3_tickOften : MethodName := ⟨RX3, "tickOften", "(I)I"⟩
abbrev cX3_brace : ByteArray := prog_5_method_15_code
def yX3_brace : MethodName := ⟨RX3, "brace", "()V"⟩
abbrev cX3_tick : ByteArray := prog_5_method_16_code
def yX3_tick : MethodName := ⟨RX3, "tick", "()I"⟩
abbrev cX3_snow : ByteArray := prog_5_method_17_code
def yX3_snow : MethodName := ⟨RX3, "snow", "()V"⟩
abbrev cX3_addLoad : ByteArray := prog_5_method_18_code
def yX3_addLoad : MethodName := ⟨RX3, "addLoad", "(II)V"⟩
abbrev cX3_drift : ByteArray := prog_5_method_19_code
def yX3_drift : MethodName := ⟨RX3, "drift", "()V"⟩
abbrev cX3_slide : ByteArray := prog_5_method_20_code
def yX3_slide : MethodName := ⟨RX3, "slide", "()I"⟩
abbrev cX3_trackRisk : ByteArray := prog_5_method_21_code
def yX3_trackRisk : MethodName := ⟨RX3, "trackRisk", "()I"⟩
abbrev cX3_trackBreath : ByteArray := prog_5_method_22_code
def yX3_trackBreath : MethodName := ⟨RX3, "trackBreath", "()I"⟩
abbrev cX3_trackTurns : ByteArray := prog_5_method_23_code
def yX3_trackTurns : MethodName := ⟨RX3, "trackTurns", "()I"⟩
abbrev cX3_trackSteepest : ByteArray := prog_5_method_24_code
def yX3_trackSteepest : MethodName := ⟨RX3, "trackSteepest", "()I"⟩
abbrev cX3_trackRiskiest : ByteArray := prog_5_method_25_code
def yX3_trackRiskiest : MethodName := ⟨RX3, "trackRiskiest", "()I"⟩
def RX4 : String := "WhiteSlope$Reader"
def TX4 : u_T := fun k => match k with
  | 0 => ("WhiteSlope$Reader", "tape", "LWhiteSlope$Tape;", true)
  | 1 => ("WhiteSlope$Reader", "law", "LWhiteSlope$Law;", true)
  | 2 => ("WhiteSlope$Reader", "at", "I", false)
  | 3 => ("WhiteSlope$Reader", "fault", "I", false)
  | _ => ("WhiteSlope$Reader", "keyEnd", "I", false)
def tyX4 : Nat → FieldType := fun k => match k with
  | 0 => .object "WhiteSlope$Tape"
  | 1 => .object "WhiteSlope$Law"
  | 2 => .int
  | 3 => .int
  | _ => .int
abbrev wsX40 : List Cond := u_ws RX4 TX4 5
theorem nmX4 : ∀ a, a < 5 → ∀ b, b < 5 → a ≠ b → (TX4 a).2.1 ≠ (TX4 b).2.1 := by decide +kernel
theorem tyX4_ok : ∀ k, k < 5 → parseFieldDescriptor (TX4 k).2.2.1 = some (tyX4 k) := by decide +kernel
abbrev cX4_init : ByteArray := prog_6_method_1_code
def yX4_init : MethodName := ⟨RX4, "<init>", "(LWhiteSlope$Tape;)V"⟩
abbrev cX4_faultOfTape : ByteArray := prog_6_method_2_code
def yX4_faultOfTape : MethodName := ⟨RX4, "faultOfTape", "()I"⟩
abbrev cX4_nextByte : ByteArray := prog_6_method_3_code
def yX4_nextByte : MethodName := ⟨RX4, "nextByte", "()I"⟩
abbrev cX4_readKey : ByteArray := prog_6_method_4_code
def yX4_readKey : MethodName := ⟨RX4, "readKey", "()V"⟩
abbrev cX4_isWord : ByteArray := prog_6_method_5_code
def yX4_isWord : MethodName := ⟨RX4, "isWord", "(Ljava/lang/String;)Z"⟩
abbrev cX4_readLevel : ByteArray := prog_6_method_6_code
def yX4_readLevel : MethodName := ⟨RX4, "readLevel", "(III)V"⟩
abbrev cX4_levelOf : ByteArray := prog_6_method_7_code
def yX4_levelOf : MethodName := ⟨RX4, "levelOf", "(I)I"⟩
abbrev cX4_readPiece : ByteArray := prog_6_method_8_code
def yX4_readPiece : MethodName := ⟨RX4, "readPiece", "(II)V"⟩
abbrev cX4_readClosing : ByteArray := prog_6_method_9_code
def yX4_readClosing : MethodName := ⟨RX4, "readClosing", "()V"⟩
abbrev cX4_readNumber : ByteArray := prog_6_method_10_code
def yX4_readNumber : MethodName := ⟨RX4, "readNumber", "()V"⟩
abbrev cX4_readName : ByteArray := prog_6_method_11_code
def yX4_readName : MethodName := ⟨RX4, "readName", "(I)V"⟩
abbrev cX4_isName : ByteArray := prog_6_method_12_code
def yX4_isName : MethodName := ⟨RX4, "isName", "(I)Z"⟩
def RX5 : String := "WhiteSlope$Sheet"
def TX5 : u_T := fun k => match k with
  | 0 => ("WhiteSlope$Sheet", "sort", "I", false)
  | 1 => ("WhiteSlope$Sheet", "places", "I", false)
  | _ => ("WhiteSlope$Sheet", "row", "[I", true)
def tyX5 : Nat → FieldType := fun k => match k with
  | 0 => .int
  | 1 => .int
  | _ => .array .int
abbrev wsX50 : List Cond := u_ws RX5 TX5 3
theorem nmX5 : ∀ a, a < 3 → ∀ b, b < 3 → a ≠ b → (TX5 a).2.1 ≠ (TX5 b).2.1 := by decide +kernel
theorem tyX5_ok : ∀ k, k < 3 → parseFieldDescriptor (TX5 k).2.2.1 = some (tyX5 k) := by decide +kernel
abbrev cX5_init : ByteArray := prog_7_method_1_code
def yX5_init : MethodName := ⟨RX5, "<init>", "()V"⟩
abbrev cX5_renew : ByteArray := prog_7_method_2_code
def yX5_renew : MethodName := ⟨RX5, "renew", "(II)V"⟩
abbrev cX5_become : ByteArray := prog_7_method_3_code
def yX5_become : MethodName := ⟨RX5, "become", "(LWhiteSlope$Sheet;)V"⟩
abbrev cX5_hasPlace : ByteArray := prog_7_method_4_code
def yX5_hasPlace : MethodName := ⟨RX5, "hasPlace", "(I)Z"⟩
abbrev cX5_hasPlaces : ByteArray := prog_7_method_5_code
def yX5_hasPlaces : MethodName := ⟨RX5, "hasPlaces", "(II)Z"⟩
abbrev cX5_isNumber : ByteArray := prog_7_method_6_code
def yX5_isNumber : MethodName := ⟨RX5, "isNumber", "(I)Z"⟩
def RX6 : String := "WhiteSlope$Slot"
def TX6 : u_T := fun k => match k with
  | 0 => ("WhiteSlope$Slot", "thing", "I", false)
  | 1 => ("WhiteSlope$Slot", "kind", "I", false)
  | 2 => ("WhiteSlope$Slot", "steep", "I", false)
  | 3 => ("WhiteSlope$Slot", "load", "I", false)
  | 4 => ("WhiteSlope$Slot", "number", "I", false)
  | _ => ("WhiteSlope$Slot", "sheet", "LWhiteSlope$Sheet;", true)
def tyX6 : Nat → FieldType := fun k => match k with
  | 0 => .int
  | 1 => .int
  | 2 => .int
  | 3 => .int
  | 4 => .int
  | _ => .object "WhiteSlope$Sheet"
abbrev wsX60 : List Cond := u_ws RX6 TX6 6
theorem nmX6 : ∀ a, a < 6 → ∀ b, b < 6 → a ≠ b → (TX6 a).2.1 ≠ (TX6 b).2.1 := by decide +kernel
theorem tyX6_ok : ∀ k, k < 6 → parseFieldDescriptor (TX6 k).2.2.1 = some (tyX6 k) := by decide +kernel
abbrev cX6_init : ByteArray := prog_8_method_1_code
def yX6_init : MethodName := ⟨RX6, "<init>", "()V"⟩
def RX7 : String := "WhiteSlope$Tape"
def TX7 : u_T := fun k => match k with
  | 0 => ("WhiteSlope$Tape", "bytes", "[I", true)
  | _ => ("WhiteSlope$Tape", "length", "I", false)
def tyX7 : Nat → FieldType := fun k => match k with
  | 0 => .array .int
  | _ => .int
abbrev wsX70 : List Cond := u_ws RX7 TX7 2
theorem nmX7 : ∀ a, a < 2 → ∀ b, b < 2 → a ≠ b → (TX7 a).2.1 ≠ (TX7 b).2.1 := by decide +kernel
theorem tyX7_ok : ∀ k, k < 2 → parseFieldDescriptor (TX7 k).2.2.1 = some (tyX7 k) := by decide +kernel
abbrev cX7_init : ByteArray := prog_9_method_1_code
def yX7_init : MethodName := ⟨RX7, "<init>", "()V"⟩
abbrev cX7_hasRoomFor : ByteArray := prog_9_method_2_code
def yX7_hasRoomFor : MethodName := ⟨RX7, "hasRoomFor", "(I)Z"⟩
abbrev cX7_takeInt : ByteArray := prog_9_method_3_code
def yX7_takeInt : MethodName := ⟨RX7, "takeInt", "(I)V"⟩
abbrev cX7_byteAt : ByteArray := prog_9_method_4_code
def yX7_byteAt : MethodName := ⟨RX7, "byteAt", "(I)I"⟩
abbrev cX7_isLetterAt : ByteArray := prog_9_method_5_code
def yX7_isLetterAt : MethodName := ⟨RX7, "isLetterAt", "(I)Z"⟩
abbrev cX7_isDigitAt : ByteArray := prog_9_method_6_code
def yX7_isDigitAt : MethodName := ⟨RX7, "isDigitAt", "(I)Z"⟩
abbrev cX7_wordEnd : ByteArray := prog_9_method_7_code
def yX7_wordEnd : MethodName := ⟨RX7, "wordEnd", "(I)I"⟩
def RX8 : String := "WhiteSlope$Ways"
def TX8 : u_T := fun k => match k with
  | 0 => ("WhiteSlope$Ways", "costs", "[I", true)
  | _ => ("WhiteSlope$Ways", "before", "[I", true)
def tyX8 : Nat → FieldType := fun k => match k with
  | 0 => .array .int
  | _ => .array .int
abbrev wsX80 : List Cond := u_ws RX8 TX8 2
theorem nmX8 : ∀ a, a < 2 → ∀ b, b < 2 → a ≠ b → (TX8 a).2.1 ≠ (TX8 b).2.1 := by decide +kernel
theorem tyX8_ok : ∀ k, k < 2 → parseFieldDescriptor (TX8 k).2.2.1 = some (tyX8 k) := by decide +kernel
abbrev cX8_init : ByteArray := prog_10_method_1_code
def yX8_init : MethodName := ⟨RX8, "<init>", "()V"⟩
abbrev cX8_startAt : ByteArray := prog_10_method_2_code
def yX8_startAt : MethodName := ⟨RX8, "startAt", "(II)V"⟩
abbrev cX8_findTo : ByteArray := prog_10_method_3_code
def yX8_findTo : MethodName := ⟨RX8, "findTo", "(LWhiteSlope$Mountain;I)V"⟩
abbrev cX8_costBy : ByteArray := prog_10_method_4_code
def yX8_costBy : MethodName := ⟨RX8, "costBy", "(LWhiteSlope$Mountain;II)I"⟩
abbrev cX8_bestDirection : ByteArray := prog_10_method_5_code
def yX8_bestDirection : MethodName := ⟨RX8, "bestDirection", "(LWhiteSlope$Mountain;I)I"⟩
abbrev cX8_risksFrom : ByteArray := prog_10_method_6_code
def yX8_risksFrom : MethodName := ⟨RX8, "risksFrom", "(I)I"⟩
abbrev cX8_stepsFrom : ByteArray := prog_10_method_7_code
def yX8_stepsFrom : MethodName := ⟨RX8, "stepsFrom", "(I)I"⟩
abbrev cX8_breathFrom : ByteArray := prog_10_method_8_code
def yX8_breathFrom : MethodName := ⟨RX8, "breathFrom", "(LWhiteSlope$Mountain;I)I"⟩
abbrev cX8_cellFrom : ByteArray := prog_10_method_9_code
def yX8_cellFrom : MethodName := ⟨RX8, "cellFrom", "(LWhiteSlope$Mountain;II)I"⟩
abbrev cX8_leastWithin : ByteArray := prog_10_method_10_code
def yX8_leastWithin : MethodName := ⟨RX8, "leastWithin", "(LWhiteSlope$Mountain;III)I"⟩
abbrev cX8_leastBeside : ByteArray := prog_10_method_11_code
def yX8_leastBeside : MethodName := ⟨RX8, "leastBeside", "(I)I"⟩
abbrev cX8_leastSteep : ByteArray := prog_10_method_12_code
def yX8_leastSteep : MethodName := ⟨RX8, "leastSteep", "(LWhiteSlope$Mountain;II)I"⟩
abbrev cX8_comeTo : ByteArray := prog_10_method_13_code
def yX8_comeTo : MethodName := ⟨RX8, "comeTo", "(LWhiteSlope$Mountain;II)I"⟩
def RX9 : String := "WhiteSlope"
def TX9 : u_T := fun k => match k with
  | 0 => ("WhiteSlope", "laws", "LWhiteSlope$Laws;", true)
  | 1 => ("WhiteSlope", "now", "LWhiteSlope$Mountain;", true)
  | 2 => ("WhiteSlope", "image", "LWhiteSlope$Mountain;", true)
  | 3 => ("WhiteSlope", "thought", "LWhiteSlope$Mountain;", true)
  | 4 => ("WhiteSlope", "ways", "LWhiteSlope$Ways;", true)
  | 5 => ("WhiteSlope", "tape", "LWhiteSlope$Tape;", true)
  | 6 => ("WhiteSlope", "reader", "LWhiteSlope$Reader;", true)
  | 7 => ("WhiteSlope", "sheets", "[LWhiteSlope$Sheet;", true)
  | 8 => ("WhiteSlope", "slots", "[LWhiteSlope$Slot;", true)
  | 9 => ("WhiteSlope", "waiting", "[I", true)
  | 10 => ("WhiteSlope", "waits", "I", false)
  | _ => ("WhiteSlope", "imageKept", "Z", false)
def tyX9 : Nat → FieldType := fun k => match k with
  | 0 => .object "WhiteSlope$Laws"
  | 1 => .object "WhiteSlope$Mountain"
  | 2 => .object "WhiteSlope$Mountain"
  | 3 => .object "WhiteSlope$Mountain"
  | 4 => .object "WhiteSlope$Ways"
  | 5 => .object "WhiteSlope$Tape"
  | 6 => .object "WhiteSlope$Reader"
  | 7 => .array (.object "WhiteSlope$Sheet")
  | 8 => .array (.object "WhiteSlope$Slot")
  | 9 => .array .int
  | 10 => .int
  | _ => .boolean
abbrev wsX90 : List Cond := u_ws RX9 TX9 12
theorem nmX9 : ∀ a, a < 12 → ∀ b, b < 12 → a ≠ b → (TX9 a).2.1 ≠ (TX9 b).2.1 := by decide +kernel
theorem tyX9_ok : ∀ k, k < 12 → parseFieldDescriptor (TX9 k).2.2.1 = some (tyX9 k) := by decide +kernel
abbrev cX9_init : ByteArray := prog_1_method_1_code
def yX9_init : MethodName := ⟨RX9, "<init>", "()V"⟩
abbrev cX9_place : ByteArray := prog_1_method_2_code
def yX9_place : MethodName := ⟨RX9, "place", "(IIII)I"⟩
abbrev cX9_told : ByteArray := prog_1_method_3_code
def yX9_told : MethodName := ⟨RX9, "told", "(II)I"⟩
abbrev cX9_as : ByteArray := prog_1_method_4_code
def yX9_as : MethodName := ⟨RX9, "as", "(II)I"⟩
abbrev cX9_turns : ByteArray := prog_1_method_5_code
def yX9_turns : MethodName := ⟨RX9, "turns", "(II)I"⟩
abbrev cX9_set : ByteArray := prog_1_method_6_code
def yX9_set : MethodName := ⟨RX9, "set", "(III)I"⟩
abbrev cX9_today : ByteArray := prog_1_method_7_code
def yX9_today : MethodName := ⟨RX9, "today", "(II)I"⟩
abbrev cX9_deal : ByteArray := prog_1_method_8_code
def yX9_deal : MethodName := ⟨RX9, "deal", "()I"⟩
abbrev cX9_seed : ByteArray := prog_1_method_9_code
def yX9_seed : MethodName := ⟨RX9, "seed", "(I)I"⟩
abbrev cX9_run : ByteArray := prog_1_method_10_code
def yX9_run : MethodName := ⟨RX9, "run", "(I)I"⟩
abbrev cX9_ahead : ByteArray := prog_1_method_11_code
def yX9_ahead : MethodName := ⟨RX9, "ahead", "(II)I"⟩
abbrev cX9_calm : ByteArray := prog_1_method_12_code
def yX9_calm : MethodName := ⟨RX9, "calm", "()I"⟩
abbrev cX9_track : ByteArray := prog_1_method_13_code
def yX9_track : MethodName := ⟨RX9, "track", "(I)I"⟩
abbrev cX9_wipe : ByteArray := prog_1_method_14_code
def yX9_wipe : MethodName := ⟨RX9, "wipe", "()I"⟩
abbrev cX9_at : ByteArray := prog_1_method_15_code
def yX9_at : MethodName := ⟨RX9, "at", "(I)I"⟩
abbrev cX9_along : ByteArray := prog_1_method_16_code
def yX9_along : MethodName := ⟨RX9, "along", "(I)I"⟩
abbrev cX9_turnBack : ByteArray := prog_1_method_17_code
def yX9_turnBack : MethodName := ⟨RX9, "turnBack", "(I)I"⟩
abbrev cX9_way : ByteArray := prog_1_method_18_code
def yX9_way : MethodName := ⟨RX9, "way", "(III)I"⟩
abbrev cX9_bound : ByteArray := prog_1_method_19_code
def yX9_bound : MethodName := ⟨RX9, "bound", "(III)I"⟩
abbrev cX9_wall : ByteArray := prog_1_method_20_code
def yX9_wall : MethodName := ⟨RX9, "wall", "(II)I"⟩
abbrev cX9_reach : ByteArray := prog_1_method_21_code
def yX9_reach : MethodName := ⟨RX9, "reach", "(II)I"⟩
abbrev cX9_odds : ByteArray := prog_1_method_22_code
def yX9_odds : MethodName := ⟨RX9, "odds", "(III)J"⟩
abbrev cX9_feed : ByteArray := prog_1_method_23_code
def yX9_feed : MethodName := ⟨RX9, "feed", "(III)I"⟩
abbrev cX9_trim : ByteArray := prog_1_method_24_code
def yX9_trim : MethodName := ⟨RX9, "trim", "(I)I"⟩
abbrev cX9_text : ByteArray := prog_1_method_25_code
def yX9_text : MethodName := ⟨RX9, "text", "()I"⟩
abbrev cX9_textTold : ByteArray := prog_1_method_26_code
def yX9_textTold : MethodName := ⟨RX9, "textTold", "(II)I"⟩
abbrev cX9_why : ByteArray := prog_1_method_27_code
def yX9_why : MethodName := ⟨RX9, "why", "(I)I"⟩
abbrev cX9_sheet : ByteArray := prog_1_method_28_code
def yX9_sheet : MethodName := ⟨RX9, "sheet", "(III)I"⟩
abbrev cX9_mark : ByteArray := prog_1_method_29_code
def yX9_mark : MethodName := ⟨RX9, "mark", "(III)I"⟩
abbrev cX9_pour : ByteArray := prog_1_method_30_code
def yX9_pour : MethodName := ⟨RX9, "pour", "(II)I"⟩
abbrev cX9_reads : ByteArray := prog_1_method_31_code
def yX9_reads : MethodName := ⟨RX9, "reads", "(I)I"⟩
abbrev cX9_copy : ByteArray := prog_1_method_32_code
def yX9_copy : MethodName := ⟨RX9, "copy", "(IIIII)I"⟩
abbrev cX9_lay : ByteArray := prog_1_method_33_code
def yX9_lay : MethodName := ⟨RX9, "lay", "(III)I"⟩
abbrev cX9_ask : ByteArray := prog_1_method_34_code
def yX9_ask : MethodName := ⟨RX9, "ask", "(II)I"⟩
abbrev cX9_item : ByteArray := prog_1_method_35_code
def yX9_item : MethodName := ⟨RX9, "item", "(II)I"⟩
abbrev cX9_rest : ByteArray := prog_1_method_36_code
def yX9_rest : MethodName := ⟨RX9, "rest", "(II)I"⟩
abbrev cX9_tell : ByteArray := prog_1_method_37_code
def yX9_tell : MethodName := ⟨RX9, "tell", "(I)I"⟩
abbrev cX9_check : ByteArray := prog_1_method_38_code
def yX9_check : MethodName := ⟨RX9, "check", "(I)I"⟩
abbrev cX9_keep : ByteArray := prog_1_method_39_code
def yX9_keep : MethodName := ⟨RX9, "keep", "()I"⟩
abbrev cX9_back : ByteArray := prog_1_method_40_code
def yX9_back : MethodName := ⟨RX9, "back", "()I"⟩
abbrev cX9_count : ByteArray := prog_1_method_41_code
def yX9_count : MethodName := ⟨RX9, "count", "(I)I"⟩
abbrev cX9_rightAhead : ByteArray := prog_1_method_42_code
def yX9_rightAhead : MethodName := ⟨RX9, "rightAhead", "(II)I"⟩
abbrev cX9_isWithin : ByteArray := prog_1_method_43_code
def yX9_isWithin : MethodName := ⟨RX9, "isWithin", "(III)Z"⟩
abbrev cX9_heldWithin : ByteArray := prog_1_method_44_code
def yX9_heldWithin : MethodName := ⟨RX9, "heldWithin", "(III)I"⟩
abbrev cX9_isCell : ByteArray := prog_1_method_45_code
def yX9_isCell : MethodName := ⟨RX9, "isCell", "(I)Z"⟩
abbrev cX9_isSheet : ByteArray := prog_1_method_46_code
def yX9_isSheet : MethodName := ⟨RX9, "isSheet", "(I)Z"⟩
abbrev cX9_isSlot : ByteArray := prog_1_method_47_code
def yX9_isSlot : MethodName := ⟨RX9, "isSlot", "(I)Z"⟩
abbrev cX9_neighbour : ByteArray := prog_1_method_48_code
def yX9_neighbour : MethodName := ⟨RX9, "neighbour", "(II)I"⟩
abbrev cX9_isBeside : ByteArray := prog_1_method_49_code
def yX9_isBeside : MethodName := ⟨RX9, "isBeside", "(II)Z"⟩
abbrev cX9_commonDivisor : ByteArray := prog_1_method_50_code
def yX9_commonDivisor : MethodName := ⟨RX9, "commonDivisor", "(II)I"⟩
def RX10 : String := "WhiteSlopeModel"
def TX10 : u_T := fun k => match k with
  | 0 => ("WhiteSlopeModel", "s", "[I", true)
  | 1 => ("WhiteSlopeModel", "image", "[I", true)
  | 2 => ("WhiteSlopeModel", "aside", "[I", true)
  | 3 => ("WhiteSlopeModel", "hasImage", "Z", false)
  | 4 => ("WhiteSlopeModel", "tSort", "[I", true)
  | 5 => ("WhiteSlopeModel", "tSize", "[I", true)
  | 6 => ("WhiteSlopeModel", "tNumber", "[I", true)
  | 7 => ("WhiteSlopeModel", "held", "[I", true)
  | 8 => ("WhiteSlopeModel", "heldNumber", "[I", true)
  | 9 => ("WhiteSlopeModel", "heldWorth", "[I", true)
  | 10 => ("WhiteSlopeModel", "heldSize", "[I", true)
  | 11 => ("WhiteSlopeModel", "heldRow", "[I", true)
  | 12 => ("WhiteSlopeModel", "drifts", "[I", true)
  | 13 => ("WhiteSlopeModel", "close", "[I", true)
  | 14 => ("WhiteSlopeModel", "riskOf", "[I", true)
  | 15 => ("WhiteSlopeModel", "leastOf", "[I", true)
  | 16 => ("WhiteSlopeModel", "stepsOf", "[I", true)
  | 17 => ("WhiteSlopeModel", "wayOf", "[I", true)
  | 18 => ("WhiteSlopeModel", "nextOf", "[I", true)
  | 19 => ("WhiteSlopeModel", "isCome", "[Z", true)
  | 20 => ("WhiteSlopeModel", "tape", "[I", true)
  | 21 => ("WhiteSlopeModel", "taped", "I", false)
  | 22 => ("WhiteSlopeModel", "begin", "I", false)
  | 23 => ("WhiteSlopeModel", "behind", "I", false)
  | 24 => ("WhiteSlopeModel", "token", "I", false)
  | 25 => ("WhiteSlopeModel", "number", "I", false)
  | 26 => ("WhiteSlopeModel", "letter", "I", false)
  | 27 => ("WhiteSlopeModel", "deep", "I", false)
  | 28 => ("WhiteSlopeModel", "turned", "I", false)
  | 29 => ("WhiteSlopeModel", "laid", "I", false)
  | 30 => ("WhiteSlopeModel", "laidAt", "I", false)
  | 31 => ("WhiteSlopeModel", "said", "I", false)
  | 32 => ("WhiteSlopeModel", "named", "[I", true)
  | 33 => ("WhiteSlopeModel", "pile", "[I", true)
  | 34 => ("WhiteSlopeModel", "carried", "[I", true)
  | 35 => ("WhiteSlopeModel", "waits", "[I", true)
  | 36 => ("WhiteSlopeModel", "waiting", "I", false)
  | _ => ("WhiteSlopeModel", "rowDue", "[I", true)
def tyX10 : Nat → FieldType := fun k => match k with
  | 0 => .array .int
  | 1 => .array .int
  | 2 => .array .int
  | 3 => .boolean
  | 4 => .array .int
  | 5 => .array .int
  | 6 => .array .int
  | 7 => .array .int
  | 8 => .array .int
  | 9 => .array .int
  | 10 => .array .int
  | 11 => .array .int
  | 12 => .array .int
  | 13 => .array .int
  | 14 => .array .int
  | 15 => .array .int
  | 16 => .array .int
  | 17 => .array .int
  | 18 => .array .int
  | 19 => .array .boolean
  | 20 => .array .int
  | 21 => .int
  | 22 => .int
  | 23 => .int
  | 24 => .int
  | 25 => .int
  | 26 => .int
  | 27 => .int
  | 28 => .int
  | 29 => .int
  | 30 => .int
  | 31 => .int
  | 32 => .array .int
  | 33 => .array .int
  | 34 => .array .int
  | 35 => .array .int
  | 36 => .int
  | _ => .array .int
abbrev wsX100 : List Cond := u_ws RX10 TX10 38
theorem nmX10 : ∀ a, a < 38 → ∀ b, b < 38 → a ≠ b → (TX10 a).2.1 ≠ (TX10 b).2.1 := by decide +kernel
theorem tyX10_ok : ∀ k, k < 38 → parseFieldDescriptor (TX10 k).2.2.1 = some (tyX10 k) := by decide +kernel
abbrev cX10_init : ByteArray := prog_12_method_1_code
def yX10_init : MethodName := ⟨RX10, "<init>", "()V"⟩
abbrev cX10_isIn : ByteArray := prog_12_method_2_code
def yX10_isIn : MethodName := ⟨RX10, "isIn", "(JJJ)Z"⟩
abbrev cX10_orNone : ByteArray := prog_12_method_3_code
def yX10_orNone : MethodName := ⟨RX10, "orNone", "(I)I"⟩
abbrev cX10_within : ByteArray := prog_12_method_4_code
def yX10_within : MethodName := ⟨RX10, "within", "(II)I"⟩
abbrev cX10_becomes : ByteArray := prog_12_method_5_code
def yX10_becomes : MethodName := ⟨RX10, "becomes", "(II)I"⟩
abbrev cX10_textAt : ByteArray := prog_12_method_6_code
def yX10_textAt : MethodName := ⟨RX10, "textAt", "(I)I"⟩
abbrev cX10_of : ByteArray := prog_12_method_7_code
def yX10_of : MethodName := ⟨RX10, "of", "(II)I"⟩
abbrev cX10_sets : ByteArray := prog_12_method_8_code
def yX10_sets : MethodName := ⟨RX10, "sets", "(III)V"⟩
abbrev cX10_isCell : ByteArray := prog_12_method_9_code
def yX10_isCell : MethodName := ⟨RX10, "isCell", "(I)Z"⟩
abbrev cX10_isText : ByteArray := prog_12_method_10_code
def yX10_isText : MethodName := ⟨RX10, "isText", "(I)Z"⟩
abbrev cX10_drawn : ByteArray := prog_12_method_11_code
def yX10_drawn : MethodName := ⟨RX10, "drawn", "()I"⟩
abbrev cX10_sun : ByteArray := prog_12_method_12_code
def yX10_sun : MethodName := ⟨RX10, "sun", "()I"⟩
abbrev cX10_plainRisk : ByteArray := prog_12_method_13_code
def yX10_plainRisk : MethodName := ⟨RX10, "plainRisk", "(I)I"⟩
abbrev cX10_above : ByteArray := prog_12_method_14_code
def yX10_above : MethodName := ⟨RX10, "above", "(I)I"⟩
abbrev cX10_risk : ByteArray := prog_12_method_15_code
def yX10_risk : MethodName := ⟨RX10, "risk", "(I)I"⟩
abbrev cX10_holds : ByteArray := prog_12_method_16_code
def yX10_holds : MethodName := ⟨RX10, "holds", "(I)I"⟩
abbrev cX10_worth : ByteArray := prog_12_method_17_code
def yX10_worth : MethodName := ⟨RX10, "worth", "(I)I"⟩
abbrev cX10_place : ByteArray := prog_12_method_18_code
def yX10_place : MethodName := ⟨RX10, "place", "(IIII)I"⟩
abbrev cX10_told : ByteArray := prog_12_method_19_code
def yX10_told : MethodName := ⟨RX10, "told", "(II)I"⟩
abbrev cX10_isOf : ByteArray := prog_12_method_20_code
def yX10_isOf : MethodName := ⟨RX10, "isOf", "(II)Z"⟩
abbrev cX10_as : ByteArray := prog_12_method_21_code
def yX10_as : MethodName := ⟨RX10, "as", "(II)I"⟩
abbrev cX10_turns : ByteArray := prog_12_method_22_code
def yX10_turns : MethodName := ⟨RX10, "turns", "(II)I"⟩
abbrev cX10_set : ByteArray := prog_12_method_23_code
def yX10_set : MethodName := ⟨RX10, "set", "(III)I"⟩
abbrev cX10_today : ByteArray := prog_12_method_24_code
def yX10_today : MethodName := ⟨RX10, "today", "(II)I"⟩
abbrev cX10_allLoad : ByteArray := prog_12_method_25_code
def yX10_allLoad : MethodName := ⟨RX10, "allLoad", "()I"⟩
abbrev cX10_deal : ByteArray := prog_12_method_26_code
def yX10_deal : MethodName := ⟨RX10, "deal", "()I"⟩
abbrev cX10_seed : ByteArray := prog_12_method_27_code
def yX10_seed : MethodName := ⟨RX10, "seed", "(I)I"⟩
abbrev cX10_holdsLoads : ByteArray := prog_12_method_28_code
def yX10_holdsLoads : MethodName := ⟨RX10, "holdsLoads", "()V"⟩
abbrev cX10_ticks : ByteArray := prog_12_method_29_code
def yX10_ticks : MethodName := ⟨RX10, "ticks", "()I"⟩
abbrev cX10_ticksMany : ByteArray := prog_12_method_30_code
def yX10_ticksMany : MethodName := ⟨RX10, "ticksMany", "(I)I"⟩
abbrev cX10_run : ByteArray := prog_12_method_31_code
def yX10_run : MethodName := ⟨RX10, "run", "(I)I"⟩
abbrev cX10_laysBy : ByteArray := prog_12_method_32_code
def yX10_laysBy : MethodName := ⟨RX10, "laysBy", "()V"⟩
abbrev cX10_laysBack : ByteArray := prog_12_method_33_code
def yX10_laysBack : MethodName := ⟨RX10, "laysBack", "()V"⟩
abbrev cX10_ahead : ByteArray := prog_12_method_34_code
def yX10_ahead : MethodName := ⟨RX10, "ahead", "(II)I"⟩
abbrev cX10_calm : ByteArray := prog_12_method_35_code
def yX10_calm : MethodName := ⟨RX10, "calm", "()I"⟩
abbrev cX10_beside : ByteArray := prog_12_method_36_code
def yX10_beside : MethodName := ⟨RX10, "beside", "(II)I"⟩
abbrev cX10_isBeside : ByteArray := prog_12_method_37_code
def yX10_isBeside : MethodName := ⟨RX10, "isBeside", "(II)Z"⟩
abbrev cX10_trackAt : ByteArray := prog_12_method_38_code
def yX10_trackAt : MethodName := ⟨RX10, "trackAt", "(I)I"⟩
abbrev cX10_track : ByteArray := prog_12_method_39_code
def yX10_track : MethodName := ⟨RX10, "track", "(I)I"⟩
abbrev cX10_wipe : ByteArray := prog_12_method_40_code
def yX10_wipe : MethodName := ⟨RX10, "wipe", "()I"⟩
abbrev cX10_at : ByteArray := prog_12_method_41_code
def yX10_at : MethodName := ⟨RX10, "at", "(I)I"⟩
abbrev cX10_stepInto : ByteArray := prog_12_method_42_code
def yX10_stepInto : MethodName := ⟨RX10, "stepInto", "(II)I"⟩
abbrev cX10_along : ByteArray := prog_12_method_43_code
def yX10_along : MethodName := ⟨RX10, "along", "(I)I"⟩
abbrev cX10_isBound : ByteArray := prog_12_method_44_code
def yX10_isBound : MethodName := ⟨RX10, "isBound", "(I)Z"⟩
abbrev cX10_turnBack : ByteArray := prog_12_method_45_code
def yX10_turnBack : MethodName := ⟨RX10, "turnBack", "(I)I"⟩
abbrev cX10_knowsRisks : ByteArray := prog_12_method_46_code
def yX10_knowsRisks : MethodName := ⟨RX10, "knowsRisks", "()V"⟩
abbrev cX10_isLess : ByteArray := prog_12_method_47_code
def yX10_isLess : MethodName := ⟨RX10, "isLess", "(II)Z"⟩
abbrev cX10_findWays : ByteArray := prog_12_method_48_code
def yX10_findWays : MethodName := ⟨RX10, "findWays", "(I)V"⟩
abbrev cX10_way : ByteArray := prog_12_method_49_code
def yX10_way : MethodName := ⟨RX10, "way", "(III)I"⟩
abbrev cX10_bound : ByteArray := prog_12_method_50_code
def yX10_bound : MethodName := ⟨RX10, "bound", "(III)I"⟩
abbrev cX10_comesTo : ByteArray := prog_12_method_51_code
def yX10_comesTo : MethodName := ⟨RX10, "comesTo", "(IZI)I"⟩
abbrev cX10_wall : ByteArray := prog_12_method_52_code
def yX10_wall : MethodName := ⟨RX10, "wall", "(II)I"⟩
abbrev cX10_reach : ByteArray := prog_12_method_53_code
def yX10_reach : MethodName := ⟨RX10, "reach", "(II)I"⟩
abbrev cX10_odds : ByteArray := prog_12_method_54_code
def yX10_odds : MethodName := ⟨RX10, "odds", "(III)J"⟩
abbrev cX10_feed : ByteArray := prog_12_method_55_code
def yX10_feed : MethodName := ⟨RX10, "feed", "(III)I"⟩
abbrev cX10_trim : ByteArray := prog_12_method_56_code
def yX10_trim : MethodName := ⟨RX10, "trim", "(I)I"⟩
abbrev cX10_isLetter : ByteArray := prog_12_method_57_code
def yX10_isLetter : MethodName := ⟨RX10, "isLetter", "(I)Z"⟩
abbrev cX10_isDigit : ByteArray := prog_12_method_58_code
def yX10_isDigit : MethodName := ⟨RX10, "isDigit", "(I)Z"⟩
abbrev cX10_nextToken : ByteArray := prog_12_method_59_code
def yX10_nextToken : MethodName := ⟨RX10, "nextToken", "()V"⟩
abbrev cX10_isSign : ByteArray := prog_12_method_60_code
def yX10_isSign : MethodName := ⟨RX10, "isSign", "(I)Z"⟩
abbrev cX10_isWordAt : ByteArray := prog_12_method_61_code
def yX10_isWordAt : MethodName := ⟨RX10, "isWordAt", "(IIII)Z"⟩
abbrev cX10_key : ByteArray := prog_12_method_62_code
def yX10_key : MethodName := ⟨RX10, "key", "()I"⟩
abbrev cX10_isName : ByteArray := prog_12_method_63_code
def yX10_isName : MethodName := ⟨RX10, "isName", "(II)Z"⟩
abbrev cX10_step : ByteArray := prog_12_method_64_code
def yX10_step : MethodName := ⟨RX10, "step", "(II)V"⟩
abbrev cX10_either : ByteArray := prog_12_method_65_code
def yX10_either : MethodName := ⟨RX10, "either", "(I)Z"⟩
abbrev cX10_both : ByteArray := prog_12_method_66_code
def yX10_both : MethodName := ⟨RX10, "both", "(I)Z"⟩
abbrev cX10_test : ByteArray := prog_12_method_67_code
def yX10_test : MethodName := ⟨RX10, "test", "(I)Z"⟩
abbrev cX10_sum : ByteArray := prog_12_method_68_code
def yX10_sum : MethodName := ⟨RX10, "sum", "(I)Z"⟩
abbrev cX10_term : ByteArray := prog_12_method_69_code
def yX10_term : MethodName := ⟨RX10, "term", "(I)Z"⟩
abbrev cX10_part0 : ByteArray := prog_12_method_70_code
def yX10_part0 : MethodName := ⟨RX10, "part0", "(I)Z"⟩
abbrev cX10_parse : ByteArray := prog_12_method_71_code
def yX10_parse : MethodName := ⟨RX10, "parse", "()I"⟩
abbrev cX10_text : ByteArray := prog_12_method_72_code
def yX10_text : MethodName := ⟨RX10, "text", "()I"⟩
abbrev cX10_textTold : ByteArray := prog_12_method_73_code
def yX10_textTold : MethodName := ⟨RX10, "textTold", "(II)I"⟩
abbrev cX10_counts : ByteArray := prog_12_method_74_code
def yX10_counts : MethodName := ⟨RX10, "counts", "(I)I"⟩
abbrev cX10_why : ByteArray := prog_12_method_75_code
def yX10_why : MethodName := ⟨RX10, "why", "(I)I"⟩
abbrev cX10_joined : ByteArray := prog_12_method_76_code
def yX10_joined : MethodName := ⟨RX10, "joined", "(III)I"⟩
abbrev cX10_worked : ByteArray := prog_12_method_77_code
def yX10_worked : MethodName := ⟨RX10, "worked", "(I)I"⟩
abbrev cX10_isSheet : ByteArray := prog_12_method_78_code
def yX10_isSheet : MethodName := ⟨RX10, "isSheet", "(I)Z"⟩
abbrev cX10_sheet : ByteArray := prog_12_method_79_code
def yX10_sheet : MethodName := ⟨RX10, "sheet", "(III)I"⟩
abbrev cX10_mark : ByteArray := prog_12_method_80_code
def yX10_mark : MethodName := ⟨RX10, "mark", "(III)I"⟩
abbrev cX10_pour : ByteArray := prog_12_method_81_code
def yX10_pour : MethodName := ⟨RX10, "pour", "(II)I"⟩
abbrev cX10_reads : ByteArray := prog_12_method_82_code
def yX10_reads : MethodName := ⟨RX10, "reads", "(I)I"⟩
abbrev cX10_copy : ByteArray := prog_12_method_83_code
def yX10_copy : MethodName := ⟨RX10, "copy", "(IIIII)I"⟩
abbrev cX10_isSlot : ByteArray := prog_12_method_84_code
def yX10_isSlot : MethodName := ⟨RX10, "isSlot", "(I)Z"⟩
abbrev cX10_lay : ByteArray := prog_12_method_85_code
def yX10_lay : MethodName := ⟨RX10, "lay", "(III)I"⟩
abbrev cX10_ask : ByteArray := prog_12_method_86_code
def yX10_ask : MethodName := ⟨RX10, "ask", "(II)I"⟩
abbrev cX10_item : ByteArray := prog_12_method_87_code
def yX10_item : MethodName := ⟨RX10, "item", "(II)I"⟩
abbrev cX10_rest : ByteArray := prog_12_method_88_code
def yX10_rest : MethodName := ⟨RX10, "rest", "(II)I"⟩
abbrev cX10_tell : ByteArray := prog_12_method_89_code
def yX10_tell : MethodName := ⟨RX10, "tell", "(I)I"⟩
abbrev cX10_setAside : ByteArray := prog_12_method_90_code
def yX10_setAside : MethodName := ⟨RX10, "setAside", "([I[I)V"⟩
abbrev cX10_check : ByteArray := prog_12_method_91_code
def yX10_check : MethodName := ⟨RX10, "check", "(I)I"⟩
abbrev cX10_keep : ByteArray := prog_12_method_92_code
def yX10_keep : MethodName := ⟨RX10, "keep", "()I"⟩
abbrev cX10_back : ByteArray := prog_12_method_93_code
def yX10_back : MethodName := ⟨RX10, "back", "()I"⟩
abbrev cX10_count : ByteArray := prog_12_method_94_code
def yX10_count : MethodName := ⟨RX10, "count", "(I)I"⟩
def RJ9 : String := "java/lang/Math"
def TJ9 : u_T := fun k => match k with
  | _ => ("", "", "", false)
def tyJ9 : Nat → FieldType := fun k => match k with
  | _ => .int
abbrev wsJ90 : List Cond := u_ws RJ9 TJ9 0
theorem nmJ9 : ∀ a, a < 0 → ∀ b, b < 0 → a ≠ b → (TJ9 a).2.1 ≠ (TJ9 b).2.1 := by decide +kernel
theorem tyJ9_ok : ∀ k, k < 0 → parseFieldDescriptor (TJ9 k).2.2.1 = some (tyJ9 k) := by decide +kernel
abbrev cJ9_max_7cf53 : ByteArray := prog_13_method_65_code
def yJ9_max_7cf53 : MethodName := ⟨RJ9, "max", "(II)I"⟩
abbrev cJ9_min_7cf53 : ByteArray := prog_13_method_69_code
def yJ9_min_7cf53 : MethodName := ⟨RJ9, "min", "(II)I"⟩
def RJ0 : String := "java/lang/String"
def TJ0 : u_T := fun k => match k with
  | _ => ("", "", "", false)
def tyJ0 : Nat → FieldType := fun k => match k with
  | _ => .int
abbrev wsJ00 : List Cond := u_ws RJ0 TJ0 0
theorem nmJ0 : ∀ a, a < 0 → ∀ b, b < 0 → a ≠ b → (TJ0 a).2.1 ≠ (TJ0 b).2.1 := by decide +kernel
theorem tyJ0_ok : ∀ k, k < 0 → parseFieldDescriptor (TJ0 k).2.2.1 = some (tyJ0 k) := by decide +kernel
abbrev cJ0_length_8abf5 : ByteArray := prog_14_method_54_code
def yJ0_length_8abf5 : MethodName := ⟨RJ0, "length", "()I"⟩
abbrev cJ0_charAt_5068e : ByteArray := prog_14_method_56_code
def yJ0_charAt_5068e : MethodName := ⟨RJ0, "charAt", "(I)C"⟩
abbrev cJ0_coder_7d493 : ByteArray := prog_14_method_152_code
def yJ0_coder_7d493 : MethodName := ⟨RJ0, "coder", "()B"⟩
abbrev cJ0_isLatin1_aae02 : ByteArray := prog_14_method_154_code
def yJ0_isLatin1_aae02 : MethodName := ⟨RJ0, "isLatin1", "()Z"⟩
abbrev cJ0_checkIndex_df160 : ByteArray := prog_14_method_155_code
def yJ0_checkIndex_df160 : MethodName := ⟨RJ0, "checkIndex", "(II)V"⟩
def RJ1 : String := "java/lang/StringLatin1"
def TJ1 : u_T := fun k => match k with
  | _ => ("", "", "", false)
def tyJ1 : Nat → FieldType := fun k => match k with
  | _ => .int
abbrev wsJ10 : List Cond := u_ws RJ1 TJ1 0
theorem nmJ1 : ∀ a, a < 0 → ∀ b, b < 0 → a ≠ b → (TJ1 a).2.1 ≠ (TJ1 b).2.1 := by decide +kernel
theorem tyJ1_ok : ∀ k, k < 0 → parseFieldDescriptor (TJ1 k).2.2.1 = some (tyJ1 k) := by decide +kernel
abbrev cJ1_charAt_3b067 : ByteArray := prog_15_method_2_code
def yJ1_charAt_3b067 : MethodName := ⟨RJ1, "charAt", "([BI)C"⟩
def RJ2 : String := "java/lang/StringUTF16"
def TJ2 : u_T := fun k => match k with
  | _ => ("", "", "", false)
def tyJ2 : Nat → FieldType := fun k => match k with
  | _ => .int
abbrev wsJ20 : List Cond := u_ws RJ2 TJ2 0
theorem nmJ2 : ∀ a, a < 0 → ∀ b, b < 0 → a ≠ b → (TJ2 a).2.1 ≠ (TJ2 b).2.1 := by decide +kernel
theorem tyJ2_ok : ∀ k, k < 0 → parseFieldDescriptor (TJ2 k).2.2.1 = some (tyJ2 k) := by decide +kernel
abbrev cJ2_getChar_3b067 : ByteArray := prog_16_method_5_code
def yJ2_getChar_3b067 : MethodName := ⟨RJ2, "getChar", "([BI)C"⟩
abbrev cJ2_length_9d52b : ByteArray := prog_16_method_6_code
def yJ2_length_9d52b : MethodName := ⟨RJ2, "length", "([B)I"⟩
abbrev cJ2_charAt_3b067 : ByteArray := prog_16_method_83_code
def yJ2_charAt_3b067 : MethodName := ⟨RJ2, "charAt", "([BI)C"⟩
abbrev cJ2_checkIndex_2214a : ByteArray := prog_16_method_91_code
def yJ2_checkIndex_2214a : MethodName := ⟨RJ2, "checkIndex", "(I[B)V"⟩
def RJ10 : String := "java/lang/System"
def TJ10 : u_T := fun k => match k with
  | _ => ("", "", "", false)
def tyJ10 : Nat → FieldType := fun k => match k with
  | _ => .int
abbrev wsJ100 : List Cond := u_ws RJ10 TJ10 0
theorem nmJ10 : ∀ a, a < 0 → ∀ b, b < 0 → a ≠ b → (TJ10 a).2.1 ≠ (TJ10 b).2.1 := by decide +kernel
theorem tyJ10_ok : ∀ k, k < 0 → parseFieldDescriptor (TJ10 k).2.2.1 = some (tyJ10 k) := by decide +kernel
def RJ3 : String := "jdk/internal/util/Preconditions"
def TJ3 : u_T := fun k => match k with
  | _ => ("", "", "", false)
def tyJ3 : Nat → FieldType := fun k => match k with
  | _ => .int
abbrev wsJ30 : List Cond := u_ws RJ3 TJ3 0
theorem nmJ3 : ∀ a, a < 0 → ∀ b, b < 0 → a ≠ b → (TJ3 a).2.1 ≠ (TJ3 b).2.1 := by decide +kernel
theorem tyJ3_ok : ∀ k, k < 0 → parseFieldDescriptor (TJ3 k).2.2.1 = some (tyJ3 k) := by decide +kernel
abbrev cJ3_checkIndex_8e157 : ByteArray := prog_18_method_11_code
def yJ3_checkIndex_8e157 : MethodName := ⟨RJ3, "checkIndex", "(IILjava/util/function/BiFunction;)I"⟩
def RL : String := "WhiteSlopeLaw"
abbrev cL_law : ByteArray := code
def yL_law : MethodName := ⟨RL, "law", "([I)Z"⟩
abbrev vwCl : List vw_C := [(RX1, TX1, 4), (RX2, TX2, 2), (RX3, TX3, 14), (RX4, TX4, 5), (RX5, TX5, 3), (RX6, TX6, 6), (RX7, TX7, 2), (RX8, TX8, 2), (RX9, TX9, 12), (RX10, TX10, 38)]
end
section
theorem dX0_isKind_0 : decode cX0_isKind 0 = .ok (.iload_n 0, 1) := by decide +kernel
theorem dX0_isKind_1 : decode cX0_isKind 1 = .ok (.iconst 0, 1) := by decide +kernel
theorem dX0_isKind_2 : decode cX0_isKind 2 = .ok (.iconst 5, 1) := by decide +kernel
theorem dX0_isKind_3 : decode cX0_isKind 3 = .ok (.invokestatic 11, 3) := by decide +kernel
theorem dX0_isKind_6 : decode cX0_isKind 6 = .ok (.ireturn, 1) := by decide +kernel
theorem dX0_isUnder_0 : decode cX0_isUnder 0 = .ok (.iload_n 0, 1) := by decide +kernel
theorem dX0_isUnder_1 : decode cX0_isUnder 1 = .ok (.istore_n 2, 1) := by decide +kernel
theorem dX0_isUnder_2 : decode cX0_isUnder 2 = .ok (.iconst 0, 1) := by decide +kernel
theorem dX0_isUnder_3 : decode cX0_isUnder 3 = .ok (.istore_n 3, 1) := by decide +kernel
theorem dX0_isUnder_4 : decode cX0_isUnder 4 = .ok (.iload_n 3, 1) := by decide +kernel
theorem dX0_isUnder_5 : decode cX0_isUnder 5 = .ok (.bipush 6, 2) := by decide +kernel
theorem dX0_isUnder_7 : decode cX0_isUnder 7 = .ok (.if_icmp .ge 29, 3) := by decide +kernel
theorem dX0_isUnder_10 : decode cX0_isUnder 10 = .ok (.iload_n 2, 1) := by decide +kernel
theorem dX0_isUnder_11 : decode cX0_isUnder 11 = .ok (.invokestatic 15, 3) := by decide +kernel
theorem dX0_isUnder_14 : decode cX0_isUnder 14 = .ok (.ifCond .eq 22, 3) := by decide +kernel
theorem dX0_isUnder_17 : decode cX0_isUnder 17 = .ok (.iload_n 2, 1) := by decide +kernel
theorem dX0_isUnder_18 : decode cX0_isUnder 18 = .ok (.iload_n 1, 1) := by decide +kernel
theorem dX0_isUnder_19 : decode cX0_isUnder 19 = .ok (.if_icmp .ne 5, 3) := by decide +kernel
theorem dX0_isUnder_22 : decode cX0_isUnder 22 = .ok (.iconst 1, 1) := by decide +kernel
theorem dX0_isUnder_23 : decode cX0_isUnder 23 = .ok (.ireturn, 1) := by decide +kernel
theorem dX0_isUnder_24 : decode cX0_isUnder 24 = .ok (.getstatic 19, 3) := by decide +kernel
theorem dX0_isUnder_27 : decode cX0_isUnder 27 = .ok (.iload_n 2, 1) := by decide +kernel
theorem dX0_isUnder_28 : decode cX0_isUnder 28 = .ok (.iaload, 1) := by decide +kernel
theorem dX0_isUnder_29 : decode cX0_isUnder 29 = .ok (.istore_n 2, 1) := by decide +kernel
theorem dX0_isUnder_30 : decode cX0_isUnder 30 = .ok (.iinc 3 1, 3) := by decide +kernel
theorem dX0_isUnder_33 : decode cX0_isUnder 33 = .ok (.goto (-29), 3) := by decide +kernel
theorem dX0_isUnder_36 : decode cX0_isUnder 36 = .ok (.iconst 0, 1) := by decide +kernel
theorem dX0_isUnder_37 : decode cX0_isUnder 37 = .ok (.ireturn, 1) := by decide +kernel
theorem dX0_risk_0 : decode cX0_risk 0 = .ok (.iload_n 0, 1) := by decide +kernel
theorem dX0_risk_1 : decode cX0_risk 1 = .ok (.tableswitch 63 1 5 #[35, 49, 41, 53, 59], 35) := by decide +kernel
theorem dX0_risk_36 : decode cX0_risk 36 = .ok (.iload_n 1, 1) := by decide +kernel
theorem dX0_risk_37 : decode cX0_risk 37 = .ok (.iload_n 2, 1) := by decide +kernel
theorem dX0_risk_38 : decode cX0_risk 38 = .ok (.iconst 2, 1) := by decide +kernel
theorem dX0_risk_39 : decode cX0_risk 39 = .ok (.idiv, 1) := by decide +kernel
theorem dX0_risk_40 : decode cX0_risk 40 = .ok (.iadd, 1) := by decide +kernel
theorem dX0_risk_41 : decode cX0_risk 41 = .ok (.ireturn, 1) := by decide +kernel
theorem dX0_risk_42 : decode cX0_risk 42 = .ok (.iconst 2, 1) := by decide +kernel
theorem dX0_risk_43 : decode cX0_risk 43 = .ok (.iload_n 1, 1) := by decide +kernel
theorem dX0_risk_44 : decode cX0_risk 44 = .ok (.iload_n 2, 1) := by decide +kernel
theorem dX0_risk_45 : decode cX0_risk 45 = .ok (.iconst 2, 1) := by decide +kernel
theorem dX0_risk_46 : decode cX0_risk 46 = .ok (.idiv, 1) := by decide +kernel
theorem dX0_risk_47 : decode cX0_risk 47 = .ok (.iadd, 1) := by decide +kernel
theorem dX0_risk_48 : decode cX0_risk 48 = .ok (.imul, 1) := by decide +kernel
theorem dX0_risk_49 : decode cX0_risk 49 = .ok (.ireturn, 1) := by decide +kernel
theorem dX0_risk_50 : decode cX0_risk 50 = .ok (.iload_n 1, 1) := by decide +kernel
theorem dX0_risk_51 : decode cX0_risk 51 = .ok (.iconst 2, 1) := by decide +kernel
theorem dX0_risk_52 : decode cX0_risk 52 = .ok (.idiv, 1) := by decide +kernel
theorem dX0_risk_53 : decode cX0_risk 53 = .ok (.ireturn, 1) := by decide +kernel
theorem dX0_risk_54 : decode cX0_risk 54 = .ok (.iload_n 1, 1) := by decide +kernel
theorem dX0_risk_55 : decode cX0_risk 55 = .ok (.iconst 2, 1) := by decide +kernel
theorem dX0_risk_56 : decode cX0_risk 56 = .ok (.idiv, 1) := by decide +kernel
theorem dX0_risk_57 : decode cX0_risk 57 = .ok (.iload_n 3, 1) := by decide +kernel
theorem dX0_risk_58 : decode cX0_risk 58 = .ok (.iadd, 1) := by decide +kernel
theorem dX0_risk_59 : decode cX0_risk 59 = .ok (.ireturn, 1) := by decide +kernel
theorem dX0_risk_60 : decode cX0_risk 60 = .ok (.iload_n 1, 1) := by decide +kernel
theorem dX0_risk_61 : decode cX0_risk 61 = .ok (.iconst 3, 1) := by decide +kernel
theorem dX0_risk_62 : decode cX0_risk 62 = .ok (.idiv, 1) := by decide +kernel
theorem dX0_risk_63 : decode cX0_risk 63 = .ok (.ireturn, 1) := by decide +kernel
theorem dX0_risk_64 : decode cX0_risk 64 = .ok (.iload_n 1, 1) := by decide +kernel
theorem dX0_risk_65 : decode cX0_risk 65 = .ok (.ireturn, 1) := by decide +kernel
theorem dX0_hold_0 : decode cX0_hold 0 = .ok (.iload_n 0, 1) := by decide +kernel
theorem dX0_hold_1 : decode cX0_hold 1 = .ok (.tableswitch 46 2 5 #[31, 46, 35, 41], 31) := by decide +kernel
theorem dX0_hold_32 : decode cX0_hold 32 = .ok (.iload_n 1, 1) := by decide +kernel
theorem dX0_hold_33 : decode cX0_hold 33 = .ok (.iconst 5, 1) := by decide +kernel
theorem dX0_hold_34 : decode cX0_hold 34 = .ok (.iadd, 1) := by decide +kernel
theorem dX0_hold_35 : decode cX0_hold 35 = .ok (.ireturn, 1) := by decide +kernel
theorem dX0_hold_36 : decode cX0_hold 36 = .ok (.iload_n 1, 1) := by decide +kernel
theorem dX0_hold_37 : decode cX0_hold 37 = .ok (.iconst 5, 1) := by decide +kernel
theorem dX0_hold_38 : decode cX0_hold 38 = .ok (.iadd, 1) := by decide +kernel
theorem dX0_hold_39 : decode cX0_hold 39 = .ok (.iload_n 2, 1) := by decide +kernel
theorem dX0_hold_40 : decode cX0_hold 40 = .ok (.isub, 1) := by decide +kernel
theorem dX0_hold_41 : decode cX0_hold 41 = .ok (.ireturn, 1) := by decide +kernel
theorem dX0_hold_42 : decode cX0_hold 42 = .ok (.iload_n 1, 1) := by decide +kernel
theorem dX0_hold_43 : decode cX0_hold 43 = .ok (.bipush 20, 2) := by decide +kernel
theorem dX0_hold_45 : decode cX0_hold 45 = .ok (.iadd, 1) := by decide +kernel
theorem dX0_hold_46 : decode cX0_hold 46 = .ok (.ireturn, 1) := by decide +kernel
theorem dX0_hold_47 : decode cX0_hold 47 = .ok (.iload_n 1, 1) := by decide +kernel
theorem dX0_hold_48 : decode cX0_hold 48 = .ok (.ireturn, 1) := by decide +kernel
theorem dX0_worth_0 : decode cX0_worth 0 = .ok (.iload_n 0, 1) := by decide +kernel
theorem dX0_worth_1 : decode cX0_worth 1 = .ok (.tableswitch 60 1 5 #[35, 45, 39, 50, 58], 35) := by decide +kernel
theorem dX0_worth_36 : decode cX0_worth 36 = .ok (.iload_n 1, 1) := by decide +kernel
theorem dX0_worth_37 : decode cX0_worth 37 = .ok (.iload_n 2, 1) := by decide +kernel
theorem dX0_worth_38 : decode cX0_worth 38 = .ok (.iadd, 1) := by decide +kernel
theorem dX0_worth_39 : decode cX0_worth 39 = .ok (.ireturn, 1) := by decide +kernel
theorem dX0_worth_40 : decode cX0_worth 40 = .ok (.iconst 2, 1) := by decide +kernel
theorem dX0_worth_41 : decode cX0_worth 41 = .ok (.iload_n 1, 1) := by decide +kernel
theorem dX0_worth_42 : decode cX0_worth 42 = .ok (.iload_n 2, 1) := by decide +kernel
theorem dX0_worth_43 : decode cX0_worth 43 = .ok (.iadd, 1) := by decide +kernel
theorem dX0_worth_44 : decode cX0_worth 44 = .ok (.imul, 1) := by decide +kernel
theorem dX0_worth_45 : decode cX0_worth 45 = .ok (.ireturn, 1) := by decide +kernel
theorem dX0_worth_46 : decode cX0_worth 46 = .ok (.bipush 60, 2) := by decide +kernel
theorem dX0_worth_48 : decode cX0_worth 48 = .ok (.iload_n 1, 1) := by decide +kernel
theorem dX0_worth_49 : decode cX0_worth 49 = .ok (.isub, 1) := by decide +kernel
theorem dX0_worth_50 : decode cX0_worth 50 = .ok (.ireturn, 1) := by decide +kernel
theorem dX0_worth_51 : decode cX0_worth 51 = .ok (.bipush 60, 2) := by decide +kernel
theorem dX0_worth_53 : decode cX0_worth 53 = .ok (.iload_n 1, 1) := by decide +kernel
theorem dX0_worth_54 : decode cX0_worth 54 = .ok (.isub, 1) := by decide +kernel
theorem dX0_worth_55 : decode cX0_worth 55 = .ok (.bipush 9, 2) := by decide +kernel
theorem dX0_worth_57 : decode cX0_worth 57 = .ok (.iadd, 1) := by decide +kernel
theorem dX0_worth_58 : decode cX0_worth 58 = .ok (.ireturn, 1) := by decide +kernel
theorem dX0_worth_59 : decode cX0_worth 59 = .ok (.iload_n 2, 1) := by decide +kernel
theorem dX0_worth_60 : decode cX0_worth 60 = .ok (.ireturn, 1) := by decide +kernel
theorem dX0_worth_61 : decode cX0_worth 61 = .ok (.iload_n 1, 1) := by decide +kernel
theorem dX0_worth_62 : decode cX0_worth 62 = .ok (.ireturn, 1) := by decide +kernel
theorem dX1_init_0 : decode cX1_init 0 = .ok (.aload_n 0, 1) := by decide +kernel
theorem dX1_init_1 : decode cX1_init 1 = .ok (.invokespecial 3, 3) := by decide +kernel
theorem dX1_init_4 : decode cX1_init 4 = .ok (.aload_n 0, 1) := by decide +kernel
theorem dX1_init_5 : decode cX1_init 5 = .ok (.bipush 96, 2) := by decide +kernel
theorem dX1_init_7 : decode cX1_init 7 = .ok (.newarray .int, 2) := by decide +kernel
theorem dX1_init_9 : decode cX1_init 9 = .ok (.putfield 9, 3) := by decide +kernel
theorem dX1_init_12 : decode cX1_init 12 = .ok (.return_, 1) := by decide +kernel
theorem dX1_begin_0 : decode cX1_begin 0 = .ok (.aload_n 0, 1) := by decide +kernel
theorem dX1_begin_1 : decode cX1_begin 1 = .ok (.iconst 0, 1) := by decide +kernel
theorem dX1_begin_2 : decode cX1_begin 2 = .ok (.putfield 15, 3) := by decide +kernel
theorem dX1_begin_5 : decode cX1_begin 5 = .ok (.aload_n 0, 1) := by decide +kernel
theorem dX1_begin_6 : decode cX1_begin 6 = .ok (.iconst 0, 1) := by decide +kernel
theorem dX1_begin_7 : decode cX1_begin 7 = .ok (.putfield 19, 3) := by decide +kernel
theorem dX1_begin_10 : decode cX1_begin 10 = .ok (.return_, 1) := by decide +kernel
theorem dX1_add_0 : decode cX1_add 0 = .ok (.aload_n 0, 1) := by decide +kernel
theorem dX1_add_1 : decode cX1_add 1 = .ok (.getfield 19, 3) := by decide +kernel
theorem dX1_add_4 : decode cX1_add 4 = .ok (.bipush 96, 2) := by decide +kernel
theorem dX1_add_6 : decode cX1_add 6 = .ok (.if_icmp .ge 23, 3) := by decide +kernel
theorem dX1_add_9 : decode cX1_add 9 = .ok (.aload_n 0, 1) := by decide +kernel
theorem dX1_add_10 : decode cX1_add 10 = .ok (.getfield 9, 3) := by decide +kernel
theorem dX1_add_13 : decode cX1_add 13 = .ok (.aload_n 0, 1) := by decide +kernel
theorem dX1_add_14 : decode cX1_add 14 = .ok (.getfield 19, 3) := by decide +kernel
theorem dX1_add_17 : decode cX1_add 17 = .ok (.iload_n 1, 1) := by decide +kernel
theorem dX1_add_18 : decode cX1_add 18 = .ok (.iastore, 1) := by decide +kernel
theorem dX1_add_19 : decode cX1_add 19 = .ok (.aload_n 0, 1) := by decide +kernel
theorem dX1_add_20 : decode cX1_add 20 = .ok (.dup, 1) := by decide +kernel
theorem dX1_add_21 : decode cX1_add 21 = .ok (.getfield 19, 3) := by decide +kernel
theorem dX1_add_24 : decode cX1_add 24 = .ok (.iconst 1, 1) := by decide +kernel
theorem dX1_add_25 : decode cX1_add 25 = .ok (.iadd, 1) := by decide +kernel
theorem dX1_add_26 : decode cX1_add 26 = .ok (.putfield 19, 3) := by decide +kernel
theorem dX1_add_29 : decode cX1_add 29 = .ok (.return_, 1) := by decide +kernel
theorem dX1_addPiece_0 : decode cX1_addPiece 0 = .ok (.aload_n 0, 1) := by decide +kernel
theorem dX1_addPiece_1 : decode cX1_addPiece 1 = .ok (.iload_n 1, 1) := by decide +kernel
theorem dX1_addPiece_2 : decode cX1_addPiece 2 = .ok (.invokevirtual 22, 3) := by decide +kernel
theorem dX1_addPiece_5 : decode cX1_addPiece 5 = .ok (.aload_n 0, 1) := by decide +kernel
theorem dX1_addPiece_6 : decode cX1_addPiece 6 = .ok (.dup, 1) := by decide +kernel
theorem dX1_addPiece_7 : decode cX1_addPiece 7 = .ok (.getfield 15, 3) := by decide +kernel
theorem dX1_addPiece_10 : decode cX1_addPiece 10 = .ok (.iconst 1, 1) := by decide +kernel
theorem dX1_addPiece_11 : decode cX1_addPiece 11 = .ok (.iadd, 1) := by decide +kernel
theorem dX1_addPiece_12 : decode cX1_addPiece 12 = .ok (.putfield 15, 3) := by decide +kernel
theorem dX1_addPiece_15 : decode cX1_addPiece 15 = .ok (.return_, 1) := by decide +kernel
theorem dX1_become_0 : decode cX1_become 0 = .ok (.aload_n 0, 1) := by decide +kernel
theorem dX1_become_1 : decode cX1_become 1 = .ok (.aload_n 1, 1) := by decide +kernel
theorem dX1_become_2 : decode cX1_become 2 = .ok (.getfield 26, 3) := by decide +kernel
theorem dX1_become_5 : decode cX1_become 5 = .ok (.putfield 26, 3) := by decide +kernel
theorem dX1_become_8 : decode cX1_become 8 = .ok (.aload_n 0, 1) := by decide +kernel
theorem dX1_become_9 : decode cX1_become 9 = .ok (.aload_n 1, 1) := by decide +kernel
theorem dX1_become_10 : decode cX1_become 10 = .ok (.getfield 15, 3) := by decide +kernel
theorem dX1_become_13 : decode cX1_become 13 = .ok (.putfield 15, 3) := by decide +kernel
theorem dX1_become_16 : decode cX1_become 16 = .ok (.aload_n 0, 1) := by decide +kernel
theorem dX1_become_17 : decode cX1_become 17 = .ok (.aload_n 1, 1) := by decide +kernel
theorem dX1_become_18 : decode cX1_become 18 = .ok (.getfield 19, 3) := by decide +kernel
theorem dX1_become_21 : decode cX1_become 21 = .ok (.putfield 19, 3) := by decide +kernel
theorem dX1_become_24 : decode cX1_become 24 = .ok (.aload_n 1, 1) := by decide +kernel
theorem dX1_become_25 : decode cX1_become 25 = .ok (.getfield 9, 3) := by decide +kernel
theorem dX1_become_28 : decode cX1_become 28 = .ok (.iconst 0, 1) := by decide +kernel
theorem dX1_become_29 : decode cX1_become 29 = .ok (.aload_n 0, 1) := by decide +kernel
theorem dX1_become_30 : decode cX1_become 30 = .ok (.getfield 9, 3) := by decide +kernel
theorem dX1_become_33 : decode cX1_become 33 = .ok (.iconst 0, 1) := by decide +kernel
theorem dX1_become_34 : decode cX1_become 34 = .ok (.bipush 96, 2) := by decide +kernel
theorem dX1_become_36 : decode cX1_become 36 = .ok (.invokestatic 29, 3) := by decide +kernel
theorem dX1_become_39 : decode cX1_become 39 = .ok (.return_, 1) := by decide +kernel
theorem dX2_init_0 : decode cX2_init 0 = .ok (.aload_n 0, 1) := by decide +kernel
theorem dX2_init_1 : decode cX2_init 1 = .ok (.invokespecial 3, 3) := by decide +kernel
theorem dX2_init_4 : decode cX2_init 4 = .ok (.aload_n 0, 1) := by decide +kernel
theorem dX2_init_5 : decode cX2_init 5 = .ok (.bipush 14, 2) := by decide +kernel
theorem dX2_init_7 : decode cX2_init 7 = .ok (.anewarray 9, 3) := by decide +kernel
theorem dX2_init_10 : decode cX2_init 10 = .ok (.putfield 11, 3) := by decide +kernel
theorem dX2_init_13 : decode cX2_init 13 = .ok (.aload_n 0, 1) := by decide +kernel
theorem dX2_init_14 : decode cX2_init 14 = .ok (.bipush 96, 2) := by decide +kernel
theorem dX2_init_16 : decode cX2_init 16 = .ok (.newarray .int, 2) := by decide +kernel
theorem dX2_init_18 : decode cX2_init 18 = .ok (.putfield 17, 3) := by decide +kernel
theorem dX2_init_21 : decode cX2_init 21 = .ok (.iconst 0, 1) := by decide +kernel
theorem dX2_init_22 : decode cX2_init 22 = .ok (.istore_n 1, 1) := by decide +kernel
theorem dX2_init_23 : decode cX2_init 23 = .ok (.iload_n 1, 1) := by decide +kernel
theorem dX2_init_24 : decode cX2_init 24 = .ok (.bipush 14, 2) := by decide +kernel
theorem dX2_init_26 : decode cX2_init 26 = .ok (.if_icmp .ge 22, 3) := by decide +kernel
theorem dX2_init_29 : decode cX2_init 29 = .ok (.aload_n 0, 1) := by decide +kernel
theorem dX2_init_30 : decode cX2_init 30 = .ok (.getfield 11, 3) := by decide +kernel
theorem dX2_init_33 : decode cX2_init 33 = .ok (.iload_n 1, 1) := by decide +kernel
theorem dX2_init_34 : decode cX2_init 34 = .ok (.new 9, 3) := by decide +kernel
theorem dX2_init_37 : decode cX2_init 37 = .ok (.dup, 1) := by decide +kernel
theorem dX2_init_38 : decode cX2_init 38 = .ok (.invokespecial 21, 3) := by decide +kernel
theorem dX2_init_41 : decode cX2_init 41 = .ok (.aastore, 1) := by decide +kernel
theorem dX2_init_42 : decode cX2_init 42 = .ok (.iinc 1 1, 3) := by decide +kernel
theorem dX2_init_45 : decode cX2_init 45 = .ok (.goto (-22), 3) := by decide +kernel
theorem dX2_init_48 : decode cX2_init 48 = .ok (.return_, 1) := by decide +kernel
theorem dX2_lastOf_0 : decode cX2_lastOf 0 = .ok (.iload_n 2, 1) := by decide +kernel
theorem dX2_lastOf_1 : decode cX2_lastOf 1 = .ok (.bipush 14, 2) := by decide +kernel
theorem dX2_lastOf_3 : decode cX2_lastOf 3 = .ok (.invokestatic 22, 3) := by decide +kernel
theorem dX2_lastOf_6 : decode cX2_lastOf 6 = .ok (.iconst 1, 1) := by decide +kernel
theorem dX2_lastOf_7 : decode cX2_lastOf 7 = .ok (.isub, 1) := by decide +kernel
theorem dX2_lastOf_8 : decode cX2_lastOf 8 = .ok (.istore_n 3, 1) := by decide +kernel
theorem dX2_lastOf_9 : decode cX2_lastOf 9 = .ok (.iload_n 3, 1) := by decide +kernel
theorem dX2_lastOf_10 : decode cX2_lastOf 10 = .ok (.ifCond .lt 24, 3) := by decide +kernel
theorem dX2_lastOf_13 : decode cX2_lastOf 13 = .ok (.aload_n 0, 1) := by decide +kernel
theorem dX2_lastOf_14 : decode cX2_lastOf 14 = .ok (.getfield 11, 3) := by decide +kernel
theorem dX2_lastOf_17 : decode cX2_lastOf 17 = .ok (.iload_n 3, 1) := by decide +kernel
theorem dX2_lastOf_18 : decode cX2_lastOf 18 = .ok (.aaload, 1) := by decide +kernel
theorem dX2_lastOf_19 : decode cX2_lastOf 19 = .ok (.getfield 28, 3) := by decide +kernel
theorem dX2_lastOf_22 : decode cX2_lastOf 22 = .ok (.iload_n 1, 1) := by decide +kernel
theorem dX2_lastOf_23 : decode cX2_lastOf 23 = .ok (.if_icmp .ne 5, 3) := by decide +kernel
theorem dX2_lastOf_26 : decode cX2_lastOf 26 = .ok (.iload_n 3, 1) := by decide +kernel
theorem dX2_lastOf_27 : decode cX2_lastOf 27 = .ok (.ireturn, 1) := by decide +kernel
theorem dX2_lastOf_28 : decode cX2_lastOf 28 = .ok (.iinc 3 (-1), 3) := by decide +kernel
theorem dX2_lastOf_31 : decode cX2_lastOf 31 = .ok (.goto (-22), 3) := by decide +kernel
theorem dX2_lastOf_34 : decode cX2_lastOf 34 = .ok (.ldc 32, 2) := by decide +kernel
theorem dX2_lastOf_36 : decode cX2_lastOf 36 = .ok (.ireturn, 1) := by decide +kernel
theorem dX2_worth_0 : decode cX2_worth 0 = .ok (.aload_n 0, 1) := by decide +kernel
theorem dX2_worth_1 : decode cX2_worth 1 = .ok (.getfield 11, 3) := by decide +kernel
theorem dX2_worth_4 : decode cX2_worth 4 = .ok (.iload_n 1, 1) := by decide +kernel
theorem dX2_worth_5 : decode cX2_worth 5 = .ok (.aaload, 1) := by decide +kernel
theorem dX2_worth_6 : decode cX2_worth 6 = .ok (.astore 5, 2) := by decide +kernel
theorem dX2_worth_8 : decode cX2_worth 8 = .ok (.iconst 0, 1) := by decide +kernel
theorem dX2_worth_9 : decode cX2_worth 9 = .ok (.istore 6, 2) := by decide +kernel
theorem dX2_worth_11 : decode cX2_worth 11 = .ok (.iconst 0, 1) := by decide +kernel
theorem dX2_worth_12 : decode cX2_worth 12 = .ok (.istore 7, 2) := by decide +kernel
theorem dX2_worth_14 : decode cX2_worth 14 = .ok (.iload 7, 2) := by decide +kernel
theorem dX2_worth_16 : decode cX2_worth 16 = .ok (.aload 5, 2) := by decide +kernel
theorem dX2_worth_18 : decode cX2_worth 18 = .ok (.getfield 33, 3) := by decide +kernel
theorem dX2_worth_21 : decode cX2_worth 21 = .ok (.if_icmp .ge 130, 3) := by decide +kernel
theorem dX2_worth_24 : decode cX2_worth 24 = .ok (.aload 5, 2) := by decide +kernel
theorem dX2_worth_26 : decode cX2_worth 26 = .ok (.getfield 36, 3) := by decide +kernel
theorem dX2_worth_29 : decode cX2_worth 29 = .ok (.iload 7, 2) := by decide +kernel
theorem dX2_worth_31 : decode cX2_worth 31 = .ok (.iaload, 1) := by decide +kernel
theorem dX2_worth_32 : decode cX2_worth 32 = .ok (.istore 8, 2) := by decide +kernel
theorem dX2_worth_34 : decode cX2_worth 34 = .ok (.iload 8, 2) := by decide +kernel
theorem dX2_worth_36 : decode cX2_worth 36 = .ok (.bipush (-33), 2) := by decide +kernel
theorem dX2_worth_38 : decode cX2_worth 38 = .ok (.if_icmp .ne 37, 3) := by decide +kernel
theorem dX2_worth_41 : decode cX2_worth 41 = .ok (.iload 6, 2) := by decide +kernel
theorem dX2_worth_43 : decode cX2_worth 43 = .ok (.ifCond .le 32, 3) := by decide +kernel
theorem dX2_worth_46 : decode cX2_worth 46 = .ok (.aload_n 0, 1) := by decide +kernel
theorem dX2_worth_47 : decode cX2_worth 47 = .ok (.getfield 17, 3) := by decide +kernel
theorem dX2_worth_50 : decode cX2_worth 50 = .ok (.iload 6, 2) := by decide +kernel
theorem dX2_worth_52 : decode cX2_worth 52 = .ok (.iconst 1, 1) := by decide +kernel
theorem dX2_worth_53 : decode cX2_worth 53 = .ok (.isub, 1) := by decide +kernel
theorem dX2_worth_54 : decode cX2_worth 54 = .ok (.aload_n 0, 1) := by decide +kernel
theorem dX2_worth_55 : decode cX2_worth 55 = .ok (.getfield 17, 3) := by decide +kernel
theorem dX2_worth_58 : decode cX2_worth 58 = .ok (.iload 6, 2) := by decide +kernel
theorem dX2_worth_60 : decode cX2_worth 60 = .ok (.iconst 1, 1) := by decide +kernel
theorem dX2_worth_61 : decode cX2_worth 61 = .ok (.isub, 1) := by decide +kernel
theorem dX2_worth_62 : decode cX2_worth 62 = .ok (.iaload, 1) := by decide +kernel
theorem dX2_worth_63 : decode cX2_worth 63 = .ok (.ifCond .ne 7, 3) := by decide +kernel
theorem dX2_worth_66 : decode cX2_worth 66 = .ok (.iconst 1, 1) := by decide +kernel
theorem dX2_worth_67 : decode cX2_worth 67 = .ok (.goto 4, 3) := by decide +kernel
theorem dX2_worth_70 : decode cX2_worth 70 = .ok (.iconst 0, 1) := by decide +kernel
theorem dX2_worth_71 : decode cX2_worth 71 = .ok (.iastore, 1) := by decide +kernel
theorem dX2_worth_72 : decode cX2_worth 72 = .ok (.goto 73, 3) := by decide +kernel
theorem dX2_worth_75 : decode cX2_worth 75 = .ok (.iload 8, 2) := by decide +kernel
theorem dX2_worth_77 : decode cX2_worth 77 = .ok (.invokestatic 39, 3) := by decide +kernel
theorem dX2_worth_80 : decode cX2_worth 80 = .ok (.ifCond .eq 25, 3) := by decide +kernel
theorem dX2_worth_83 : decode cX2_worth 83 = .ok (.aload_n 0, 1) := by decide +kernel
theorem dX2_worth_84 : decode cX2_worth 84 = .ok (.getfield 17, 3) := by decide +kernel
theorem dX2_worth_87 : decode cX2_worth 87 = .ok (.iload 6, 2) := by decide +kernel
theorem dX2_worth_89 : decode cX2_worth 89 = .ok (.iload 8, 2) := by decide +kernel
theorem dX2_worth_91 : decode cX2_worth 91 = .ok (.iload_n 2, 1) := by decide +kernel
theorem dX2_worth_92 : decode cX2_worth 92 = .ok (.iload_n 3, 1) := by decide +kernel
theorem dX2_worth_93 : decode cX2_worth 93 = .ok (.iload 4, 2) := by decide +kernel
theorem dX2_worth_95 : decode cX2_worth 95 = .ok (.invokestatic 43, 3) := by decide +kernel
theorem dX2_worth_98 : decode cX2_worth 98 = .ok (.iastore, 1) := by decide +kernel
theorem dX2_worth_99 : decode cX2_worth 99 = .ok (.iinc 6 1, 3) := by decide +kernel
theorem dX2_worth_102 : decode cX2_worth 102 = .ok (.goto 43, 3) := by decide +kernel
theorem dX2_worth_105 : decode cX2_worth 105 = .ok (.iload 6, 2) := by decide +kernel
theorem dX2_worth_107 : decode cX2_worth 107 = .ok (.iconst 1, 1) := by decide +kernel
theorem dX2_worth_108 : decode cX2_worth 108 = .ok (.if_icmp .le 37, 3) := by decide +kernel
theorem dX2_worth_111 : decode cX2_worth 111 = .ok (.iinc 6 (-1), 3) := by decide +kernel
theorem dX2_worth_114 : decode cX2_worth 114 = .ok (.aload_n 0, 1) := by decide +kernel
theorem dX2_worth_115 : decode cX2_worth 115 = .ok (.getfield 17, 3) := by decide +kernel
theorem dX2_worth_118 : decode cX2_worth 118 = .ok (.iload 6, 2) := by decide +kernel
theorem dX2_worth_120 : decode cX2_worth 120 = .ok (.iconst 1, 1) := by decide +kernel
theorem dX2_worth_121 : decode cX2_worth 121 = .ok (.isub, 1) := by decide +kernel
theorem dX2_worth_122 : decode cX2_worth 122 = .ok (.iload 8, 2) := by decide +kernel
theorem dX2_worth_124 : decode cX2_worth 124 = .ok (.ineg, 1) := by decide +kernel
theorem dX2_worth_125 : decode cX2_worth 125 = .ok (.aload_n 0, 1) := by decide +kernel
theorem dX2_worth_126 : decode cX2_worth 126 = .ok (.getfield 17, 3) := by decide +kernel
theorem dX2_worth_129 : decode cX2_worth 129 = .ok (.iload 6, 2) := by decide +kernel
theorem dX2_worth_131 : decode cX2_worth 131 = .ok (.iconst 1, 1) := by decide +kernel
theorem dX2_worth_132 : decode cX2_worth 132 = .ok (.isub, 1) := by decide +kernel
theorem dX2_worth_133 : decode cX2_worth 133 = .ok (.iaload, 1) := by decide +kernel
theorem dX2_worth_134 : decode cX2_worth 134 = .ok (.aload_n 0, 1) := by decide +kernel
theorem dX2_worth_135 : decode cX2_worth 135 = .ok (.getfield 17, 3) := by decide +kernel
theorem dX2_worth_138 : decode cX2_worth 138 = .ok (.iload 6, 2) := by decide +kernel
theorem dX2_worth_140 : decode cX2_worth 140 = .ok (.iaload, 1) := by decide +kernel
theorem dX2_worth_141 : decode cX2_worth 141 = .ok (.invokestatic 47, 3) := by decide +kernel
theorem dX2_worth_144 : decode cX2_worth 144 = .ok (.iastore, 1) := by decide +kernel
theorem dX2_worth_145 : decode cX2_worth 145 = .ok (.iinc 7 1, 3) := by decide +kernel
theorem dX2_worth_148 : decode cX2_worth 148 = .ok (.goto (-134), 3) := by decide +kernel
theorem dX2_worth_151 : decode cX2_worth 151 = .ok (.aload_n 0, 1) := by decide +kernel
theorem dX2_worth_152 : decode cX2_worth 152 = .ok (.getfield 17, 3) := by decide +kernel
theorem dX2_worth_155 : decode cX2_worth 155 = .ok (.iconst 0, 1) := by decide +kernel
theorem dX2_worth_156 : decode cX2_worth 156 = .ok (.iaload, 1) := by decide +kernel
theorem dX2_worth_157 : decode cX2_worth 157 = .ok (.ireturn, 1) := by decide +kernel
theorem dX2_isPiece_0 : decode cX2_isPiece 0 = .ok (.iload_n 0, 1) := by decide +kernel
theorem dX2_isPiece_1 : decode cX2_isPiece 1 = .ok (.ifCond .ge 15, 3) := by decide +kernel
theorem dX2_isPiece_4 : decode cX2_isPiece 4 = .ok (.iload_n 0, 1) := by decide +kernel
theorem dX2_isPiece_5 : decode cX2_isPiece 5 = .ok (.ineg, 1) := by decide +kernel
theorem dX2_isPiece_6 : decode cX2_isPiece 6 = .ok (.bipush 97, 2) := by decide +kernel
theorem dX2_isPiece_8 : decode cX2_isPiece 8 = .ok (.bipush 122, 2) := by decide +kernel
theorem dX2_isPiece_10 : decode cX2_isPiece 10 = .ok (.invokestatic 51, 3) := by decide +kernel
theorem dX2_isPiece_13 : decode cX2_isPiece 13 = .ok (.ifCond .eq 7, 3) := by decide +kernel
theorem dX2_isPiece_16 : decode cX2_isPiece 16 = .ok (.iconst 1, 1) := by decide +kernel
theorem dX2_isPiece_17 : decode cX2_isPiece 17 = .ok (.goto 4, 3) := by decide +kernel
theorem dX2_isPiece_20 : decode cX2_isPiece 20 = .ok (.iconst 0, 1) := by decide +kernel
theorem dX2_isPiece_21 : decode cX2_isPiece 21 = .ok (.ireturn, 1) := by decide +kernel
theorem dX2_pieceWorth_0 : decode cX2_pieceWorth 0 = .ok (.iload_n 0, 1) := by decide +kernel
theorem dX2_pieceWorth_1 : decode cX2_pieceWorth 1 = .ok (.ifCond .lt 5, 3) := by decide +kernel
theorem dX2_pieceWorth_4 : decode cX2_pieceWorth 4 = .ok (.iload_n 0, 1) := by decide +kernel
theorem dX2_pieceWorth_5 : decode cX2_pieceWorth 5 = .ok (.ireturn, 1) := by decide +kernel
theorem dX2_pieceWorth_6 : decode cX2_pieceWorth 6 = .ok (.iload_n 0, 1) := by decide +kernel
theorem dX2_pieceWorth_7 : decode cX2_pieceWorth 7 = .ok (.bipush (-115), 2) := by decide +kernel
theorem dX2_pieceWorth_9 : decode cX2_pieceWorth 9 = .ok (.if_icmp .ne 5, 3) := by decide +kernel
theorem dX2_pieceWorth_12 : decode cX2_pieceWorth 12 = .ok (.iload_n 1, 1) := by decide +kernel
theorem dX2_pieceWorth_13 : decode cX2_pieceWorth 13 = .ok (.ireturn, 1) := by decide +kernel
theorem dX2_pieceWorth_14 : decode cX2_pieceWorth 14 = .ok (.iload_n 0, 1) := by decide +kernel
theorem dX2_pieceWorth_15 : decode cX2_pieceWorth 15 = .ok (.bipush (-100), 2) := by decide +kernel
theorem dX2_pieceWorth_17 : decode cX2_pieceWorth 17 = .ok (.if_icmp .ne 7, 3) := by decide +kernel
theorem dX2_pieceWorth_20 : decode cX2_pieceWorth 20 = .ok (.iload_n 3, 1) := by decide +kernel
theorem dX2_pieceWorth_21 : decode cX2_pieceWorth 21 = .ok (.goto 4, 3) := by decide +kernel
theorem dX2_pieceWorth_24 : decode cX2_pieceWorth 24 = .ok (.iload_n 2, 1) := by decide +kernel
theorem dX2_pieceWorth_25 : decode cX2_pieceWorth 25 = .ok (.ireturn, 1) := by decide +kernel
theorem dX2_joined_0 : decode cX2_joined 0 = .ok (.iload_n 0, 1) := by decide +kernel
theorem dX2_joined_1 : decode cX2_joined 1 = .ok (.lookupswitch 148 #[(38, 89), (42, 144), (43, 136), (45, 140), (60, 103), (61, 114), (62, 125), (124, 75)], 75) := by decide +kernel
theorem dX2_joined_76 : decode cX2_joined 76 = .ok (.iload_n 1, 1) := by decide +kernel
theorem dX2_joined_77 : decode cX2_joined 77 = .ok (.ifCond .ne 7, 3) := by decide +kernel
theorem dX2_joined_80 : decode cX2_joined 80 = .ok (.iload_n 2, 1) := by decide +kernel
theorem dX2_joined_81 : decode cX2_joined 81 = .ok (.ifCond .eq 7, 3) := by decide +kernel
theorem dX2_joined_84 : decode cX2_joined 84 = .ok (.iconst 1, 1) := by decide +kernel
theorem dX2_joined_85 : decode cX2_joined 85 = .ok (.goto 4, 3) := by decide +kernel
theorem dX2_joined_88 : decode cX2_joined 88 = .ok (.iconst 0, 1) := by decide +kernel
theorem dX2_joined_89 : decode cX2_joined 89 = .ok (.ireturn, 1) := by decide +kernel
theorem dX2_joined_90 : decode cX2_joined 90 = .ok (.iload_n 1, 1) := by decide +kernel
theorem dX2_joined_91 : decode cX2_joined 91 = .ok (.ifCond .eq 11, 3) := by decide +kernel
theorem dX2_joined_94 : decode cX2_joined 94 = .ok (.iload_n 2, 1) := by decide +kernel
theorem dX2_joined_95 : decode cX2_joined 95 = .ok (.ifCond .eq 7, 3) := by decide +kernel
theorem dX2_joined_98 : decode cX2_joined 98 = .ok (.iconst 1, 1) := by decide +kernel
theorem dX2_joined_99 : decode cX2_joined 99 = .ok (.goto 4, 3) := by decide +kernel
theorem dX2_joined_102 : decode cX2_joined 102 = .ok (.iconst 0, 1) := by decide +kernel
theorem dX2_joined_103 : decode cX2_joined 103 = .ok (.ireturn, 1) := by decide +kernel
theorem dX2_joined_104 : decode cX2_joined 104 = .ok (.iload_n 1, 1) := by decide +kernel
theorem dX2_joined_105 : decode cX2_joined 105 = .ok (.iload_n 2, 1) := by decide +kernel
theorem dX2_joined_106 : decode cX2_joined 106 = .ok (.if_icmp .ge 7, 3) := by decide +kernel
theorem dX2_joined_109 : decode cX2_joined 109 = .ok (.iconst 1, 1) := by decide +kernel
theorem dX2_joined_110 : decode cX2_joined 110 = .ok (.goto 4, 3) := by decide +kernel
theorem dX2_joined_113 : decode cX2_joined 113 = .ok (.iconst 0, 1) := by decide +kernel
theorem dX2_joined_114 : decode cX2_joined 114 = .ok (.ireturn, 1) := by decide +kernel
theorem dX2_joined_115 : decode cX2_joined 115 = .ok (.iload_n 1, 1) := by decide +kernel
theorem dX2_joined_116 : decode cX2_joined 116 = .ok (.iload_n 2, 1) := by decide +kernel
theorem dX2_joined_117 : decode cX2_joined 117 = .ok (.if_icmp .ne 7, 3) := by decide +kernel
theorem dX2_joined_120 : decode cX2_joined 120 = .ok (.iconst 1, 1) := by decide +kernel
theorem dX2_joined_121 : decode cX2_joined 121 = .ok (.goto 4, 3) := by decide +kernel
theorem dX2_joined_124 : decode cX2_joined 124 = .ok (.iconst 0, 1) := by decide +kernel
theorem dX2_joined_125 : decode cX2_joined 125 = .ok (.ireturn, 1) := by decide +kernel
theorem dX2_joined_126 : decode cX2_joined 126 = .ok (.iload_n 1, 1) := by decide +kernel
theorem dX2_joined_127 : decode cX2_joined 127 = .ok (.iload_n 2, 1) := by decide +kernel
theorem dX2_joined_128 : decode cX2_joined 128 = .ok (.if_icmp .le 7, 3) := by decide +kernel
theorem dX2_joined_131 : decode cX2_joined 131 = .ok (.iconst 1, 1) := by decide +kernel
theorem dX2_joined_132 : decode cX2_joined 132 = .ok (.goto 4, 3) := by decide +kernel
theorem dX2_joined_135 : decode cX2_joined 135 = .ok (.iconst 0, 1) := by decide +kernel
theorem dX2_joined_136 : decode cX2_joined 136 = .ok (.ireturn, 1) := by decide +kernel
theorem dX2_joined_137 : decode cX2_joined 137 = .ok (.iload_n 1, 1) := by decide +kernel
theorem dX2_joined_138 : decode cX2_joined 138 = .ok (.iload_n 2, 1) := by decide +kernel
theorem dX2_joined_139 : decode cX2_joined 139 = .ok (.iadd, 1) := by decide +kernel
theorem dX2_joined_140 : decode cX2_joined 140 = .ok (.ireturn, 1) := by decide +kernel
theorem dX2_joined_141 : decode cX2_joined 141 = .ok (.iload_n 1, 1) := by decide +kernel
theorem dX2_joined_142 : decode cX2_joined 142 = .ok (.iload_n 2, 1) := by decide +kernel
theorem dX2_joined_143 : decode cX2_joined 143 = .ok (.isub, 1) := by decide +kernel
theorem dX2_joined_144 : decode cX2_joined 144 = .ok (.ireturn, 1) := by decide +kernel
theorem dX2_joined_145 : decode cX2_joined 145 = .ok (.iload_n 1, 1) := by decide +kernel
theorem dX2_joined_146 : decode cX2_joined 146 = .ok (.iload_n 2, 1) := by decide +kernel
theorem dX2_joined_147 : decode cX2_joined 147 = .ok (.imul, 1) := by decide +kernel
theorem dX2_joined_148 : decode cX2_joined 148 = .ok (.ireturn, 1) := by decide +kernel
theorem dX2_joined_149 : decode cX2_joined 149 = .ok (.iload_n 2, 1) := by decide +kernel
theorem dX2_joined_150 : decode cX2_joined 150 = .ok (.ifCond .ne 7, 3) := by decide +kernel
theorem dX2_joined_153 : decode cX2_joined 153 = .ok (.iconst 0, 1) := by decide +kernel
theorem dX2_joined_154 : decode cX2_joined 154 = .ok (.goto 6, 3) := by decide +kernel
theorem dX2_joined_157 : decode cX2_joined 157 = .ok (.iload_n 1, 1) := by decide +kernel
theorem dX2_joined_158 : decode cX2_joined 158 = .ok (.iload_n 2, 1) := by decide +kernel
theorem dX2_joined_159 : decode cX2_joined 159 = .ok (.idiv, 1) := by decide +kernel
theorem dX2_joined_160 : decode cX2_joined 160 = .ok (.ireturn, 1) := by decide +kernel
theorem dX3_init_0 : decode cX3_init 0 = .ok (.aload_n 0, 1) := by decide +kernel
theorem dX3_init_1 : decode cX3_init 1 = .ok (.invokespecial 3, 3) := by decide +kernel
theorem dX3_init_4 : decode cX3_init 4 = .ok (.aload_n 0, 1) := by decide +kernel
theorem dX3_init_5 : decode cX3_init 5 = .ok (.bipush 30, 2) := by decide +kernel
theorem dX3_init_7 : decode cX3_init 7 = .ok (.newarray .int, 2) := by decide +kernel
theorem dX3_init_9 : decode cX3_init 9 = .ok (.putfield 9, 3) := by decide +kernel
theorem dX3_init_12 : decode cX3_init 12 = .ok (.aload_n 0, 1) := by decide +kernel
theorem dX3_init_13 : decode cX3_init 13 = .ok (.bipush 30, 2) := by decide +kernel
theorem dX3_init_15 : decode cX3_init 15 = .ok (.newarray .int, 2) := by decide +kernel
theorem dX3_init_17 : decode cX3_init 17 = .ok (.putfield 15, 3) := by decide +kernel
theorem dX3_init_20 : decode cX3_init 20 = .ok (.aload_n 0, 1) := by decide +kernel
theorem dX3_init_21 : decode cX3_init 21 = .ok (.bipush 30, 2) := by decide +kernel
theorem dX3_init_23 : decode cX3_init 23 = .ok (.newarray .int, 2) := by decide +kernel
theorem dX3_init_25 : decode cX3_init 25 = .ok (.putfield 18, 3) := by decide +kernel
theorem dX3_init_28 : decode cX3_init 28 = .ok (.aload_n 0, 1) := by decide +kernel
theorem dX3_init_29 : decode cX3_init 29 = .ok (.bipush 24, 2) := by decide +kernel
theorem dX3_init_31 : decode cX3_init 31 = .ok (.newarray .int, 2) := by decide +kernel
theorem dX3_init_33 : decode cX3_init 33 = .ok (.putfield 21, 3) := by decide +kernel
theorem dX3_init_36 : decode cX3_init 36 = .ok (.aload_n 0, 1) := by decide +kernel
theorem dX3_init_37 : decode cX3_init 37 = .ok (.bipush 30, 2) := by decide +kernel
theorem dX3_init_39 : decode cX3_init 39 = .ok (.newarray .int, 2) := by decide +kernel
theorem dX3_init_41 : decode cX3_init 41 = .ok (.putfield 24, 3) := by decide +kernel
theorem dX3_init_44 : decode cX3_init 44 = .ok (.aload_n 0, 1) := by decide +kernel
theorem dX3_init_45 : decode cX3_init 45 = .ok (.bipush 30, 2) := by decide +kernel
theorem dX3_init_47 : decode cX3_init 47 = .ok (.newarray .int, 2) := by decide +kernel
theorem dX3_init_49 : decode cX3_init 49 = .ok (.putfield 27, 3) := by decide +kernel
theorem dX3_init_52 : decode cX3_init 52 = .ok (.aload_n 0, 1) := by decide +kernel
theorem dX3_init_53 : decode cX3_init 53 = .ok (.iconst 2, 1) := by decide +kernel
theorem dX3_init_54 : decode cX3_init 54 = .ok (.putfield 30, 3) := by decide +kernel
theorem dX3_init_57 : decode cX3_init 57 = .ok (.aload_n 0, 1) := by decide +kernel
theorem dX3_init_58 : decode cX3_init 58 = .ok (.bipush 6, 2) := by decide +kernel
theorem dX3_init_60 : decode cX3_init 60 = .ok (.putfield 34, 3) := by decide +kernel
theorem dX3_init_63 : decode cX3_init 63 = .ok (.aload_n 0, 1) := by decide +kernel
theorem dX3_init_64 : decode cX3_init 64 = .ok (.iconst 3, 1) := by decide +kernel
theorem dX3_init_65 : decode cX3_init 65 = .ok (.putfield 37, 3) := by decide +kernel
theorem dX3_init_68 : decode cX3_init 68 = .ok (.aload_n 0, 1) := by decide +kernel
theorem dX3_init_69 : decode cX3_init 69 = .ok (.iconst 1, 1) := by decide +kernel
theorem dX3_init_70 : decode cX3_init 70 = .ok (.putfield 40, 3) := by decide +kernel
theorem dX3_init_73 : decode cX3_init 73 = .ok (.aload_n 0, 1) := by decide +kernel
theorem dX3_init_74 : decode cX3_init 74 = .ok (.aload_n 1, 1) := by decide +kernel
theorem dX3_init_75 : decode cX3_init 75 = .ok (.putfield 43, 3) := by decide +kernel
theorem dX3_init_78 : decode cX3_init 78 = .ok (.return_, 1) := by decide +kernel
theorem dX3_become_0 : decode cX3_become 0 = .ok (.aload_n 1, 1) := by decide +kernel
theorem dX3_become_1 : decode cX3_become 1 = .ok (.getfield 9, 3) := by decide +kernel
theorem dX3_become_4 : decode cX3_become 4 = .ok (.iconst 0, 1) := by decide +kernel
theorem dX3_become_5 : decode cX3_become 5 = .ok (.aload_n 0, 1) := by decide +kernel
theorem dX3_become_6 : decode cX3_become 6 = .ok (.getfield 9, 3) := by decide +kernel
theorem dX3_become_9 : decode cX3_become 9 = .ok (.iconst 0, 1) := by decide +kernel
theorem dX3_become_10 : decode cX3_become 10 = .ok (.bipush 30, 2) := by decide +kernel
theorem dX3_become_12 : decode cX3_become 12 = .ok (.invokestatic 47, 3) := by decide +kernel
theorem dX3_become_15 : decode cX3_become 15 = .ok (.aload_n 1, 1) := by decide +kernel
theorem dX3_become_16 : decode cX3_become 16 = .ok (.getfield 15, 3) := by decide +kernel
theorem dX3_become_19 : decode cX3_become 19 = .ok (.iconst 0, 1) := by decide +kernel
theorem dX3_become_20 : decode cX3_become 20 = .ok (.aload_n 0, 1) := by decide +kernel
theorem dX3_become_21 : decode cX3_become 21 = .ok (.getfield 15, 3) := by decide +kernel
theorem dX3_become_24 : decode cX3_become 24 = .ok (.iconst 0, 1) := by decide +kernel
theorem dX3_become_25 : decode cX3_become 25 = .ok (.bipush 30, 2) := by decide +kernel
theorem dX3_become_27 : decode cX3_become 27 = .ok (.invokestatic 47, 3) := by decide +kernel
theorem dX3_become_30 : decode cX3_become 30 = .ok (.aload_n 1, 1) := by decide +kernel
theorem dX3_become_31 : decode cX3_become 31 = .ok (.getfield 18, 3) := by decide +kernel
theorem dX3_become_34 : decode cX3_become 34 = .ok (.iconst 0, 1) := by decide +kernel
theorem dX3_become_35 : decode cX3_become 35 = .ok (.aload_n 0, 1) := by decide +kernel
theorem dX3_become_36 : decode cX3_become 36 = .ok (.getfield 18, 3) := by decide +kernel
theorem dX3_become_39 : decode cX3_become 39 = .ok (.iconst 0, 1) := by decide +kernel
theorem dX3_become_40 : decode cX3_become 40 = .ok (.bipush 30, 2) := by decide +kernel
theorem dX3_become_42 : decode cX3_become 42 = .ok (.invokestatic 47, 3) := by decide +kernel
theorem dX3_become_45 : decode cX3_become 45 = .ok (.aload_n 1, 1) := by decide +kernel
theorem dX3_become_46 : decode cX3_become 46 = .ok (.getfield 21, 3) := by decide +kernel
theorem dX3_become_49 : decode cX3_become 49 = .ok (.iconst 0, 1) := by decide +kernel
theorem dX3_become_50 : decode cX3_become 50 = .ok (.aload_n 0, 1) := by decide +kernel
theorem dX3_become_51 : decode cX3_become 51 = .ok (.getfield 21, 3) := by decide +kernel
theorem dX3_become_54 : decode cX3_become 54 = .ok (.iconst 0, 1) := by decide +kernel
theorem dX3_become_55 : decode cX3_become 55 = .ok (.bipush 24, 2) := by decide +kernel
theorem dX3_become_57 : decode cX3_become 57 = .ok (.invokestatic 47, 3) := by decide +kernel
theorem dX3_become_60 : decode cX3_become 60 = .ok (.aload_n 0, 1) := by decide +kernel
theorem dX3_become_61 : decode cX3_become 61 = .ok (.aload_n 1, 1) := by decide +kernel
theorem dX3_become_62 : decode cX3_become 62 = .ok (.getfield 53, 3) := by decide +kernel
theorem dX3_become_65 : decode cX3_become 65 = .ok (.putfield 53, 3) := by decide +kernel
theorem dX3_become_68 : decode cX3_become 68 = .ok (.aload_n 0, 1) := by decide +kernel
theorem dX3_become_69 : decode cX3_become 69 = .ok (.aload_n 1, 1) := by decide +kernel
theorem dX3_become_70 : decode cX3_become 70 = .ok (.getfield 30, 3) := by decide +kernel
theorem dX3_become_73 : decode cX3_become 73 = .ok (.putfield 30, 3) := by decide +kernel
theorem dX3_become_76 : decode cX3_become 76 = .ok (.aload_n 0, 1) := by decide +kernel
theorem dX3_become_77 : decode cX3_become 77 = .ok (.aload_n 1, 1) := by decide +kernel
theorem dX3_become_78 : decode cX3_become 78 = .ok (.getfield 34, 3) := by decide +kernel
theorem dX3_become_81 : decode cX3_become 81 = .ok (.putfield 34, 3) := by decide +kernel
theorem dX3_become_84 : decode cX3_become 84 = .ok (.aload_n 0, 1) := by decide +kernel
theorem dX3_become_85 : decode cX3_become 85 = .ok (.aload_n 1, 1) := by decide +kernel
theorem dX3_become_86 : decode cX3_become 86 = .ok (.getfield 37, 3) := by decide +kernel
theorem dX3_become_89 : decode cX3_become 89 = .ok (.putfield 37, 3) := by decide +kernel
theorem dX3_become_92 : decode cX3_become 92 = .ok (.aload_n 0, 1) := by decide +kernel
theorem dX3_become_93 : decode cX3_become 93 = .ok (.aload_n 1, 1) := by decide +kernel
theorem dX3_become_94 : decode cX3_become 94 = .ok (.getfield 40, 3) := by decide +kernel
theorem dX3_become_97 : decode cX3_become 97 = .ok (.putfield 40, 3) := by decide +kernel
theorem dX3_become_100 : decode cX3_become 100 = .ok (.aload_n 0, 1) := by decide +kernel
theorem dX3_become_101 : decode cX3_become 101 = .ok (.aload_n 1, 1) := by decide +kernel
theorem dX3_become_102 : decode cX3_become 102 = .ok (.getfield 56, 3) := by decide +kernel
theorem dX3_become_105 : decode cX3_become 105 = .ok (.putfield 56, 3) := by decide +kernel
theorem dX3_become_108 : decode cX3_become 108 = .ok (.aload_n 0, 1) := by decide +kernel
theorem dX3_become_109 : decode cX3_become 109 = .ok (.aload_n 1, 1) := by decide +kernel
theorem dX3_become_110 : decode cX3_become 110 = .ok (.getfield 59, 3) := by decide +kernel
theorem dX3_become_113 : decode cX3_become 113 = .ok (.putfield 59, 3) := by decide +kernel
theorem dX3_become_116 : decode cX3_become 116 = .ok (.return_, 1) := by decide +kernel
theorem dX3_sun_0 : decode cX3_sun 0 = .ok (.iconst 0, 1) := by decide +kernel
theorem dX3_sun_1 : decode cX3_sun 1 = .ok (.aload_n 0, 1) := by decide +kernel
theorem dX3_sun_2 : decode cX3_sun 2 = .ok (.getfield 34, 3) := by decide +kernel
theorem dX3_sun_5 : decode cX3_sun 5 = .ok (.bipush 9, 2) := by decide +kernel
theorem dX3_sun_7 : decode cX3_sun 7 = .ok (.isub, 1) := by decide +kernel
theorem dX3_sun_8 : decode cX3_sun 8 = .ok (.invokestatic 62, 3) := by decide +kernel
theorem dX3_sun_11 : decode cX3_sun 11 = .ok (.ireturn, 1) := by decide +kernel
theorem dX3_allLoad_0 : decode cX3_allLoad 0 = .ok (.iconst 0, 1) := by decide +kernel
theorem dX3_allLoad_1 : decode cX3_allLoad 1 = .ok (.istore_n 1, 1) := by decide +kernel
theorem dX3_allLoad_2 : decode cX3_allLoad 2 = .ok (.iconst 0, 1) := by decide +kernel
theorem dX3_allLoad_3 : decode cX3_allLoad 3 = .ok (.istore_n 2, 1) := by decide +kernel
theorem dX3_allLoad_4 : decode cX3_allLoad 4 = .ok (.iload_n 2, 1) := by decide +kernel
theorem dX3_allLoad_5 : decode cX3_allLoad 5 = .ok (.bipush 30, 2) := by decide +kernel
theorem dX3_allLoad_7 : decode cX3_allLoad 7 = .ok (.if_icmp .ge 18, 3) := by decide +kernel
theorem dX3_allLoad_10 : decode cX3_allLoad 10 = .ok (.iload_n 1, 1) := by decide +kernel
theorem dX3_allLoad_11 : decode cX3_allLoad 11 = .ok (.aload_n 0, 1) := by decide +kernel
theorem dX3_allLoad_12 : decode cX3_allLoad 12 = .ok (.getfield 18, 3) := by decide +kernel
theorem dX3_allLoad_15 : decode cX3_allLoad 15 = .ok (.iload_n 2, 1) := by decide +kernel
theorem dX3_allLoad_16 : decode cX3_allLoad 16 = .ok (.iaload, 1) := by decide +kernel
theorem dX3_allLoad_17 : decode cX3_allLoad 17 = .ok (.iadd, 1) := by decide +kernel
theorem dX3_allLoad_18 : decode cX3_allLoad 18 = .ok (.istore_n 1, 1) := by decide +kernel
theorem dX3_allLoad_19 : decode cX3_allLoad 19 = .ok (.iinc 2 1, 3) := by decide +kernel
theorem dX3_allLoad_22 : decode cX3_allLoad 22 = .ok (.goto (-18), 3) := by decide +kernel
theorem dX3_allLoad_25 : decode cX3_allLoad 25 = .ok (.iload_n 1, 1) := by decide +kernel
theorem dX3_allLoad_26 : decode cX3_allLoad 26 = .ok (.ireturn, 1) := by decide +kernel
theorem dX3_mostLoaded_0 : decode cX3_mostLoaded 0 = .ok (.iconst 0, 1) := by decide +kernel
theorem dX3_mostLoaded_1 : decode cX3_mostLoaded 1 = .ok (.istore_n 1, 1) := by decide +kernel
theorem dX3_mostLoaded_2 : decode cX3_mostLoaded 2 = .ok (.iconst 1, 1) := by decide +kernel
theorem dX3_mostLoaded_3 : decode cX3_mostLoaded 3 = .ok (.istore_n 2, 1) := by decide +kernel
theorem dX3_mostLoaded_4 : decode cX3_mostLoaded 4 = .ok (.iload_n 2, 1) := by decide +kernel
theorem dX3_mostLoaded_5 : decode cX3_mostLoaded 5 = .ok (.bipush 30, 2) := by decide +kernel
theorem dX3_mostLoaded_7 : decode cX3_mostLoaded 7 = .ok (.if_icmp .ge 26, 3) := by decide +kernel
theorem dX3_mostLoaded_10 : decode cX3_mostLoaded 10 = .ok (.aload_n 0, 1) := by decide +kernel
theorem dX3_mostLoaded_11 : decode cX3_mostLoaded 11 = .ok (.getfield 18, 3) := by decide +kernel
theorem dX3_mostLoaded_14 : decode cX3_mostLoaded 14 = .ok (.iload_n 2, 1) := by decide +kernel
theorem dX3_mostLoaded_15 : decode cX3_mostLoaded 15 = .ok (.iaload, 1) := by decide +kernel
theorem dX3_mostLoaded_16 : decode cX3_mostLoaded 16 = .ok (.aload_n 0, 1) := by decide +kernel
theorem dX3_mostLoaded_17 : decode cX3_mostLoaded 17 = .ok (.getfield 18, 3) := by decide +kernel
theorem dX3_mostLoaded_20 : decode cX3_mostLoaded 20 = .ok (.iload_n 1, 1) := by decide +kernel
theorem dX3_mostLoaded_21 : decode cX3_mostLoaded 21 = .ok (.iaload, 1) := by decide +kernel
theorem dX3_mostLoaded_22 : decode cX3_mostLoaded 22 = .ok (.if_icmp .le 5, 3) := by decide +kernel
theorem dX3_mostLoaded_25 : decode cX3_mostLoaded 25 = .ok (.iload_n 2, 1) := by decide +kernel
theorem dX3_mostLoaded_26 : decode cX3_mostLoaded 26 = .ok (.istore_n 1, 1) := by decide +kernel
theorem dX3_mostLoaded_27 : decode cX3_mostLoaded 27 = .ok (.iinc 2 1, 3) := by decide +kernel
theorem dX3_mostLoaded_30 : decode cX3_mostLoaded 30 = .ok (.goto (-26), 3) := by decide +kernel
theorem dX3_mostLoaded_33 : decode cX3_mostLoaded 33 = .ok (.iload_n 1, 1) := by decide +kernel
theorem dX3_mostLoaded_34 : decode cX3_mostLoaded 34 = .ok (.ireturn, 1) := by decide +kernel
theorem dX3_plainRisk_0 : decode cX3_plainRisk 0 = .ok (.aload_n 0, 1) := by decide +kernel
theorem dX3_plainRisk_1 : decode cX3_plainRisk 1 = .ok (.getfield 43, 3) := by decide +kernel
theorem dX3_plainRisk_4 : decode cX3_plainRisk 4 = .ok (.iconst 0, 1) := by decide +kernel
theorem dX3_plainRisk_5 : decode cX3_plainRisk 5 = .ok (.aload_n 0, 1) := by decide +kernel
theorem dX3_plainRisk_6 : decode cX3_plainRisk 6 = .ok (.getfield 59, 3) := by decide +kernel
theorem dX3_plainRisk_9 : decode cX3_plainRisk 9 = .ok (.invokevirtual 68, 3) := by decide +kernel
theorem dX3_plainRisk_12 : decode cX3_plainRisk 12 = .ok (.istore_n 2, 1) := by decide +kernel
theorem dX3_plainRisk_13 : decode cX3_plainRisk 13 = .ok (.iload_n 2, 1) := by decide +kernel
theorem dX3_plainRisk_14 : decode cX3_plainRisk 14 = .ok (.ldc 73, 2) := by decide +kernel
theorem dX3_plainRisk_16 : decode cX3_plainRisk 16 = .ok (.if_icmp .eq 35, 3) := by decide +kernel
theorem dX3_plainRisk_19 : decode cX3_plainRisk 19 = .ok (.aload_n 0, 1) := by decide +kernel
theorem dX3_plainRisk_20 : decode cX3_plainRisk 20 = .ok (.getfield 43, 3) := by decide +kernel
theorem dX3_plainRisk_23 : decode cX3_plainRisk 23 = .ok (.iload_n 2, 1) := by decide +kernel
theorem dX3_plainRisk_24 : decode cX3_plainRisk 24 = .ok (.aload_n 0, 1) := by decide +kernel
theorem dX3_plainRisk_25 : decode cX3_plainRisk 25 = .ok (.getfield 15, 3) := by decide +kernel
theorem dX3_plainRisk_28 : decode cX3_plainRisk 28 = .ok (.iload_n 1, 1) := by decide +kernel
theorem dX3_plainRisk_29 : decode cX3_plainRisk 29 = .ok (.iaload, 1) := by decide +kernel
theorem dX3_plainRisk_30 : decode cX3_plainRisk 30 = .ok (.aload_n 0, 1) := by decide +kernel
theorem dX3_plainRisk_31 : decode cX3_plainRisk 31 = .ok (.getfield 18, 3) := by decide +kernel
theorem dX3_plainRisk_34 : decode cX3_plainRisk 34 = .ok (.iload_n 1, 1) := by decide +kernel
theorem dX3_plainRisk_35 : decode cX3_plainRisk 35 = .ok (.iaload, 1) := by decide +kernel
theorem dX3_plainRisk_36 : decode cX3_plainRisk 36 = .ok (.aload_n 0, 1) := by decide +kernel
theorem dX3_plainRisk_37 : decode cX3_plainRisk 37 = .ok (.getfield 30, 3) := by decide +kernel
theorem dX3_plainRisk_40 : decode cX3_plainRisk 40 = .ok (.invokevirtual 74, 3) := by decide +kernel
theorem dX3_plainRisk_43 : decode cX3_plainRisk 43 = .ok (.iconst 0, 1) := by decide +kernel
theorem dX3_plainRisk_44 : decode cX3_plainRisk 44 = .ok (.sipush 999, 3) := by decide +kernel
theorem dX3_plainRisk_47 : decode cX3_plainRisk 47 = .ok (.invokestatic 78, 3) := by decide +kernel
theorem dX3_plainRisk_50 : decode cX3_plainRisk 50 = .ok (.ireturn, 1) := by decide +kernel
theorem dX3_plainRisk_51 : decode cX3_plainRisk 51 = .ok (.aload_n 0, 1) := by decide +kernel
theorem dX3_plainRisk_52 : decode cX3_plainRisk 52 = .ok (.getfield 15, 3) := by decide +kernel
theorem dX3_plainRisk_55 : decode cX3_plainRisk 55 = .ok (.iload_n 1, 1) := by decide +kernel
theorem dX3_plainRisk_56 : decode cX3_plainRisk 56 = .ok (.iaload, 1) := by decide +kernel
theorem dX3_plainRisk_57 : decode cX3_plainRisk 57 = .ok (.bipush 30, 2) := by decide +kernel
theorem dX3_plainRisk_59 : decode cX3_plainRisk 59 = .ok (.if_icmp .ge 7, 3) := by decide +kernel
theorem dX3_plainRisk_62 : decode cX3_plainRisk 62 = .ok (.iconst 0, 1) := by decide +kernel
theorem dX3_plainRisk_63 : decode cX3_plainRisk 63 = .ok (.goto 27, 3) := by decide +kernel
theorem dX3_plainRisk_66 : decode cX3_plainRisk 66 = .ok (.aload_n 0, 1) := by decide +kernel
theorem dX3_plainRisk_67 : decode cX3_plainRisk 67 = .ok (.getfield 15, 3) := by decide +kernel
theorem dX3_plainRisk_70 : decode cX3_plainRisk 70 = .ok (.iload_n 1, 1) := by decide +kernel
theorem dX3_plainRisk_71 : decode cX3_plainRisk 71 = .ok (.iaload, 1) := by decide +kernel
theorem dX3_plainRisk_72 : decode cX3_plainRisk 72 = .ok (.bipush 29, 2) := by decide +kernel
theorem dX3_plainRisk_74 : decode cX3_plainRisk 74 = .ok (.isub, 1) := by decide +kernel
theorem dX3_plainRisk_75 : decode cX3_plainRisk 75 = .ok (.aload_n 0, 1) := by decide +kernel
theorem dX3_plainRisk_76 : decode cX3_plainRisk 76 = .ok (.getfield 30, 3) := by decide +kernel
theorem dX3_plainRisk_79 : decode cX3_plainRisk 79 = .ok (.imul, 1) := by decide +kernel
theorem dX3_plainRisk_80 : decode cX3_plainRisk 80 = .ok (.aload_n 0, 1) := by decide +kernel
theorem dX3_plainRisk_81 : decode cX3_plainRisk 81 = .ok (.getfield 18, 3) := by decide +kernel
theorem dX3_plainRisk_84 : decode cX3_plainRisk 84 = .ok (.iload_n 1, 1) := by decide +kernel
theorem dX3_plainRisk_85 : decode cX3_plainRisk 85 = .ok (.iaload, 1) := by decide +kernel
theorem dX3_plainRisk_86 : decode cX3_plainRisk 86 = .ok (.bipush 10, 2) := by decide +kernel
theorem dX3_plainRisk_88 : decode cX3_plainRisk 88 = .ok (.idiv, 1) := by decide +kernel
theorem dX3_plainRisk_89 : decode cX3_plainRisk 89 = .ok (.iadd, 1) := by decide +kernel
theorem dX3_plainRisk_90 : decode cX3_plainRisk 90 = .ok (.ireturn, 1) := by decide +kernel
theorem dX3_riskAbove_0 : decode cX3_riskAbove 0 = .ok (.iconst 0, 1) := by decide +kernel
theorem dX3_riskAbove_1 : decode cX3_riskAbove 1 = .ok (.istore_n 2, 1) := by decide +kernel
theorem dX3_riskAbove_2 : decode cX3_riskAbove 2 = .ok (.iload_n 1, 1) := by decide +kernel
theorem dX3_riskAbove_3 : decode cX3_riskAbove 3 = .ok (.bipush 6, 2) := by decide +kernel
theorem dX3_riskAbove_5 : decode cX3_riskAbove 5 = .ok (.iadd, 1) := by decide +kernel
theorem dX3_riskAbove_6 : decode cX3_riskAbove 6 = .ok (.istore_n 3, 1) := by decide +kernel
theorem dX3_riskAbove_7 : decode cX3_riskAbove 7 = .ok (.iload_n 3, 1) := by decide +kernel
theorem dX3_riskAbove_8 : decode cX3_riskAbove 8 = .ok (.bipush 30, 2) := by decide +kernel
theorem dX3_riskAbove_10 : decode cX3_riskAbove 10 = .ok (.if_icmp .ge 19, 3) := by decide +kernel
theorem dX3_riskAbove_13 : decode cX3_riskAbove 13 = .ok (.iload_n 2, 1) := by decide +kernel
theorem dX3_riskAbove_14 : decode cX3_riskAbove 14 = .ok (.aload_n 0, 1) := by decide +kernel
theorem dX3_riskAbove_15 : decode cX3_riskAbove 15 = .ok (.iload_n 3, 1) := by decide +kernel
theorem dX3_riskAbove_16 : decode cX3_riskAbove 16 = .ok (.invokevirtual 82, 3) := by decide +kernel
theorem dX3_riskAbove_19 : decode cX3_riskAbove 19 = .ok (.invokestatic 62, 3) := by decide +kernel
theorem dX3_riskAbove_22 : decode cX3_riskAbove 22 = .ok (.istore_n 2, 1) := by decide +kernel
theorem dX3_riskAbove_23 : decode cX3_riskAbove 23 = .ok (.iinc 3 6, 3) := by decide +kernel
theorem dX3_riskAbove_26 : decode cX3_riskAbove 26 = .ok (.goto (-19), 3) := by decide +kernel
theorem dX3_riskAbove_29 : decode cX3_riskAbove 29 = .ok (.iload_n 2, 1) := by decide +kernel
theorem dX3_riskAbove_30 : decode cX3_riskAbove 30 = .ok (.ireturn, 1) := by decide +kernel
theorem dX3_risk_0 : decode cX3_risk 0 = .ok (.aload_n 0, 1) := by decide +kernel
theorem dX3_risk_1 : decode cX3_risk 1 = .ok (.getfield 9, 3) := by decide +kernel
theorem dX3_risk_4 : decode cX3_risk 4 = .ok (.iload_n 1, 1) := by decide +kernel
theorem dX3_risk_5 : decode cX3_risk 5 = .ok (.iaload, 1) := by decide +kernel
theorem dX3_risk_6 : decode cX3_risk 6 = .ok (.aload_n 0, 1) := by decide +kernel
theorem dX3_risk_7 : decode cX3_risk 7 = .ok (.iload_n 1, 1) := by decide +kernel
theorem dX3_risk_8 : decode cX3_risk 8 = .ok (.invokevirtual 82, 3) := by decide +kernel
theorem dX3_risk_11 : decode cX3_risk 11 = .ok (.aload_n 0, 1) := by decide +kernel
theorem dX3_risk_12 : decode cX3_risk 12 = .ok (.iload_n 1, 1) := by decide +kernel
theorem dX3_risk_13 : decode cX3_risk 13 = .ok (.invokevirtual 86, 3) := by decide +kernel
theorem dX3_risk_16 : decode cX3_risk 16 = .ok (.aload_n 0, 1) := by decide +kernel
theorem dX3_risk_17 : decode cX3_risk 17 = .ok (.invokevirtual 89, 3) := by decide +kernel
theorem dX3_risk_20 : decode cX3_risk 20 = .ok (.invokestatic 93, 3) := by decide +kernel
theorem dX3_risk_23 : decode cX3_risk 23 = .ok (.ireturn, 1) := by decide +kernel
theorem dX3_weighRisks_0 : decode cX3_weighRisks 0 = .ok (.aload_n 0, 1) := by decide +kernel
theorem dX3_weighRisks_1 : decode cX3_weighRisks 1 = .ok (.invokevirtual 89, 3) := by decide +kernel
theorem dX3_weighRisks_4 : decode cX3_weighRisks 4 = .ok (.istore_n 1, 1) := by decide +kernel
theorem dX3_weighRisks_5 : decode cX3_weighRisks 5 = .ok (.iconst 0, 1) := by decide +kernel
theorem dX3_weighRisks_6 : decode cX3_weighRisks 6 = .ok (.istore_n 2, 1) := by decide +kernel
theorem dX3_weighRisks_7 : decode cX3_weighRisks 7 = .ok (.iload_n 2, 1) := by decide +kernel
theorem dX3_weighRisks_8 : decode cX3_weighRisks 8 = .ok (.bipush 6, 2) := by decide +kernel
theorem dX3_weighRisks_10 : decode cX3_weighRisks 10 = .ok (.if_icmp .ge 70, 3) := by decide +kernel
theorem dX3_weighRisks_13 : decode cX3_weighRisks 13 = .ok (.iconst 0, 1) := by decide +kernel
theorem dX3_weighRisks_14 : decode cX3_weighRisks 14 = .ok (.istore_n 3, 1) := by decide +kernel
theorem dX3_weighRisks_15 : decode cX3_weighRisks 15 = .ok (.iconst 4, 1) := by decide +kernel
theorem dX3_weighRisks_16 : decode cX3_weighRisks 16 = .ok (.istore 4, 2) := by decide +kernel
theorem dX3_weighRisks_18 : decode cX3_weighRisks 18 = .ok (.iload 4, 2) := by decide +kernel
theorem dX3_weighRisks_20 : decode cX3_weighRisks 20 = .ok (.ifCond .lt 54, 3) := by decide +kernel
theorem dX3_weighRisks_23 : decode cX3_weighRisks 23 = .ok (.iload 4, 2) := by decide +kernel
theorem dX3_weighRisks_25 : decode cX3_weighRisks 25 = .ok (.bipush 6, 2) := by decide +kernel
theorem dX3_weighRisks_27 : decode cX3_weighRisks 27 = .ok (.imul, 1) := by decide +kernel
theorem dX3_weighRisks_28 : decode cX3_weighRisks 28 = .ok (.iload_n 2, 1) := by decide +kernel
theorem dX3_weighRisks_29 : decode cX3_weighRisks 29 = .ok (.iadd, 1) := by decide +kernel
theorem dX3_weighRisks_30 : decode cX3_weighRisks 30 = .ok (.istore 5, 2) := by decide +kernel
theorem dX3_weighRisks_32 : decode cX3_weighRisks 32 = .ok (.aload_n 0, 1) := by decide +kernel
theorem dX3_weighRisks_33 : decode cX3_weighRisks 33 = .ok (.iload 5, 2) := by decide +kernel
theorem dX3_weighRisks_35 : decode cX3_weighRisks 35 = .ok (.invokevirtual 82, 3) := by decide +kernel
theorem dX3_weighRisks_38 : decode cX3_weighRisks 38 = .ok (.istore 6, 2) := by decide +kernel
theorem dX3_weighRisks_40 : decode cX3_weighRisks 40 = .ok (.aload_n 0, 1) := by decide +kernel
theorem dX3_weighRisks_41 : decode cX3_weighRisks 41 = .ok (.getfield 24, 3) := by decide +kernel
theorem dX3_weighRisks_44 : decode cX3_weighRisks 44 = .ok (.iload 5, 2) := by decide +kernel
theorem dX3_weighRisks_46 : decode cX3_weighRisks 46 = .ok (.aload_n 0, 1) := by decide +kernel
theorem dX3_weighRisks_47 : decode cX3_weighRisks 47 = .ok (.getfield 9, 3) := by decide +kernel
theorem dX3_weighRisks_50 : decode cX3_weighRisks 50 = .ok (.iload 5, 2) := by decide +kernel
theorem dX3_weighRisks_52 : decode cX3_weighRisks 52 = .ok (.iaload, 1) := by decide +kernel
theorem dX3_weighRisks_53 : decode cX3_weighRisks 53 = .ok (.iload 6, 2) := by decide +kernel
theorem dX3_weighRisks_55 : decode cX3_weighRisks 55 = .ok (.iload_n 3, 1) := by decide +kernel
theorem dX3_weighRisks_56 : decode cX3_weighRisks 56 = .ok (.iload_n 1, 1) := by decide +kernel
theorem dX3_weighRisks_57 : decode cX3_weighRisks 57 = .ok (.invokestatic 93, 3) := by decide +kernel
theorem dX3_weighRisks_60 : decode cX3_weighRisks 60 = .ok (.iastore, 1) := by decide +kernel
theorem dX3_weighRisks_61 : decode cX3_weighRisks 61 = .ok (.iload_n 3, 1) := by decide +kernel
theorem dX3_weighRisks_62 : decode cX3_weighRisks 62 = .ok (.iload 6, 2) := by decide +kernel
theorem dX3_weighRisks_64 : decode cX3_weighRisks 64 = .ok (.invokestatic 62, 3) := by decide +kernel
theorem dX3_weighRisks_67 : decode cX3_weighRisks 67 = .ok (.istore_n 3, 1) := by decide +kernel
theorem dX3_weighRisks_68 : decode cX3_weighRisks 68 = .ok (.iinc 4 (-1), 3) := by decide +kernel
theorem dX3_weighRisks_71 : decode cX3_weighRisks 71 = .ok (.goto (-53), 3) := by decide +kernel
theorem dX3_weighRisks_74 : decode cX3_weighRisks 74 = .ok (.iinc 2 1, 3) := by decide +kernel
theorem dX3_weighRisks_77 : decode cX3_weighRisks 77 = .ok (.goto (-70), 3) := by decide +kernel
theorem dX3_weighRisks_80 : decode cX3_weighRisks 80 = .ok (.return_, 1) := by decide +kernel
theorem dX3_plainHold_0 : decode cX3_plainHold 0 = .ok (.aload_n 0, 1) := by decide +kernel
theorem dX3_plainHold_1 : decode cX3_plainHold 1 = .ok (.getfield 43, 3) := by decide +kernel
theorem dX3_plainHold_4 : decode cX3_plainHold 4 = .ok (.iconst 1, 1) := by decide +kernel
theorem dX3_plainHold_5 : decode cX3_plainHold 5 = .ok (.aload_n 0, 1) := by decide +kernel
theorem dX3_plainHold_6 : decode cX3_plainHold 6 = .ok (.getfield 59, 3) := by decide +kernel
theorem dX3_plainHold_9 : decode cX3_plainHold 9 = .ok (.invokevirtual 68, 3) := by decide +kernel
theorem dX3_plainHold_12 : decode cX3_plainHold 12 = .ok (.istore_n 2, 1) := by decide +kernel
theorem dX3_plainHold_13 : decode cX3_plainHold 13 = .ok (.iload_n 2, 1) := by decide +kernel
theorem dX3_plainHold_14 : decode cX3_plainHold 14 = .ok (.ldc 73, 2) := by decide +kernel
theorem dX3_plainHold_16 : decode cX3_plainHold 16 = .ok (.if_icmp .ne 15, 3) := by decide +kernel
theorem dX3_plainHold_19 : decode cX3_plainHold 19 = .ok (.bipush 70, 2) := by decide +kernel
theorem dX3_plainHold_21 : decode cX3_plainHold 21 = .ok (.aload_n 0, 1) := by decide +kernel
theorem dX3_plainHold_22 : decode cX3_plainHold 22 = .ok (.getfield 15, 3) := by decide +kernel
theorem dX3_plainHold_25 : decode cX3_plainHold 25 = .ok (.iload_n 1, 1) := by decide +kernel
theorem dX3_plainHold_26 : decode cX3_plainHold 26 = .ok (.iaload, 1) := by decide +kernel
theorem dX3_plainHold_27 : decode cX3_plainHold 27 = .ok (.isub, 1) := by decide +kernel
theorem dX3_plainHold_28 : decode cX3_plainHold 28 = .ok (.goto 22, 3) := by decide +kernel
theorem dX3_plainHold_31 : decode cX3_plainHold 31 = .ok (.aload_n 0, 1) := by decide +kernel
theorem dX3_plainHold_32 : decode cX3_plainHold 32 = .ok (.getfield 43, 3) := by decide +kernel
theorem dX3_plainHold_35 : decode cX3_plainHold 35 = .ok (.iload_n 2, 1) := by decide +kernel
theorem dX3_plainHold_36 : decode cX3_plainHold 36 = .ok (.aload_n 0, 1) := by decide +kernel
theorem dX3_plainHold_37 : decode cX3_plainHold 37 = .ok (.getfield 15, 3) := by decide +kernel
theorem dX3_plainHold_40 : decode cX3_plainHold 40 = .ok (.iload_n 1, 1) := by decide +kernel
theorem dX3_plainHold_41 : decode cX3_plainHold 41 = .ok (.iaload, 1) := by decide +kernel
theorem dX3_plainHold_42 : decode cX3_plainHold 42 = .ok (.iload_n 1, 1) := by decide +kernel
theorem dX3_plainHold_43 : decode cX3_plainHold 43 = .ok (.bipush 6, 2) := by decide +kernel
theorem dX3_plainHold_45 : decode cX3_plainHold 45 = .ok (.idiv, 1) := by decide +kernel
theorem dX3_plainHold_46 : decode cX3_plainHold 46 = .ok (.iconst 0, 1) := by decide +kernel
theorem dX3_plainHold_47 : decode cX3_plainHold 47 = .ok (.invokevirtual 74, 3) := by decide +kernel
theorem dX3_plainHold_50 : decode cX3_plainHold 50 = .ok (.istore_n 3, 1) := by decide +kernel
theorem dX3_plainHold_51 : decode cX3_plainHold 51 = .ok (.iload_n 3, 1) := by decide +kernel
theorem dX3_plainHold_52 : decode cX3_plainHold 52 = .ok (.iconst 0, 1) := by decide +kernel
theorem dX3_plainHold_53 : decode cX3_plainHold 53 = .ok (.bipush 99, 2) := by decide +kernel
theorem dX3_plainHold_55 : decode cX3_plainHold 55 = .ok (.invokestatic 78, 3) := by decide +kernel
theorem dX3_plainHold_58 : decode cX3_plainHold 58 = .ok (.ireturn, 1) := by decide +kernel
theorem dX3_stepInto_0 : decode cX3_stepInto 0 = .ok (.iload_n 2, 1) := by decide +kernel
theorem dX3_stepInto_1 : decode cX3_stepInto 1 = .ok (.bipush 6, 2) := by decide +kernel
theorem dX3_stepInto_3 : decode cX3_stepInto 3 = .ok (.idiv, 1) := by decide +kernel
theorem dX3_stepInto_4 : decode cX3_stepInto 4 = .ok (.iload_n 1, 1) := by decide +kernel
theorem dX3_stepInto_5 : decode cX3_stepInto 5 = .ok (.bipush 6, 2) := by decide +kernel
theorem dX3_stepInto_7 : decode cX3_stepInto 7 = .ok (.idiv, 1) := by decide +kernel
theorem dX3_stepInto_8 : decode cX3_stepInto 8 = .ok (.if_icmp .le 7, 3) := by decide +kernel
theorem dX3_stepInto_11 : decode cX3_stepInto 11 = .ok (.iconst 1, 1) := by decide +kernel
theorem dX3_stepInto_12 : decode cX3_stepInto 12 = .ok (.goto 4, 3) := by decide +kernel
theorem dX3_stepInto_15 : decode cX3_stepInto 15 = .ok (.iconst 0, 1) := by decide +kernel
theorem dX3_stepInto_16 : decode cX3_stepInto 16 = .ok (.istore_n 3, 1) := by decide +kernel
theorem dX3_stepInto_17 : decode cX3_stepInto 17 = .ok (.aload_n 0, 1) := by decide +kernel
theorem dX3_stepInto_18 : decode cX3_stepInto 18 = .ok (.getfield 43, 3) := by decide +kernel
theorem dX3_stepInto_21 : decode cX3_stepInto 21 = .ok (.iconst 2, 1) := by decide +kernel
theorem dX3_stepInto_22 : decode cX3_stepInto 22 = .ok (.aload_n 0, 1) := by decide +kernel
theorem dX3_stepInto_23 : decode cX3_stepInto 23 = .ok (.getfield 59, 3) := by decide +kernel
theorem dX3_stepInto_26 : decode cX3_stepInto 26 = .ok (.invokevirtual 68, 3) := by decide +kernel
theorem dX3_stepInto_29 : decode cX3_stepInto 29 = .ok (.istore 4, 2) := by decide +kernel
theorem dX3_stepInto_31 : decode cX3_stepInto 31 = .ok (.iload 4, 2) := by decide +kernel
theorem dX3_stepInto_33 : decode cX3_stepInto 33 = .ok (.ldc 73, 2) := by decide +kernel
theorem dX3_stepInto_35 : decode cX3_stepInto 35 = .ok (.if_icmp .ne 21, 3) := by decide +kernel
theorem dX3_stepInto_38 : decode cX3_stepInto 38 = .ok (.iconst 1, 1) := by decide +kernel
theorem dX3_stepInto_39 : decode cX3_stepInto 39 = .ok (.aload_n 0, 1) := by decide +kernel
theorem dX3_stepInto_40 : decode cX3_stepInto 40 = .ok (.getfield 15, 3) := by decide +kernel
theorem dX3_stepInto_43 : decode cX3_stepInto 43 = .ok (.iload_n 2, 1) := by decide +kernel
theorem dX3_stepInto_44 : decode cX3_stepInto 44 = .ok (.iaload, 1) := by decide +kernel
theorem dX3_stepInto_45 : decode cX3_stepInto 45 = .ok (.bipush 10, 2) := by decide +kernel
theorem dX3_stepInto_47 : decode cX3_stepInto 47 = .ok (.idiv, 1) := by decide +kernel
theorem dX3_stepInto_48 : decode cX3_stepInto 48 = .ok (.iadd, 1) := by decide +kernel
theorem dX3_stepInto_49 : decode cX3_stepInto 49 = .ok (.iconst 2, 1) := by decide +kernel
theorem dX3_stepInto_50 : decode cX3_stepInto 50 = .ok (.iload_n 3, 1) := by decide +kernel
theorem dX3_stepInto_51 : decode cX3_stepInto 51 = .ok (.imul, 1) := by decide +kernel
theorem dX3_stepInto_52 : decode cX3_stepInto 52 = .ok (.iadd, 1) := by decide +kernel
theorem dX3_stepInto_53 : decode cX3_stepInto 53 = .ok (.goto 20, 3) := by decide +kernel
theorem dX3_stepInto_56 : decode cX3_stepInto 56 = .ok (.aload_n 0, 1) := by decide +kernel
theorem dX3_stepInto_57 : decode cX3_stepInto 57 = .ok (.getfield 43, 3) := by decide +kernel
theorem dX3_stepInto_60 : decode cX3_stepInto 60 = .ok (.iload 4, 2) := by decide +kernel
theorem dX3_stepInto_62 : decode cX3_stepInto 62 = .ok (.aload_n 0, 1) := by decide +kernel
theorem dX3_stepInto_63 : decode cX3_stepInto 63 = .ok (.getfield 15, 3) := by decide +kernel
theorem dX3_stepInto_66 : decode cX3_stepInto 66 = .ok (.iload_n 2, 1) := by decide +kernel
theorem dX3_stepInto_67 : decode cX3_stepInto 67 = .ok (.iaload, 1) := by decide +kernel
theorem dX3_stepInto_68 : decode cX3_stepInto 68 = .ok (.iload_n 3, 1) := by decide +kernel
theorem dX3_stepInto_69 : decode cX3_stepInto 69 = .ok (.iconst 0, 1) := by decide +kernel
theorem dX3_stepInto_70 : decode cX3_stepInto 70 = .ok (.invokevirtual 74, 3) := by decide +kernel
theorem dX3_stepInto_73 : decode cX3_stepInto 73 = .ok (.istore 5, 2) := by decide +kernel
theorem dX3_stepInto_75 : decode cX3_stepInto 75 = .ok (.iload 5, 2) := by decide +kernel
theorem dX3_stepInto_77 : decode cX3_stepInto 77 = .ok (.iconst 0, 1) := by decide +kernel
theorem dX3_stepInto_78 : decode cX3_stepInto 78 = .ok (.bipush 99, 2) := by decide +kernel
theorem dX3_stepInto_80 : decode cX3_stepInto 80 = .ok (.invokestatic 78, 3) := by decide +kernel
theorem dX3_stepInto_83 : decode cX3_stepInto 83 = .ok (.ireturn, 1) := by decide +kernel
theorem dX3_draw_0 : decode cX3_draw 0 = .ok (.aload_n 0, 1) := by decide +kernel
theorem dX3_draw_1 : decode cX3_draw 1 = .ok (.aload_n 0, 1) := by decide +kernel
theorem dX3_draw_2 : decode cX3_draw 2 = .ok (.getfield 40, 3) := by decide +kernel
theorem dX3_draw_5 : decode cX3_draw 5 = .ok (.ldc 98, 2) := by decide +kernel
theorem dX3_draw_7 : decode cX3_draw 7 = .ok (.imul, 1) := by decide +kernel
theorem dX3_draw_8 : decode cX3_draw 8 = .ok (.sipush 12345, 3) := by decide +kernel
theorem dX3_draw_11 : decode cX3_draw 11 = .ok (.iadd, 1) := by decide +kernel
theorem dX3_draw_12 : decode cX3_draw 12 = .ok (.putfield 40, 3) := by decide +kernel
theorem dX3_draw_15 : decode cX3_draw 15 = .ok (.aload_n 0, 1) := by decide +kernel
theorem dX3_draw_16 : decode cX3_draw 16 = .ok (.getfield 40, 3) := by decide +kernel
theorem dX3_draw_19 : decode cX3_draw 19 = .ok (.bipush 8, 2) := by decide +kernel
theorem dX3_draw_21 : decode cX3_draw 21 = .ok (.iushr, 1) := by decide +kernel
theorem dX3_draw_22 : decode cX3_draw 22 = .ok (.ireturn, 1) := by decide +kernel
theorem dX3_drawByLot_0 : decode cX3_drawByLot 0 = .ok (.iconst 0, 1) := by decide +kernel
theorem dX3_drawByLot_1 : decode cX3_drawByLot 1 = .ok (.istore_n 1, 1) := by decide +kernel
theorem dX3_drawByLot_2 : decode cX3_drawByLot 2 = .ok (.iload_n 1, 1) := by decide +kernel
theorem dX3_drawByLot_3 : decode cX3_drawByLot 3 = .ok (.bipush 30, 2) := by decide +kernel
theorem dX3_drawByLot_5 : decode cX3_drawByLot 5 = .ok (.if_icmp .ge 48, 3) := by decide +kernel
theorem dX3_drawByLot_8 : decode cX3_drawByLot 8 = .ok (.aload_n 0, 1) := by decide +kernel
theorem dX3_drawByLot_9 : decode cX3_drawByLot 9 = .ok (.getfield 9, 3) := by decide +kernel
theorem dX3_drawByLot_12 : decode cX3_drawByLot 12 = .ok (.iload_n 1, 1) := by decide +kernel
theorem dX3_drawByLot_13 : decode cX3_drawByLot 13 = .ok (.aload_n 0, 1) := by decide +kernel
theorem dX3_drawByLot_14 : decode cX3_drawByLot 14 = .ok (.invokevirtual 99, 3) := by decide +kernel
theorem dX3_drawByLot_17 : decode cX3_drawByLot 17 = .ok (.bipush 6, 2) := by decide +kernel
theorem dX3_drawByLot_19 : decode cX3_drawByLot 19 = .ok (.irem, 1) := by decide +kernel
theorem dX3_drawByLot_20 : decode cX3_drawByLot 20 = .ok (.iastore, 1) := by decide +kernel
theorem dX3_drawByLot_21 : decode cX3_drawByLot 21 = .ok (.aload_n 0, 1) := by decide +kernel
theorem dX3_drawByLot_22 : decode cX3_drawByLot 22 = .ok (.getfield 15, 3) := by decide +kernel
theorem dX3_drawByLot_25 : decode cX3_drawByLot 25 = .ok (.iload_n 1, 1) := by decide +kernel
theorem dX3_drawByLot_26 : decode cX3_drawByLot 26 = .ok (.aload_n 0, 1) := by decide +kernel
theorem dX3_drawByLot_27 : decode cX3_drawByLot 27 = .ok (.invokevirtual 99, 3) := by decide +kernel
theorem dX3_drawByLot_30 : decode cX3_drawByLot 30 = .ok (.bipush 50, 2) := by decide +kernel
theorem dX3_drawByLot_32 : decode cX3_drawByLot 32 = .ok (.irem, 1) := by decide +kernel
theorem dX3_drawByLot_33 : decode cX3_drawByLot 33 = .ok (.iastore, 1) := by decide +kernel
theorem dX3_drawByLot_34 : decode cX3_drawByLot 34 = .ok (.aload_n 0, 1) := by decide +kernel
theorem dX3_drawByLot_35 : decode cX3_drawByLot 35 = .ok (.getfield 18, 3) := by decide +kernel
theorem dX3_drawByLot_38 : decode cX3_drawByLot 38 = .ok (.iload_n 1, 1) := by decide +kernel
theorem dX3_drawByLot_39 : decode cX3_drawByLot 39 = .ok (.aload_n 0, 1) := by decide +kernel
theorem dX3_drawByLot_40 : decode cX3_drawByLot 40 = .ok (.invokevirtual 99, 3) := by decide +kernel
theorem dX3_drawByLot_43 : decode cX3_drawByLot 43 = .ok (.bipush 40, 2) := by decide +kernel
theorem dX3_drawByLot_45 : decode cX3_drawByLot 45 = .ok (.irem, 1) := by decide +kernel
theorem dX3_drawByLot_46 : decode cX3_drawByLot 46 = .ok (.iastore, 1) := by decide +kernel
theorem dX3_drawByLot_47 : decode cX3_drawByLot 47 = .ok (.iinc 1 1, 3) := by decide +kernel
theorem dX3_drawByLot_50 : decode cX3_drawByLot 50 = .ok (.goto (-48), 3) := by decide +kernel
theorem dX3_drawByLot_53 : decode cX3_drawByLot 53 = .ok (.return_, 1) := by decide +kernel
theorem dX3_tickOften_0 : decode cX3_tickOften 0 = .ok (.aload_n 0, 1) := by decide +kernel
theorem dX3_tickOften_1 : decode cX3_tickOften 1 = .ok (.invokevirtual 102, 3) := by decide +kernel
theorem dX3_tickOften_4 : decode cX3_tickOften 4 = .ok (.iconst 0, 1) := by decide +kernel
theorem dX3_tickOften_5 : decode cX3_tickOften 5 = .ok (.istore_n 2, 1) := by decide +kernel
theorem dX3_tickOften_6 : decode cX3_tickOften 6 = .ok (.iconst 0, 1) := by decide +kernel
theorem dX3_tickOften_7 : decode cX3_tickOften 7 = .ok (.istore_n 3, 1) := by decide +kernel
theorem dX3_tickOften_8 : decode cX3_tickOften 8 = .ok (.iload_n 3, 1) := by decide +kernel
theorem dX3_tickOften_9 : decode cX3_tickOften 9 = .ok (.iload_n 1, 1) := by decide +kernel
theorem dX3_tickOften_10 : decode cX3_tickOften 10 = .ok (.if_icmp .ge 16, 3) := by decide +kernel
theorem dX3_tickOften_13 : decode cX3_tickOften 13 = .ok (.iload_n 2, 1) := by decide +kernel
theorem dX3_tickOften_14 : decode cX3_tickOften 14 = .ok (.aload_n 0, 1) := by decide +kernel
theorem dX3_tickOften_15 : decode cX3_tickOften 15 = .ok (.invokevirtual 105, 3) := by decide +kernel
theorem dX3_tickOften_18 : decode cX3_tickOften 18 = .ok (.iadd, 1) := by decide +kernel
theorem dX3_tickOften_19 : decode cX3_tickOften 19 = .ok (.istore_n 2, 1) := by decide +kernel
theorem dX3_tickOften_20 : decode cX3_tickOften 20 = .ok (.iinc 3 1, 3) := by decide +kernel
theorem dX3_tickOften_23 : decode cX3_tickOften 23 = .ok (.goto (-15), 3) := by decide +kernel
theorem dX3_tickOften_26 : decode cX3_tickOften 26 = .ok (.iload_n 2, 1) := by decide +kernel
theorem dX3_tickOften_27 : decode cX3_tickOften 27 = .ok (.ireturn, 1) := by decide +kernel
theorem dX3_brace_0 : decode cX3_brace 0 = .ok (.iconst 0, 1) := by decide +kernel
theorem dX3_brace_1 : decode cX3_brace 1 = .ok (.istore_n 1, 1) := by decide +kernel
theorem dX3_brace_2 : decode cX3_brace 2 = .ok (.iload_n 1, 1) := by decide +kernel
theorem dX3_brace_3 : decode cX3_brace 3 = .ok (.bipush 30, 2) := by decide +kernel
theorem dX3_brace_5 : decode cX3_brace 5 = .ok (.if_icmp .ge 20, 3) := by decide +kernel
theorem dX3_brace_8 : decode cX3_brace 8 = .ok (.aload_n 0, 1) := by decide +kernel
theorem dX3_brace_9 : decode cX3_brace 9 = .ok (.getfield 27, 3) := by decide +kernel
theorem dX3_brace_12 : decode cX3_brace 12 = .ok (.iload_n 1, 1) := by decide +kernel
theorem dX3_brace_13 : decode cX3_brace 13 = .ok (.aload_n 0, 1) := by decide +kernel
theorem dX3_brace_14 : decode cX3_brace 14 = .ok (.iload_n 1, 1) := by decide +kernel
theorem dX3_brace_15 : decode cX3_brace 15 = .ok (.invokevirtual 108, 3) := by decide +kernel
theorem dX3_brace_18 : decode cX3_brace 18 = .ok (.iastore, 1) := by decide +kernel
theorem dX3_brace_19 : decode cX3_brace 19 = .ok (.iinc 1 1, 3) := by decide +kernel
theorem dX3_brace_22 : decode cX3_brace 22 = .ok (.goto (-20), 3) := by decide +kernel
theorem dX3_brace_25 : decode cX3_brace 25 = .ok (.return_, 1) := by decide +kernel
theorem dX3_tick_0 : decode cX3_tick 0 = .ok (.aload_n 0, 1) := by decide +kernel
theorem dX3_tick_1 : decode cX3_tick 1 = .ok (.invokevirtual 111, 3) := by decide +kernel
theorem dX3_tick_4 : decode cX3_tick 4 = .ok (.aload_n 0, 1) := by decide +kernel
theorem dX3_tick_5 : decode cX3_tick 5 = .ok (.invokevirtual 114, 3) := by decide +kernel
theorem dX3_tick_8 : decode cX3_tick 8 = .ok (.aload_n 0, 1) := by decide +kernel
theorem dX3_tick_9 : decode cX3_tick 9 = .ok (.invokevirtual 117, 3) := by decide +kernel
theorem dX3_tick_12 : decode cX3_tick 12 = .ok (.istore_n 1, 1) := by decide +kernel
theorem dX3_tick_13 : decode cX3_tick 13 = .ok (.aload_n 0, 1) := by decide +kernel
theorem dX3_tick_14 : decode cX3_tick 14 = .ok (.dup, 1) := by decide +kernel
theorem dX3_tick_15 : decode cX3_tick 15 = .ok (.getfield 56, 3) := by decide +kernel
theorem dX3_tick_18 : decode cX3_tick 18 = .ok (.iload_n 1, 1) := by decide +kernel
theorem dX3_tick_19 : decode cX3_tick 19 = .ok (.iadd, 1) := by decide +kernel
theorem dX3_tick_20 : decode cX3_tick 20 = .ok (.putfield 56, 3) := by decide +kernel
theorem dX3_tick_23 : decode cX3_tick 23 = .ok (.aload_n 0, 1) := by decide +kernel
theorem dX3_tick_24 : decode cX3_tick 24 = .ok (.aload_n 0, 1) := by decide +kernel
theorem dX3_tick_25 : decode cX3_tick 25 = .ok (.getfield 34, 3) := by decide +kernel
theorem dX3_tick_28 : decode cX3_tick 28 = .ok (.bipush 23, 2) := by decide +kernel
theorem dX3_tick_30 : decode cX3_tick 30 = .ok (.if_icmp .lt 7, 3) := by decide +kernel
theorem dX3_tick_33 : decode cX3_tick 33 = .ok (.iconst 0, 1) := by decide +kernel
theorem dX3_tick_34 : decode cX3_tick 34 = .ok (.goto 9, 3) := by decide +kernel
theorem dX3_tick_37 : decode cX3_tick 37 = .ok (.aload_n 0, 1) := by decide +kernel
theorem dX3_tick_38 : decode cX3_tick 38 = .ok (.getfield 34, 3) := by decide +kernel
theorem dX3_tick_41 : decode cX3_tick 41 = .ok (.iconst 1, 1) := by decide +kernel
theorem dX3_tick_42 : decode cX3_tick 42 = .ok (.iadd, 1) := by decide +kernel
theorem dX3_tick_43 : decode cX3_tick 43 = .ok (.putfield 34, 3) := by decide +kernel
theorem dX3_tick_46 : decode cX3_tick 46 = .ok (.iload_n 1, 1) := by decide +kernel
theorem dX3_tick_47 : decode cX3_tick 47 = .ok (.ireturn, 1) := by decide +kernel
theorem dX3_snow_0 : decode cX3_snow 0 = .ok (.aload_n 0, 1) := by decide +kernel
theorem dX3_snow_1 : decode cX3_snow 1 = .ok (.getfield 37, 3) := by decide +kernel
theorem dX3_snow_4 : decode cX3_snow 4 = .ok (.aload_n 0, 1) := by decide +kernel
theorem dX3_snow_5 : decode cX3_snow 5 = .ok (.invokevirtual 99, 3) := by decide +kernel
theorem dX3_snow_8 : decode cX3_snow 8 = .ok (.iconst 3, 1) := by decide +kernel
theorem dX3_snow_9 : decode cX3_snow 9 = .ok (.irem, 1) := by decide +kernel
theorem dX3_snow_10 : decode cX3_snow 10 = .ok (.iadd, 1) := by decide +kernel
theorem dX3_snow_11 : decode cX3_snow 11 = .ok (.istore_n 1, 1) := by decide +kernel
theorem dX3_snow_12 : decode cX3_snow 12 = .ok (.iconst 0, 1) := by decide +kernel
theorem dX3_snow_13 : decode cX3_snow 13 = .ok (.istore_n 2, 1) := by decide +kernel
theorem dX3_snow_14 : decode cX3_snow 14 = .ok (.iload_n 2, 1) := by decide +kernel
theorem dX3_snow_15 : decode cX3_snow 15 = .ok (.bipush 30, 2) := by decide +kernel
theorem dX3_snow_17 : decode cX3_snow 17 = .ok (.if_icmp .ge 15, 3) := by decide +kernel
theorem dX3_snow_20 : decode cX3_snow 20 = .ok (.aload_n 0, 1) := by decide +kernel
theorem dX3_snow_21 : decode cX3_snow 21 = .ok (.iload_n 2, 1) := by decide +kernel
theorem dX3_snow_22 : decode cX3_snow 22 = .ok (.iload_n 1, 1) := by decide +kernel
theorem dX3_snow_23 : decode cX3_snow 23 = .ok (.invokevirtual 120, 3) := by decide +kernel
theorem dX3_snow_26 : decode cX3_snow 26 = .ok (.iinc 2 1, 3) := by decide +kernel
theorem dX3_snow_29 : decode cX3_snow 29 = .ok (.goto (-15), 3) := by decide +kernel
theorem dX3_snow_32 : decode cX3_snow 32 = .ok (.return_, 1) := by decide +kernel
theorem dX3_addLoad_0 : decode cX3_addLoad 0 = .ok (.aload_n 0, 1) := by decide +kernel
theorem dX3_addLoad_1 : decode cX3_addLoad 1 = .ok (.getfield 18, 3) := by decide +kernel
theorem dX3_addLoad_4 : decode cX3_addLoad 4 = .ok (.iload_n 1, 1) := by decide +kernel
theorem dX3_addLoad_5 : decode cX3_addLoad 5 = .ok (.aload_n 0, 1) := by decide +kernel
theorem dX3_addLoad_6 : decode cX3_addLoad 6 = .ok (.getfield 18, 3) := by decide +kernel
theorem dX3_addLoad_9 : decode cX3_addLoad 9 = .ok (.iload_n 1, 1) := by decide +kernel
theorem dX3_addLoad_10 : decode cX3_addLoad 10 = .ok (.iaload, 1) := by decide +kernel
theorem dX3_addLoad_11 : decode cX3_addLoad 11 = .ok (.iload_n 2, 1) := by decide +kernel
theorem dX3_addLoad_12 : decode cX3_addLoad 12 = .ok (.iadd, 1) := by decide +kernel
theorem dX3_addLoad_13 : decode cX3_addLoad 13 = .ok (.sipush 999, 3) := by decide +kernel
theorem dX3_addLoad_16 : decode cX3_addLoad 16 = .ok (.invokestatic 124, 3) := by decide +kernel
theorem dX3_addLoad_19 : decode cX3_addLoad 19 = .ok (.iastore, 1) := by decide +kernel
theorem dX3_addLoad_20 : decode cX3_addLoad 20 = .ok (.return_, 1) := by decide +kernel
theorem dX3_drift_0 : decode cX3_drift 0 = .ok (.bipush 29, 2) := by decide +kernel
theorem dX3_drift_2 : decode cX3_drift 2 = .ok (.istore_n 1, 1) := by decide +kernel
theorem dX3_drift_3 : decode cX3_drift 3 = .ok (.iload_n 1, 1) := by decide +kernel
theorem dX3_drift_4 : decode cX3_drift 4 = .ok (.ifCond .lt 71, 3) := by decide +kernel
theorem dX3_drift_7 : decode cX3_drift 7 = .ok (.aload_n 0, 1) := by decide +kernel
theorem dX3_drift_8 : decode cX3_drift 8 = .ok (.getfield 9, 3) := by decide +kernel
theorem dX3_drift_11 : decode cX3_drift 11 = .ok (.iload_n 1, 1) := by decide +kernel
theorem dX3_drift_12 : decode cX3_drift 12 = .ok (.iaload, 1) := by decide +kernel
theorem dX3_drift_13 : decode cX3_drift 13 = .ok (.iconst 5, 1) := by decide +kernel
theorem dX3_drift_14 : decode cX3_drift 14 = .ok (.if_icmp .eq 55, 3) := by decide +kernel
theorem dX3_drift_17 : decode cX3_drift 17 = .ok (.aload_n 0, 1) := by decide +kernel
theorem dX3_drift_18 : decode cX3_drift 18 = .ok (.getfield 18, 3) := by decide +kernel
theorem dX3_drift_21 : decode cX3_drift 21 = .ok (.iload_n 1, 1) := by decide +kernel
theorem dX3_drift_22 : decode cX3_drift 22 = .ok (.iaload, 1) := by decide +kernel
theorem dX3_drift_23 : decode cX3_drift 23 = .ok (.bipush 20, 2) := by decide +kernel
theorem dX3_drift_25 : decode cX3_drift 25 = .ok (.if_icmp .le 44, 3) := by decide +kernel
theorem dX3_drift_28 : decode cX3_drift 28 = .ok (.aload_n 0, 1) := by decide +kernel
theorem dX3_drift_29 : decode cX3_drift 29 = .ok (.getfield 18, 3) := by decide +kernel
theorem dX3_drift_32 : decode cX3_drift 32 = .ok (.iload_n 1, 1) := by decide +kernel
theorem dX3_drift_33 : decode cX3_drift 33 = .ok (.iaload, 1) := by decide +kernel
theorem dX3_drift_34 : decode cX3_drift 34 = .ok (.bipush 20, 2) := by decide +kernel
theorem dX3_drift_36 : decode cX3_drift 36 = .ok (.isub, 1) := by decide +kernel
theorem dX3_drift_37 : decode cX3_drift 37 = .ok (.bipush 10, 2) := by decide +kernel
theorem dX3_drift_39 : decode cX3_drift 39 = .ok (.idiv, 1) := by decide +kernel
theorem dX3_drift_40 : decode cX3_drift 40 = .ok (.istore_n 2, 1) := by decide +kernel
theorem dX3_drift_41 : decode cX3_drift 41 = .ok (.aload_n 0, 1) := by decide +kernel
theorem dX3_drift_42 : decode cX3_drift 42 = .ok (.getfield 18, 3) := by decide +kernel
theorem dX3_drift_45 : decode cX3_drift 45 = .ok (.iload_n 1, 1) := by decide +kernel
theorem dX3_drift_46 : decode cX3_drift 46 = .ok (.dup2, 1) := by decide +kernel
theorem dX3_drift_47 : decode cX3_drift 47 = .ok (.iaload, 1) := by decide +kernel
theorem dX3_drift_48 : decode cX3_drift 48 = .ok (.iload_n 2, 1) := by decide +kernel
theorem dX3_drift_49 : decode cX3_drift 49 = .ok (.isub, 1) := by decide +kernel
theorem dX3_drift_50 : decode cX3_drift 50 = .ok (.iastore, 1) := by decide +kernel
theorem dX3_drift_51 : decode cX3_drift 51 = .ok (.iload_n 1, 1) := by decide +kernel
theorem dX3_drift_52 : decode cX3_drift 52 = .ok (.iconst 1, 1) := by decide +kernel
theorem dX3_drift_53 : decode cX3_drift 53 = .ok (.invokestatic 127, 3) := by decide +kernel
theorem dX3_drift_56 : decode cX3_drift 56 = .ok (.istore_n 3, 1) := by decide +kernel
theorem dX3_drift_57 : decode cX3_drift 57 = .ok (.iload_n 3, 1) := by decide +kernel
theorem dX3_drift_58 : decode cX3_drift 58 = .ok (.ldc 73, 2) := by decide +kernel
theorem dX3_drift_60 : decode cX3_drift 60 = .ok (.if_icmp .eq 9, 3) := by decide +kernel
theorem dX3_drift_63 : decode cX3_drift 63 = .ok (.aload_n 0, 1) := by decide +kernel
theorem dX3_drift_64 : decode cX3_drift 64 = .ok (.iload_n 3, 1) := by decide +kernel
theorem dX3_drift_65 : decode cX3_drift 65 = .ok (.iload_n 2, 1) := by decide +kernel
theorem dX3_drift_66 : decode cX3_drift 66 = .ok (.invokevirtual 120, 3) := by decide +kernel
theorem dX3_drift_69 : decode cX3_drift 69 = .ok (.iinc 1 (-1), 3) := by decide +kernel
theorem dX3_drift_72 : decode cX3_drift 72 = .ok (.goto (-69), 3) := by decide +kernel
theorem dX3_drift_75 : decode cX3_drift 75 = .ok (.return_, 1) := by decide +kernel
theorem dX3_slide_0 : decode cX3_slide 0 = .ok (.iconst 0, 1) := by decide +kernel
theorem dX3_slide_1 : decode cX3_slide 1 = .ok (.istore_n 1, 1) := by decide +kernel
theorem dX3_slide_2 : decode cX3_slide 2 = .ok (.aload_n 0, 1) := by decide +kernel
theorem dX3_slide_3 : decode cX3_slide 3 = .ok (.invokevirtual 89, 3) := by decide +kernel
theorem dX3_slide_6 : decode cX3_slide 6 = .ok (.istore_n 2, 1) := by decide +kernel
theorem dX3_slide_7 : decode cX3_slide 7 = .ok (.iconst 4, 1) := by decide +kernel
theorem dX3_slide_8 : decode cX3_slide 8 = .ok (.istore_n 3, 1) := by decide +kernel
theorem dX3_slide_9 : decode cX3_slide 9 = .ok (.iload_n 3, 1) := by decide +kernel
theorem dX3_slide_10 : decode cX3_slide 10 = .ok (.ifCond .lt 109, 3) := by decide +kernel
theorem dX3_slide_13 : decode cX3_slide 13 = .ok (.iconst 0, 1) := by decide +kernel
theorem dX3_slide_14 : decode cX3_slide 14 = .ok (.istore 4, 2) := by decide +kernel
theorem dX3_slide_16 : decode cX3_slide 16 = .ok (.iload 4, 2) := by decide +kernel
theorem dX3_slide_18 : decode cX3_slide 18 = .ok (.bipush 6, 2) := by decide +kernel
theorem dX3_slide_20 : decode cX3_slide 20 = .ok (.if_icmp .ge 93, 3) := by decide +kernel
theorem dX3_slide_23 : decode cX3_slide 23 = .ok (.iload_n 3, 1) := by decide +kernel
theorem dX3_slide_24 : decode cX3_slide 24 = .ok (.bipush 6, 2) := by decide +kernel
theorem dX3_slide_26 : decode cX3_slide 26 = .ok (.imul, 1) := by decide +kernel
theorem dX3_slide_27 : decode cX3_slide 27 = .ok (.iload 4, 2) := by decide +kernel
theorem dX3_slide_29 : decode cX3_slide 29 = .ok (.iadd, 1) := by decide +kernel
theorem dX3_slide_30 : decode cX3_slide 30 = .ok (.istore 5, 2) := by decide +kernel
theorem dX3_slide_32 : decode cX3_slide 32 = .ok (.aload_n 0, 1) := by decide +kernel
theorem dX3_slide_33 : decode cX3_slide 33 = .ok (.getfield 15, 3) := by decide +kernel
theorem dX3_slide_36 : decode cX3_slide 36 = .ok (.iload 5, 2) := by decide +kernel
theorem dX3_slide_38 : decode cX3_slide 38 = .ok (.iaload, 1) := by decide +kernel
theorem dX3_slide_39 : decode cX3_slide 39 = .ok (.bipush 30, 2) := by decide +kernel
theorem dX3_slide_41 : decode cX3_slide 41 = .ok (.if_icmp .lt 66, 3) := by decide +kernel
theorem dX3_slide_44 : decode cX3_slide 44 = .ok (.aload_n 0, 1) := by decide +kernel
theorem dX3_slide_45 : decode cX3_slide 45 = .ok (.getfield 18, 3) := by decide +kernel
theorem dX3_slide_48 : decode cX3_slide 48 = .ok (.iload 5, 2) := by decide +kernel
theorem dX3_slide_50 : decode cX3_slide 50 = .ok (.iaload, 1) := by decide +kernel
theorem dX3_slide_51 : decode cX3_slide 51 = .ok (.aload_n 0, 1) := by decide +kernel
theorem dX3_slide_52 : decode cX3_slide 52 = .ok (.getfield 9, 3) := by decide +kernel
theorem dX3_slide_55 : decode cX3_slide 55 = .ok (.iload 5, 2) := by decide +kernel
theorem dX3_slide_57 : decode cX3_slide 57 = .ok (.iaload, 1) := by decide +kernel
theorem dX3_slide_58 : decode cX3_slide 58 = .ok (.aload_n 0, 1) := by decide +kernel
theorem dX3_slide_59 : decode cX3_slide 59 = .ok (.getfield 27, 3) := by decide +kernel
theorem dX3_slide_62 : decode cX3_slide 62 = .ok (.iload 5, 2) := by decide +kernel
theorem dX3_slide_64 : decode cX3_slide 64 = .ok (.iaload, 1) := by decide +kernel
theorem dX3_slide_65 : decode cX3_slide 65 = .ok (.iload_n 2, 1) := by decide +kernel
theorem dX3_slide_66 : decode cX3_slide 66 = .ok (.invokestatic 130, 3) := by decide +kernel
theorem dX3_slide_69 : decode cX3_slide 69 = .ok (.if_icmp .le 38, 3) := by decide +kernel
theorem dX3_slide_72 : decode cX3_slide 72 = .ok (.iinc 1 1, 3) := by decide +kernel
theorem dX3_slide_75 : decode cX3_slide 75 = .ok (.iload_n 3, 1) := by decide +kernel
theorem dX3_slide_76 : decode cX3_slide 76 = .ok (.ifCond .le 23, 3) := by decide +kernel
theorem dX3_slide_79 : decode cX3_slide 79 = .ok (.aload_n 0, 1) := by decide +kernel
theorem dX3_slide_80 : decode cX3_slide 80 = .ok (.getfield 18, 3) := by decide +kernel
theorem dX3_slide_83 : decode cX3_slide 83 = .ok (.iload 5, 2) := by decide +kernel
theorem dX3_slide_85 : decode cX3_slide 85 = .ok (.bipush 6, 2) := by decide +kernel
theorem dX3_slide_87 : decode cX3_slide 87 = .ok (.isub, 1) := by decide +kernel
theorem dX3_slide_88 : decode cX3_slide 88 = .ok (.dup2, 1) := by decide +kernel
theorem dX3_slide_89 : decode cX3_slide 89 = .ok (.iaload, 1) := by decide +kernel
theorem dX3_slide_90 : decode cX3_slide 90 = .ok (.aload_n 0, 1) := by decide +kernel
theorem dX3_slide_91 : decode cX3_slide 91 = .ok (.getfield 18, 3) := by decide +kernel
theorem dX3_slide_94 : decode cX3_slide 94 = .ok (.iload 5, 2) := by decide +kernel
theorem dX3_slide_96 : decode cX3_slide 96 = .ok (.iaload, 1) := by decide +kernel
theorem dX3_slide_97 : decode cX3_slide 97 = .ok (.iadd, 1) := by decide +kernel
theorem dX3_slide_98 : decode cX3_slide 98 = .ok (.iastore, 1) := by decide +kernel
theorem dX3_slide_99 : decode cX3_slide 99 = .ok (.aload_n 0, 1) := by decide +kernel
theorem dX3_slide_100 : decode cX3_slide 100 = .ok (.getfield 18, 3) := by decide +kernel
theorem dX3_slide_103 : decode cX3_slide 103 = .ok (.iload 5, 2) := by decide +kernel
theorem dX3_slide_105 : decode cX3_slide 105 = .ok (.iconst 0, 1) := by decide +kernel
theorem dX3_slide_106 : decode cX3_slide 106 = .ok (.iastore, 1) := by decide +kernel
theorem dX3_slide_107 : decode cX3_slide 107 = .ok (.iinc 4 1, 3) := by decide +kernel
theorem dX3_slide_110 : decode cX3_slide 110 = .ok (.goto (-94), 3) := by decide +kernel
theorem dX3_slide_113 : decode cX3_slide 113 = .ok (.iinc 3 (-1), 3) := by decide +kernel
theorem dX3_slide_116 : decode cX3_slide 116 = .ok (.goto (-107), 3) := by decide +kernel
theorem dX3_slide_119 : decode cX3_slide 119 = .ok (.iconst 0, 1) := by decide +kernel
theorem dX3_slide_120 : decode cX3_slide 120 = .ok (.istore_n 3, 1) := by decide +kernel
theorem dX3_slide_121 : decode cX3_slide 121 = .ok (.iload_n 3, 1) := by decide +kernel
theorem dX3_slide_122 : decode cX3_slide 122 = .ok (.bipush 30, 2) := by decide +kernel
theorem dX3_slide_124 : decode cX3_slide 124 = .ok (.if_icmp .ge 15, 3) := by decide +kernel
theorem dX3_slide_127 : decode cX3_slide 127 = .ok (.aload_n 0, 1) := by decide +kernel
theorem dX3_slide_128 : decode cX3_slide 128 = .ok (.iload_n 3, 1) := by decide +kernel
theorem dX3_slide_129 : decode cX3_slide 129 = .ok (.iconst 0, 1) := by decide +kernel
theorem dX3_slide_130 : decode cX3_slide 130 = .ok (.invokevirtual 120, 3) := by decide +kernel
theorem dX3_slide_133 : decode cX3_slide 133 = .ok (.iinc 3 1, 3) := by decide +kernel
theorem dX3_slide_136 : decode cX3_slide 136 = .ok (.goto (-15), 3) := by decide +kernel
theorem dX3_slide_139 : decode cX3_slide 139 = .ok (.iload_n 1, 1) := by decide +kernel
theorem dX3_slide_140 : decode cX3_slide 140 = .ok (.ireturn, 1) := by decide +kernel
theorem dX3_trackRisk_0 : decode cX3_trackRisk 0 = .ok (.aload_n 0, 1) := by decide +kernel
theorem dX3_trackRisk_1 : decode cX3_trackRisk 1 = .ok (.invokevirtual 133, 3) := by decide +kernel
theorem dX3_trackRisk_4 : decode cX3_trackRisk 4 = .ok (.iconst 0, 1) := by decide +kernel
theorem dX3_trackRisk_5 : decode cX3_trackRisk 5 = .ok (.istore_n 1, 1) := by decide +kernel
theorem dX3_trackRisk_6 : decode cX3_trackRisk 6 = .ok (.iconst 1, 1) := by decide +kernel
theorem dX3_trackRisk_7 : decode cX3_trackRisk 7 = .ok (.istore_n 2, 1) := by decide +kernel
theorem dX3_trackRisk_8 : decode cX3_trackRisk 8 = .ok (.iload_n 2, 1) := by decide +kernel
theorem dX3_trackRisk_9 : decode cX3_trackRisk 9 = .ok (.aload_n 0, 1) := by decide +kernel
theorem dX3_trackRisk_10 : decode cX3_trackRisk 10 = .ok (.getfield 53, 3) := by decide +kernel
theorem dX3_trackRisk_13 : decode cX3_trackRisk 13 = .ok (.if_icmp .ge 23, 3) := by decide +kernel
theorem dX3_trackRisk_16 : decode cX3_trackRisk 16 = .ok (.iload_n 1, 1) := by decide +kernel
theorem dX3_trackRisk_17 : decode cX3_trackRisk 17 = .ok (.aload_n 0, 1) := by decide +kernel
theorem dX3_trackRisk_18 : decode cX3_trackRisk 18 = .ok (.getfield 24, 3) := by decide +kernel
theorem dX3_trackRisk_21 : decode cX3_trackRisk 21 = .ok (.aload_n 0, 1) := by decide +kernel
theorem dX3_trackRisk_22 : decode cX3_trackRisk 22 = .ok (.getfield 21, 3) := by decide +kernel
theorem dX3_trackRisk_25 : decode cX3_trackRisk 25 = .ok (.iload_n 2, 1) := by decide +kernel
theorem dX3_trackRisk_26 : decode cX3_trackRisk 26 = .ok (.iaload, 1) := by decide +kernel
theorem dX3_trackRisk_27 : decode cX3_trackRisk 27 = .ok (.iaload, 1) := by decide +kernel
theorem dX3_trackRisk_28 : decode cX3_trackRisk 28 = .ok (.iadd, 1) := by decide +kernel
theorem dX3_trackRisk_29 : decode cX3_trackRisk 29 = .ok (.istore_n 1, 1) := by decide +kernel
theorem dX3_trackRisk_30 : decode cX3_trackRisk 30 = .ok (.iinc 2 1, 3) := by decide +kernel
theorem dX3_trackRisk_33 : decode cX3_trackRisk 33 = .ok (.goto (-25), 3) := by decide +kernel
theorem dX3_trackRisk_36 : decode cX3_trackRisk 36 = .ok (.iload_n 1, 1) := by decide +kernel
theorem dX3_trackRisk_37 : decode cX3_trackRisk 37 = .ok (.ireturn, 1) := by decide +kernel
theorem dX3_trackBreath_0 : decode cX3_trackBreath 0 = .ok (.iconst 0, 1) := by decide +kernel
theorem dX3_trackBreath_1 : decode cX3_trackBreath 1 = .ok (.istore_n 1, 1) := by decide +kernel
theorem dX3_trackBreath_2 : decode cX3_trackBreath 2 = .ok (.iconst 1, 1) := by decide +kernel
theorem dX3_trackBreath_3 : decode cX3_trackBreath 3 = .ok (.istore_n 2, 1) := by decide +kernel
theorem dX3_trackBreath_4 : decode cX3_trackBreath 4 = .ok (.iload_n 2, 1) := by decide +kernel
theorem dX3_trackBreath_5 : decode cX3_trackBreath 5 = .ok (.aload_n 0, 1) := by decide +kernel
theorem dX3_trackBreath_6 : decode cX3_trackBreath 6 = .ok (.getfield 53, 3) := by decide +kernel
theorem dX3_trackBreath_9 : decode cX3_trackBreath 9 = .ok (.if_icmp .ge 30, 3) := by decide +kernel
theorem dX3_trackBreath_12 : decode cX3_trackBreath 12 = .ok (.iload_n 1, 1) := by decide +kernel
theorem dX3_trackBreath_13 : decode cX3_trackBreath 13 = .ok (.aload_n 0, 1) := by decide +kernel
theorem dX3_trackBreath_14 : decode cX3_trackBreath 14 = .ok (.aload_n 0, 1) := by decide +kernel
theorem dX3_trackBreath_15 : decode cX3_trackBreath 15 = .ok (.getfield 21, 3) := by decide +kernel
theorem dX3_trackBreath_18 : decode cX3_trackBreath 18 = .ok (.iload_n 2, 1) := by decide +kernel
theorem dX3_trackBreath_19 : decode cX3_trackBreath 19 = .ok (.iconst 1, 1) := by decide +kernel
theorem dX3_trackBreath_20 : decode cX3_trackBreath 20 = .ok (.isub, 1) := by decide +kernel
theorem dX3_trackBreath_21 : decode cX3_trackBreath 21 = .ok (.iaload, 1) := by decide +kernel
theorem dX3_trackBreath_22 : decode cX3_trackBreath 22 = .ok (.aload_n 0, 1) := by decide +kernel
theorem dX3_trackBreath_23 : decode cX3_trackBreath 23 = .ok (.getfield 21, 3) := by decide +kernel
theorem dX3_trackBreath_26 : decode cX3_trackBreath 26 = .ok (.iload_n 2, 1) := by decide +kernel
theorem dX3_trackBreath_27 : decode cX3_trackBreath 27 = .ok (.iaload, 1) := by decide +kernel
theorem dX3_trackBreath_28 : decode cX3_trackBreath 28 = .ok (.invokevirtual 136, 3) := by decide +kernel
theorem dX3_trackBreath_31 : decode cX3_trackBreath 31 = .ok (.iadd, 1) := by decide +kernel
theorem dX3_trackBreath_32 : decode cX3_trackBreath 32 = .ok (.istore_n 1, 1) := by decide +kernel
theorem dX3_trackBreath_33 : decode cX3_trackBreath 33 = .ok (.iinc 2 1, 3) := by decide +kernel
theorem dX3_trackBreath_36 : decode cX3_trackBreath 36 = .ok (.goto (-32), 3) := by decide +kernel
theorem dX3_trackBreath_39 : decode cX3_trackBreath 39 = .ok (.iload_n 1, 1) := by decide +kernel
theorem dX3_trackBreath_40 : decode cX3_trackBreath 40 = .ok (.ireturn, 1) := by decide +kernel
theorem dX3_trackTurns_0 : decode cX3_trackTurns 0 = .ok (.iconst 0, 1) := by decide +kernel
theorem dX3_trackTurns_1 : decode cX3_trackTurns 1 = .ok (.istore_n 1, 1) := by decide +kernel
theorem dX3_trackTurns_2 : decode cX3_trackTurns 2 = .ok (.iconst 2, 1) := by decide +kernel
theorem dX3_trackTurns_3 : decode cX3_trackTurns 3 = .ok (.istore_n 2, 1) := by decide +kernel
theorem dX3_trackTurns_4 : decode cX3_trackTurns 4 = .ok (.iload_n 2, 1) := by decide +kernel
theorem dX3_trackTurns_5 : decode cX3_trackTurns 5 = .ok (.aload_n 0, 1) := by decide +kernel
theorem dX3_trackTurns_6 : decode cX3_trackTurns 6 = .ok (.getfield 53, 3) := by decide +kernel
theorem dX3_trackTurns_9 : decode cX3_trackTurns 9 = .ok (.if_icmp .ge 47, 3) := by decide +kernel
theorem dX3_trackTurns_12 : decode cX3_trackTurns 12 = .ok (.aload_n 0, 1) := by decide +kernel
theorem dX3_trackTurns_13 : decode cX3_trackTurns 13 = .ok (.getfield 21, 3) := by decide +kernel
theorem dX3_trackTurns_16 : decode cX3_trackTurns 16 = .ok (.iload_n 2, 1) := by decide +kernel
theorem dX3_trackTurns_17 : decode cX3_trackTurns 17 = .ok (.iaload, 1) := by decide +kernel
theorem dX3_trackTurns_18 : decode cX3_trackTurns 18 = .ok (.aload_n 0, 1) := by decide +kernel
theorem dX3_trackTurns_19 : decode cX3_trackTurns 19 = .ok (.getfield 21, 3) := by decide +kernel
theorem dX3_trackTurns_22 : decode cX3_trackTurns 22 = .ok (.iload_n 2, 1) := by decide +kernel
theorem dX3_trackTurns_23 : decode cX3_trackTurns 23 = .ok (.iconst 1, 1) := by decide +kernel
theorem dX3_trackTurns_24 : decode cX3_trackTurns 24 = .ok (.isub, 1) := by decide +kernel
theorem dX3_trackTurns_25 : decode cX3_trackTurns 25 = .ok (.iaload, 1) := by decide +kernel
theorem dX3_trackTurns_26 : decode cX3_trackTurns 26 = .ok (.isub, 1) := by decide +kernel
theorem dX3_trackTurns_27 : decode cX3_trackTurns 27 = .ok (.aload_n 0, 1) := by decide +kernel
theorem dX3_trackTurns_28 : decode cX3_trackTurns 28 = .ok (.getfield 21, 3) := by decide +kernel
theorem dX3_trackTurns_31 : decode cX3_trackTurns 31 = .ok (.iload_n 2, 1) := by decide +kernel
theorem dX3_trackTurns_32 : decode cX3_trackTurns 32 = .ok (.iconst 1, 1) := by decide +kernel
theorem dX3_trackTurns_33 : decode cX3_trackTurns 33 = .ok (.isub, 1) := by decide +kernel
theorem dX3_trackTurns_34 : decode cX3_trackTurns 34 = .ok (.iaload, 1) := by decide +kernel
theorem dX3_trackTurns_35 : decode cX3_trackTurns 35 = .ok (.aload_n 0, 1) := by decide +kernel
theorem dX3_trackTurns_36 : decode cX3_trackTurns 36 = .ok (.getfield 21, 3) := by decide +kernel
theorem dX3_trackTurns_39 : decode cX3_trackTurns 39 = .ok (.iload_n 2, 1) := by decide +kernel
theorem dX3_trackTurns_40 : decode cX3_trackTurns 40 = .ok (.iconst 2, 1) := by decide +kernel
theorem dX3_trackTurns_41 : decode cX3_trackTurns 41 = .ok (.isub, 1) := by decide +kernel
theorem dX3_trackTurns_42 : decode cX3_trackTurns 42 = .ok (.iaload, 1) := by decide +kernel
theorem dX3_trackTurns_43 : decode cX3_trackTurns 43 = .ok (.isub, 1) := by decide +kernel
theorem dX3_trackTurns_44 : decode cX3_trackTurns 44 = .ok (.if_icmp .eq 6, 3) := by decide +kernel
theorem dX3_trackTurns_47 : decode cX3_trackTurns 47 = .ok (.iinc 1 1, 3) := by decide +kernel
theorem dX3_trackTurns_50 : decode cX3_trackTurns 50 = .ok (.iinc 2 1, 3) := by decide +kernel
theorem dX3_trackTurns_53 : decode cX3_trackTurns 53 = .ok (.goto (-49), 3) := by decide +kernel
theorem dX3_trackTurns_56 : decode cX3_trackTurns 56 = .ok (.iload_n 1, 1) := by decide +kernel
theorem dX3_trackTurns_57 : decode cX3_trackTurns 57 = .ok (.ireturn, 1) := by decide +kernel
theorem dX3_trackSteepest_0 : decode cX3_trackSteepest 0 = .ok (.iconst 0, 1) := by decide +kernel
theorem dX3_trackSteepest_1 : decode cX3_trackSteepest 1 = .ok (.istore_n 1, 1) := by decide +kernel
theorem dX3_trackSteepest_2 : decode cX3_trackSteepest 2 = .ok (.iconst 0, 1) := by decide +kernel
theorem dX3_trackSteepest_3 : decode cX3_trackSteepest 3 = .ok (.istore_n 2, 1) := by decide +kernel
theorem dX3_trackSteepest_4 : decode cX3_trackSteepest 4 = .ok (.iload_n 2, 1) := by decide +kernel
theorem dX3_trackSteepest_5 : decode cX3_trackSteepest 5 = .ok (.aload_n 0, 1) := by decide +kernel
theorem dX3_trackSteepest_6 : decode cX3_trackSteepest 6 = .ok (.getfield 53, 3) := by decide +kernel
theorem dX3_trackSteepest_9 : decode cX3_trackSteepest 9 = .ok (.if_icmp .ge 25, 3) := by decide +kernel
theorem dX3_trackSteepest_12 : decode cX3_trackSteepest 12 = .ok (.iload_n 1, 1) := by decide +kernel
theorem dX3_trackSteepest_13 : decode cX3_trackSteepest 13 = .ok (.aload_n 0, 1) := by decide +kernel
theorem dX3_trackSteepest_14 : decode cX3_trackSteepest 14 = .ok (.getfield 15, 3) := by decide +kernel
theorem dX3_trackSteepest_17 : decode cX3_trackSteepest 17 = .ok (.aload_n 0, 1) := by decide +kernel
theorem dX3_trackSteepest_18 : decode cX3_trackSteepest 18 = .ok (.getfield 21, 3) := by decide +kernel
theorem dX3_trackSteepest_21 : decode cX3_trackSteepest 21 = .ok (.iload_n 2, 1) := by decide +kernel
theorem dX3_trackSteepest_22 : decode cX3_trackSteepest 22 = .ok (.iaload, 1) := by decide +kernel
theorem dX3_trackSteepest_23 : decode cX3_trackSteepest 23 = .ok (.iaload, 1) := by decide +kernel
theorem dX3_trackSteepest_24 : decode cX3_trackSteepest 24 = .ok (.invokestatic 62, 3) := by decide +kernel
theorem dX3_trackSteepest_27 : decode cX3_trackSteepest 27 = .ok (.istore_n 1, 1) := by decide +kernel
theorem dX3_trackSteepest_28 : decode cX3_trackSteepest 28 = .ok (.iinc 2 1, 3) := by decide +kernel
theorem dX3_trackSteepest_31 : decode cX3_trackSteepest 31 = .ok (.goto (-27), 3) := by decide +kernel
theorem dX3_trackSteepest_34 : decode cX3_trackSteepest 34 = .ok (.iload_n 1, 1) := by decide +kernel
theorem dX3_trackSteepest_35 : decode cX3_trackSteepest 35 = .ok (.ireturn, 1) := by decide +kernel
theorem dX3_trackRiskiest_0 : decode cX3_trackRiskiest 0 = .ok (.aload_n 0, 1) := by decide +kernel
theorem dX3_trackRiskiest_1 : decode cX3_trackRiskiest 1 = .ok (.invokevirtual 133, 3) := by decide +kernel
theorem dX3_trackRiskiest_4 : decode cX3_trackRiskiest 4 = .ok (.iconst 0, 1) := by decide +kernel
theorem dX3_trackRiskiest_5 : decode cX3_trackRiskiest 5 = .ok (.istore_n 1, 1) := by decide +kernel
theorem dX3_trackRiskiest_6 : decode cX3_trackRiskiest 6 = .ok (.iconst 0, 1) := by decide +kernel
theorem dX3_trackRiskiest_7 : decode cX3_trackRiskiest 7 = .ok (.istore_n 2, 1) := by decide +kernel
theorem dX3_trackRiskiest_8 : decode cX3_trackRiskiest 8 = .ok (.iload_n 2, 1) := by decide +kernel
theorem dX3_trackRiskiest_9 : decode cX3_trackRiskiest 9 = .ok (.aload_n 0, 1) := by decide +kernel
theorem dX3_trackRiskiest_10 : decode cX3_trackRiskiest 10 = .ok (.getfield 53, 3) := by decide +kernel
theorem dX3_trackRiskiest_13 : decode cX3_trackRiskiest 13 = .ok (.if_icmp .ge 25, 3) := by decide +kernel
theorem dX3_trackRiskiest_16 : decode cX3_trackRiskiest 16 = .ok (.iload_n 1, 1) := by decide +kernel
theorem dX3_trackRiskiest_17 : decode cX3_trackRiskiest 17 = .ok (.aload_n 0, 1) := by decide +kernel
theorem dX3_trackRiskiest_18 : decode cX3_trackRiskiest 18 = .ok (.getfield 24, 3) := by decide +kernel
theorem dX3_trackRiskiest_21 : decode cX3_trackRiskiest 21 = .ok (.aload_n 0, 1) := by decide +kernel
theorem dX3_trackRiskiest_22 : decode cX3_trackRiskiest 22 = .ok (.getfield 21, 3) := by decide +kernel
theorem dX3_trackRiskiest_25 : decode cX3_trackRiskiest 25 = .ok (.iload_n 2, 1) := by decide +kernel
theorem dX3_trackRiskiest_26 : decode cX3_trackRiskiest 26 = .ok (.iaload, 1) := by decide +kernel
theorem dX3_trackRiskiest_27 : decode cX3_trackRiskiest 27 = .ok (.iaload, 1) := by decide +kernel
theorem dX3_trackRiskiest_28 : decode cX3_trackRiskiest 28 = .ok (.invokestatic 62, 3) := by decide +kernel
theorem dX3_trackRiskiest_31 : decode cX3_trackRiskiest 31 = .ok (.istore_n 1, 1) := by decide +kernel
theorem dX3_trackRiskiest_32 : decode cX3_trackRiskiest 32 = .ok (.iinc 2 1, 3) := by decide +kernel
theorem dX3_trackRiskiest_35 : decode cX3_trackRiskiest 35 = .ok (.goto (-27), 3) := by decide +kernel
theorem dX3_trackRiskiest_38 : decode cX3_trackRiskiest 38 = .ok (.iload_n 1, 1) := by decide +kernel
theorem dX3_trackRiskiest_39 : decode cX3_trackRiskiest 39 = .ok (.ireturn, 1) := by decide +kernel
theorem dX4_init_0 : decode cX4_init 0 = .ok (.aload_n 0, 1) := by decide +kernel
theorem dX4_init_1 : decode cX4_init 1 = .ok (.invokespecial 3, 3) := by decide +kernel
theorem dX4_init_4 : decode cX4_init 4 = .ok (.aload_n 0, 1) := by decide +kernel
theorem dX4_init_5 : decode cX4_init 5 = .ok (.new 9, 3) := by decide +kernel
theorem dX4_init_8 : decode cX4_init 8 = .ok (.dup, 1) := by decide +kernel
theorem dX4_init_9 : decode cX4_init 9 = .ok (.invokespecial 11, 3) := by decide +kernel
theorem dX4_init_12 : decode cX4_init 12 = .ok (.putfield 12, 3) := by decide +kernel
theorem dX4_init_15 : decode cX4_init 15 = .ok (.aload_n 0, 1) := by decide +kernel
theorem dX4_init_16 : decode cX4_init 16 = .ok (.aload_n 1, 1) := by decide +kernel
theorem dX4_init_17 : decode cX4_init 17 = .ok (.putfield 18, 3) := by decide +kernel
theorem dX4_init_20 : decode cX4_init 20 = .ok (.return_, 1) := by decide +kernel
theorem dX4_faultOfTape_0 : decode cX4_faultOfTape 0 = .ok (.aload_n 0, 1) := by decide +kernel
theorem dX4_faultOfTape_1 : decode cX4_faultOfTape 1 = .ok (.getfield 12, 3) := by decide +kernel
theorem dX4_faultOfTape_4 : decode cX4_faultOfTape 4 = .ok (.invokevirtual 22, 3) := by decide +kernel
theorem dX4_faultOfTape_7 : decode cX4_faultOfTape 7 = .ok (.aload_n 0, 1) := by decide +kernel
theorem dX4_faultOfTape_8 : decode cX4_faultOfTape 8 = .ok (.iconst 0, 1) := by decide +kernel
theorem dX4_faultOfTape_9 : decode cX4_faultOfTape 9 = .ok (.putfield 25, 3) := by decide +kernel
theorem dX4_faultOfTape_12 : decode cX4_faultOfTape 12 = .ok (.aload_n 0, 1) := by decide +kernel
theorem dX4_faultOfTape_13 : decode cX4_faultOfTape 13 = .ok (.ldc 29, 2) := by decide +kernel
theorem dX4_faultOfTape_15 : decode cX4_faultOfTape 15 = .ok (.putfield 30, 3) := by decide +kernel
theorem dX4_faultOfTape_18 : decode cX4_faultOfTape 18 = .ok (.aload_n 0, 1) := by decide +kernel
theorem dX4_faultOfTape_19 : decode cX4_faultOfTape 19 = .ok (.invokevirtual 33, 3) := by decide +kernel
theorem dX4_faultOfTape_22 : decode cX4_faultOfTape 22 = .ok (.aload_n 0, 1) := by decide +kernel
theorem dX4_faultOfTape_23 : decode cX4_faultOfTape 23 = .ok (.iconst 0, 1) := by decide +kernel
theorem dX4_faultOfTape_24 : decode cX4_faultOfTape 24 = .ok (.iconst 0, 1) := by decide +kernel
theorem dX4_faultOfTape_25 : decode cX4_faultOfTape 25 = .ok (.iconst 0, 1) := by decide +kernel
theorem dX4_faultOfTape_26 : decode cX4_faultOfTape 26 = .ok (.invokevirtual 36, 3) := by decide +kernel
theorem dX4_faultOfTape_29 : decode cX4_faultOfTape 29 = .ok (.aload_n 0, 1) := by decide +kernel
theorem dX4_faultOfTape_30 : decode cX4_faultOfTape 30 = .ok (.getfield 30, 3) := by decide +kernel
theorem dX4_faultOfTape_33 : decode cX4_faultOfTape 33 = .ok (.ldc 29, 2) := by decide +kernel
theorem dX4_faultOfTape_35 : decode cX4_faultOfTape 35 = .ok (.if_icmp .ne 20, 3) := by decide +kernel
theorem dX4_faultOfTape_38 : decode cX4_faultOfTape 38 = .ok (.aload_n 0, 1) := by decide +kernel
theorem dX4_faultOfTape_39 : decode cX4_faultOfTape 39 = .ok (.invokevirtual 40, 3) := by decide +kernel
theorem dX4_faultOfTape_42 : decode cX4_faultOfTape 42 = .ok (.ldc 29, 2) := by decide +kernel
theorem dX4_faultOfTape_44 : decode cX4_faultOfTape 44 = .ok (.if_icmp .eq 11, 3) := by decide +kernel
theorem dX4_faultOfTape_47 : decode cX4_faultOfTape 47 = .ok (.aload_n 0, 1) := by decide +kernel
theorem dX4_faultOfTape_48 : decode cX4_faultOfTape 48 = .ok (.aload_n 0, 1) := by decide +kernel
theorem dX4_faultOfTape_49 : decode cX4_faultOfTape 49 = .ok (.getfield 25, 3) := by decide +kernel
theorem dX4_faultOfTape_52 : decode cX4_faultOfTape 52 = .ok (.putfield 30, 3) := by decide +kernel
theorem dX4_faultOfTape_55 : decode cX4_faultOfTape 55 = .ok (.aload_n 0, 1) := by decide +kernel
theorem dX4_faultOfTape_56 : decode cX4_faultOfTape 56 = .ok (.getfield 30, 3) := by decide +kernel
theorem dX4_faultOfTape_59 : decode cX4_faultOfTape 59 = .ok (.ireturn, 1) := by decide +kernel
theorem dX4_nextByte_0 : decode cX4_nextByte 0 = .ok (.aload_n 0, 1) := by decide +kernel
theorem dX4_nextByte_1 : decode cX4_nextByte 1 = .ok (.getfield 25, 3) := by decide +kernel
theorem dX4_nextByte_4 : decode cX4_nextByte 4 = .ok (.aload_n 0, 1) := by decide +kernel
theorem dX4_nextByte_5 : decode cX4_nextByte 5 = .ok (.getfield 18, 3) := by decide +kernel
theorem dX4_nextByte_8 : decode cX4_nextByte 8 = .ok (.getfield 44, 3) := by decide +kernel
theorem dX4_nextByte_11 : decode cX4_nextByte 11 = .ok (.if_icmp .ge 33, 3) := by decide +kernel
theorem dX4_nextByte_14 : decode cX4_nextByte 14 = .ok (.aload_n 0, 1) := by decide +kernel
theorem dX4_nextByte_15 : decode cX4_nextByte 15 = .ok (.getfield 18, 3) := by decide +kernel
theorem dX4_nextByte_18 : decode cX4_nextByte 18 = .ok (.getfield 49, 3) := by decide +kernel
theorem dX4_nextByte_21 : decode cX4_nextByte 21 = .ok (.aload_n 0, 1) := by decide +kernel
theorem dX4_nextByte_22 : decode cX4_nextByte 22 = .ok (.getfield 25, 3) := by decide +kernel
theorem dX4_nextByte_25 : decode cX4_nextByte 25 = .ok (.iaload, 1) := by decide +kernel
theorem dX4_nextByte_26 : decode cX4_nextByte 26 = .ok (.bipush 32, 2) := by decide +kernel
theorem dX4_nextByte_28 : decode cX4_nextByte 28 = .ok (.if_icmp .ne 16, 3) := by decide +kernel
theorem dX4_nextByte_31 : decode cX4_nextByte 31 = .ok (.aload_n 0, 1) := by decide +kernel
theorem dX4_nextByte_32 : decode cX4_nextByte 32 = .ok (.dup, 1) := by decide +kernel
theorem dX4_nextByte_33 : decode cX4_nextByte 33 = .ok (.getfield 25, 3) := by decide +kernel
theorem dX4_nextByte_36 : decode cX4_nextByte 36 = .ok (.iconst 1, 1) := by decide +kernel
theorem dX4_nextByte_37 : decode cX4_nextByte 37 = .ok (.iadd, 1) := by decide +kernel
theorem dX4_nextByte_38 : decode cX4_nextByte 38 = .ok (.putfield 25, 3) := by decide +kernel
theorem dX4_nextByte_41 : decode cX4_nextByte 41 = .ok (.goto (-41), 3) := by decide +kernel
theorem dX4_nextByte_44 : decode cX4_nextByte 44 = .ok (.aload_n 0, 1) := by decide +kernel
theorem dX4_nextByte_45 : decode cX4_nextByte 45 = .ok (.getfield 18, 3) := by decide +kernel
theorem dX4_nextByte_48 : decode cX4_nextByte 48 = .ok (.aload_n 0, 1) := by decide +kernel
theorem dX4_nextByte_49 : decode cX4_nextByte 49 = .ok (.getfield 25, 3) := by decide +kernel
theorem dX4_nextByte_52 : decode cX4_nextByte 52 = .ok (.invokevirtual 53, 3) := by decide +kernel
theorem dX4_nextByte_55 : decode cX4_nextByte 55 = .ok (.ireturn, 1) := by decide +kernel
theorem dX4_readKey_0 : decode cX4_readKey 0 = .ok (.aload_n 0, 1) := by decide +kernel
theorem dX4_readKey_1 : decode cX4_readKey 1 = .ok (.invokevirtual 40, 3) := by decide +kernel
theorem dX4_readKey_4 : decode cX4_readKey 4 = .ok (.pop, 1) := by decide +kernel
theorem dX4_readKey_5 : decode cX4_readKey 5 = .ok (.aload_n 0, 1) := by decide +kernel
theorem dX4_readKey_6 : decode cX4_readKey 6 = .ok (.aload_n 0, 1) := by decide +kernel
theorem dX4_readKey_7 : decode cX4_readKey 7 = .ok (.getfield 18, 3) := by decide +kernel
theorem dX4_readKey_10 : decode cX4_readKey 10 = .ok (.aload_n 0, 1) := by decide +kernel
theorem dX4_readKey_11 : decode cX4_readKey 11 = .ok (.getfield 25, 3) := by decide +kernel
theorem dX4_readKey_14 : decode cX4_readKey 14 = .ok (.invokevirtual 57, 3) := by decide +kernel
theorem dX4_readKey_17 : decode cX4_readKey 17 = .ok (.putfield 60, 3) := by decide +kernel
theorem dX4_readKey_20 : decode cX4_readKey 20 = .ok (.aload_n 0, 1) := by decide +kernel
theorem dX4_readKey_21 : decode cX4_readKey 21 = .ok (.ldc 63, 2) := by decide +kernel
theorem dX4_readKey_23 : decode cX4_readKey 23 = .ok (.invokevirtual 65, 3) := by decide +kernel
theorem dX4_readKey_26 : decode cX4_readKey 26 = .ok (.ifCond .eq 14, 3) := by decide +kernel
theorem dX4_readKey_29 : decode cX4_readKey 29 = .ok (.aload_n 0, 1) := by decide +kernel
theorem dX4_readKey_30 : decode cX4_readKey 30 = .ok (.getfield 12, 3) := by decide +kernel
theorem dX4_readKey_33 : decode cX4_readKey 33 = .ok (.iconst 0, 1) := by decide +kernel
theorem dX4_readKey_34 : decode cX4_readKey 34 = .ok (.putfield 69, 3) := by decide +kernel
theorem dX4_readKey_37 : decode cX4_readKey 37 = .ok (.goto 52, 3) := by decide +kernel
theorem dX4_readKey_40 : decode cX4_readKey 40 = .ok (.aload_n 0, 1) := by decide +kernel
theorem dX4_readKey_41 : decode cX4_readKey 41 = .ok (.ldc 72, 2) := by decide +kernel
theorem dX4_readKey_43 : decode cX4_readKey 43 = .ok (.invokevirtual 65, 3) := by decide +kernel
theorem dX4_readKey_46 : decode cX4_readKey 46 = .ok (.ifCond .eq 14, 3) := by decide +kernel
theorem dX4_readKey_49 : decode cX4_readKey 49 = .ok (.aload_n 0, 1) := by decide +kernel
theorem dX4_readKey_50 : decode cX4_readKey 50 = .ok (.getfield 12, 3) := by decide +kernel
theorem dX4_readKey_53 : decode cX4_readKey 53 = .ok (.iconst 1, 1) := by decide +kernel
theorem dX4_readKey_54 : decode cX4_readKey 54 = .ok (.putfield 69, 3) := by decide +kernel
theorem dX4_readKey_57 : decode cX4_readKey 57 = .ok (.goto 32, 3) := by decide +kernel
theorem dX4_readKey_60 : decode cX4_readKey 60 = .ok (.aload_n 0, 1) := by decide +kernel
theorem dX4_readKey_61 : decode cX4_readKey 61 = .ok (.ldc 74, 2) := by decide +kernel
theorem dX4_readKey_63 : decode cX4_readKey 63 = .ok (.invokevirtual 65, 3) := by decide +kernel
theorem dX4_readKey_66 : decode cX4_readKey 66 = .ok (.ifCond .eq 14, 3) := by decide +kernel
theorem dX4_readKey_69 : decode cX4_readKey 69 = .ok (.aload_n 0, 1) := by decide +kernel
theorem dX4_readKey_70 : decode cX4_readKey 70 = .ok (.getfield 12, 3) := by decide +kernel
theorem dX4_readKey_73 : decode cX4_readKey 73 = .ok (.iconst 2, 1) := by decide +kernel
theorem dX4_readKey_74 : decode cX4_readKey 74 = .ok (.putfield 69, 3) := by decide +kernel
theorem dX4_readKey_77 : decode cX4_readKey 77 = .ok (.goto 12, 3) := by decide +kernel
theorem dX4_readKey_80 : decode cX4_readKey 80 = .ok (.aload_n 0, 1) := by decide +kernel
theorem dX4_readKey_81 : decode cX4_readKey 81 = .ok (.aload_n 0, 1) := by decide +kernel
theorem dX4_readKey_82 : decode cX4_readKey 82 = .ok (.getfield 25, 3) := by decide +kernel
theorem dX4_readKey_85 : decode cX4_readKey 85 = .ok (.putfield 30, 3) := by decide +kernel
theorem dX4_readKey_88 : decode cX4_readKey 88 = .ok (.return_, 1) := by decide +kernel
theorem dX4_readKey_89 : decode cX4_readKey 89 = .ok (.aload_n 0, 1) := by decide +kernel
theorem dX4_readKey_90 : decode cX4_readKey 90 = .ok (.aload_n 0, 1) := by decide +kernel
theorem dX4_readKey_91 : decode cX4_readKey 91 = .ok (.getfield 60, 3) := by decide +kernel
theorem dX4_readKey_94 : decode cX4_readKey 94 = .ok (.putfield 25, 3) := by decide +kernel
theorem dX4_readKey_97 : decode cX4_readKey 97 = .ok (.return_, 1) := by decide +kernel
theorem dX4_isWord_0 : decode cX4_isWord 0 = .ok (.aload_n 0, 1) := by decide +kernel
theorem dX4_isWord_1 : decode cX4_isWord 1 = .ok (.getfield 60, 3) := by decide +kernel
theorem dX4_isWord_4 : decode cX4_isWord 4 = .ok (.aload_n 0, 1) := by decide +kernel
theorem dX4_isWord_5 : decode cX4_isWord 5 = .ok (.getfield 25, 3) := by decide +kernel
theorem dX4_isWord_8 : decode cX4_isWord 8 = .ok (.isub, 1) := by decide +kernel
theorem dX4_isWord_9 : decode cX4_isWord 9 = .ok (.aload_n 1, 1) := by decide +kernel
theorem dX4_isWord_10 : decode cX4_isWord 10 = .ok (.invokevirtual 76, 3) := by decide +kernel
theorem dX4_isWord_13 : decode cX4_isWord 13 = .ok (.if_icmp .eq 5, 3) := by decide +kernel
theorem dX4_isWord_16 : decode cX4_isWord 16 = .ok (.iconst 0, 1) := by decide +kernel
theorem dX4_isWord_17 : decode cX4_isWord 17 = .ok (.ireturn, 1) := by decide +kernel
theorem dX4_isWord_18 : decode cX4_isWord 18 = .ok (.iconst 0, 1) := by decide +kernel
theorem dX4_isWord_19 : decode cX4_isWord 19 = .ok (.istore_n 2, 1) := by decide +kernel
theorem dX4_isWord_20 : decode cX4_isWord 20 = .ok (.iload_n 2, 1) := by decide +kernel
theorem dX4_isWord_21 : decode cX4_isWord 21 = .ok (.aload_n 1, 1) := by decide +kernel
theorem dX4_isWord_22 : decode cX4_isWord 22 = .ok (.invokevirtual 76, 3) := by decide +kernel
theorem dX4_isWord_25 : decode cX4_isWord 25 = .ok (.if_icmp .ge 32, 3) := by decide +kernel
theorem dX4_isWord_28 : decode cX4_isWord 28 = .ok (.aload_n 0, 1) := by decide +kernel
theorem dX4_isWord_29 : decode cX4_isWord 29 = .ok (.getfield 18, 3) := by decide +kernel
theorem dX4_isWord_32 : decode cX4_isWord 32 = .ok (.aload_n 0, 1) := by decide +kernel
theorem dX4_isWord_33 : decode cX4_isWord 33 = .ok (.getfield 25, 3) := by decide +kernel
theorem dX4_isWord_36 : decode cX4_isWord 36 = .ok (.iload_n 2, 1) := by decide +kernel
theorem dX4_isWord_37 : decode cX4_isWord 37 = .ok (.iadd, 1) := by decide +kernel
theorem dX4_isWord_38 : decode cX4_isWord 38 = .ok (.invokevirtual 53, 3) := by decide +kernel
theorem dX4_isWord_41 : decode cX4_isWord 41 = .ok (.aload_n 1, 1) := by decide +kernel
theorem dX4_isWord_42 : decode cX4_isWord 42 = .ok (.iload_n 2, 1) := by decide +kernel
theorem dX4_isWord_43 : decode cX4_isWord 43 = .ok (.invokevirtual 80, 3) := by decide +kernel
theorem dX4_isWord_46 : decode cX4_isWord 46 = .ok (.if_icmp .eq 5, 3) := by decide +kernel
theorem dX4_isWord_49 : decode cX4_isWord 49 = .ok (.iconst 0, 1) := by decide +kernel
theorem dX4_isWord_50 : decode cX4_isWord 50 = .ok (.ireturn, 1) := by decide +kernel
theorem dX4_isWord_51 : decode cX4_isWord 51 = .ok (.iinc 2 1, 3) := by decide +kernel
theorem dX4_isWord_54 : decode cX4_isWord 54 = .ok (.goto (-34), 3) := by decide +kernel
theorem dX4_isWord_57 : decode cX4_isWord 57 = .ok (.iconst 1, 1) := by decide +kernel
theorem dX4_isWord_58 : decode cX4_isWord 58 = .ok (.ireturn, 1) := by decide +kernel
theorem dX4_readLevel_0 : decode cX4_readLevel 0 = .ok (.iload_n 1, 1) := by decide +kernel
theorem dX4_readLevel_1 : decode cX4_readLevel 1 = .ok (.iconst 5, 1) := by decide +kernel
theorem dX4_readLevel_2 : decode cX4_readLevel 2 = .ok (.if_icmp .lt 10, 3) := by decide +kernel
theorem dX4_readLevel_5 : decode cX4_readLevel 5 = .ok (.aload_n 0, 1) := by decide +kernel
theorem dX4_readLevel_6 : decode cX4_readLevel 6 = .ok (.iload_n 2, 1) := by decide +kernel
theorem dX4_readLevel_7 : decode cX4_readLevel 7 = .ok (.iload_n 3, 1) := by decide +kernel
theorem dX4_readLevel_8 : decode cX4_readLevel 8 = .ok (.invokevirtual 84, 3) := by decide +kernel
theorem dX4_readLevel_11 : decode cX4_readLevel 11 = .ok (.return_, 1) := by decide +kernel
theorem dX4_readLevel_12 : decode cX4_readLevel 12 = .ok (.aload_n 0, 1) := by decide +kernel
theorem dX4_readLevel_13 : decode cX4_readLevel 13 = .ok (.iload_n 1, 1) := by decide +kernel
theorem dX4_readLevel_14 : decode cX4_readLevel 14 = .ok (.iconst 1, 1) := by decide +kernel
theorem dX4_readLevel_15 : decode cX4_readLevel 15 = .ok (.iadd, 1) := by decide +kernel
theorem dX4_readLevel_16 : decode cX4_readLevel 16 = .ok (.iload_n 2, 1) := by decide +kernel
theorem dX4_readLevel_17 : decode cX4_readLevel 17 = .ok (.iload_n 3, 1) := by decide +kernel
theorem dX4_readLevel_18 : decode cX4_readLevel 18 = .ok (.invokevirtual 36, 3) := by decide +kernel
theorem dX4_readLevel_21 : decode cX4_readLevel 21 = .ok (.iload_n 1, 1) := by decide +kernel
theorem dX4_readLevel_22 : decode cX4_readLevel 22 = .ok (.iconst 2, 1) := by decide +kernel
theorem dX4_readLevel_23 : decode cX4_readLevel 23 = .ok (.if_icmp .ne 7, 3) := by decide +kernel
theorem dX4_readLevel_26 : decode cX4_readLevel 26 = .ok (.iconst 1, 1) := by decide +kernel
theorem dX4_readLevel_27 : decode cX4_readLevel 27 = .ok (.goto 5, 3) := by decide +kernel
theorem dX4_readLevel_30 : decode cX4_readLevel 30 = .ok (.bipush 96, 2) := by decide +kernel
theorem dX4_readLevel_32 : decode cX4_readLevel 32 = .ok (.istore 4, 2) := by decide +kernel
theorem dX4_readLevel_34 : decode cX4_readLevel 34 = .ok (.iconst 0, 1) := by decide +kernel
theorem dX4_readLevel_35 : decode cX4_readLevel 35 = .ok (.istore 5, 2) := by decide +kernel
theorem dX4_readLevel_37 : decode cX4_readLevel 37 = .ok (.iload 5, 2) := by decide +kernel
theorem dX4_readLevel_39 : decode cX4_readLevel 39 = .ok (.iload 4, 2) := by decide +kernel
theorem dX4_readLevel_41 : decode cX4_readLevel 41 = .ok (.if_icmp .ge 64, 3) := by decide +kernel
theorem dX4_readLevel_44 : decode cX4_readLevel 44 = .ok (.aload_n 0, 1) := by decide +kernel
theorem dX4_readLevel_45 : decode cX4_readLevel 45 = .ok (.getfield 30, 3) := by decide +kernel
theorem dX4_readLevel_48 : decode cX4_readLevel 48 = .ok (.ldc 29, 2) := by decide +kernel
theorem dX4_readLevel_50 : decode cX4_readLevel 50 = .ok (.if_icmp .ne 55, 3) := by decide +kernel
theorem dX4_readLevel_53 : decode cX4_readLevel 53 = .ok (.aload_n 0, 1) := by decide +kernel
theorem dX4_readLevel_54 : decode cX4_readLevel 54 = .ok (.invokevirtual 40, 3) := by decide +kernel
theorem dX4_readLevel_57 : decode cX4_readLevel 57 = .ok (.invokestatic 88, 3) := by decide +kernel
theorem dX4_readLevel_60 : decode cX4_readLevel 60 = .ok (.iload_n 1, 1) := by decide +kernel
theorem dX4_readLevel_61 : decode cX4_readLevel 61 = .ok (.if_icmp .ne 44, 3) := by decide +kernel
theorem dX4_readLevel_64 : decode cX4_readLevel 64 = .ok (.aload_n 0, 1) := by decide +kernel
theorem dX4_readLevel_65 : decode cX4_readLevel 65 = .ok (.invokevirtual 40, 3) := by decide +kernel
theorem dX4_readLevel_68 : decode cX4_readLevel 68 = .ok (.istore 6, 2) := by decide +kernel
theorem dX4_readLevel_70 : decode cX4_readLevel 70 = .ok (.aload_n 0, 1) := by decide +kernel
theorem dX4_readLevel_71 : decode cX4_readLevel 71 = .ok (.dup, 1) := by decide +kernel
theorem dX4_readLevel_72 : decode cX4_readLevel 72 = .ok (.getfield 25, 3) := by decide +kernel
theorem dX4_readLevel_75 : decode cX4_readLevel 75 = .ok (.iconst 1, 1) := by decide +kernel
theorem dX4_readLevel_76 : decode cX4_readLevel 76 = .ok (.iadd, 1) := by decide +kernel
theorem dX4_readLevel_77 : decode cX4_readLevel 77 = .ok (.putfield 25, 3) := by decide +kernel
theorem dX4_readLevel_80 : decode cX4_readLevel 80 = .ok (.aload_n 0, 1) := by decide +kernel
theorem dX4_readLevel_81 : decode cX4_readLevel 81 = .ok (.iload_n 1, 1) := by decide +kernel
theorem dX4_readLevel_82 : decode cX4_readLevel 82 = .ok (.iconst 1, 1) := by decide +kernel
theorem dX4_readLevel_83 : decode cX4_readLevel 83 = .ok (.iadd, 1) := by decide +kernel
theorem dX4_readLevel_84 : decode cX4_readLevel 84 = .ok (.iload_n 2, 1) := by decide +kernel
theorem dX4_readLevel_85 : decode cX4_readLevel 85 = .ok (.iload_n 3, 1) := by decide +kernel
theorem dX4_readLevel_86 : decode cX4_readLevel 86 = .ok (.invokevirtual 36, 3) := by decide +kernel
theorem dX4_readLevel_89 : decode cX4_readLevel 89 = .ok (.aload_n 0, 1) := by decide +kernel
theorem dX4_readLevel_90 : decode cX4_readLevel 90 = .ok (.getfield 12, 3) := by decide +kernel
theorem dX4_readLevel_93 : decode cX4_readLevel 93 = .ok (.iload 6, 2) := by decide +kernel
theorem dX4_readLevel_95 : decode cX4_readLevel 95 = .ok (.ineg, 1) := by decide +kernel
theorem dX4_readLevel_96 : decode cX4_readLevel 96 = .ok (.invokevirtual 91, 3) := by decide +kernel
theorem dX4_readLevel_99 : decode cX4_readLevel 99 = .ok (.iinc 5 1, 3) := by decide +kernel
theorem dX4_readLevel_102 : decode cX4_readLevel 102 = .ok (.goto (-65), 3) := by decide +kernel
theorem dX4_readLevel_105 : decode cX4_readLevel 105 = .ok (.return_, 1) := by decide +kernel
theorem dX4_levelOf_0 : decode cX4_levelOf 0 = .ok (.iload_n 0, 1) := by decide +kernel
theorem dX4_levelOf_1 : decode cX4_levelOf 1 = .ok (.lookupswitch 93 #[(38, 85), (42, 91), (43, 89), (45, 89), (47, 91), (60, 87), (61, 87), (62, 87), (124, 83)], 83) := by decide +kernel
theorem dX4_levelOf_84 : decode cX4_levelOf 84 = .ok (.iconst 0, 1) := by decide +kernel
theorem dX4_levelOf_85 : decode cX4_levelOf 85 = .ok (.ireturn, 1) := by decide +kernel
theorem dX4_levelOf_86 : decode cX4_levelOf 86 = .ok (.iconst 1, 1) := by decide +kernel
theorem dX4_levelOf_87 : decode cX4_levelOf 87 = .ok (.ireturn, 1) := by decide +kernel
theorem dX4_levelOf_88 : decode cX4_levelOf 88 = .ok (.iconst 2, 1) := by decide +kernel
theorem dX4_levelOf_89 : decode cX4_levelOf 89 = .ok (.ireturn, 1) := by decide +kernel
theorem dX4_levelOf_90 : decode cX4_levelOf 90 = .ok (.iconst 3, 1) := by decide +kernel
theorem dX4_levelOf_91 : decode cX4_levelOf 91 = .ok (.ireturn, 1) := by decide +kernel
theorem dX4_levelOf_92 : decode cX4_levelOf 92 = .ok (.iconst 4, 1) := by decide +kernel
theorem dX4_levelOf_93 : decode cX4_levelOf 93 = .ok (.ireturn, 1) := by decide +kernel
theorem dX4_levelOf_94 : decode cX4_levelOf 94 = .ok (.ldc 29, 2) := by decide +kernel
theorem dX4_levelOf_96 : decode cX4_levelOf 96 = .ok (.ireturn, 1) := by decide +kernel
theorem dX4_readPiece_0 : decode cX4_readPiece 0 = .ok (.aload_n 0, 1) := by decide +kernel
theorem dX4_readPiece_1 : decode cX4_readPiece 1 = .ok (.getfield 30, 3) := by decide +kernel
theorem dX4_readPiece_4 : decode cX4_readPiece 4 = .ok (.ldc 29, 2) := by decide +kernel
theorem dX4_readPiece_6 : decode cX4_readPiece 6 = .ok (.if_icmp .eq 4, 3) := by decide +kernel
theorem dX4_readPiece_9 : decode cX4_readPiece 9 = .ok (.return_, 1) := by decide +kernel
theorem dX4_readPiece_10 : decode cX4_readPiece 10 = .ok (.aload_n 0, 1) := by decide +kernel
theorem dX4_readPiece_11 : decode cX4_readPiece 11 = .ok (.invokevirtual 40, 3) := by decide +kernel
theorem dX4_readPiece_14 : decode cX4_readPiece 14 = .ok (.istore_n 3, 1) := by decide +kernel
theorem dX4_readPiece_15 : decode cX4_readPiece 15 = .ok (.iload_n 3, 1) := by decide +kernel
theorem dX4_readPiece_16 : decode cX4_readPiece 16 = .ok (.bipush 40, 2) := by decide +kernel
theorem dX4_readPiece_18 : decode cX4_readPiece 18 = .ok (.if_icmp .ne 35, 3) := by decide +kernel
theorem dX4_readPiece_21 : decode cX4_readPiece 21 = .ok (.iload_n 1, 1) := by decide +kernel
theorem dX4_readPiece_22 : decode cX4_readPiece 22 = .ok (.bipush 8, 2) := by decide +kernel
theorem dX4_readPiece_24 : decode cX4_readPiece 24 = .ok (.if_icmp .ge 29, 3) := by decide +kernel
theorem dX4_readPiece_27 : decode cX4_readPiece 27 = .ok (.aload_n 0, 1) := by decide +kernel
theorem dX4_readPiece_28 : decode cX4_readPiece 28 = .ok (.dup, 1) := by decide +kernel
theorem dX4_readPiece_29 : decode cX4_readPiece 29 = .ok (.getfield 25, 3) := by decide +kernel
theorem dX4_readPiece_32 : decode cX4_readPiece 32 = .ok (.iconst 1, 1) := by decide +kernel
theorem dX4_readPiece_33 : decode cX4_readPiece 33 = .ok (.iadd, 1) := by decide +kernel
theorem dX4_readPiece_34 : decode cX4_readPiece 34 = .ok (.putfield 25, 3) := by decide +kernel
theorem dX4_readPiece_37 : decode cX4_readPiece 37 = .ok (.aload_n 0, 1) := by decide +kernel
theorem dX4_readPiece_38 : decode cX4_readPiece 38 = .ok (.iconst 0, 1) := by decide +kernel
theorem dX4_readPiece_39 : decode cX4_readPiece 39 = .ok (.iload_n 1, 1) := by decide +kernel
theorem dX4_readPiece_40 : decode cX4_readPiece 40 = .ok (.iconst 1, 1) := by decide +kernel
theorem dX4_readPiece_41 : decode cX4_readPiece 41 = .ok (.iadd, 1) := by decide +kernel
theorem dX4_readPiece_42 : decode cX4_readPiece 42 = .ok (.iload_n 2, 1) := by decide +kernel
theorem dX4_readPiece_43 : decode cX4_readPiece 43 = .ok (.invokevirtual 36, 3) := by decide +kernel
theorem dX4_readPiece_46 : decode cX4_readPiece 46 = .ok (.aload_n 0, 1) := by decide +kernel
theorem dX4_readPiece_47 : decode cX4_readPiece 47 = .ok (.invokevirtual 95, 3) := by decide +kernel
theorem dX4_readPiece_50 : decode cX4_readPiece 50 = .ok (.goto 71, 3) := by decide +kernel
theorem dX4_readPiece_53 : decode cX4_readPiece 53 = .ok (.iload_n 3, 1) := by decide +kernel
theorem dX4_readPiece_54 : decode cX4_readPiece 54 = .ok (.bipush 33, 2) := by decide +kernel
theorem dX4_readPiece_56 : decode cX4_readPiece 56 = .ok (.if_icmp .ne 39, 3) := by decide +kernel
theorem dX4_readPiece_59 : decode cX4_readPiece 59 = .ok (.iload_n 2, 1) := by decide +kernel
theorem dX4_readPiece_60 : decode cX4_readPiece 60 = .ok (.bipush 8, 2) := by decide +kernel
theorem dX4_readPiece_62 : decode cX4_readPiece 62 = .ok (.if_icmp .ge 33, 3) := by decide +kernel
theorem dX4_readPiece_65 : decode cX4_readPiece 65 = .ok (.aload_n 0, 1) := by decide +kernel
theorem dX4_readPiece_66 : decode cX4_readPiece 66 = .ok (.dup, 1) := by decide +kernel
theorem dX4_readPiece_67 : decode cX4_readPiece 67 = .ok (.getfield 25, 3) := by decide +kernel
theorem dX4_readPiece_70 : decode cX4_readPiece 70 = .ok (.iconst 1, 1) := by decide +kernel
theorem dX4_readPiece_71 : decode cX4_readPiece 71 = .ok (.iadd, 1) := by decide +kernel
theorem dX4_readPiece_72 : decode cX4_readPiece 72 = .ok (.putfield 25, 3) := by decide +kernel
theorem dX4_readPiece_75 : decode cX4_readPiece 75 = .ok (.aload_n 0, 1) := by decide +kernel
theorem dX4_readPiece_76 : decode cX4_readPiece 76 = .ok (.iload_n 1, 1) := by decide +kernel
theorem dX4_readPiece_77 : decode cX4_readPiece 77 = .ok (.iload_n 2, 1) := by decide +kernel
theorem dX4_readPiece_78 : decode cX4_readPiece 78 = .ok (.iconst 1, 1) := by decide +kernel
theorem dX4_readPiece_79 : decode cX4_readPiece 79 = .ok (.iadd, 1) := by decide +kernel
theorem dX4_readPiece_80 : decode cX4_readPiece 80 = .ok (.invokevirtual 84, 3) := by decide +kernel
theorem dX4_readPiece_83 : decode cX4_readPiece 83 = .ok (.aload_n 0, 1) := by decide +kernel
theorem dX4_readPiece_84 : decode cX4_readPiece 84 = .ok (.getfield 12, 3) := by decide +kernel
theorem dX4_readPiece_87 : decode cX4_readPiece 87 = .ok (.bipush (-33), 2) := by decide +kernel
theorem dX4_readPiece_89 : decode cX4_readPiece 89 = .ok (.invokevirtual 91, 3) := by decide +kernel
theorem dX4_readPiece_92 : decode cX4_readPiece 92 = .ok (.goto 29, 3) := by decide +kernel
theorem dX4_readPiece_95 : decode cX4_readPiece 95 = .ok (.aload_n 0, 1) := by decide +kernel
theorem dX4_readPiece_96 : decode cX4_readPiece 96 = .ok (.getfield 18, 3) := by decide +kernel
theorem dX4_readPiece_99 : decode cX4_readPiece 99 = .ok (.aload_n 0, 1) := by decide +kernel
theorem dX4_readPiece_100 : decode cX4_readPiece 100 = .ok (.getfield 25, 3) := by decide +kernel
theorem dX4_readPiece_103 : decode cX4_readPiece 103 = .ok (.invokevirtual 98, 3) := by decide +kernel
theorem dX4_readPiece_106 : decode cX4_readPiece 106 = .ok (.ifCond .eq 10, 3) := by decide +kernel
theorem dX4_readPiece_109 : decode cX4_readPiece 109 = .ok (.aload_n 0, 1) := by decide +kernel
theorem dX4_readPiece_110 : decode cX4_readPiece 110 = .ok (.invokevirtual 102, 3) := by decide +kernel
theorem dX4_readPiece_113 : decode cX4_readPiece 113 = .ok (.goto 8, 3) := by decide +kernel
theorem dX4_readPiece_116 : decode cX4_readPiece 116 = .ok (.aload_n 0, 1) := by decide +kernel
theorem dX4_readPiece_117 : decode cX4_readPiece 117 = .ok (.iload_n 3, 1) := by decide +kernel
theorem dX4_readPiece_118 : decode cX4_readPiece 118 = .ok (.invokevirtual 105, 3) := by decide +kernel
theorem dX4_readPiece_121 : decode cX4_readPiece 121 = .ok (.return_, 1) := by decide +kernel
theorem dX4_readClosing_0 : decode cX4_readClosing 0 = .ok (.aload_n 0, 1) := by decide +kernel
theorem dX4_readClosing_1 : decode cX4_readClosing 1 = .ok (.getfield 30, 3) := by decide +kernel
theorem dX4_readClosing_4 : decode cX4_readClosing 4 = .ok (.ldc 29, 2) := by decide +kernel
theorem dX4_readClosing_6 : decode cX4_readClosing 6 = .ok (.if_icmp .eq 4, 3) := by decide +kernel
theorem dX4_readClosing_9 : decode cX4_readClosing 9 = .ok (.return_, 1) := by decide +kernel
theorem dX4_readClosing_10 : decode cX4_readClosing 10 = .ok (.aload_n 0, 1) := by decide +kernel
theorem dX4_readClosing_11 : decode cX4_readClosing 11 = .ok (.invokevirtual 40, 3) := by decide +kernel
theorem dX4_readClosing_14 : decode cX4_readClosing 14 = .ok (.bipush 41, 2) := by decide +kernel
theorem dX4_readClosing_16 : decode cX4_readClosing 16 = .ok (.if_icmp .ne 16, 3) := by decide +kernel
theorem dX4_readClosing_19 : decode cX4_readClosing 19 = .ok (.aload_n 0, 1) := by decide +kernel
theorem dX4_readClosing_20 : decode cX4_readClosing 20 = .ok (.dup, 1) := by decide +kernel
theorem dX4_readClosing_21 : decode cX4_readClosing 21 = .ok (.getfield 25, 3) := by decide +kernel
theorem dX4_readClosing_24 : decode cX4_readClosing 24 = .ok (.iconst 1, 1) := by decide +kernel
theorem dX4_readClosing_25 : decode cX4_readClosing 25 = .ok (.iadd, 1) := by decide +kernel
theorem dX4_readClosing_26 : decode cX4_readClosing 26 = .ok (.putfield 25, 3) := by decide +kernel
theorem dX4_readClosing_29 : decode cX4_readClosing 29 = .ok (.goto 11, 3) := by decide +kernel
theorem dX4_readClosing_32 : decode cX4_readClosing 32 = .ok (.aload_n 0, 1) := by decide +kernel
theorem dX4_readClosing_33 : decode cX4_readClosing 33 = .ok (.aload_n 0, 1) := by decide +kernel
theorem dX4_readClosing_34 : decode cX4_readClosing 34 = .ok (.getfield 25, 3) := by decide +kernel
theorem dX4_readClosing_37 : decode cX4_readClosing 37 = .ok (.putfield 30, 3) := by decide +kernel
theorem dX4_readClosing_40 : decode cX4_readClosing 40 = .ok (.return_, 1) := by decide +kernel
theorem dX4_readNumber_0 : decode cX4_readNumber 0 = .ok (.aload_n 0, 1) := by decide +kernel
theorem dX4_readNumber_1 : decode cX4_readNumber 1 = .ok (.getfield 18, 3) := by decide +kernel
theorem dX4_readNumber_4 : decode cX4_readNumber 4 = .ok (.aload_n 0, 1) := by decide +kernel
theorem dX4_readNumber_5 : decode cX4_readNumber 5 = .ok (.getfield 25, 3) := by decide +kernel
theorem dX4_readNumber_8 : decode cX4_readNumber 8 = .ok (.invokevirtual 57, 3) := by decide +kernel
theorem dX4_readNumber_11 : decode cX4_readNumber 11 = .ok (.istore_n 1, 1) := by decide +kernel
theorem dX4_readNumber_12 : decode cX4_readNumber 12 = .ok (.aload_n 0, 1) := by decide +kernel
theorem dX4_readNumber_13 : decode cX4_readNumber 13 = .ok (.getfield 25, 3) := by decide +kernel
theorem dX4_readNumber_16 : decode cX4_readNumber 16 = .ok (.aload_n 0, 1) := by decide +kernel
theorem dX4_readNumber_17 : decode cX4_readNumber 17 = .ok (.getfield 60, 3) := by decide +kernel
theorem dX4_readNumber_20 : decode cX4_readNumber 20 = .ok (.if_icmp .eq 13, 3) := by decide +kernel
theorem dX4_readNumber_23 : decode cX4_readNumber 23 = .ok (.iload_n 1, 1) := by decide +kernel
theorem dX4_readNumber_24 : decode cX4_readNumber 24 = .ok (.aload_n 0, 1) := by decide +kernel
theorem dX4_readNumber_25 : decode cX4_readNumber 25 = .ok (.getfield 25, 3) := by decide +kernel
theorem dX4_readNumber_28 : decode cX4_readNumber 28 = .ok (.isub, 1) := by decide +kernel
theorem dX4_readNumber_29 : decode cX4_readNumber 29 = .ok (.iconst 4, 1) := by decide +kernel
theorem dX4_readNumber_30 : decode cX4_readNumber 30 = .ok (.if_icmp .le 12, 3) := by decide +kernel
theorem dX4_readNumber_33 : decode cX4_readNumber 33 = .ok (.aload_n 0, 1) := by decide +kernel
theorem dX4_readNumber_34 : decode cX4_readNumber 34 = .ok (.aload_n 0, 1) := by decide +kernel
theorem dX4_readNumber_35 : decode cX4_readNumber 35 = .ok (.getfield 25, 3) := by decide +kernel
theorem dX4_readNumber_38 : decode cX4_readNumber 38 = .ok (.putfield 30, 3) := by decide +kernel
theorem dX4_readNumber_41 : decode cX4_readNumber 41 = .ok (.return_, 1) := by decide +kernel
theorem dX4_readNumber_42 : decode cX4_readNumber 42 = .ok (.iconst 0, 1) := by decide +kernel
theorem dX4_readNumber_43 : decode cX4_readNumber 43 = .ok (.istore_n 2, 1) := by decide +kernel
theorem dX4_readNumber_44 : decode cX4_readNumber 44 = .ok (.aload_n 0, 1) := by decide +kernel
theorem dX4_readNumber_45 : decode cX4_readNumber 45 = .ok (.getfield 25, 3) := by decide +kernel
theorem dX4_readNumber_48 : decode cX4_readNumber 48 = .ok (.istore_n 3, 1) := by decide +kernel
theorem dX4_readNumber_49 : decode cX4_readNumber 49 = .ok (.iload_n 3, 1) := by decide +kernel
theorem dX4_readNumber_50 : decode cX4_readNumber 50 = .ok (.iload_n 1, 1) := by decide +kernel
theorem dX4_readNumber_51 : decode cX4_readNumber 51 = .ok (.if_icmp .ge 26, 3) := by decide +kernel
theorem dX4_readNumber_54 : decode cX4_readNumber 54 = .ok (.iload_n 2, 1) := by decide +kernel
theorem dX4_readNumber_55 : decode cX4_readNumber 55 = .ok (.bipush 10, 2) := by decide +kernel
theorem dX4_readNumber_57 : decode cX4_readNumber 57 = .ok (.imul, 1) := by decide +kernel
theorem dX4_readNumber_58 : decode cX4_readNumber 58 = .ok (.aload_n 0, 1) := by decide +kernel
theorem dX4_readNumber_59 : decode cX4_readNumber 59 = .ok (.getfield 18, 3) := by decide +kernel
theorem dX4_readNumber_62 : decode cX4_readNumber 62 = .ok (.iload_n 3, 1) := by decide +kernel
theorem dX4_readNumber_63 : decode cX4_readNumber 63 = .ok (.invokevirtual 53, 3) := by decide +kernel
theorem dX4_readNumber_66 : decode cX4_readNumber 66 = .ok (.iadd, 1) := by decide +kernel
theorem dX4_readNumber_67 : decode cX4_readNumber 67 = .ok (.bipush 48, 2) := by decide +kernel
theorem dX4_readNumber_69 : decode cX4_readNumber 69 = .ok (.isub, 1) := by decide +kernel
theorem dX4_readNumber_70 : decode cX4_readNumber 70 = .ok (.istore_n 2, 1) := by decide +kernel
theorem dX4_readNumber_71 : decode cX4_readNumber 71 = .ok (.iinc 3 1, 3) := by decide +kernel
theorem dX4_readNumber_74 : decode cX4_readNumber 74 = .ok (.goto (-25), 3) := by decide +kernel
theorem dX4_readNumber_77 : decode cX4_readNumber 77 = .ok (.aload_n 0, 1) := by decide +kernel
theorem dX4_readNumber_78 : decode cX4_readNumber 78 = .ok (.getfield 12, 3) := by decide +kernel
theorem dX4_readNumber_81 : decode cX4_readNumber 81 = .ok (.iload_n 2, 1) := by decide +kernel
theorem dX4_readNumber_82 : decode cX4_readNumber 82 = .ok (.invokevirtual 108, 3) := by decide +kernel
theorem dX4_readNumber_85 : decode cX4_readNumber 85 = .ok (.aload_n 0, 1) := by decide +kernel
theorem dX4_readNumber_86 : decode cX4_readNumber 86 = .ok (.iload_n 1, 1) := by decide +kernel
theorem dX4_readNumber_87 : decode cX4_readNumber 87 = .ok (.putfield 25, 3) := by decide +kernel
theorem dX4_readNumber_90 : decode cX4_readNumber 90 = .ok (.return_, 1) := by decide +kernel
theorem dX4_readName_0 : decode cX4_readName 0 = .ok (.aload_n 0, 1) := by decide +kernel
theorem dX4_readName_1 : decode cX4_readName 1 = .ok (.iload_n 1, 1) := by decide +kernel
theorem dX4_readName_2 : decode cX4_readName 2 = .ok (.invokevirtual 111, 3) := by decide +kernel
theorem dX4_readName_5 : decode cX4_readName 5 = .ok (.ifCond .eq 23, 3) := by decide +kernel
theorem dX4_readName_8 : decode cX4_readName 8 = .ok (.aload_n 0, 1) := by decide +kernel
theorem dX4_readName_9 : decode cX4_readName 9 = .ok (.getfield 18, 3) := by decide +kernel
theorem dX4_readName_12 : decode cX4_readName 12 = .ok (.aload_n 0, 1) := by decide +kernel
theorem dX4_readName_13 : decode cX4_readName 13 = .ok (.getfield 25, 3) := by decide +kernel
theorem dX4_readName_16 : decode cX4_readName 16 = .ok (.invokevirtual 57, 3) := by decide +kernel
theorem dX4_readName_19 : decode cX4_readName 19 = .ok (.aload_n 0, 1) := by decide +kernel
theorem dX4_readName_20 : decode cX4_readName 20 = .ok (.getfield 25, 3) := by decide +kernel
theorem dX4_readName_23 : decode cX4_readName 23 = .ok (.iconst 1, 1) := by decide +kernel
theorem dX4_readName_24 : decode cX4_readName 24 = .ok (.iadd, 1) := by decide +kernel
theorem dX4_readName_25 : decode cX4_readName 25 = .ok (.if_icmp .eq 12, 3) := by decide +kernel
theorem dX4_readName_28 : decode cX4_readName 28 = .ok (.aload_n 0, 1) := by decide +kernel
theorem dX4_readName_29 : decode cX4_readName 29 = .ok (.aload_n 0, 1) := by decide +kernel
theorem dX4_readName_30 : decode cX4_readName 30 = .ok (.getfield 25, 3) := by decide +kernel
theorem dX4_readName_33 : decode cX4_readName 33 = .ok (.putfield 30, 3) := by decide +kernel
theorem dX4_readName_36 : decode cX4_readName 36 = .ok (.return_, 1) := by decide +kernel
theorem dX4_readName_37 : decode cX4_readName 37 = .ok (.aload_n 0, 1) := by decide +kernel
theorem dX4_readName_38 : decode cX4_readName 38 = .ok (.getfield 12, 3) := by decide +kernel
theorem dX4_readName_41 : decode cX4_readName 41 = .ok (.iload_n 1, 1) := by decide +kernel
theorem dX4_readName_42 : decode cX4_readName 42 = .ok (.ineg, 1) := by decide +kernel
theorem dX4_readName_43 : decode cX4_readName 43 = .ok (.invokevirtual 108, 3) := by decide +kernel
theorem dX4_readName_46 : decode cX4_readName 46 = .ok (.aload_n 0, 1) := by decide +kernel
theorem dX4_readName_47 : decode cX4_readName 47 = .ok (.dup, 1) := by decide +kernel
theorem dX4_readName_48 : decode cX4_readName 48 = .ok (.getfield 25, 3) := by decide +kernel
theorem dX4_readName_51 : decode cX4_readName 51 = .ok (.iconst 1, 1) := by decide +kernel
theorem dX4_readName_52 : decode cX4_readName 52 = .ok (.iadd, 1) := by decide +kernel
theorem dX4_readName_53 : decode cX4_readName 53 = .ok (.putfield 25, 3) := by decide +kernel
theorem dX4_readName_56 : decode cX4_readName 56 = .ok (.return_, 1) := by decide +kernel
theorem dX4_isName_0 : decode cX4_isName 0 = .ok (.iload_n 1, 1) := by decide +kernel
theorem dX4_isName_1 : decode cX4_isName 1 = .ok (.lookupswitch 103 #[(100, 53), (108, 53), (114, 69), (115, 51), (117, 86)], 51) := by decide +kernel
theorem dX4_isName_52 : decode cX4_isName 52 = .ok (.iconst 1, 1) := by decide +kernel
theorem dX4_isName_53 : decode cX4_isName 53 = .ok (.ireturn, 1) := by decide +kernel
theorem dX4_isName_54 : decode cX4_isName 54 = .ok (.aload_n 0, 1) := by decide +kernel
theorem dX4_isName_55 : decode cX4_isName 55 = .ok (.getfield 12, 3) := by decide +kernel
theorem dX4_isName_58 : decode cX4_isName 58 = .ok (.getfield 69, 3) := by decide +kernel
theorem dX4_isName_61 : decode cX4_isName 61 = .ok (.ifCond .ne 7, 3) := by decide +kernel
theorem dX4_isName_64 : decode cX4_isName 64 = .ok (.iconst 1, 1) := by decide +kernel
theorem dX4_isName_65 : decode cX4_isName 65 = .ok (.goto 4, 3) := by decide +kernel
theorem dX4_isName_68 : decode cX4_isName 68 = .ok (.iconst 0, 1) := by decide +kernel
theorem dX4_isName_69 : decode cX4_isName 69 = .ok (.ireturn, 1) := by decide +kernel
theorem dX4_isName_70 : decode cX4_isName 70 = .ok (.aload_n 0, 1) := by decide +kernel
theorem dX4_isName_71 : decode cX4_isName 71 = .ok (.getfield 12, 3) := by decide +kernel
theorem dX4_isName_74 : decode cX4_isName 74 = .ok (.getfield 69, 3) := by decide +kernel
theorem dX4_isName_77 : decode cX4_isName 77 = .ok (.iconst 1, 1) := by decide +kernel
theorem dX4_isName_78 : decode cX4_isName 78 = .ok (.if_icmp .ne 7, 3) := by decide +kernel
theorem dX4_isName_81 : decode cX4_isName 81 = .ok (.iconst 1, 1) := by decide +kernel
theorem dX4_isName_82 : decode cX4_isName 82 = .ok (.goto 4, 3) := by decide +kernel
theorem dX4_isName_85 : decode cX4_isName 85 = .ok (.iconst 0, 1) := by decide +kernel
theorem dX4_isName_86 : decode cX4_isName 86 = .ok (.ireturn, 1) := by decide +kernel
theorem dX4_isName_87 : decode cX4_isName 87 = .ok (.aload_n 0, 1) := by decide +kernel
theorem dX4_isName_88 : decode cX4_isName 88 = .ok (.getfield 12, 3) := by decide +kernel
theorem dX4_isName_91 : decode cX4_isName 91 = .ok (.getfield 69, 3) := by decide +kernel
theorem dX4_isName_94 : decode cX4_isName 94 = .ok (.iconst 2, 1) := by decide +kernel
theorem dX4_isName_95 : decode cX4_isName 95 = .ok (.if_icmp .ne 7, 3) := by decide +kernel
theorem dX4_isName_98 : decode cX4_isName 98 = .ok (.iconst 1, 1) := by decide +kernel
theorem dX4_isName_99 : decode cX4_isName 99 = .ok (.goto 4, 3) := by decide +kernel
theorem dX4_isName_102 : decode cX4_isName 102 = .ok (.iconst 0, 1) := by decide +kernel
theorem dX4_isName_103 : decode cX4_isName 103 = .ok (.ireturn, 1) := by decide +kernel
theorem dX4_isName_104 : decode cX4_isName 104 = .ok (.iconst 0, 1) := by decide +kernel
theorem dX4_isName_105 : decode cX4_isName 105 = .ok (.ireturn, 1) := by decide +kernel
theorem dX5_init_0 : decode cX5_init 0 = .ok (.aload_n 0, 1) := by decide +kernel
theorem dX5_init_1 : decode cX5_init 1 = .ok (.invokespecial 3, 3) := by decide +kernel
theorem dX5_init_4 : decode cX5_init 4 = .ok (.aload_n 0, 1) := by decide +kernel
theorem dX5_init_5 : decode cX5_init 5 = .ok (.iconst (-1), 1) := by decide +kernel
theorem dX5_init_6 : decode cX5_init 6 = .ok (.putfield 9, 3) := by decide +kernel
theorem dX5_init_9 : decode cX5_init 9 = .ok (.aload_n 0, 1) := by decide +kernel
theorem dX5_init_10 : decode cX5_init 10 = .ok (.bipush 24, 2) := by decide +kernel
theorem dX5_init_12 : decode cX5_init 12 = .ok (.newarray .int, 2) := by decide +kernel
theorem dX5_init_14 : decode cX5_init 14 = .ok (.putfield 15, 3) := by decide +kernel
theorem dX5_init_17 : decode cX5_init 17 = .ok (.return_, 1) := by decide +kernel
theorem dX5_renew_0 : decode cX5_renew 0 = .ok (.aload_n 0, 1) := by decide +kernel
theorem dX5_renew_1 : decode cX5_renew 1 = .ok (.iload_n 1, 1) := by decide +kernel
theorem dX5_renew_2 : decode cX5_renew 2 = .ok (.putfield 9, 3) := by decide +kernel
theorem dX5_renew_5 : decode cX5_renew 5 = .ok (.aload_n 0, 1) := by decide +kernel
theorem dX5_renew_6 : decode cX5_renew 6 = .ok (.iload_n 2, 1) := by decide +kernel
theorem dX5_renew_7 : decode cX5_renew 7 = .ok (.putfield 19, 3) := by decide +kernel
theorem dX5_renew_10 : decode cX5_renew 10 = .ok (.iconst 0, 1) := by decide +kernel
theorem dX5_renew_11 : decode cX5_renew 11 = .ok (.istore_n 3, 1) := by decide +kernel
theorem dX5_renew_12 : decode cX5_renew 12 = .ok (.iload_n 3, 1) := by decide +kernel
theorem dX5_renew_13 : decode cX5_renew 13 = .ok (.bipush 24, 2) := by decide +kernel
theorem dX5_renew_15 : decode cX5_renew 15 = .ok (.if_icmp .ge 16, 3) := by decide +kernel
theorem dX5_renew_18 : decode cX5_renew 18 = .ok (.aload_n 0, 1) := by decide +kernel
theorem dX5_renew_19 : decode cX5_renew 19 = .ok (.getfield 15, 3) := by decide +kernel
theorem dX5_renew_22 : decode cX5_renew 22 = .ok (.iload_n 3, 1) := by decide +kernel
theorem dX5_renew_23 : decode cX5_renew 23 = .ok (.iconst 0, 1) := by decide +kernel
theorem dX5_renew_24 : decode cX5_renew 24 = .ok (.iastore, 1) := by decide +kernel
theorem dX5_renew_25 : decode cX5_renew 25 = .ok (.iinc 3 1, 3) := by decide +kernel
theorem dX5_renew_28 : decode cX5_renew 28 = .ok (.goto (-16), 3) := by decide +kernel
theorem dX5_renew_31 : decode cX5_renew 31 = .ok (.return_, 1) := by decide +kernel
theorem dX5_become_0 : decode cX5_become 0 = .ok (.aload_n 0, 1) := by decide +kernel
theorem dX5_become_1 : decode cX5_become 1 = .ok (.aload_n 1, 1) := by decide +kernel
theorem dX5_become_2 : decode cX5_become 2 = .ok (.getfield 9, 3) := by decide +kernel
theorem dX5_become_5 : decode cX5_become 5 = .ok (.putfield 9, 3) := by decide +kernel
theorem dX5_become_8 : decode cX5_become 8 = .ok (.aload_n 0, 1) := by decide +kernel
theorem dX5_become_9 : decode cX5_become 9 = .ok (.aload_n 1, 1) := by decide +kernel
theorem dX5_become_10 : decode cX5_become 10 = .ok (.getfield 19, 3) := by decide +kernel
theorem dX5_become_13 : decode cX5_become 13 = .ok (.putfield 19, 3) := by decide +kernel
theorem dX5_become_16 : decode cX5_become 16 = .ok (.aload_n 1, 1) := by decide +kernel
theorem dX5_become_17 : decode cX5_become 17 = .ok (.getfield 15, 3) := by decide +kernel
theorem dX5_become_20 : decode cX5_become 20 = .ok (.iconst 0, 1) := by decide +kernel
theorem dX5_become_21 : decode cX5_become 21 = .ok (.aload_n 0, 1) := by decide +kernel
theorem dX5_become_22 : decode cX5_become 22 = .ok (.getfield 15, 3) := by decide +kernel
theorem dX5_become_25 : decode cX5_become 25 = .ok (.iconst 0, 1) := by decide +kernel
theorem dX5_become_26 : decode cX5_become 26 = .ok (.bipush 24, 2) := by decide +kernel
theorem dX5_become_28 : decode cX5_become 28 = .ok (.invokestatic 22, 3) := by decide +kernel
theorem dX5_become_31 : decode cX5_become 31 = .ok (.return_, 1) := by decide +kernel
theorem dX5_hasPlace_0 : decode cX5_hasPlace 0 = .ok (.iload_n 1, 1) := by decide +kernel
theorem dX5_hasPlace_1 : decode cX5_hasPlace 1 = .ok (.iconst 0, 1) := by decide +kernel
theorem dX5_hasPlace_2 : decode cX5_hasPlace 2 = .ok (.aload_n 0, 1) := by decide +kernel
theorem dX5_hasPlace_3 : decode cX5_hasPlace 3 = .ok (.getfield 19, 3) := by decide +kernel
theorem dX5_hasPlace_6 : decode cX5_hasPlace 6 = .ok (.iconst 1, 1) := by decide +kernel
theorem dX5_hasPlace_7 : decode cX5_hasPlace 7 = .ok (.isub, 1) := by decide +kernel
theorem dX5_hasPlace_8 : decode cX5_hasPlace 8 = .ok (.invokestatic 28, 3) := by decide +kernel
theorem dX5_hasPlace_11 : decode cX5_hasPlace 11 = .ok (.ireturn, 1) := by decide +kernel
theorem dX5_hasPlaces_0 : decode cX5_hasPlaces 0 = .ok (.iload_n 2, 1) := by decide +kernel
theorem dX5_hasPlaces_1 : decode cX5_hasPlaces 1 = .ok (.ifCond .lt 29, 3) := by decide +kernel
theorem dX5_hasPlaces_4 : decode cX5_hasPlaces 4 = .ok (.iload_n 1, 1) := by decide +kernel
theorem dX5_hasPlaces_5 : decode cX5_hasPlaces 5 = .ok (.iconst 0, 1) := by decide +kernel
theorem dX5_hasPlaces_6 : decode cX5_hasPlaces 6 = .ok (.aload_n 0, 1) := by decide +kernel
theorem dX5_hasPlaces_7 : decode cX5_hasPlaces 7 = .ok (.getfield 19, 3) := by decide +kernel
theorem dX5_hasPlaces_10 : decode cX5_hasPlaces 10 = .ok (.invokestatic 28, 3) := by decide +kernel
theorem dX5_hasPlaces_13 : decode cX5_hasPlaces 13 = .ok (.ifCond .eq 17, 3) := by decide +kernel
theorem dX5_hasPlaces_16 : decode cX5_hasPlaces 16 = .ok (.iload_n 2, 1) := by decide +kernel
theorem dX5_hasPlaces_17 : decode cX5_hasPlaces 17 = .ok (.aload_n 0, 1) := by decide +kernel
theorem dX5_hasPlaces_18 : decode cX5_hasPlaces 18 = .ok (.getfield 19, 3) := by decide +kernel
theorem dX5_hasPlaces_21 : decode cX5_hasPlaces 21 = .ok (.iload_n 1, 1) := by decide +kernel
theorem dX5_hasPlaces_22 : decode cX5_hasPlaces 22 = .ok (.isub, 1) := by decide +kernel
theorem dX5_hasPlaces_23 : decode cX5_hasPlaces 23 = .ok (.if_icmp .gt 7, 3) := by decide +kernel
theorem dX5_hasPlaces_26 : decode cX5_hasPlaces 26 = .ok (.iconst 1, 1) := by decide +kernel
theorem dX5_hasPlaces_27 : decode cX5_hasPlaces 27 = .ok (.goto 4, 3) := by decide +kernel
theorem dX5_hasPlaces_30 : decode cX5_hasPlaces 30 = .ok (.iconst 0, 1) := by decide +kernel
theorem dX5_hasPlaces_31 : decode cX5_hasPlaces 31 = .ok (.ireturn, 1) := by decide +kernel
theorem dX5_isNumber_0 : decode cX5_isNumber 0 = .ok (.aload_n 0, 1) := by decide +kernel
theorem dX5_isNumber_1 : decode cX5_isNumber 1 = .ok (.getfield 15, 3) := by decide +kernel
theorem dX5_isNumber_4 : decode cX5_isNumber 4 = .ok (.iload_n 1, 1) := by decide +kernel
theorem dX5_isNumber_5 : decode cX5_isNumber 5 = .ok (.iaload, 1) := by decide +kernel
theorem dX5_isNumber_6 : decode cX5_isNumber 6 = .ok (.ldc 32, 2) := by decide +kernel
theorem dX5_isNumber_8 : decode cX5_isNumber 8 = .ok (.if_icmp .eq 7, 3) := by decide +kernel
theorem dX5_isNumber_11 : decode cX5_isNumber 11 = .ok (.iconst 1, 1) := by decide +kernel
theorem dX5_isNumber_12 : decode cX5_isNumber 12 = .ok (.goto 4, 3) := by decide +kernel
theorem dX5_isNumber_15 : decode cX5_isNumber 15 = .ok (.iconst 0, 1) := by decide +kernel
theorem dX5_isNumber_16 : decode cX5_isNumber 16 = .ok (.ireturn, 1) := by decide +kernel
theorem dX6_init_0 : decode cX6_init 0 = .ok (.aload_n 0, 1) := by decide +kernel
theorem dX6_init_1 : decode cX6_init 1 = .ok (.invokespecial 3, 3) := by decide +kernel
theorem dX6_init_4 : decode cX6_init 4 = .ok (.aload_n 0, 1) := by decide +kernel
theorem dX6_init_5 : decode cX6_init 5 = .ok (.iconst 0, 1) := by decide +kernel
theorem dX6_init_6 : decode cX6_init 6 = .ok (.putfield 9, 3) := by decide +kernel
theorem dX6_init_9 : decode cX6_init 9 = .ok (.aload_n 0, 1) := by decide +kernel
theorem dX6_init_10 : decode cX6_init 10 = .ok (.new 15, 3) := by decide +kernel
theorem dX6_init_13 : decode cX6_init 13 = .ok (.dup, 1) := by decide +kernel
theorem dX6_init_14 : decode cX6_init 14 = .ok (.invokespecial 17, 3) := by decide +kernel
theorem dX6_init_17 : decode cX6_init 17 = .ok (.putfield 18, 3) := by decide +kernel
theorem dX6_init_20 : decode cX6_init 20 = .ok (.return_, 1) := by decide +kernel
theorem dX7_init_0 : decode cX7_init 0 = .ok (.aload_n 0, 1) := by decide +kernel
theorem dX7_init_1 : decode cX7_init 1 = .ok (.invokespecial 3, 3) := by decide +kernel
theorem dX7_init_4 : decode cX7_init 4 = .ok (.aload_n 0, 1) := by decide +kernel
theorem dX7_init_5 : decode cX7_init 5 = .ok (.bipush 96, 2) := by decide +kernel
theorem dX7_init_7 : decode cX7_init 7 = .ok (.newarray .int, 2) := by decide +kernel
theorem dX7_init_9 : decode cX7_init 9 = .ok (.putfield 9, 3) := by decide +kernel
theorem dX7_init_12 : decode cX7_init 12 = .ok (.return_, 1) := by decide +kernel
theorem dX7_hasRoomFor_0 : decode cX7_hasRoomFor 0 = .ok (.aload_n 0, 1) := by decide +kernel
theorem dX7_hasRoomFor_1 : decode cX7_hasRoomFor 1 = .ok (.getfield 15, 3) := by decide +kernel
theorem dX7_hasRoomFor_4 : decode cX7_hasRoomFor 4 = .ok (.iload_n 1, 1) := by decide +kernel
theorem dX7_hasRoomFor_5 : decode cX7_hasRoomFor 5 = .ok (.iadd, 1) := by decide +kernel
theorem dX7_hasRoomFor_6 : decode cX7_hasRoomFor 6 = .ok (.bipush 96, 2) := by decide +kernel
theorem dX7_hasRoomFor_8 : decode cX7_hasRoomFor 8 = .ok (.if_icmp .gt 7, 3) := by decide +kernel
theorem dX7_hasRoomFor_11 : decode cX7_hasRoomFor 11 = .ok (.iconst 1, 1) := by decide +kernel
theorem dX7_hasRoomFor_12 : decode cX7_hasRoomFor 12 = .ok (.goto 4, 3) := by decide +kernel
theorem dX7_hasRoomFor_15 : decode cX7_hasRoomFor 15 = .ok (.iconst 0, 1) := by decide +kernel
theorem dX7_hasRoomFor_16 : decode cX7_hasRoomFor 16 = .ok (.ireturn, 1) := by decide +kernel
theorem dX7_takeInt_0 : decode cX7_takeInt 0 = .ok (.bipush 24, 2) := by decide +kernel
theorem dX7_takeInt_2 : decode cX7_takeInt 2 = .ok (.istore_n 2, 1) := by decide +kernel
theorem dX7_takeInt_3 : decode cX7_takeInt 3 = .ok (.iload_n 2, 1) := by decide +kernel
theorem dX7_takeInt_4 : decode cX7_takeInt 4 = .ok (.ifCond .lt 44, 3) := by decide +kernel
theorem dX7_takeInt_7 : decode cX7_takeInt 7 = .ok (.aload_n 0, 1) := by decide +kernel
theorem dX7_takeInt_8 : decode cX7_takeInt 8 = .ok (.getfield 15, 3) := by decide +kernel
theorem dX7_takeInt_11 : decode cX7_takeInt 11 = .ok (.bipush 96, 2) := by decide +kernel
theorem dX7_takeInt_13 : decode cX7_takeInt 13 = .ok (.if_icmp .ge 35, 3) := by decide +kernel
theorem dX7_takeInt_16 : decode cX7_takeInt 16 = .ok (.aload_n 0, 1) := by decide +kernel
theorem dX7_takeInt_17 : decode cX7_takeInt 17 = .ok (.getfield 9, 3) := by decide +kernel
theorem dX7_takeInt_20 : decode cX7_takeInt 20 = .ok (.aload_n 0, 1) := by decide +kernel
theorem dX7_takeInt_21 : decode cX7_takeInt 21 = .ok (.getfield 15, 3) := by decide +kernel
theorem dX7_takeInt_24 : decode cX7_takeInt 24 = .ok (.iload_n 1, 1) := by decide +kernel
theorem dX7_takeInt_25 : decode cX7_takeInt 25 = .ok (.iload_n 2, 1) := by decide +kernel
theorem dX7_takeInt_26 : decode cX7_takeInt 26 = .ok (.iushr, 1) := by decide +kernel
theorem dX7_takeInt_27 : decode cX7_takeInt 27 = .ok (.sipush 255, 3) := by decide +kernel
theorem dX7_takeInt_30 : decode cX7_takeInt 30 = .ok (.iand, 1) := by decide +kernel
theorem dX7_takeInt_31 : decode cX7_takeInt 31 = .ok (.iastore, 1) := by decide +kernel
theorem dX7_takeInt_32 : decode cX7_takeInt 32 = .ok (.aload_n 0, 1) := by decide +kernel
theorem dX7_takeInt_33 : decode cX7_takeInt 33 = .ok (.dup, 1) := by decide +kernel
theorem dX7_takeInt_34 : decode cX7_takeInt 34 = .ok (.getfield 15, 3) := by decide +kernel
theorem dX7_takeInt_37 : decode cX7_takeInt 37 = .ok (.iconst 1, 1) := by decide +kernel
theorem dX7_takeInt_38 : decode cX7_takeInt 38 = .ok (.iadd, 1) := by decide +kernel
theorem dX7_takeInt_39 : decode cX7_takeInt 39 = .ok (.putfield 15, 3) := by decide +kernel
theorem dX7_takeInt_42 : decode cX7_takeInt 42 = .ok (.iinc 2 (-8), 3) := by decide +kernel
theorem dX7_takeInt_45 : decode cX7_takeInt 45 = .ok (.goto (-42), 3) := by decide +kernel
theorem dX7_takeInt_48 : decode cX7_takeInt 48 = .ok (.return_, 1) := by decide +kernel
theorem dX7_byteAt_0 : decode cX7_byteAt 0 = .ok (.iload_n 1, 1) := by decide +kernel
theorem dX7_byteAt_1 : decode cX7_byteAt 1 = .ok (.aload_n 0, 1) := by decide +kernel
theorem dX7_byteAt_2 : decode cX7_byteAt 2 = .ok (.getfield 15, 3) := by decide +kernel
theorem dX7_byteAt_5 : decode cX7_byteAt 5 = .ok (.if_icmp .ge 12, 3) := by decide +kernel
theorem dX7_byteAt_8 : decode cX7_byteAt 8 = .ok (.aload_n 0, 1) := by decide +kernel
theorem dX7_byteAt_9 : decode cX7_byteAt 9 = .ok (.getfield 9, 3) := by decide +kernel
theorem dX7_byteAt_12 : decode cX7_byteAt 12 = .ok (.iload_n 1, 1) := by decide +kernel
theorem dX7_byteAt_13 : decode cX7_byteAt 13 = .ok (.iaload, 1) := by decide +kernel
theorem dX7_byteAt_14 : decode cX7_byteAt 14 = .ok (.goto 5, 3) := by decide +kernel
theorem dX7_byteAt_17 : decode cX7_byteAt 17 = .ok (.ldc 19, 2) := by decide +kernel
theorem dX7_byteAt_19 : decode cX7_byteAt 19 = .ok (.ireturn, 1) := by decide +kernel
theorem dX7_isLetterAt_0 : decode cX7_isLetterAt 0 = .ok (.aload_n 0, 1) := by decide +kernel
theorem dX7_isLetterAt_1 : decode cX7_isLetterAt 1 = .ok (.iload_n 1, 1) := by decide +kernel
theorem dX7_isLetterAt_2 : decode cX7_isLetterAt 2 = .ok (.invokevirtual 20, 3) := by decide +kernel
theorem dX7_isLetterAt_5 : decode cX7_isLetterAt 5 = .ok (.istore_n 2, 1) := by decide +kernel
theorem dX7_isLetterAt_6 : decode cX7_isLetterAt 6 = .ok (.iload_n 2, 1) := by decide +kernel
theorem dX7_isLetterAt_7 : decode cX7_isLetterAt 7 = .ok (.bipush 97, 2) := by decide +kernel
theorem dX7_isLetterAt_9 : decode cX7_isLetterAt 9 = .ok (.if_icmp .lt 13, 3) := by decide +kernel
theorem dX7_isLetterAt_12 : decode cX7_isLetterAt 12 = .ok (.iload_n 2, 1) := by decide +kernel
theorem dX7_isLetterAt_13 : decode cX7_isLetterAt 13 = .ok (.bipush 122, 2) := by decide +kernel
theorem dX7_isLetterAt_15 : decode cX7_isLetterAt 15 = .ok (.if_icmp .gt 7, 3) := by decide +kernel
theorem dX7_isLetterAt_18 : decode cX7_isLetterAt 18 = .ok (.iconst 1, 1) := by decide +kernel
theorem dX7_isLetterAt_19 : decode cX7_isLetterAt 19 = .ok (.goto 4, 3) := by decide +kernel
theorem dX7_isLetterAt_22 : decode cX7_isLetterAt 22 = .ok (.iconst 0, 1) := by decide +kernel
theorem dX7_isLetterAt_23 : decode cX7_isLetterAt 23 = .ok (.ireturn, 1) := by decide +kernel
theorem dX7_isDigitAt_0 : decode cX7_isDigitAt 0 = .ok (.aload_n 0, 1) := by decide +kernel
theorem dX7_isDigitAt_1 : decode cX7_isDigitAt 1 = .ok (.iload_n 1, 1) := by decide +kernel
theorem dX7_isDigitAt_2 : decode cX7_isDigitAt 2 = .ok (.invokevirtual 20, 3) := by decide +kernel
theorem dX7_isDigitAt_5 : decode cX7_isDigitAt 5 = .ok (.istore_n 2, 1) := by decide +kernel
theorem dX7_isDigitAt_6 : decode cX7_isDigitAt 6 = .ok (.iload_n 2, 1) := by decide +kernel
theorem dX7_isDigitAt_7 : decode cX7_isDigitAt 7 = .ok (.bipush 48, 2) := by decide +kernel
theorem dX7_isDigitAt_9 : decode cX7_isDigitAt 9 = .ok (.if_icmp .lt 13, 3) := by decide +kernel
theorem dX7_isDigitAt_12 : decode cX7_isDigitAt 12 = .ok (.iload_n 2, 1) := by decide +kernel
theorem dX7_isDigitAt_13 : decode cX7_isDigitAt 13 = .ok (.bipush 57, 2) := by decide +kernel
theorem dX7_isDigitAt_15 : decode cX7_isDigitAt 15 = .ok (.if_icmp .gt 7, 3) := by decide +kernel
theorem dX7_isDigitAt_18 : decode cX7_isDigitAt 18 = .ok (.iconst 1, 1) := by decide +kernel
theorem dX7_isDigitAt_19 : decode cX7_isDigitAt 19 = .ok (.goto 4, 3) := by decide +kernel
theorem dX7_isDigitAt_22 : decode cX7_isDigitAt 22 = .ok (.iconst 0, 1) := by decide +kernel
theorem dX7_isDigitAt_23 : decode cX7_isDigitAt 23 = .ok (.ireturn, 1) := by decide +kernel
theorem dX7_wordEnd_0 : decode cX7_wordEnd 0 = .ok (.aload_n 0, 1) := by decide +kernel
theorem dX7_wordEnd_1 : decode cX7_wordEnd 1 = .ok (.iload_n 1, 1) := by decide +kernel
theorem dX7_wordEnd_2 : decode cX7_wordEnd 2 = .ok (.invokevirtual 24, 3) := by decide +kernel
theorem dX7_wordEnd_5 : decode cX7_wordEnd 5 = .ok (.istore_n 2, 1) := by decide +kernel
theorem dX7_wordEnd_6 : decode cX7_wordEnd 6 = .ok (.iload_n 1, 1) := by decide +kernel
theorem dX7_wordEnd_7 : decode cX7_wordEnd 7 = .ok (.istore_n 3, 1) := by decide +kernel
theorem dX7_wordEnd_8 : decode cX7_wordEnd 8 = .ok (.iload_n 3, 1) := by decide +kernel
theorem dX7_wordEnd_9 : decode cX7_wordEnd 9 = .ok (.aload_n 0, 1) := by decide +kernel
theorem dX7_wordEnd_10 : decode cX7_wordEnd 10 = .ok (.getfield 15, 3) := by decide +kernel
theorem dX7_wordEnd_13 : decode cX7_wordEnd 13 = .ok (.if_icmp .ge 32, 3) := by decide +kernel
theorem dX7_wordEnd_16 : decode cX7_wordEnd 16 = .ok (.iload_n 2, 1) := by decide +kernel
theorem dX7_wordEnd_17 : decode cX7_wordEnd 17 = .ok (.ifCond .eq 14, 3) := by decide +kernel
theorem dX7_wordEnd_20 : decode cX7_wordEnd 20 = .ok (.aload_n 0, 1) := by decide +kernel
theorem dX7_wordEnd_21 : decode cX7_wordEnd 21 = .ok (.iload_n 3, 1) := by decide +kernel
theorem dX7_wordEnd_22 : decode cX7_wordEnd 22 = .ok (.invokevirtual 24, 3) := by decide +kernel
theorem dX7_wordEnd_25 : decode cX7_wordEnd 25 = .ok (.ifCond .eq 20, 3) := by decide +kernel
theorem dX7_wordEnd_28 : decode cX7_wordEnd 28 = .ok (.goto 11, 3) := by decide +kernel
theorem dX7_wordEnd_31 : decode cX7_wordEnd 31 = .ok (.aload_n 0, 1) := by decide +kernel
theorem dX7_wordEnd_32 : decode cX7_wordEnd 32 = .ok (.iload_n 3, 1) := by decide +kernel
theorem dX7_wordEnd_33 : decode cX7_wordEnd 33 = .ok (.invokevirtual 28, 3) := by decide +kernel
theorem dX7_wordEnd_36 : decode cX7_wordEnd 36 = .ok (.ifCond .eq 9, 3) := by decide +kernel
theorem dX7_wordEnd_39 : decode cX7_wordEnd 39 = .ok (.iinc 3 1, 3) := by decide +kernel
theorem dX7_wordEnd_42 : decode cX7_wordEnd 42 = .ok (.goto (-34), 3) := by decide +kernel
theorem dX7_wordEnd_45 : decode cX7_wordEnd 45 = .ok (.iload_n 3, 1) := by decide +kernel
theorem dX7_wordEnd_46 : decode cX7_wordEnd 46 = .ok (.ireturn, 1) := by decide +kernel
theorem dX8_init_0 : decode cX8_init 0 = .ok (.aload_n 0, 1) := by decide +kernel
theorem dX8_init_1 : decode cX8_init 1 = .ok (.invokespecial 3, 3) := by decide +kernel
theorem dX8_init_4 : decode cX8_init 4 = .ok (.aload_n 0, 1) := by decide +kernel
theorem dX8_init_5 : decode cX8_init 5 = .ok (.bipush 30, 2) := by decide +kernel
theorem dX8_init_7 : decode cX8_init 7 = .ok (.newarray .int, 2) := by decide +kernel
theorem dX8_init_9 : decode cX8_init 9 = .ok (.putfield 9, 3) := by decide +kernel
theorem dX8_init_12 : decode cX8_init 12 = .ok (.aload_n 0, 1) := by decide +kernel
theorem dX8_init_13 : decode cX8_init 13 = .ok (.bipush 30, 2) := by decide +kernel
theorem dX8_init_15 : decode cX8_init 15 = .ok (.newarray .int, 2) := by decide +kernel
theorem dX8_init_17 : decode cX8_init 17 = .ok (.putfield 15, 3) := by decide +kernel
theorem dX8_init_20 : decode cX8_init 20 = .ok (.return_, 1) := by decide +kernel
theorem dX8_startAt_0 : decode cX8_startAt 0 = .ok (.iconst 0, 1) := by decide +kernel
theorem dX8_startAt_1 : decode cX8_startAt 1 = .ok (.istore_n 3, 1) := by decide +kernel
theorem dX8_startAt_2 : decode cX8_startAt 2 = .ok (.iload_n 3, 1) := by decide +kernel
theorem dX8_startAt_3 : decode cX8_startAt 3 = .ok (.bipush 30, 2) := by decide +kernel
theorem dX8_startAt_5 : decode cX8_startAt 5 = .ok (.if_icmp .ge 17, 3) := by decide +kernel
theorem dX8_startAt_8 : decode cX8_startAt 8 = .ok (.aload_n 0, 1) := by decide +kernel
theorem dX8_startAt_9 : decode cX8_startAt 9 = .ok (.getfield 9, 3) := by decide +kernel
theorem dX8_startAt_12 : decode cX8_startAt 12 = .ok (.iload_n 3, 1) := by decide +kernel
theorem dX8_startAt_13 : decode cX8_startAt 13 = .ok (.ldc 18, 2) := by decide +kernel
theorem dX8_startAt_15 : decode cX8_startAt 15 = .ok (.iastore, 1) := by decide +kernel
theorem dX8_startAt_16 : decode cX8_startAt 16 = .ok (.iinc 3 1, 3) := by decide +kernel
theorem dX8_startAt_19 : decode cX8_startAt 19 = .ok (.goto (-17), 3) := by decide +kernel
theorem dX8_startAt_22 : decode cX8_startAt 22 = .ok (.aload_n 0, 1) := by decide +kernel
theorem dX8_startAt_23 : decode cX8_startAt 23 = .ok (.getfield 9, 3) := by decide +kernel
theorem dX8_startAt_26 : decode cX8_startAt 26 = .ok (.iload_n 1, 1) := by decide +kernel
theorem dX8_startAt_27 : decode cX8_startAt 27 = .ok (.iload_n 2, 1) := by decide +kernel
theorem dX8_startAt_28 : decode cX8_startAt 28 = .ok (.iastore, 1) := by decide +kernel
theorem dX8_startAt_29 : decode cX8_startAt 29 = .ok (.return_, 1) := by decide +kernel
theorem dX8_findTo_0 : decode cX8_findTo 0 = .ok (.aload_n 1, 1) := by decide +kernel
theorem dX8_findTo_1 : decode cX8_findTo 1 = .ok (.invokevirtual 19, 3) := by decide +kernel
theorem dX8_findTo_4 : decode cX8_findTo 4 = .ok (.aload_n 0, 1) := by decide +kernel
theorem dX8_findTo_5 : decode cX8_findTo 5 = .ok (.iload_n 2, 1) := by decide +kernel
theorem dX8_findTo_6 : decode cX8_findTo 6 = .ok (.iconst 0, 1) := by decide +kernel
theorem dX8_findTo_7 : decode cX8_findTo 7 = .ok (.invokevirtual 24, 3) := by decide +kernel
theorem dX8_findTo_10 : decode cX8_findTo 10 = .ok (.iconst 1, 1) := by decide +kernel
theorem dX8_findTo_11 : decode cX8_findTo 11 = .ok (.istore_n 3, 1) := by decide +kernel
theorem dX8_findTo_12 : decode cX8_findTo 12 = .ok (.iconst 0, 1) := by decide +kernel
theorem dX8_findTo_13 : decode cX8_findTo 13 = .ok (.istore 4, 2) := by decide +kernel
theorem dX8_findTo_15 : decode cX8_findTo 15 = .ok (.iload 4, 2) := by decide +kernel
theorem dX8_findTo_17 : decode cX8_findTo 17 = .ok (.bipush 30, 2) := by decide +kernel
theorem dX8_findTo_19 : decode cX8_findTo 19 = .ok (.if_icmp .ge 70, 3) := by decide +kernel
theorem dX8_findTo_22 : decode cX8_findTo 22 = .ok (.iload_n 3, 1) := by decide +kernel
theorem dX8_findTo_23 : decode cX8_findTo 23 = .ok (.ifCond .eq 66, 3) := by decide +kernel
theorem dX8_findTo_26 : decode cX8_findTo 26 = .ok (.iconst 0, 1) := by decide +kernel
theorem dX8_findTo_27 : decode cX8_findTo 27 = .ok (.istore_n 3, 1) := by decide +kernel
theorem dX8_findTo_28 : decode cX8_findTo 28 = .ok (.iconst 0, 1) := by decide +kernel
theorem dX8_findTo_29 : decode cX8_findTo 29 = .ok (.istore 5, 2) := by decide +kernel
theorem dX8_findTo_31 : decode cX8_findTo 31 = .ok (.iload 5, 2) := by decide +kernel
theorem dX8_findTo_33 : decode cX8_findTo 33 = .ok (.bipush 30, 2) := by decide +kernel
theorem dX8_findTo_35 : decode cX8_findTo 35 = .ok (.if_icmp .ge 48, 3) := by decide +kernel
theorem dX8_findTo_38 : decode cX8_findTo 38 = .ok (.aload_n 0, 1) := by decide +kernel
theorem dX8_findTo_39 : decode cX8_findTo 39 = .ok (.aload_n 1, 1) := by decide +kernel
theorem dX8_findTo_40 : decode cX8_findTo 40 = .ok (.iload 5, 2) := by decide +kernel
theorem dX8_findTo_42 : decode cX8_findTo 42 = .ok (.aload_n 0, 1) := by decide +kernel
theorem dX8_findTo_43 : decode cX8_findTo 43 = .ok (.aload_n 1, 1) := by decide +kernel
theorem dX8_findTo_44 : decode cX8_findTo 44 = .ok (.iload 5, 2) := by decide +kernel
theorem dX8_findTo_46 : decode cX8_findTo 46 = .ok (.invokevirtual 28, 3) := by decide +kernel
theorem dX8_findTo_49 : decode cX8_findTo 49 = .ok (.invokevirtual 32, 3) := by decide +kernel
theorem dX8_findTo_52 : decode cX8_findTo 52 = .ok (.istore 6, 2) := by decide +kernel
theorem dX8_findTo_54 : decode cX8_findTo 54 = .ok (.iload 6, 2) := by decide +kernel
theorem dX8_findTo_56 : decode cX8_findTo 56 = .ok (.aload_n 0, 1) := by decide +kernel
theorem dX8_findTo_57 : decode cX8_findTo 57 = .ok (.getfield 9, 3) := by decide +kernel
theorem dX8_findTo_60 : decode cX8_findTo 60 = .ok (.iload 5, 2) := by decide +kernel
theorem dX8_findTo_62 : decode cX8_findTo 62 = .ok (.iaload, 1) := by decide +kernel
theorem dX8_findTo_63 : decode cX8_findTo 63 = .ok (.if_icmp .ge 14, 3) := by decide +kernel
theorem dX8_findTo_66 : decode cX8_findTo 66 = .ok (.aload_n 0, 1) := by decide +kernel
theorem dX8_findTo_67 : decode cX8_findTo 67 = .ok (.getfield 9, 3) := by decide +kernel
theorem dX8_findTo_70 : decode cX8_findTo 70 = .ok (.iload 5, 2) := by decide +kernel
theorem dX8_findTo_72 : decode cX8_findTo 72 = .ok (.iload 6, 2) := by decide +kernel
theorem dX8_findTo_74 : decode cX8_findTo 74 = .ok (.iastore, 1) := by decide +kernel
theorem dX8_findTo_75 : decode cX8_findTo 75 = .ok (.iconst 1, 1) := by decide +kernel
theorem dX8_findTo_76 : decode cX8_findTo 76 = .ok (.istore_n 3, 1) := by decide +kernel
theorem dX8_findTo_77 : decode cX8_findTo 77 = .ok (.iinc 5 1, 3) := by decide +kernel
theorem dX8_findTo_80 : decode cX8_findTo 80 = .ok (.goto (-49), 3) := by decide +kernel
theorem dX8_findTo_83 : decode cX8_findTo 83 = .ok (.iinc 4 1, 3) := by decide +kernel
theorem dX8_findTo_86 : decode cX8_findTo 86 = .ok (.goto (-71), 3) := by decide +kernel
theorem dX8_findTo_89 : decode cX8_findTo 89 = .ok (.return_, 1) := by decide +kernel
theorem dX8_costBy_0 : decode cX8_costBy 0 = .ok (.iload_n 2, 1) := by decide +kernel
theorem dX8_costBy_1 : decode cX8_costBy 1 = .ok (.iload_n 3, 1) := by decide +kernel
theorem dX8_costBy_2 : decode cX8_costBy 2 = .ok (.invokestatic 36, 3) := by decide +kernel
theorem dX8_costBy_5 : decode cX8_costBy 5 = .ok (.istore 4, 2) := by decide +kernel
theorem dX8_costBy_7 : decode cX8_costBy 7 = .ok (.iload 4, 2) := by decide +kernel
theorem dX8_costBy_9 : decode cX8_costBy 9 = .ok (.ldc 40, 2) := by decide +kernel
theorem dX8_costBy_11 : decode cX8_costBy 11 = .ok (.if_icmp .ne 8, 3) := by decide +kernel
theorem dX8_costBy_14 : decode cX8_costBy 14 = .ok (.ldc 18, 2) := by decide +kernel
theorem dX8_costBy_16 : decode cX8_costBy 16 = .ok (.goto 23, 3) := by decide +kernel
theorem dX8_costBy_19 : decode cX8_costBy 19 = .ok (.aload_n 0, 1) := by decide +kernel
theorem dX8_costBy_20 : decode cX8_costBy 20 = .ok (.getfield 9, 3) := by decide +kernel
theorem dX8_costBy_23 : decode cX8_costBy 23 = .ok (.iload 4, 2) := by decide +kernel
theorem dX8_costBy_25 : decode cX8_costBy 25 = .ok (.iaload, 1) := by decide +kernel
theorem dX8_costBy_26 : decode cX8_costBy 26 = .ok (.aload_n 1, 1) := by decide +kernel
theorem dX8_costBy_27 : decode cX8_costBy 27 = .ok (.getfield 41, 3) := by decide +kernel
theorem dX8_costBy_30 : decode cX8_costBy 30 = .ok (.iload 4, 2) := by decide +kernel
theorem dX8_costBy_32 : decode cX8_costBy 32 = .ok (.iaload, 1) := by decide +kernel
theorem dX8_costBy_33 : decode cX8_costBy 33 = .ok (.bipush 64, 2) := by decide +kernel
theorem dX8_costBy_35 : decode cX8_costBy 35 = .ok (.imul, 1) := by decide +kernel
theorem dX8_costBy_36 : decode cX8_costBy 36 = .ok (.iadd, 1) := by decide +kernel
theorem dX8_costBy_37 : decode cX8_costBy 37 = .ok (.iconst 1, 1) := by decide +kernel
theorem dX8_costBy_38 : decode cX8_costBy 38 = .ok (.iadd, 1) := by decide +kernel
theorem dX8_costBy_39 : decode cX8_costBy 39 = .ok (.ireturn, 1) := by decide +kernel
theorem dX8_bestDirection_0 : decode cX8_bestDirection 0 = .ok (.iconst 0, 1) := by decide +kernel
theorem dX8_bestDirection_1 : decode cX8_bestDirection 1 = .ok (.istore_n 3, 1) := by decide +kernel
theorem dX8_bestDirection_2 : decode cX8_bestDirection 2 = .ok (.aload_n 0, 1) := by decide +kernel
theorem dX8_bestDirection_3 : decode cX8_bestDirection 3 = .ok (.aload_n 1, 1) := by decide +kernel
theorem dX8_bestDirection_4 : decode cX8_bestDirection 4 = .ok (.iload_n 2, 1) := by decide +kernel
theorem dX8_bestDirection_5 : decode cX8_bestDirection 5 = .ok (.iconst 0, 1) := by decide +kernel
theorem dX8_bestDirection_6 : decode cX8_bestDirection 6 = .ok (.invokevirtual 32, 3) := by decide +kernel
theorem dX8_bestDirection_9 : decode cX8_bestDirection 9 = .ok (.istore 4, 2) := by decide +kernel
theorem dX8_bestDirection_11 : decode cX8_bestDirection 11 = .ok (.iconst 1, 1) := by decide +kernel
theorem dX8_bestDirection_12 : decode cX8_bestDirection 12 = .ok (.istore 5, 2) := by decide +kernel
theorem dX8_bestDirection_14 : decode cX8_bestDirection 14 = .ok (.iload 5, 2) := by decide +kernel
theorem dX8_bestDirection_16 : decode cX8_bestDirection 16 = .ok (.iconst 4, 1) := by decide +kernel
theorem dX8_bestDirection_17 : decode cX8_bestDirection 17 = .ok (.if_icmp .ge 33, 3) := by decide +kernel
theorem dX8_bestDirection_20 : decode cX8_bestDirection 20 = .ok (.aload_n 0, 1) := by decide +kernel
theorem dX8_bestDirection_21 : decode cX8_bestDirection 21 = .ok (.aload_n 1, 1) := by decide +kernel
theorem dX8_bestDirection_22 : decode cX8_bestDirection 22 = .ok (.iload_n 2, 1) := by decide +kernel
theorem dX8_bestDirection_23 : decode cX8_bestDirection 23 = .ok (.iload 5, 2) := by decide +kernel
theorem dX8_bestDirection_25 : decode cX8_bestDirection 25 = .ok (.invokevirtual 32, 3) := by decide +kernel
theorem dX8_bestDirection_28 : decode cX8_bestDirection 28 = .ok (.istore 6, 2) := by decide +kernel
theorem dX8_bestDirection_30 : decode cX8_bestDirection 30 = .ok (.iload 6, 2) := by decide +kernel
theorem dX8_bestDirection_32 : decode cX8_bestDirection 32 = .ok (.iload 4, 2) := by decide +kernel
theorem dX8_bestDirection_34 : decode cX8_bestDirection 34 = .ok (.if_icmp .ge 10, 3) := by decide +kernel
theorem dX8_bestDirection_37 : decode cX8_bestDirection 37 = .ok (.iload 6, 2) := by decide +kernel
theorem dX8_bestDirection_39 : decode cX8_bestDirection 39 = .ok (.istore 4, 2) := by decide +kernel
theorem dX8_bestDirection_41 : decode cX8_bestDirection 41 = .ok (.iload 5, 2) := by decide +kernel
theorem dX8_bestDirection_43 : decode cX8_bestDirection 43 = .ok (.istore_n 3, 1) := by decide +kernel
theorem dX8_bestDirection_44 : decode cX8_bestDirection 44 = .ok (.iinc 5 1, 3) := by decide +kernel
theorem dX8_bestDirection_47 : decode cX8_bestDirection 47 = .ok (.goto (-33), 3) := by decide +kernel
theorem dX8_bestDirection_50 : decode cX8_bestDirection 50 = .ok (.iload_n 3, 1) := by decide +kernel
theorem dX8_bestDirection_51 : decode cX8_bestDirection 51 = .ok (.ireturn, 1) := by decide +kernel
theorem dX8_risksFrom_0 : decode cX8_risksFrom 0 = .ok (.aload_n 0, 1) := by decide +kernel
theorem dX8_risksFrom_1 : decode cX8_risksFrom 1 = .ok (.getfield 9, 3) := by decide +kernel
theorem dX8_risksFrom_4 : decode cX8_risksFrom 4 = .ok (.iload_n 1, 1) := by decide +kernel
theorem dX8_risksFrom_5 : decode cX8_risksFrom 5 = .ok (.iaload, 1) := by decide +kernel
theorem dX8_risksFrom_6 : decode cX8_risksFrom 6 = .ok (.bipush 64, 2) := by decide +kernel
theorem dX8_risksFrom_8 : decode cX8_risksFrom 8 = .ok (.idiv, 1) := by decide +kernel
theorem dX8_risksFrom_9 : decode cX8_risksFrom 9 = .ok (.ireturn, 1) := by decide +kernel
theorem dX8_stepsFrom_0 : decode cX8_stepsFrom 0 = .ok (.aload_n 0, 1) := by decide +kernel
theorem dX8_stepsFrom_1 : decode cX8_stepsFrom 1 = .ok (.getfield 9, 3) := by decide +kernel
theorem dX8_stepsFrom_4 : decode cX8_stepsFrom 4 = .ok (.iload_n 1, 1) := by decide +kernel
theorem dX8_stepsFrom_5 : decode cX8_stepsFrom 5 = .ok (.iaload, 1) := by decide +kernel
theorem dX8_stepsFrom_6 : decode cX8_stepsFrom 6 = .ok (.bipush 64, 2) := by decide +kernel
theorem dX8_stepsFrom_8 : decode cX8_stepsFrom 8 = .ok (.irem, 1) := by decide +kernel
theorem dX8_stepsFrom_9 : decode cX8_stepsFrom 9 = .ok (.ireturn, 1) := by decide +kernel
theorem dX8_breathFrom_0 : decode cX8_breathFrom 0 = .ok (.aload_n 0, 1) := by decide +kernel
theorem dX8_breathFrom_1 : decode cX8_breathFrom 1 = .ok (.iload_n 2, 1) := by decide +kernel
theorem dX8_breathFrom_2 : decode cX8_breathFrom 2 = .ok (.invokevirtual 44, 3) := by decide +kernel
theorem dX8_breathFrom_5 : decode cX8_breathFrom 5 = .ok (.istore_n 3, 1) := by decide +kernel
theorem dX8_breathFrom_6 : decode cX8_breathFrom 6 = .ok (.iconst 0, 1) := by decide +kernel
theorem dX8_breathFrom_7 : decode cX8_breathFrom 7 = .ok (.istore 4, 2) := by decide +kernel
theorem dX8_breathFrom_9 : decode cX8_breathFrom 9 = .ok (.iload_n 2, 1) := by decide +kernel
theorem dX8_breathFrom_10 : decode cX8_breathFrom 10 = .ok (.istore 5, 2) := by decide +kernel
theorem dX8_breathFrom_12 : decode cX8_breathFrom 12 = .ok (.iconst 0, 1) := by decide +kernel
theorem dX8_breathFrom_13 : decode cX8_breathFrom 13 = .ok (.istore 6, 2) := by decide +kernel
theorem dX8_breathFrom_15 : decode cX8_breathFrom 15 = .ok (.iload 6, 2) := by decide +kernel
theorem dX8_breathFrom_17 : decode cX8_breathFrom 17 = .ok (.iload_n 3, 1) := by decide +kernel
theorem dX8_breathFrom_18 : decode cX8_breathFrom 18 = .ok (.if_icmp .ge 50, 3) := by decide +kernel
theorem dX8_breathFrom_21 : decode cX8_breathFrom 21 = .ok (.iload 5, 2) := by decide +kernel
theorem dX8_breathFrom_23 : decode cX8_breathFrom 23 = .ok (.aload_n 0, 1) := by decide +kernel
theorem dX8_breathFrom_24 : decode cX8_breathFrom 24 = .ok (.aload_n 1, 1) := by decide +kernel
theorem dX8_breathFrom_25 : decode cX8_breathFrom 25 = .ok (.iload 5, 2) := by decide +kernel
theorem dX8_breathFrom_27 : decode cX8_breathFrom 27 = .ok (.invokevirtual 28, 3) := by decide +kernel
theorem dX8_breathFrom_30 : decode cX8_breathFrom 30 = .ok (.invokestatic 36, 3) := by decide +kernel
theorem dX8_breathFrom_33 : decode cX8_breathFrom 33 = .ok (.istore 7, 2) := by decide +kernel
theorem dX8_breathFrom_35 : decode cX8_breathFrom 35 = .ok (.iload 7, 2) := by decide +kernel
theorem dX8_breathFrom_37 : decode cX8_breathFrom 37 = .ok (.ldc 40, 2) := by decide +kernel
theorem dX8_breathFrom_39 : decode cX8_breathFrom 39 = .ok (.if_icmp .ne 6, 3) := by decide +kernel
theorem dX8_breathFrom_42 : decode cX8_breathFrom 42 = .ok (.iload 4, 2) := by decide +kernel
theorem dX8_breathFrom_44 : decode cX8_breathFrom 44 = .ok (.ireturn, 1) := by decide +kernel
theorem dX8_breathFrom_45 : decode cX8_breathFrom 45 = .ok (.iload 4, 2) := by decide +kernel
theorem dX8_breathFrom_47 : decode cX8_breathFrom 47 = .ok (.aload_n 1, 1) := by decide +kernel
theorem dX8_breathFrom_48 : decode cX8_breathFrom 48 = .ok (.iload 5, 2) := by decide +kernel
theorem dX8_breathFrom_50 : decode cX8_breathFrom 50 = .ok (.iload 7, 2) := by decide +kernel
theorem dX8_breathFrom_52 : decode cX8_breathFrom 52 = .ok (.invokevirtual 48, 3) := by decide +kernel
theorem dX8_breathFrom_55 : decode cX8_breathFrom 55 = .ok (.iadd, 1) := by decide +kernel
theorem dX8_breathFrom_56 : decode cX8_breathFrom 56 = .ok (.istore 4, 2) := by decide +kernel
theorem dX8_breathFrom_58 : decode cX8_breathFrom 58 = .ok (.iload 7, 2) := by decide +kernel
theorem dX8_breathFrom_60 : decode cX8_breathFrom 60 = .ok (.istore 5, 2) := by decide +kernel
theorem dX8_breathFrom_62 : decode cX8_breathFrom 62 = .ok (.iinc 6 1, 3) := by decide +kernel
theorem dX8_breathFrom_65 : decode cX8_breathFrom 65 = .ok (.goto (-50), 3) := by decide +kernel
theorem dX8_breathFrom_68 : decode cX8_breathFrom 68 = .ok (.iload 4, 2) := by decide +kernel
theorem dX8_breathFrom_70 : decode cX8_breathFrom 70 = .ok (.ireturn, 1) := by decide +kernel
theorem dX8_cellFrom_0 : decode cX8_cellFrom 0 = .ok (.iload_n 3, 1) := by decide +kernel
theorem dX8_cellFrom_1 : decode cX8_cellFrom 1 = .ok (.aload_n 0, 1) := by decide +kernel
theorem dX8_cellFrom_2 : decode cX8_cellFrom 2 = .ok (.iload_n 2, 1) := by decide +kernel
theorem dX8_cellFrom_3 : decode cX8_cellFrom 3 = .ok (.invokevirtual 44, 3) := by decide +kernel
theorem dX8_cellFrom_6 : decode cX8_cellFrom 6 = .ok (.if_icmp .le 6, 3) := by decide +kernel
theorem dX8_cellFrom_9 : decode cX8_cellFrom 9 = .ok (.ldc 40, 2) := by decide +kernel
theorem dX8_cellFrom_11 : decode cX8_cellFrom 11 = .ok (.ireturn, 1) := by decide +kernel
theorem dX8_cellFrom_12 : decode cX8_cellFrom 12 = .ok (.iload_n 2, 1) := by decide +kernel
theorem dX8_cellFrom_13 : decode cX8_cellFrom 13 = .ok (.istore 4, 2) := by decide +kernel
theorem dX8_cellFrom_15 : decode cX8_cellFrom 15 = .ok (.iconst 0, 1) := by decide +kernel
theorem dX8_cellFrom_16 : decode cX8_cellFrom 16 = .ok (.istore 5, 2) := by decide +kernel
theorem dX8_cellFrom_18 : decode cX8_cellFrom 18 = .ok (.iload 5, 2) := by decide +kernel
theorem dX8_cellFrom_20 : decode cX8_cellFrom 20 = .ok (.iload_n 3, 1) := by decide +kernel
theorem dX8_cellFrom_21 : decode cX8_cellFrom 21 = .ok (.if_icmp .ge 30, 3) := by decide +kernel
theorem dX8_cellFrom_24 : decode cX8_cellFrom 24 = .ok (.iload 4, 2) := by decide +kernel
theorem dX8_cellFrom_26 : decode cX8_cellFrom 26 = .ok (.ldc 40, 2) := by decide +kernel
theorem dX8_cellFrom_28 : decode cX8_cellFrom 28 = .ok (.if_icmp .eq 23, 3) := by decide +kernel
theorem dX8_cellFrom_31 : decode cX8_cellFrom 31 = .ok (.iload 4, 2) := by decide +kernel
theorem dX8_cellFrom_33 : decode cX8_cellFrom 33 = .ok (.aload_n 0, 1) := by decide +kernel
theorem dX8_cellFrom_34 : decode cX8_cellFrom 34 = .ok (.aload_n 1, 1) := by decide +kernel
theorem dX8_cellFrom_35 : decode cX8_cellFrom 35 = .ok (.iload 4, 2) := by decide +kernel
theorem dX8_cellFrom_37 : decode cX8_cellFrom 37 = .ok (.invokevirtual 28, 3) := by decide +kernel
theorem dX8_cellFrom_40 : decode cX8_cellFrom 40 = .ok (.invokestatic 36, 3) := by decide +kernel
theorem dX8_cellFrom_43 : decode cX8_cellFrom 43 = .ok (.istore 4, 2) := by decide +kernel
theorem dX8_cellFrom_45 : decode cX8_cellFrom 45 = .ok (.iinc 5 1, 3) := by decide +kernel
theorem dX8_cellFrom_48 : decode cX8_cellFrom 48 = .ok (.goto (-30), 3) := by decide +kernel
theorem dX8_cellFrom_51 : decode cX8_cellFrom 51 = .ok (.iload 4, 2) := by decide +kernel
theorem dX8_cellFrom_53 : decode cX8_cellFrom 53 = .ok (.ireturn, 1) := by decide +kernel
theorem dX8_leastWithin_0 : decode cX8_leastWithin 0 = .ok (.aload_n 1, 1) := by decide +kernel
theorem dX8_leastWithin_1 : decode cX8_leastWithin 1 = .ok (.invokevirtual 19, 3) := by decide +kernel
theorem dX8_leastWithin_4 : decode cX8_leastWithin 4 = .ok (.aload_n 0, 1) := by decide +kernel
theorem dX8_leastWithin_5 : decode cX8_leastWithin 5 = .ok (.iload_n 2, 1) := by decide +kernel
theorem dX8_leastWithin_6 : decode cX8_leastWithin 6 = .ok (.iconst 0, 1) := by decide +kernel
theorem dX8_leastWithin_7 : decode cX8_leastWithin 7 = .ok (.invokevirtual 24, 3) := by decide +kernel
theorem dX8_leastWithin_10 : decode cX8_leastWithin 10 = .ok (.iconst 1, 1) := by decide +kernel
theorem dX8_leastWithin_11 : decode cX8_leastWithin 11 = .ok (.istore 5, 2) := by decide +kernel
theorem dX8_leastWithin_13 : decode cX8_leastWithin 13 = .ok (.iconst 0, 1) := by decide +kernel
theorem dX8_leastWithin_14 : decode cX8_leastWithin 14 = .ok (.istore 6, 2) := by decide +kernel
theorem dX8_leastWithin_16 : decode cX8_leastWithin 16 = .ok (.iload 6, 2) := by decide +kernel
theorem dX8_leastWithin_18 : decode cX8_leastWithin 18 = .ok (.iload 4, 2) := by decide +kernel
theorem dX8_leastWithin_20 : decode cX8_leastWithin 20 = .ok (.if_icmp .ge 88, 3) := by decide +kernel
theorem dX8_leastWithin_23 : decode cX8_leastWithin 23 = .ok (.iload 5, 2) := by decide +kernel
theorem dX8_leastWithin_25 : decode cX8_leastWithin 25 = .ok (.ifCond .eq 83, 3) := by decide +kernel
theorem dX8_leastWithin_28 : decode cX8_leastWithin 28 = .ok (.aload_n 0, 1) := by decide +kernel
theorem dX8_leastWithin_29 : decode cX8_leastWithin 29 = .ok (.getfield 9, 3) := by decide +kernel
theorem dX8_leastWithin_32 : decode cX8_leastWithin 32 = .ok (.iconst 0, 1) := by decide +kernel
theorem dX8_leastWithin_33 : decode cX8_leastWithin 33 = .ok (.aload_n 0, 1) := by decide +kernel
theorem dX8_leastWithin_34 : decode cX8_leastWithin 34 = .ok (.getfield 15, 3) := by decide +kernel
theorem dX8_leastWithin_37 : decode cX8_leastWithin 37 = .ok (.iconst 0, 1) := by decide +kernel
theorem dX8_leastWithin_38 : decode cX8_leastWithin 38 = .ok (.bipush 30, 2) := by decide +kernel
theorem dX8_leastWithin_40 : decode cX8_leastWithin 40 = .ok (.invokestatic 51, 3) := by decide +kernel
theorem dX8_leastWithin_43 : decode cX8_leastWithin 43 = .ok (.iconst 0, 1) := by decide +kernel
theorem dX8_leastWithin_44 : decode cX8_leastWithin 44 = .ok (.istore 5, 2) := by decide +kernel
theorem dX8_leastWithin_46 : decode cX8_leastWithin 46 = .ok (.iconst 0, 1) := by decide +kernel
theorem dX8_leastWithin_47 : decode cX8_leastWithin 47 = .ok (.istore 7, 2) := by decide +kernel
theorem dX8_leastWithin_49 : decode cX8_leastWithin 49 = .ok (.iload 7, 2) := by decide +kernel
theorem dX8_leastWithin_51 : decode cX8_leastWithin 51 = .ok (.bipush 30, 2) := by decide +kernel
theorem dX8_leastWithin_53 : decode cX8_leastWithin 53 = .ok (.if_icmp .ge 49, 3) := by decide +kernel
theorem dX8_leastWithin_56 : decode cX8_leastWithin 56 = .ok (.aload_n 0, 1) := by decide +kernel
theorem dX8_leastWithin_57 : decode cX8_leastWithin 57 = .ok (.iload 7, 2) := by decide +kernel
theorem dX8_leastWithin_59 : decode cX8_leastWithin 59 = .ok (.invokevirtual 57, 3) := by decide +kernel
theorem dX8_leastWithin_62 : decode cX8_leastWithin 62 = .ok (.aload_n 1, 1) := by decide +kernel
theorem dX8_leastWithin_63 : decode cX8_leastWithin 63 = .ok (.getfield 41, 3) := by decide +kernel
theorem dX8_leastWithin_66 : decode cX8_leastWithin 66 = .ok (.iload 7, 2) := by decide +kernel
theorem dX8_leastWithin_68 : decode cX8_leastWithin 68 = .ok (.iaload, 1) := by decide +kernel
theorem dX8_leastWithin_69 : decode cX8_leastWithin 69 = .ok (.iadd, 1) := by decide +kernel
theorem dX8_leastWithin_70 : decode cX8_leastWithin 70 = .ok (.istore 8, 2) := by decide +kernel
theorem dX8_leastWithin_72 : decode cX8_leastWithin 72 = .ok (.iload 8, 2) := by decide +kernel
theorem dX8_leastWithin_74 : decode cX8_leastWithin 74 = .ok (.aload_n 0, 1) := by decide +kernel
theorem dX8_leastWithin_75 : decode cX8_leastWithin 75 = .ok (.getfield 9, 3) := by decide +kernel
theorem dX8_leastWithin_78 : decode cX8_leastWithin 78 = .ok (.iload 7, 2) := by decide +kernel
theorem dX8_leastWithin_80 : decode cX8_leastWithin 80 = .ok (.iaload, 1) := by decide +kernel
theorem dX8_leastWithin_81 : decode cX8_leastWithin 81 = .ok (.if_icmp .ge 15, 3) := by decide +kernel
theorem dX8_leastWithin_84 : decode cX8_leastWithin 84 = .ok (.aload_n 0, 1) := by decide +kernel
theorem dX8_leastWithin_85 : decode cX8_leastWithin 85 = .ok (.getfield 9, 3) := by decide +kernel
theorem dX8_leastWithin_88 : decode cX8_leastWithin 88 = .ok (.iload 7, 2) := by decide +kernel
theorem dX8_leastWithin_90 : decode cX8_leastWithin 90 = .ok (.iload 8, 2) := by decide +kernel
theorem dX8_leastWithin_92 : decode cX8_leastWithin 92 = .ok (.iastore, 1) := by decide +kernel
theorem dX8_leastWithin_93 : decode cX8_leastWithin 93 = .ok (.iconst 1, 1) := by decide +kernel
theorem dX8_leastWithin_94 : decode cX8_leastWithin 94 = .ok (.istore 5, 2) := by decide +kernel
theorem dX8_leastWithin_96 : decode cX8_leastWithin 96 = .ok (.iinc 7 1, 3) := by decide +kernel
theorem dX8_leastWithin_99 : decode cX8_leastWithin 99 = .ok (.goto (-50), 3) := by decide +kernel
theorem dX8_leastWithin_102 : decode cX8_leastWithin 102 = .ok (.iinc 6 1, 3) := by decide +kernel
theorem dX8_leastWithin_105 : decode cX8_leastWithin 105 = .ok (.goto (-89), 3) := by decide +kernel
theorem dX8_leastWithin_108 : decode cX8_leastWithin 108 = .ok (.aload_n 0, 1) := by decide +kernel
theorem dX8_leastWithin_109 : decode cX8_leastWithin 109 = .ok (.getfield 9, 3) := by decide +kernel
theorem dX8_leastWithin_112 : decode cX8_leastWithin 112 = .ok (.iload_n 3, 1) := by decide +kernel
theorem dX8_leastWithin_113 : decode cX8_leastWithin 113 = .ok (.iaload, 1) := by decide +kernel
theorem dX8_leastWithin_114 : decode cX8_leastWithin 114 = .ok (.ldc 18, 2) := by decide +kernel
theorem dX8_leastWithin_116 : decode cX8_leastWithin 116 = .ok (.if_icmp .ge 12, 3) := by decide +kernel
theorem dX8_leastWithin_119 : decode cX8_leastWithin 119 = .ok (.aload_n 0, 1) := by decide +kernel
theorem dX8_leastWithin_120 : decode cX8_leastWithin 120 = .ok (.getfield 9, 3) := by decide +kernel
theorem dX8_leastWithin_123 : decode cX8_leastWithin 123 = .ok (.iload_n 3, 1) := by decide +kernel
theorem dX8_leastWithin_124 : decode cX8_leastWithin 124 = .ok (.iaload, 1) := by decide +kernel
theorem dX8_leastWithin_125 : decode cX8_leastWithin 125 = .ok (.goto 5, 3) := by decide +kernel
theorem dX8_leastWithin_128 : decode cX8_leastWithin 128 = .ok (.ldc 40, 2) := by decide +kernel
theorem dX8_leastWithin_130 : decode cX8_leastWithin 130 = .ok (.ireturn, 1) := by decide +kernel
theorem dX8_leastBeside_0 : decode cX8_leastBeside 0 = .ok (.ldc 18, 2) := by decide +kernel
theorem dX8_leastBeside_2 : decode cX8_leastBeside 2 = .ok (.istore_n 2, 1) := by decide +kernel
theorem dX8_leastBeside_3 : decode cX8_leastBeside 3 = .ok (.iconst 0, 1) := by decide +kernel
theorem dX8_leastBeside_4 : decode cX8_leastBeside 4 = .ok (.istore_n 3, 1) := by decide +kernel
theorem dX8_leastBeside_5 : decode cX8_leastBeside 5 = .ok (.iload_n 3, 1) := by decide +kernel
theorem dX8_leastBeside_6 : decode cX8_leastBeside 6 = .ok (.iconst 4, 1) := by decide +kernel
theorem dX8_leastBeside_7 : decode cX8_leastBeside 7 = .ok (.if_icmp .ge 35, 3) := by decide +kernel
theorem dX8_leastBeside_10 : decode cX8_leastBeside 10 = .ok (.iload_n 1, 1) := by decide +kernel
theorem dX8_leastBeside_11 : decode cX8_leastBeside 11 = .ok (.iload_n 3, 1) := by decide +kernel
theorem dX8_leastBeside_12 : decode cX8_leastBeside 12 = .ok (.invokestatic 36, 3) := by decide +kernel
theorem dX8_leastBeside_15 : decode cX8_leastBeside 15 = .ok (.istore 4, 2) := by decide +kernel
theorem dX8_leastBeside_17 : decode cX8_leastBeside 17 = .ok (.iload 4, 2) := by decide +kernel
theorem dX8_leastBeside_19 : decode cX8_leastBeside 19 = .ok (.ldc 40, 2) := by decide +kernel
theorem dX8_leastBeside_21 : decode cX8_leastBeside 21 = .ok (.if_icmp .eq 15, 3) := by decide +kernel
theorem dX8_leastBeside_24 : decode cX8_leastBeside 24 = .ok (.iload_n 2, 1) := by decide +kernel
theorem dX8_leastBeside_25 : decode cX8_leastBeside 25 = .ok (.aload_n 0, 1) := by decide +kernel
theorem dX8_leastBeside_26 : decode cX8_leastBeside 26 = .ok (.getfield 15, 3) := by decide +kernel
theorem dX8_leastBeside_29 : decode cX8_leastBeside 29 = .ok (.iload 4, 2) := by decide +kernel
theorem dX8_leastBeside_31 : decode cX8_leastBeside 31 = .ok (.iaload, 1) := by decide +kernel
theorem dX8_leastBeside_32 : decode cX8_leastBeside 32 = .ok (.invokestatic 60, 3) := by decide +kernel
theorem dX8_leastBeside_35 : decode cX8_leastBeside 35 = .ok (.istore_n 2, 1) := by decide +kernel
theorem dX8_leastBeside_36 : decode cX8_leastBeside 36 = .ok (.iinc 3 1, 3) := by decide +kernel
theorem dX8_leastBeside_39 : decode cX8_leastBeside 39 = .ok (.goto (-34), 3) := by decide +kernel
theorem dX8_leastBeside_42 : decode cX8_leastBeside 42 = .ok (.iload_n 2, 1) := by decide +kernel
theorem dX8_leastBeside_43 : decode cX8_leastBeside 43 = .ok (.ireturn, 1) := by decide +kernel
theorem dX8_leastSteep_0 : decode cX8_leastSteep 0 = .ok (.aload_n 0, 1) := by decide +kernel
theorem dX8_leastSteep_1 : decode cX8_leastSteep 1 = .ok (.iload_n 2, 1) := by decide +kernel
theorem dX8_leastSteep_2 : decode cX8_leastSteep 2 = .ok (.aload_n 1, 1) := by decide +kernel
theorem dX8_leastSteep_3 : decode cX8_leastSteep 3 = .ok (.getfield 65, 3) := by decide +kernel
theorem dX8_leastSteep_6 : decode cX8_leastSteep 6 = .ok (.iload_n 2, 1) := by decide +kernel
theorem dX8_leastSteep_7 : decode cX8_leastSteep 7 = .ok (.iaload, 1) := by decide +kernel
theorem dX8_leastSteep_8 : decode cX8_leastSteep 8 = .ok (.invokevirtual 24, 3) := by decide +kernel
theorem dX8_leastSteep_11 : decode cX8_leastSteep 11 = .ok (.iconst 1, 1) := by decide +kernel
theorem dX8_leastSteep_12 : decode cX8_leastSteep 12 = .ok (.istore 4, 2) := by decide +kernel
theorem dX8_leastSteep_14 : decode cX8_leastSteep 14 = .ok (.iconst 0, 1) := by decide +kernel
theorem dX8_leastSteep_15 : decode cX8_leastSteep 15 = .ok (.istore 5, 2) := by decide +kernel
theorem dX8_leastSteep_17 : decode cX8_leastSteep 17 = .ok (.iload 5, 2) := by decide +kernel
theorem dX8_leastSteep_19 : decode cX8_leastSteep 19 = .ok (.bipush 30, 2) := by decide +kernel
theorem dX8_leastSteep_21 : decode cX8_leastSteep 21 = .ok (.if_icmp .ge 90, 3) := by decide +kernel
theorem dX8_leastSteep_24 : decode cX8_leastSteep 24 = .ok (.iload 4, 2) := by decide +kernel
theorem dX8_leastSteep_26 : decode cX8_leastSteep 26 = .ok (.ifCond .eq 85, 3) := by decide +kernel
theorem dX8_leastSteep_29 : decode cX8_leastSteep 29 = .ok (.aload_n 0, 1) := by decide +kernel
theorem dX8_leastSteep_30 : decode cX8_leastSteep 30 = .ok (.getfield 9, 3) := by decide +kernel
theorem dX8_leastSteep_33 : decode cX8_leastSteep 33 = .ok (.iconst 0, 1) := by decide +kernel
theorem dX8_leastSteep_34 : decode cX8_leastSteep 34 = .ok (.aload_n 0, 1) := by decide +kernel
theorem dX8_leastSteep_35 : decode cX8_leastSteep 35 = .ok (.getfield 15, 3) := by decide +kernel
theorem dX8_leastSteep_38 : decode cX8_leastSteep 38 = .ok (.iconst 0, 1) := by decide +kernel
theorem dX8_leastSteep_39 : decode cX8_leastSteep 39 = .ok (.bipush 30, 2) := by decide +kernel
theorem dX8_leastSteep_41 : decode cX8_leastSteep 41 = .ok (.invokestatic 51, 3) := by decide +kernel
theorem dX8_leastSteep_44 : decode cX8_leastSteep 44 = .ok (.iconst 0, 1) := by decide +kernel
theorem dX8_leastSteep_45 : decode cX8_leastSteep 45 = .ok (.istore 4, 2) := by decide +kernel
theorem dX8_leastSteep_47 : decode cX8_leastSteep 47 = .ok (.iconst 0, 1) := by decide +kernel
theorem dX8_leastSteep_48 : decode cX8_leastSteep 48 = .ok (.istore 6, 2) := by decide +kernel
theorem dX8_leastSteep_50 : decode cX8_leastSteep 50 = .ok (.iload 6, 2) := by decide +kernel
theorem dX8_leastSteep_52 : decode cX8_leastSteep 52 = .ok (.bipush 30, 2) := by decide +kernel
theorem dX8_leastSteep_54 : decode cX8_leastSteep 54 = .ok (.if_icmp .ge 51, 3) := by decide +kernel
theorem dX8_leastSteep_57 : decode cX8_leastSteep 57 = .ok (.aload_n 0, 1) := by decide +kernel
theorem dX8_leastSteep_58 : decode cX8_leastSteep 58 = .ok (.iload 6, 2) := by decide +kernel
theorem dX8_leastSteep_60 : decode cX8_leastSteep 60 = .ok (.invokevirtual 57, 3) := by decide +kernel
theorem dX8_leastSteep_63 : decode cX8_leastSteep 63 = .ok (.aload_n 1, 1) := by decide +kernel
theorem dX8_leastSteep_64 : decode cX8_leastSteep 64 = .ok (.getfield 65, 3) := by decide +kernel
theorem dX8_leastSteep_67 : decode cX8_leastSteep 67 = .ok (.iload 6, 2) := by decide +kernel
theorem dX8_leastSteep_69 : decode cX8_leastSteep 69 = .ok (.iaload, 1) := by decide +kernel
theorem dX8_leastSteep_70 : decode cX8_leastSteep 70 = .ok (.invokestatic 68, 3) := by decide +kernel
theorem dX8_leastSteep_73 : decode cX8_leastSteep 73 = .ok (.istore 7, 2) := by decide +kernel
theorem dX8_leastSteep_75 : decode cX8_leastSteep 75 = .ok (.iload 7, 2) := by decide +kernel
theorem dX8_leastSteep_77 : decode cX8_leastSteep 77 = .ok (.aload_n 0, 1) := by decide +kernel
theorem dX8_leastSteep_78 : decode cX8_leastSteep 78 = .ok (.getfield 9, 3) := by decide +kernel
theorem dX8_leastSteep_81 : decode cX8_leastSteep 81 = .ok (.iload 6, 2) := by decide +kernel
theorem dX8_leastSteep_83 : decode cX8_leastSteep 83 = .ok (.iaload, 1) := by decide +kernel
theorem dX8_leastSteep_84 : decode cX8_leastSteep 84 = .ok (.if_icmp .ge 15, 3) := by decide +kernel
theorem dX8_leastSteep_87 : decode cX8_leastSteep 87 = .ok (.aload_n 0, 1) := by decide +kernel
theorem dX8_leastSteep_88 : decode cX8_leastSteep 88 = .ok (.getfield 9, 3) := by decide +kernel
theorem dX8_leastSteep_91 : decode cX8_leastSteep 91 = .ok (.iload 6, 2) := by decide +kernel
theorem dX8_leastSteep_93 : decode cX8_leastSteep 93 = .ok (.iload 7, 2) := by decide +kernel
theorem dX8_leastSteep_95 : decode cX8_leastSteep 95 = .ok (.iastore, 1) := by decide +kernel
theorem dX8_leastSteep_96 : decode cX8_leastSteep 96 = .ok (.iconst 1, 1) := by decide +kernel
theorem dX8_leastSteep_97 : decode cX8_leastSteep 97 = .ok (.istore 4, 2) := by decide +kernel
theorem dX8_leastSteep_99 : decode cX8_leastSteep 99 = .ok (.iinc 6 1, 3) := by decide +kernel
theorem dX8_leastSteep_102 : decode cX8_leastSteep 102 = .ok (.goto (-52), 3) := by decide +kernel
theorem dX8_leastSteep_105 : decode cX8_leastSteep 105 = .ok (.iinc 5 1, 3) := by decide +kernel
theorem dX8_leastSteep_108 : decode cX8_leastSteep 108 = .ok (.goto (-91), 3) := by decide +kernel
theorem dX8_leastSteep_111 : decode cX8_leastSteep 111 = .ok (.aload_n 0, 1) := by decide +kernel
theorem dX8_leastSteep_112 : decode cX8_leastSteep 112 = .ok (.getfield 9, 3) := by decide +kernel
theorem dX8_leastSteep_115 : decode cX8_leastSteep 115 = .ok (.iload_n 3, 1) := by decide +kernel
theorem dX8_leastSteep_116 : decode cX8_leastSteep 116 = .ok (.iaload, 1) := by decide +kernel
theorem dX8_leastSteep_117 : decode cX8_leastSteep 117 = .ok (.ireturn, 1) := by decide +kernel
theorem dX8_comeTo_0 : decode cX8_comeTo 0 = .ok (.aload_n 1, 1) := by decide +kernel
theorem dX8_comeTo_1 : decode cX8_comeTo 1 = .ok (.invokevirtual 19, 3) := by decide +kernel
theorem dX8_comeTo_4 : decode cX8_comeTo 4 = .ok (.aload_n 0, 1) := by decide +kernel
theorem dX8_comeTo_5 : decode cX8_comeTo 5 = .ok (.iload_n 2, 1) := by decide +kernel
theorem dX8_comeTo_6 : decode cX8_comeTo 6 = .ok (.iconst 0, 1) := by decide +kernel
theorem dX8_comeTo_7 : decode cX8_comeTo 7 = .ok (.invokevirtual 24, 3) := by decide +kernel
theorem dX8_comeTo_10 : decode cX8_comeTo 10 = .ok (.iconst 1, 1) := by decide +kernel
theorem dX8_comeTo_11 : decode cX8_comeTo 11 = .ok (.istore 4, 2) := by decide +kernel
theorem dX8_comeTo_13 : decode cX8_comeTo 13 = .ok (.iconst 1, 1) := by decide +kernel
theorem dX8_comeTo_14 : decode cX8_comeTo 14 = .ok (.istore 5, 2) := by decide +kernel
theorem dX8_comeTo_16 : decode cX8_comeTo 16 = .ok (.iconst 0, 1) := by decide +kernel
theorem dX8_comeTo_17 : decode cX8_comeTo 17 = .ok (.istore 6, 2) := by decide +kernel
theorem dX8_comeTo_19 : decode cX8_comeTo 19 = .ok (.iload 6, 2) := by decide +kernel
theorem dX8_comeTo_21 : decode cX8_comeTo 21 = .ok (.bipush 30, 2) := by decide +kernel
theorem dX8_comeTo_23 : decode cX8_comeTo 23 = .ok (.if_icmp .ge 96, 3) := by decide +kernel
theorem dX8_comeTo_26 : decode cX8_comeTo 26 = .ok (.iload 5, 2) := by decide +kernel
theorem dX8_comeTo_28 : decode cX8_comeTo 28 = .ok (.ifCond .eq 91, 3) := by decide +kernel
theorem dX8_comeTo_31 : decode cX8_comeTo 31 = .ok (.aload_n 0, 1) := by decide +kernel
theorem dX8_comeTo_32 : decode cX8_comeTo 32 = .ok (.getfield 9, 3) := by decide +kernel
theorem dX8_comeTo_35 : decode cX8_comeTo 35 = .ok (.iconst 0, 1) := by decide +kernel
theorem dX8_comeTo_36 : decode cX8_comeTo 36 = .ok (.aload_n 0, 1) := by decide +kernel
theorem dX8_comeTo_37 : decode cX8_comeTo 37 = .ok (.getfield 15, 3) := by decide +kernel
theorem dX8_comeTo_40 : decode cX8_comeTo 40 = .ok (.iconst 0, 1) := by decide +kernel
theorem dX8_comeTo_41 : decode cX8_comeTo 41 = .ok (.bipush 30, 2) := by decide +kernel
theorem dX8_comeTo_43 : decode cX8_comeTo 43 = .ok (.invokestatic 51, 3) := by decide +kernel
theorem dX8_comeTo_46 : decode cX8_comeTo 46 = .ok (.iconst 0, 1) := by decide +kernel
theorem dX8_comeTo_47 : decode cX8_comeTo 47 = .ok (.istore 5, 2) := by decide +kernel
theorem dX8_comeTo_49 : decode cX8_comeTo 49 = .ok (.iconst 0, 1) := by decide +kernel
theorem dX8_comeTo_50 : decode cX8_comeTo 50 = .ok (.istore 7, 2) := by decide +kernel
theorem dX8_comeTo_52 : decode cX8_comeTo 52 = .ok (.iload 7, 2) := by decide +kernel
theorem dX8_comeTo_54 : decode cX8_comeTo 54 = .ok (.bipush 30, 2) := by decide +kernel
theorem dX8_comeTo_56 : decode cX8_comeTo 56 = .ok (.if_icmp .ge 57, 3) := by decide +kernel
theorem dX8_comeTo_59 : decode cX8_comeTo 59 = .ok (.aload_n 0, 1) := by decide +kernel
theorem dX8_comeTo_60 : decode cX8_comeTo 60 = .ok (.getfield 9, 3) := by decide +kernel
theorem dX8_comeTo_63 : decode cX8_comeTo 63 = .ok (.iload 7, 2) := by decide +kernel
theorem dX8_comeTo_65 : decode cX8_comeTo 65 = .ok (.iaload, 1) := by decide +kernel
theorem dX8_comeTo_66 : decode cX8_comeTo 66 = .ok (.ldc 18, 2) := by decide +kernel
theorem dX8_comeTo_68 : decode cX8_comeTo 68 = .ok (.if_icmp .ne 39, 3) := by decide +kernel
theorem dX8_comeTo_71 : decode cX8_comeTo 71 = .ok (.aload_n 1, 1) := by decide +kernel
theorem dX8_comeTo_72 : decode cX8_comeTo 72 = .ok (.getfield 41, 3) := by decide +kernel
theorem dX8_comeTo_75 : decode cX8_comeTo 75 = .ok (.iload 7, 2) := by decide +kernel
theorem dX8_comeTo_77 : decode cX8_comeTo 77 = .ok (.iaload, 1) := by decide +kernel
theorem dX8_comeTo_78 : decode cX8_comeTo 78 = .ok (.iload_n 3, 1) := by decide +kernel
theorem dX8_comeTo_79 : decode cX8_comeTo 79 = .ok (.if_icmp .gt 28, 3) := by decide +kernel
theorem dX8_comeTo_82 : decode cX8_comeTo 82 = .ok (.aload_n 0, 1) := by decide +kernel
theorem dX8_comeTo_83 : decode cX8_comeTo 83 = .ok (.iload 7, 2) := by decide +kernel
theorem dX8_comeTo_85 : decode cX8_comeTo 85 = .ok (.invokevirtual 57, 3) := by decide +kernel
theorem dX8_comeTo_88 : decode cX8_comeTo 88 = .ok (.ldc 18, 2) := by decide +kernel
theorem dX8_comeTo_90 : decode cX8_comeTo 90 = .ok (.if_icmp .ge 17, 3) := by decide +kernel
theorem dX8_comeTo_93 : decode cX8_comeTo 93 = .ok (.aload_n 0, 1) := by decide +kernel
theorem dX8_comeTo_94 : decode cX8_comeTo 94 = .ok (.getfield 9, 3) := by decide +kernel
theorem dX8_comeTo_97 : decode cX8_comeTo 97 = .ok (.iload 7, 2) := by decide +kernel
theorem dX8_comeTo_99 : decode cX8_comeTo 99 = .ok (.iconst 0, 1) := by decide +kernel
theorem dX8_comeTo_100 : decode cX8_comeTo 100 = .ok (.iastore, 1) := by decide +kernel
theorem dX8_comeTo_101 : decode cX8_comeTo 101 = .ok (.iinc 4 1, 3) := by decide +kernel
theorem dX8_comeTo_104 : decode cX8_comeTo 104 = .ok (.iconst 1, 1) := by decide +kernel
theorem dX8_comeTo_105 : decode cX8_comeTo 105 = .ok (.istore 5, 2) := by decide +kernel
theorem dX8_comeTo_107 : decode cX8_comeTo 107 = .ok (.iinc 7 1, 3) := by decide +kernel
theorem dX8_comeTo_110 : decode cX8_comeTo 110 = .ok (.goto (-58), 3) := by decide +kernel
theorem dX8_comeTo_113 : decode cX8_comeTo 113 = .ok (.iinc 6 1, 3) := by decide +kernel
theorem dX8_comeTo_116 : decode cX8_comeTo 116 = .ok (.goto (-97), 3) := by decide +kernel
theorem dX8_comeTo_119 : decode cX8_comeTo 119 = .ok (.iload 4, 2) := by decide +kernel
theorem dX8_comeTo_121 : decode cX8_comeTo 121 = .ok (.ireturn, 1) := by decide +kernel
theorem dX9_init_0 : decode cX9_init 0 = .ok (.aload_n 0, 1) := by decide +kernel
theorem dX9_init_1 : decode cX9_init 1 = .ok (.invokespecial 1, 3) := by decide +kernel
theorem dX9_init_4 : decode cX9_init 4 = .ok (.aload_n 0, 1) := by decide +kernel
theorem dX9_init_5 : decode cX9_init 5 = .ok (.new 7, 3) := by decide +kernel
theorem dX9_init_8 : decode cX9_init 8 = .ok (.dup, 1) := by decide +kernel
theorem dX9_init_9 : decode cX9_init 9 = .ok (.invokespecial 9, 3) := by decide +kernel
theorem dX9_init_12 : decode cX9_init 12 = .ok (.putfield 10, 3) := by decide +kernel
theorem dX9_init_15 : decode cX9_init 15 = .ok (.aload_n 0, 1) := by decide +kernel
theorem dX9_init_16 : decode cX9_init 16 = .ok (.new 16, 3) := by decide +kernel
theorem dX9_init_19 : decode cX9_init 19 = .ok (.dup, 1) := by decide +kernel
theorem dX9_init_20 : decode cX9_init 20 = .ok (.aload_n 0, 1) := by decide +kernel
theorem dX9_init_21 : decode cX9_init 21 = .ok (.getfield 10, 3) := by decide +kernel
theorem dX9_init_24 : decode cX9_init 24 = .ok (.invokespecial 18, 3) := by decide +kernel
theorem dX9_init_27 : decode cX9_init 27 = .ok (.putfield 21, 3) := by decide +kernel
theorem dX9_init_30 : decode cX9_init 30 = .ok (.aload_n 0, 1) := by decide +kernel
theorem dX9_init_31 : decode cX9_init 31 = .ok (.new 16, 3) := by decide +kernel
theorem dX9_init_34 : decode cX9_init 34 = .ok (.dup, 1) := by decide +kernel
theorem dX9_init_35 : decode cX9_init 35 = .ok (.aload_n 0, 1) := by decide +kernel
theorem dX9_init_36 : decode cX9_init 36 = .ok (.getfield 10, 3) := by decide +kernel
theorem dX9_init_39 : decode cX9_init 39 = .ok (.invokespecial 18, 3) := by decide +kernel
theorem dX9_init_42 : decode cX9_init 42 = .ok (.putfield 25, 3) := by decide +kernel
theorem dX9_init_45 : decode cX9_init 45 = .ok (.aload_n 0, 1) := by decide +kernel
theorem dX9_init_46 : decode cX9_init 46 = .ok (.new 16, 3) := by decide +kernel
theorem dX9_init_49 : decode cX9_init 49 = .ok (.dup, 1) := by decide +kernel
theorem dX9_init_50 : decode cX9_init 50 = .ok (.aload_n 0, 1) := by decide +kernel
theorem dX9_init_51 : decode cX9_init 51 = .ok (.getfield 10, 3) := by decide +kernel
theorem dX9_init_54 : decode cX9_init 54 = .ok (.invokespecial 18, 3) := by decide +kernel
theorem dX9_init_57 : decode cX9_init 57 = .ok (.putfield 28, 3) := by decide +kernel
theorem dX9_init_60 : decode cX9_init 60 = .ok (.aload_n 0, 1) := by decide +kernel
theorem dX9_init_61 : decode cX9_init 61 = .ok (.new 31, 3) := by decide +kernel
theorem dX9_init_64 : decode cX9_init 64 = .ok (.dup, 1) := by decide +kernel
theorem dX9_init_65 : decode cX9_init 65 = .ok (.invokespecial 33, 3) := by decide +kernel
theorem dX9_init_68 : decode cX9_init 68 = .ok (.putfield 34, 3) := by decide +kernel
theorem dX9_init_71 : decode cX9_init 71 = .ok (.aload_n 0, 1) := by decide +kernel
theorem dX9_init_72 : decode cX9_init 72 = .ok (.new 38, 3) := by decide +kernel
theorem dX9_init_75 : decode cX9_init 75 = .ok (.dup, 1) := by decide +kernel
theorem dX9_init_76 : decode cX9_init 76 = .ok (.invokespecial 40, 3) := by decide +kernel
theorem dX9_init_79 : decode cX9_init 79 = .ok (.putfield 41, 3) := by decide +kernel
theorem dX9_init_82 : decode cX9_init 82 = .ok (.aload_n 0, 1) := by decide +kernel
theorem dX9_init_83 : decode cX9_init 83 = .ok (.new 45, 3) := by decide +kernel
theorem dX9_init_86 : decode cX9_init 86 = .ok (.dup, 1) := by decide +kernel
theorem dX9_init_87 : decode cX9_init 87 = .ok (.aload_n 0, 1) := by decide +kernel
theorem dX9_init_88 : decode cX9_init 88 = .ok (.getfield 41, 3) := by decide +kernel
theorem dX9_init_91 : decode cX9_init 91 = .ok (.invokespecial 47, 3) := by decide +kernel
theorem dX9_init_94 : decode cX9_init 94 = .ok (.putfield 50, 3) := by decide +kernel
theorem dX9_init_97 : decode cX9_init 97 = .ok (.aload_n 0, 1) := by decide +kernel
theorem dX9_init_98 : decode cX9_init 98 = .ok (.iconst 4, 1) := by decide +kernel
theorem dX9_init_99 : decode cX9_init 99 = .ok (.anewarray 54, 3) := by decide +kernel
theorem dX9_init_102 : decode cX9_init 102 = .ok (.putfield 56, 3) := by decide +kernel
theorem dX9_init_105 : decode cX9_init 105 = .ok (.iconst 0, 1) := by decide +kernel
theorem dX9_init_106 : decode cX9_init 106 = .ok (.istore_n 1, 1) := by decide +kernel
theorem dX9_init_107 : decode cX9_init 107 = .ok (.iload_n 1, 1) := by decide +kernel
theorem dX9_init_108 : decode cX9_init 108 = .ok (.iconst 4, 1) := by decide +kernel
theorem dX9_init_109 : decode cX9_init 109 = .ok (.if_icmp .ge 22, 3) := by decide +kernel
theorem dX9_init_112 : decode cX9_init 112 = .ok (.aload_n 0, 1) := by decide +kernel
theorem dX9_init_113 : decode cX9_init 113 = .ok (.getfield 56, 3) := by decide +kernel
theorem dX9_init_116 : decode cX9_init 116 = .ok (.iload_n 1, 1) := by decide +kernel
theorem dX9_init_117 : decode cX9_init 117 = .ok (.new 54, 3) := by decide +kernel
theorem dX9_init_120 : decode cX9_init 120 = .ok (.dup, 1) := by decide +kernel
theorem dX9_init_121 : decode cX9_init 121 = .ok (.invokespecial 60, 3) := by decide +kernel
theorem dX9_init_124 : decode cX9_init 124 = .ok (.aastore, 1) := by decide +kernel
theorem dX9_init_125 : decode cX9_init 125 = .ok (.iinc 1 1, 3) := by decide +kernel
theorem dX9_init_128 : decode cX9_init 128 = .ok (.goto (-21), 3) := by decide +kernel
theorem dX9_init_131 : decode cX9_init 131 = .ok (.aload_n 0, 1) := by decide +kernel
theorem dX9_init_132 : decode cX9_init 132 = .ok (.iconst 5, 1) := by decide +kernel
theorem dX9_init_133 : decode cX9_init 133 = .ok (.anewarray 61, 3) := by decide +kernel
theorem dX9_init_136 : decode cX9_init 136 = .ok (.putfield 63, 3) := by decide +kernel
theorem dX9_init_139 : decode cX9_init 139 = .ok (.iconst 0, 1) := by decide +kernel
theorem dX9_init_140 : decode cX9_init 140 = .ok (.istore_n 1, 1) := by decide +kernel
theorem dX9_init_141 : decode cX9_init 141 = .ok (.iload_n 1, 1) := by decide +kernel
theorem dX9_init_142 : decode cX9_init 142 = .ok (.iconst 5, 1) := by decide +kernel
theorem dX9_init_143 : decode cX9_init 143 = .ok (.if_icmp .ge 22, 3) := by decide +kernel
theorem dX9_init_146 : decode cX9_init 146 = .ok (.aload_n 0, 1) := by decide +kernel
theorem dX9_init_147 : decode cX9_init 147 = .ok (.getfield 63, 3) := by decide +kernel
theorem dX9_init_150 : decode cX9_init 150 = .ok (.iload_n 1, 1) := by decide +kernel
theorem dX9_init_151 : decode cX9_init 151 = .ok (.new 61, 3) := by decide +kernel
theorem dX9_init_154 : decode cX9_init 154 = .ok (.dup, 1) := by decide +kernel
theorem dX9_init_155 : decode cX9_init 155 = .ok (.invokespecial 67, 3) := by decide +kernel
theorem dX9_init_158 : decode cX9_init 158 = .ok (.aastore, 1) := by decide +kernel
theorem dX9_init_159 : decode cX9_init 159 = .ok (.iinc 1 1, 3) := by decide +kernel
theorem dX9_init_162 : decode cX9_init 162 = .ok (.goto (-21), 3) := by decide +kernel
theorem dX9_init_165 : decode cX9_init 165 = .ok (.aload_n 0, 1) := by decide +kernel
theorem dX9_init_166 : decode cX9_init 166 = .ok (.bipush 60, 2) := by decide +kernel
theorem dX9_init_168 : decode cX9_init 168 = .ok (.newarray .int, 2) := by decide +kernel
theorem dX9_init_170 : decode cX9_init 170 = .ok (.putfield 68, 3) := by decide +kernel
theorem dX9_init_173 : decode cX9_init 173 = .ok (.return_, 1) := by decide +kernel
theorem dX9_place_0 : decode cX9_place 0 = .ok (.iload_n 1, 1) := by decide +kernel
theorem dX9_place_1 : decode cX9_place 1 = .ok (.invokestatic 72, 3) := by decide +kernel
theorem dX9_place_4 : decode cX9_place 4 = .ok (.ifCond .eq 32, 3) := by decide +kernel
theorem dX9_place_7 : decode cX9_place 7 = .ok (.iload_n 2, 1) := by decide +kernel
theorem dX9_place_8 : decode cX9_place 8 = .ok (.invokestatic 76, 3) := by decide +kernel
theorem dX9_place_11 : decode cX9_place 11 = .ok (.ifCond .eq 25, 3) := by decide +kernel
theorem dX9_place_14 : decode cX9_place 14 = .ok (.iload_n 3, 1) := by decide +kernel
theorem dX9_place_15 : decode cX9_place 15 = .ok (.iconst 0, 1) := by decide +kernel
theorem dX9_place_16 : decode cX9_place 16 = .ok (.bipush 60, 2) := by decide +kernel
theorem dX9_place_18 : decode cX9_place 18 = .ok (.invokestatic 81, 3) := by decide +kernel
theorem dX9_place_21 : decode cX9_place 21 = .ok (.ifCond .eq 15, 3) := by decide +kernel
end
section
theorem dX9_place_24 : decode cX9_place 24 = .ok (.iload 4, 2) := by decide +kernel
theorem dX9_place_26 : decode cX9_place 26 = .ok (.iconst 0, 1) := by decide +kernel
theorem dX9_place_27 : decode cX9_place 27 = .ok (.sipush 999, 3) := by decide +kernel
theorem dX9_place_30 : decode cX9_place 30 = .ok (.invokestatic 81, 3) := by decide +kernel
theorem dX9_place_33 : decode cX9_place 33 = .ok (.ifCond .ne 6, 3) := by decide +kernel
theorem dX9_place_36 : decode cX9_place 36 = .ok (.ldc 85, 2) := by decide +kernel
theorem dX9_place_38 : decode cX9_place 38 = .ok (.ireturn, 1) := by decide +kernel
theorem dX9_place_39 : decode cX9_place 39 = .ok (.aload_n 0, 1) := by decide +kernel
theorem dX9_place_40 : decode cX9_place 40 = .ok (.getfield 21, 3) := by decide +kernel
theorem dX9_place_43 : decode cX9_place 43 = .ok (.getfield 86, 3) := by decide +kernel
theorem dX9_place_46 : decode cX9_place 46 = .ok (.iload_n 1, 1) := by decide +kernel
theorem dX9_place_47 : decode cX9_place 47 = .ok (.iaload, 1) := by decide +kernel
theorem dX9_place_48 : decode cX9_place 48 = .ok (.istore 5, 2) := by decide +kernel
theorem dX9_place_50 : decode cX9_place 50 = .ok (.aload_n 0, 1) := by decide +kernel
theorem dX9_place_51 : decode cX9_place 51 = .ok (.getfield 21, 3) := by decide +kernel
theorem dX9_place_54 : decode cX9_place 54 = .ok (.getfield 86, 3) := by decide +kernel
theorem dX9_place_57 : decode cX9_place 57 = .ok (.iload_n 1, 1) := by decide +kernel
theorem dX9_place_58 : decode cX9_place 58 = .ok (.iload_n 2, 1) := by decide +kernel
theorem dX9_place_59 : decode cX9_place 59 = .ok (.iastore, 1) := by decide +kernel
theorem dX9_place_60 : decode cX9_place 60 = .ok (.aload_n 0, 1) := by decide +kernel
theorem dX9_place_61 : decode cX9_place 61 = .ok (.getfield 21, 3) := by decide +kernel
theorem dX9_place_64 : decode cX9_place 64 = .ok (.getfield 89, 3) := by decide +kernel
theorem dX9_place_67 : decode cX9_place 67 = .ok (.iload_n 1, 1) := by decide +kernel
theorem dX9_place_68 : decode cX9_place 68 = .ok (.iload_n 3, 1) := by decide +kernel
theorem dX9_place_69 : decode cX9_place 69 = .ok (.iastore, 1) := by decide +kernel
theorem dX9_place_70 : decode cX9_place 70 = .ok (.aload_n 0, 1) := by decide +kernel
theorem dX9_place_71 : decode cX9_place 71 = .ok (.getfield 21, 3) := by decide +kernel
theorem dX9_place_74 : decode cX9_place 74 = .ok (.getfield 92, 3) := by decide +kernel
theorem dX9_place_77 : decode cX9_place 77 = .ok (.iload_n 1, 1) := by decide +kernel
theorem dX9_place_78 : decode cX9_place 78 = .ok (.iload 4, 2) := by decide +kernel
theorem dX9_place_80 : decode cX9_place 80 = .ok (.iastore, 1) := by decide +kernel
theorem dX9_place_81 : decode cX9_place 81 = .ok (.iload 5, 2) := by decide +kernel
theorem dX9_place_83 : decode cX9_place 83 = .ok (.ireturn, 1) := by decide +kernel
theorem dX9_told_0 : decode cX9_told 0 = .ok (.iload_n 1, 1) := by decide +kernel
theorem dX9_told_1 : decode cX9_told 1 = .ok (.invokestatic 72, 3) := by decide +kernel
theorem dX9_told_4 : decode cX9_told 4 = .ok (.ifCond .ne 6, 3) := by decide +kernel
theorem dX9_told_7 : decode cX9_told 7 = .ok (.ldc 85, 2) := by decide +kernel
theorem dX9_told_9 : decode cX9_told 9 = .ok (.ireturn, 1) := by decide +kernel
theorem dX9_told_10 : decode cX9_told 10 = .ok (.iload_n 2, 1) := by decide +kernel
theorem dX9_told_11 : decode cX9_told 11 = .ok (.tableswitch 161 0 7 #[45, 55, 65, 75, 84, 93, 102, 130], 45) := by decide +kernel
theorem dX9_told_56 : decode cX9_told 56 = .ok (.aload_n 0, 1) := by decide +kernel
theorem dX9_told_57 : decode cX9_told 57 = .ok (.getfield 21, 3) := by decide +kernel
theorem dX9_told_60 : decode cX9_told 60 = .ok (.getfield 86, 3) := by decide +kernel
theorem dX9_told_63 : decode cX9_told 63 = .ok (.iload_n 1, 1) := by decide +kernel
theorem dX9_told_64 : decode cX9_told 64 = .ok (.iaload, 1) := by decide +kernel
theorem dX9_told_65 : decode cX9_told 65 = .ok (.ireturn, 1) := by decide +kernel
theorem dX9_told_66 : decode cX9_told 66 = .ok (.aload_n 0, 1) := by decide +kernel
theorem dX9_told_67 : decode cX9_told 67 = .ok (.getfield 21, 3) := by decide +kernel
theorem dX9_told_70 : decode cX9_told 70 = .ok (.getfield 89, 3) := by decide +kernel
theorem dX9_told_73 : decode cX9_told 73 = .ok (.iload_n 1, 1) := by decide +kernel
theorem dX9_told_74 : decode cX9_told 74 = .ok (.iaload, 1) := by decide +kernel
theorem dX9_told_75 : decode cX9_told 75 = .ok (.ireturn, 1) := by decide +kernel
theorem dX9_told_76 : decode cX9_told 76 = .ok (.aload_n 0, 1) := by decide +kernel
theorem dX9_told_77 : decode cX9_told 77 = .ok (.getfield 21, 3) := by decide +kernel
theorem dX9_told_80 : decode cX9_told 80 = .ok (.getfield 92, 3) := by decide +kernel
theorem dX9_told_83 : decode cX9_told 83 = .ok (.iload_n 1, 1) := by decide +kernel
theorem dX9_told_84 : decode cX9_told 84 = .ok (.iaload, 1) := by decide +kernel
theorem dX9_told_85 : decode cX9_told 85 = .ok (.ireturn, 1) := by decide +kernel
theorem dX9_told_86 : decode cX9_told 86 = .ok (.aload_n 0, 1) := by decide +kernel
theorem dX9_told_87 : decode cX9_told 87 = .ok (.getfield 21, 3) := by decide +kernel
theorem dX9_told_90 : decode cX9_told 90 = .ok (.iload_n 1, 1) := by decide +kernel
theorem dX9_told_91 : decode cX9_told 91 = .ok (.invokevirtual 95, 3) := by decide +kernel
theorem dX9_told_94 : decode cX9_told 94 = .ok (.ireturn, 1) := by decide +kernel
theorem dX9_told_95 : decode cX9_told 95 = .ok (.aload_n 0, 1) := by decide +kernel
theorem dX9_told_96 : decode cX9_told 96 = .ok (.getfield 21, 3) := by decide +kernel
theorem dX9_told_99 : decode cX9_told 99 = .ok (.iload_n 1, 1) := by decide +kernel
theorem dX9_told_100 : decode cX9_told 100 = .ok (.invokevirtual 99, 3) := by decide +kernel
theorem dX9_told_103 : decode cX9_told 103 = .ok (.ireturn, 1) := by decide +kernel
theorem dX9_told_104 : decode cX9_told 104 = .ok (.aload_n 0, 1) := by decide +kernel
theorem dX9_told_105 : decode cX9_told 105 = .ok (.getfield 21, 3) := by decide +kernel
theorem dX9_told_108 : decode cX9_told 108 = .ok (.iload_n 1, 1) := by decide +kernel
theorem dX9_told_109 : decode cX9_told 109 = .ok (.invokevirtual 102, 3) := by decide +kernel
theorem dX9_told_112 : decode cX9_told 112 = .ok (.ireturn, 1) := by decide +kernel
theorem dX9_told_113 : decode cX9_told 113 = .ok (.aload_n 0, 1) := by decide +kernel
theorem dX9_told_114 : decode cX9_told 114 = .ok (.getfield 21, 3) := by decide +kernel
theorem dX9_told_117 : decode cX9_told 117 = .ok (.getfield 86, 3) := by decide +kernel
theorem dX9_told_120 : decode cX9_told 120 = .ok (.iload_n 1, 1) := by decide +kernel
theorem dX9_told_121 : decode cX9_told 121 = .ok (.iaload, 1) := by decide +kernel
theorem dX9_told_122 : decode cX9_told 122 = .ok (.aload_n 0, 1) := by decide +kernel
theorem dX9_told_123 : decode cX9_told 123 = .ok (.getfield 21, 3) := by decide +kernel
theorem dX9_told_126 : decode cX9_told 126 = .ok (.iload_n 1, 1) := by decide +kernel
theorem dX9_told_127 : decode cX9_told 127 = .ok (.invokevirtual 105, 3) := by decide +kernel
theorem dX9_told_130 : decode cX9_told 130 = .ok (.aload_n 0, 1) := by decide +kernel
theorem dX9_told_131 : decode cX9_told 131 = .ok (.getfield 21, 3) := by decide +kernel
theorem dX9_told_134 : decode cX9_told 134 = .ok (.invokevirtual 108, 3) := by decide +kernel
theorem dX9_told_137 : decode cX9_told 137 = .ok (.invokestatic 112, 3) := by decide +kernel
theorem dX9_told_140 : decode cX9_told 140 = .ok (.ireturn, 1) := by decide +kernel
theorem dX9_told_141 : decode cX9_told 141 = .ok (.aload_n 0, 1) := by decide +kernel
theorem dX9_told_142 : decode cX9_told 142 = .ok (.getfield 21, 3) := by decide +kernel
theorem dX9_told_145 : decode cX9_told 145 = .ok (.getfield 86, 3) := by decide +kernel
theorem dX9_told_148 : decode cX9_told 148 = .ok (.iload_n 1, 1) := by decide +kernel
theorem dX9_told_149 : decode cX9_told 149 = .ok (.iaload, 1) := by decide +kernel
theorem dX9_told_150 : decode cX9_told 150 = .ok (.aload_n 0, 1) := by decide +kernel
theorem dX9_told_151 : decode cX9_told 151 = .ok (.getfield 21, 3) := by decide +kernel
theorem dX9_told_154 : decode cX9_told 154 = .ok (.getfield 89, 3) := by decide +kernel
theorem dX9_told_157 : decode cX9_told 157 = .ok (.iload_n 1, 1) := by decide +kernel
theorem dX9_told_158 : decode cX9_told 158 = .ok (.iaload, 1) := by decide +kernel
theorem dX9_told_159 : decode cX9_told 159 = .ok (.aload_n 0, 1) := by decide +kernel
theorem dX9_told_160 : decode cX9_told 160 = .ok (.getfield 21, 3) := by decide +kernel
theorem dX9_told_163 : decode cX9_told 163 = .ok (.getfield 92, 3) := by decide +kernel
theorem dX9_told_166 : decode cX9_told 166 = .ok (.iload_n 1, 1) := by decide +kernel
theorem dX9_told_167 : decode cX9_told 167 = .ok (.iaload, 1) := by decide +kernel
theorem dX9_told_168 : decode cX9_told 168 = .ok (.invokestatic 116, 3) := by decide +kernel
theorem dX9_told_171 : decode cX9_told 171 = .ok (.ireturn, 1) := by decide +kernel
theorem dX9_told_172 : decode cX9_told 172 = .ok (.ldc 85, 2) := by decide +kernel
theorem dX9_told_174 : decode cX9_told 174 = .ok (.ireturn, 1) := by decide +kernel
theorem dX9_as_0 : decode cX9_as 0 = .ok (.iload_n 1, 1) := by decide +kernel
theorem dX9_as_1 : decode cX9_as 1 = .ok (.invokestatic 72, 3) := by decide +kernel
theorem dX9_as_4 : decode cX9_as 4 = .ok (.ifCond .eq 10, 3) := by decide +kernel
theorem dX9_as_7 : decode cX9_as 7 = .ok (.iload_n 2, 1) := by decide +kernel
theorem dX9_as_8 : decode cX9_as 8 = .ok (.invokestatic 76, 3) := by decide +kernel
theorem dX9_as_11 : decode cX9_as 11 = .ok (.ifCond .ne 6, 3) := by decide +kernel
theorem dX9_as_14 : decode cX9_as 14 = .ok (.ldc 85, 2) := by decide +kernel
theorem dX9_as_16 : decode cX9_as 16 = .ok (.ireturn, 1) := by decide +kernel
theorem dX9_as_17 : decode cX9_as 17 = .ok (.aload_n 0, 1) := by decide +kernel
theorem dX9_as_18 : decode cX9_as 18 = .ok (.getfield 21, 3) := by decide +kernel
theorem dX9_as_21 : decode cX9_as 21 = .ok (.getfield 86, 3) := by decide +kernel
theorem dX9_as_24 : decode cX9_as 24 = .ok (.iload_n 1, 1) := by decide +kernel
theorem dX9_as_25 : decode cX9_as 25 = .ok (.iaload, 1) := by decide +kernel
theorem dX9_as_26 : decode cX9_as 26 = .ok (.iload_n 2, 1) := by decide +kernel
theorem dX9_as_27 : decode cX9_as 27 = .ok (.invokestatic 119, 3) := by decide +kernel
theorem dX9_as_30 : decode cX9_as 30 = .ok (.ifCond .eq 15, 3) := by decide +kernel
theorem dX9_as_33 : decode cX9_as 33 = .ok (.aload_n 0, 1) := by decide +kernel
theorem dX9_as_34 : decode cX9_as 34 = .ok (.getfield 21, 3) := by decide +kernel
theorem dX9_as_37 : decode cX9_as 37 = .ok (.getfield 89, 3) := by decide +kernel
theorem dX9_as_40 : decode cX9_as 40 = .ok (.iload_n 1, 1) := by decide +kernel
theorem dX9_as_41 : decode cX9_as 41 = .ok (.iaload, 1) := by decide +kernel
theorem dX9_as_42 : decode cX9_as 42 = .ok (.goto 5, 3) := by decide +kernel
theorem dX9_as_45 : decode cX9_as 45 = .ok (.ldc 123, 2) := by decide +kernel
theorem dX9_as_47 : decode cX9_as 47 = .ok (.ireturn, 1) := by decide +kernel
theorem dX9_turns_0 : decode cX9_turns 0 = .ok (.iload_n 1, 1) := by decide +kernel
theorem dX9_turns_1 : decode cX9_turns 1 = .ok (.invokestatic 72, 3) := by decide +kernel
theorem dX9_turns_4 : decode cX9_turns 4 = .ok (.ifCond .eq 10, 3) := by decide +kernel
theorem dX9_turns_7 : decode cX9_turns 7 = .ok (.iload_n 2, 1) := by decide +kernel
theorem dX9_turns_8 : decode cX9_turns 8 = .ok (.invokestatic 76, 3) := by decide +kernel
theorem dX9_turns_11 : decode cX9_turns 11 = .ok (.ifCond .ne 6, 3) := by decide +kernel
theorem dX9_turns_14 : decode cX9_turns 14 = .ok (.ldc 85, 2) := by decide +kernel
theorem dX9_turns_16 : decode cX9_turns 16 = .ok (.ireturn, 1) := by decide +kernel
theorem dX9_turns_17 : decode cX9_turns 17 = .ok (.aload_n 0, 1) := by decide +kernel
theorem dX9_turns_18 : decode cX9_turns 18 = .ok (.getfield 21, 3) := by decide +kernel
theorem dX9_turns_21 : decode cX9_turns 21 = .ok (.getfield 86, 3) := by decide +kernel
theorem dX9_turns_24 : decode cX9_turns 24 = .ok (.iload_n 1, 1) := by decide +kernel
theorem dX9_turns_25 : decode cX9_turns 25 = .ok (.iaload, 1) := by decide +kernel
theorem dX9_turns_26 : decode cX9_turns 26 = .ok (.istore_n 3, 1) := by decide +kernel
theorem dX9_turns_27 : decode cX9_turns 27 = .ok (.aload_n 0, 1) := by decide +kernel
theorem dX9_turns_28 : decode cX9_turns 28 = .ok (.getfield 21, 3) := by decide +kernel
theorem dX9_turns_31 : decode cX9_turns 31 = .ok (.getfield 86, 3) := by decide +kernel
theorem dX9_turns_34 : decode cX9_turns 34 = .ok (.iload_n 1, 1) := by decide +kernel
theorem dX9_turns_35 : decode cX9_turns 35 = .ok (.iload_n 2, 1) := by decide +kernel
theorem dX9_turns_36 : decode cX9_turns 36 = .ok (.iastore, 1) := by decide +kernel
theorem dX9_turns_37 : decode cX9_turns 37 = .ok (.iload_n 3, 1) := by decide +kernel
theorem dX9_turns_38 : decode cX9_turns 38 = .ok (.ireturn, 1) := by decide +kernel
theorem dX9_set_0 : decode cX9_set 0 = .ok (.iload_n 1, 1) := by decide +kernel
theorem dX9_set_1 : decode cX9_set 1 = .ok (.invokestatic 72, 3) := by decide +kernel
theorem dX9_set_4 : decode cX9_set 4 = .ok (.ifCond .ne 6, 3) := by decide +kernel
theorem dX9_set_7 : decode cX9_set 7 = .ok (.ldc 85, 2) := by decide +kernel
theorem dX9_set_9 : decode cX9_set 9 = .ok (.ireturn, 1) := by decide +kernel
theorem dX9_set_10 : decode cX9_set 10 = .ok (.ldc 85, 2) := by decide +kernel
theorem dX9_set_12 : decode cX9_set 12 = .ok (.istore 4, 2) := by decide +kernel
theorem dX9_set_14 : decode cX9_set 14 = .ok (.iload_n 2, 1) := by decide +kernel
theorem dX9_set_15 : decode cX9_set 15 = .ok (.ifCond .ne 37, 3) := by decide +kernel
theorem dX9_set_18 : decode cX9_set 18 = .ok (.iload_n 3, 1) := by decide +kernel
theorem dX9_set_19 : decode cX9_set 19 = .ok (.iconst 0, 1) := by decide +kernel
theorem dX9_set_20 : decode cX9_set 20 = .ok (.bipush 60, 2) := by decide +kernel
theorem dX9_set_22 : decode cX9_set 22 = .ok (.invokestatic 81, 3) := by decide +kernel
theorem dX9_set_25 : decode cX9_set 25 = .ok (.ifCond .eq 27, 3) := by decide +kernel
theorem dX9_set_28 : decode cX9_set 28 = .ok (.aload_n 0, 1) := by decide +kernel
theorem dX9_set_29 : decode cX9_set 29 = .ok (.getfield 21, 3) := by decide +kernel
theorem dX9_set_32 : decode cX9_set 32 = .ok (.getfield 89, 3) := by decide +kernel
theorem dX9_set_35 : decode cX9_set 35 = .ok (.iload_n 1, 1) := by decide +kernel
theorem dX9_set_36 : decode cX9_set 36 = .ok (.iaload, 1) := by decide +kernel
theorem dX9_set_37 : decode cX9_set 37 = .ok (.istore 4, 2) := by decide +kernel
theorem dX9_set_39 : decode cX9_set 39 = .ok (.aload_n 0, 1) := by decide +kernel
theorem dX9_set_40 : decode cX9_set 40 = .ok (.getfield 21, 3) := by decide +kernel
theorem dX9_set_43 : decode cX9_set 43 = .ok (.getfield 89, 3) := by decide +kernel
theorem dX9_set_46 : decode cX9_set 46 = .ok (.iload_n 1, 1) := by decide +kernel
theorem dX9_set_47 : decode cX9_set 47 = .ok (.iload_n 3, 1) := by decide +kernel
theorem dX9_set_48 : decode cX9_set 48 = .ok (.iastore, 1) := by decide +kernel
theorem dX9_set_49 : decode cX9_set 49 = .ok (.goto 40, 3) := by decide +kernel
theorem dX9_set_52 : decode cX9_set 52 = .ok (.iload_n 2, 1) := by decide +kernel
theorem dX9_set_53 : decode cX9_set 53 = .ok (.iconst 1, 1) := by decide +kernel
theorem dX9_set_54 : decode cX9_set 54 = .ok (.if_icmp .ne 35, 3) := by decide +kernel
theorem dX9_set_57 : decode cX9_set 57 = .ok (.iload_n 3, 1) := by decide +kernel
theorem dX9_set_58 : decode cX9_set 58 = .ok (.iconst 0, 1) := by decide +kernel
theorem dX9_set_59 : decode cX9_set 59 = .ok (.sipush 999, 3) := by decide +kernel
theorem dX9_set_62 : decode cX9_set 62 = .ok (.invokestatic 81, 3) := by decide +kernel
theorem dX9_set_65 : decode cX9_set 65 = .ok (.ifCond .eq 24, 3) := by decide +kernel
theorem dX9_set_68 : decode cX9_set 68 = .ok (.aload_n 0, 1) := by decide +kernel
theorem dX9_set_69 : decode cX9_set 69 = .ok (.getfield 21, 3) := by decide +kernel
theorem dX9_set_72 : decode cX9_set 72 = .ok (.getfield 92, 3) := by decide +kernel
theorem dX9_set_75 : decode cX9_set 75 = .ok (.iload_n 1, 1) := by decide +kernel
theorem dX9_set_76 : decode cX9_set 76 = .ok (.iaload, 1) := by decide +kernel
theorem dX9_set_77 : decode cX9_set 77 = .ok (.istore 4, 2) := by decide +kernel
theorem dX9_set_79 : decode cX9_set 79 = .ok (.aload_n 0, 1) := by decide +kernel
theorem dX9_set_80 : decode cX9_set 80 = .ok (.getfield 21, 3) := by decide +kernel
theorem dX9_set_83 : decode cX9_set 83 = .ok (.getfield 92, 3) := by decide +kernel
theorem dX9_set_86 : decode cX9_set 86 = .ok (.iload_n 1, 1) := by decide +kernel
theorem dX9_set_87 : decode cX9_set 87 = .ok (.iload_n 3, 1) := by decide +kernel
theorem dX9_set_88 : decode cX9_set 88 = .ok (.iastore, 1) := by decide +kernel
theorem dX9_set_89 : decode cX9_set 89 = .ok (.iload 4, 2) := by decide +kernel
theorem dX9_set_91 : decode cX9_set 91 = .ok (.ireturn, 1) := by decide +kernel
theorem dX9_today_0 : decode cX9_today 0 = .ok (.ldc 85, 2) := by decide +kernel
theorem dX9_today_2 : decode cX9_today 2 = .ok (.istore_n 3, 1) := by decide +kernel
theorem dX9_today_3 : decode cX9_today 3 = .ok (.iload_n 1, 1) := by decide +kernel
theorem dX9_today_4 : decode cX9_today 4 = .ok (.ifCond .ne 31, 3) := by decide +kernel
theorem dX9_today_7 : decode cX9_today 7 = .ok (.iload_n 2, 1) := by decide +kernel
theorem dX9_today_8 : decode cX9_today 8 = .ok (.iconst 0, 1) := by decide +kernel
theorem dX9_today_9 : decode cX9_today 9 = .ok (.iconst 5, 1) := by decide +kernel
theorem dX9_today_10 : decode cX9_today 10 = .ok (.invokestatic 81, 3) := by decide +kernel
theorem dX9_today_13 : decode cX9_today 13 = .ok (.ifCond .eq 22, 3) := by decide +kernel
theorem dX9_today_16 : decode cX9_today 16 = .ok (.aload_n 0, 1) := by decide +kernel
theorem dX9_today_17 : decode cX9_today 17 = .ok (.getfield 21, 3) := by decide +kernel
theorem dX9_today_20 : decode cX9_today 20 = .ok (.getfield 124, 3) := by decide +kernel
theorem dX9_today_23 : decode cX9_today 23 = .ok (.istore_n 3, 1) := by decide +kernel
theorem dX9_today_24 : decode cX9_today 24 = .ok (.aload_n 0, 1) := by decide +kernel
theorem dX9_today_25 : decode cX9_today 25 = .ok (.getfield 21, 3) := by decide +kernel
theorem dX9_today_28 : decode cX9_today 28 = .ok (.iload_n 2, 1) := by decide +kernel
theorem dX9_today_29 : decode cX9_today 29 = .ok (.putfield 124, 3) := by decide +kernel
theorem dX9_today_32 : decode cX9_today 32 = .ok (.goto 68, 3) := by decide +kernel
theorem dX9_today_35 : decode cX9_today 35 = .ok (.iload_n 1, 1) := by decide +kernel
theorem dX9_today_36 : decode cX9_today 36 = .ok (.iconst 1, 1) := by decide +kernel
theorem dX9_today_37 : decode cX9_today 37 = .ok (.if_icmp .ne 32, 3) := by decide +kernel
theorem dX9_today_40 : decode cX9_today 40 = .ok (.iload_n 2, 1) := by decide +kernel
theorem dX9_today_41 : decode cX9_today 41 = .ok (.iconst 0, 1) := by decide +kernel
theorem dX9_today_42 : decode cX9_today 42 = .ok (.bipush 23, 2) := by decide +kernel
theorem dX9_today_44 : decode cX9_today 44 = .ok (.invokestatic 81, 3) := by decide +kernel
theorem dX9_today_47 : decode cX9_today 47 = .ok (.ifCond .eq 22, 3) := by decide +kernel
theorem dX9_today_50 : decode cX9_today 50 = .ok (.aload_n 0, 1) := by decide +kernel
theorem dX9_today_51 : decode cX9_today 51 = .ok (.getfield 21, 3) := by decide +kernel
theorem dX9_today_54 : decode cX9_today 54 = .ok (.getfield 128, 3) := by decide +kernel
theorem dX9_today_57 : decode cX9_today 57 = .ok (.istore_n 3, 1) := by decide +kernel
theorem dX9_today_58 : decode cX9_today 58 = .ok (.aload_n 0, 1) := by decide +kernel
theorem dX9_today_59 : decode cX9_today 59 = .ok (.getfield 21, 3) := by decide +kernel
theorem dX9_today_62 : decode cX9_today 62 = .ok (.iload_n 2, 1) := by decide +kernel
theorem dX9_today_63 : decode cX9_today 63 = .ok (.putfield 128, 3) := by decide +kernel
theorem dX9_today_66 : decode cX9_today 66 = .ok (.goto 34, 3) := by decide +kernel
theorem dX9_today_69 : decode cX9_today 69 = .ok (.iload_n 1, 1) := by decide +kernel
theorem dX9_today_70 : decode cX9_today 70 = .ok (.iconst 2, 1) := by decide +kernel
theorem dX9_today_71 : decode cX9_today 71 = .ok (.if_icmp .ne 29, 3) := by decide +kernel
theorem dX9_today_74 : decode cX9_today 74 = .ok (.iload_n 2, 1) := by decide +kernel
theorem dX9_today_75 : decode cX9_today 75 = .ok (.iconst 0, 1) := by decide +kernel
theorem dX9_today_76 : decode cX9_today 76 = .ok (.bipush 9, 2) := by decide +kernel
theorem dX9_today_78 : decode cX9_today 78 = .ok (.invokestatic 81, 3) := by decide +kernel
theorem dX9_today_81 : decode cX9_today 81 = .ok (.ifCond .eq 19, 3) := by decide +kernel
theorem dX9_today_84 : decode cX9_today 84 = .ok (.aload_n 0, 1) := by decide +kernel
theorem dX9_today_85 : decode cX9_today 85 = .ok (.getfield 21, 3) := by decide +kernel
theorem dX9_today_88 : decode cX9_today 88 = .ok (.getfield 131, 3) := by decide +kernel
theorem dX9_today_91 : decode cX9_today 91 = .ok (.istore_n 3, 1) := by decide +kernel
theorem dX9_today_92 : decode cX9_today 92 = .ok (.aload_n 0, 1) := by decide +kernel
theorem dX9_today_93 : decode cX9_today 93 = .ok (.getfield 21, 3) := by decide +kernel
theorem dX9_today_96 : decode cX9_today 96 = .ok (.iload_n 2, 1) := by decide +kernel
theorem dX9_today_97 : decode cX9_today 97 = .ok (.putfield 131, 3) := by decide +kernel
theorem dX9_today_100 : decode cX9_today 100 = .ok (.iload_n 3, 1) := by decide +kernel
theorem dX9_today_101 : decode cX9_today 101 = .ok (.ireturn, 1) := by decide +kernel
theorem dX9_deal_0 : decode cX9_deal 0 = .ok (.aload_n 0, 1) := by decide +kernel
theorem dX9_deal_1 : decode cX9_deal 1 = .ok (.getfield 21, 3) := by decide +kernel
theorem dX9_deal_4 : decode cX9_deal 4 = .ok (.invokevirtual 134, 3) := by decide +kernel
theorem dX9_deal_7 : decode cX9_deal 7 = .ok (.aload_n 0, 1) := by decide +kernel
theorem dX9_deal_8 : decode cX9_deal 8 = .ok (.getfield 21, 3) := by decide +kernel
theorem dX9_deal_11 : decode cX9_deal 11 = .ok (.invokevirtual 137, 3) := by decide +kernel
theorem dX9_deal_14 : decode cX9_deal 14 = .ok (.ireturn, 1) := by decide +kernel
theorem dX9_seed_0 : decode cX9_seed 0 = .ok (.aload_n 0, 1) := by decide +kernel
theorem dX9_seed_1 : decode cX9_seed 1 = .ok (.getfield 21, 3) := by decide +kernel
theorem dX9_seed_4 : decode cX9_seed 4 = .ok (.getfield 140, 3) := by decide +kernel
theorem dX9_seed_7 : decode cX9_seed 7 = .ok (.istore_n 2, 1) := by decide +kernel
theorem dX9_seed_8 : decode cX9_seed 8 = .ok (.aload_n 0, 1) := by decide +kernel
theorem dX9_seed_9 : decode cX9_seed 9 = .ok (.getfield 21, 3) := by decide +kernel
theorem dX9_seed_12 : decode cX9_seed 12 = .ok (.iload_n 1, 1) := by decide +kernel
theorem dX9_seed_13 : decode cX9_seed 13 = .ok (.putfield 140, 3) := by decide +kernel
theorem dX9_seed_16 : decode cX9_seed 16 = .ok (.iload_n 2, 1) := by decide +kernel
theorem dX9_seed_17 : decode cX9_seed 17 = .ok (.ireturn, 1) := by decide +kernel
theorem dX9_run_0 : decode cX9_run 0 = .ok (.iload_n 1, 1) := by decide +kernel
theorem dX9_run_1 : decode cX9_run 1 = .ok (.iconst 1, 1) := by decide +kernel
theorem dX9_run_2 : decode cX9_run 2 = .ok (.bipush 48, 2) := by decide +kernel
theorem dX9_run_4 : decode cX9_run 4 = .ok (.invokestatic 81, 3) := by decide +kernel
theorem dX9_run_7 : decode cX9_run 7 = .ok (.ifCond .ne 6, 3) := by decide +kernel
theorem dX9_run_10 : decode cX9_run 10 = .ok (.ldc 85, 2) := by decide +kernel
theorem dX9_run_12 : decode cX9_run 12 = .ok (.ireturn, 1) := by decide +kernel
theorem dX9_run_13 : decode cX9_run 13 = .ok (.aload_n 0, 1) := by decide +kernel
theorem dX9_run_14 : decode cX9_run 14 = .ok (.getfield 21, 3) := by decide +kernel
theorem dX9_run_17 : decode cX9_run 17 = .ok (.iload_n 1, 1) := by decide +kernel
theorem dX9_run_18 : decode cX9_run 18 = .ok (.invokevirtual 143, 3) := by decide +kernel
theorem dX9_run_21 : decode cX9_run 21 = .ok (.ireturn, 1) := by decide +kernel
theorem dX9_ahead_0 : decode cX9_ahead 0 = .ok (.iload_n 1, 1) := by decide +kernel
theorem dX9_ahead_1 : decode cX9_ahead 1 = .ok (.iconst 0, 1) := by decide +kernel
theorem dX9_ahead_2 : decode cX9_ahead 2 = .ok (.bipush 48, 2) := by decide +kernel
theorem dX9_ahead_4 : decode cX9_ahead 4 = .ok (.invokestatic 81, 3) := by decide +kernel
theorem dX9_ahead_7 : decode cX9_ahead 7 = .ok (.ifCond .eq 12, 3) := by decide +kernel
theorem dX9_ahead_10 : decode cX9_ahead 10 = .ok (.iload_n 2, 1) := by decide +kernel
theorem dX9_ahead_11 : decode cX9_ahead 11 = .ok (.iconst 0, 1) := by decide +kernel
theorem dX9_ahead_12 : decode cX9_ahead 12 = .ok (.iconst 3, 1) := by decide +kernel
theorem dX9_ahead_13 : decode cX9_ahead 13 = .ok (.invokestatic 81, 3) := by decide +kernel
theorem dX9_ahead_16 : decode cX9_ahead 16 = .ok (.ifCond .ne 6, 3) := by decide +kernel
theorem dX9_ahead_19 : decode cX9_ahead 19 = .ok (.ldc 85, 2) := by decide +kernel
theorem dX9_ahead_21 : decode cX9_ahead 21 = .ok (.ireturn, 1) := by decide +kernel
theorem dX9_ahead_22 : decode cX9_ahead 22 = .ok (.aload_n 0, 1) := by decide +kernel
theorem dX9_ahead_23 : decode cX9_ahead 23 = .ok (.getfield 28, 3) := by decide +kernel
theorem dX9_ahead_26 : decode cX9_ahead 26 = .ok (.aload_n 0, 1) := by decide +kernel
theorem dX9_ahead_27 : decode cX9_ahead 27 = .ok (.getfield 21, 3) := by decide +kernel
theorem dX9_ahead_30 : decode cX9_ahead 30 = .ok (.invokevirtual 146, 3) := by decide +kernel
theorem dX9_ahead_33 : decode cX9_ahead 33 = .ok (.aload_n 0, 1) := by decide +kernel
theorem dX9_ahead_34 : decode cX9_ahead 34 = .ok (.getfield 28, 3) := by decide +kernel
theorem dX9_ahead_37 : decode cX9_ahead 37 = .ok (.iload_n 1, 1) := by decide +kernel
theorem dX9_ahead_38 : decode cX9_ahead 38 = .ok (.invokevirtual 143, 3) := by decide +kernel
theorem dX9_ahead_41 : decode cX9_ahead 41 = .ok (.istore_n 3, 1) := by decide +kernel
theorem dX9_ahead_42 : decode cX9_ahead 42 = .ok (.iload_n 2, 1) := by decide +kernel
theorem dX9_ahead_43 : decode cX9_ahead 43 = .ok (.tableswitch 51 0 2 #[25, 33, 35], 25) := by decide +kernel
theorem dX9_ahead_68 : decode cX9_ahead 68 = .ok (.aload_n 0, 1) := by decide +kernel
theorem dX9_ahead_69 : decode cX9_ahead 69 = .ok (.getfield 28, 3) := by decide +kernel
theorem dX9_ahead_72 : decode cX9_ahead 72 = .ok (.invokevirtual 137, 3) := by decide +kernel
theorem dX9_ahead_75 : decode cX9_ahead 75 = .ok (.ireturn, 1) := by decide +kernel
theorem dX9_ahead_76 : decode cX9_ahead 76 = .ok (.iload_n 3, 1) := by decide +kernel
theorem dX9_ahead_77 : decode cX9_ahead 77 = .ok (.ireturn, 1) := by decide +kernel
theorem dX9_ahead_78 : decode cX9_ahead 78 = .ok (.aload_n 0, 1) := by decide +kernel
theorem dX9_ahead_79 : decode cX9_ahead 79 = .ok (.getfield 28, 3) := by decide +kernel
theorem dX9_ahead_82 : decode cX9_ahead 82 = .ok (.getfield 92, 3) := by decide +kernel
theorem dX9_ahead_85 : decode cX9_ahead 85 = .ok (.aload_n 0, 1) := by decide +kernel
theorem dX9_ahead_86 : decode cX9_ahead 86 = .ok (.getfield 28, 3) := by decide +kernel
theorem dX9_ahead_89 : decode cX9_ahead 89 = .ok (.invokevirtual 150, 3) := by decide +kernel
theorem dX9_ahead_92 : decode cX9_ahead 92 = .ok (.iaload, 1) := by decide +kernel
theorem dX9_ahead_93 : decode cX9_ahead 93 = .ok (.ireturn, 1) := by decide +kernel
theorem dX9_ahead_94 : decode cX9_ahead 94 = .ok (.aload_n 0, 1) := by decide +kernel
theorem dX9_ahead_95 : decode cX9_ahead 95 = .ok (.getfield 28, 3) := by decide +kernel
theorem dX9_ahead_98 : decode cX9_ahead 98 = .ok (.invokevirtual 150, 3) := by decide +kernel
theorem dX9_ahead_101 : decode cX9_ahead 101 = .ok (.ireturn, 1) := by decide +kernel
theorem dX9_calm_0 : decode cX9_calm 0 = .ok (.aload_n 0, 1) := by decide +kernel
theorem dX9_calm_1 : decode cX9_calm 1 = .ok (.getfield 28, 3) := by decide +kernel
theorem dX9_calm_4 : decode cX9_calm 4 = .ok (.aload_n 0, 1) := by decide +kernel
theorem dX9_calm_5 : decode cX9_calm 5 = .ok (.getfield 21, 3) := by decide +kernel
theorem dX9_calm_8 : decode cX9_calm 8 = .ok (.invokevirtual 146, 3) := by decide +kernel
theorem dX9_calm_11 : decode cX9_calm 11 = .ok (.aload_n 0, 1) := by decide +kernel
theorem dX9_calm_12 : decode cX9_calm 12 = .ok (.getfield 28, 3) := by decide +kernel
theorem dX9_calm_15 : decode cX9_calm 15 = .ok (.invokevirtual 153, 3) := by decide +kernel
theorem dX9_calm_18 : decode cX9_calm 18 = .ok (.iconst 1, 1) := by decide +kernel
theorem dX9_calm_19 : decode cX9_calm 19 = .ok (.istore_n 1, 1) := by decide +kernel
theorem dX9_calm_20 : decode cX9_calm 20 = .ok (.iload_n 1, 1) := by decide +kernel
theorem dX9_calm_21 : decode cX9_calm 21 = .ok (.bipush 48, 2) := by decide +kernel
theorem dX9_calm_23 : decode cX9_calm 23 = .ok (.if_icmp .gt 21, 3) := by decide +kernel
theorem dX9_calm_26 : decode cX9_calm 26 = .ok (.aload_n 0, 1) := by decide +kernel
theorem dX9_calm_27 : decode cX9_calm 27 = .ok (.getfield 28, 3) := by decide +kernel
theorem dX9_calm_30 : decode cX9_calm 30 = .ok (.invokevirtual 156, 3) := by decide +kernel
theorem dX9_calm_33 : decode cX9_calm 33 = .ok (.ifCond .le 5, 3) := by decide +kernel
theorem dX9_calm_36 : decode cX9_calm 36 = .ok (.iload_n 1, 1) := by decide +kernel
theorem dX9_calm_37 : decode cX9_calm 37 = .ok (.ireturn, 1) := by decide +kernel
theorem dX9_calm_38 : decode cX9_calm 38 = .ok (.iinc 1 1, 3) := by decide +kernel
theorem dX9_calm_41 : decode cX9_calm 41 = .ok (.goto (-21), 3) := by decide +kernel
theorem dX9_calm_44 : decode cX9_calm 44 = .ok (.ldc 159, 2) := by decide +kernel
theorem dX9_calm_46 : decode cX9_calm 46 = .ok (.ireturn, 1) := by decide +kernel
theorem dX9_track_0 : decode cX9_track 0 = .ok (.iload_n 1, 1) := by decide +kernel
theorem dX9_track_1 : decode cX9_track 1 = .ok (.invokestatic 72, 3) := by decide +kernel
theorem dX9_track_4 : decode cX9_track 4 = .ok (.ifCond .ne 6, 3) := by decide +kernel
theorem dX9_track_7 : decode cX9_track 7 = .ok (.ldc 85, 2) := by decide +kernel
theorem dX9_track_9 : decode cX9_track 9 = .ok (.ireturn, 1) := by decide +kernel
theorem dX9_track_10 : decode cX9_track 10 = .ok (.aload_n 0, 1) := by decide +kernel
theorem dX9_track_11 : decode cX9_track 11 = .ok (.getfield 21, 3) := by decide +kernel
theorem dX9_track_14 : decode cX9_track 14 = .ok (.getfield 160, 3) := by decide +kernel
theorem dX9_track_17 : decode cX9_track 17 = .ok (.istore_n 2, 1) := by decide +kernel
theorem dX9_track_18 : decode cX9_track 18 = .ok (.iload_n 2, 1) := by decide +kernel
theorem dX9_track_19 : decode cX9_track 19 = .ok (.ifCond .le 24, 3) := by decide +kernel
theorem dX9_track_22 : decode cX9_track 22 = .ok (.aload_n 0, 1) := by decide +kernel
theorem dX9_track_23 : decode cX9_track 23 = .ok (.getfield 21, 3) := by decide +kernel
theorem dX9_track_26 : decode cX9_track 26 = .ok (.getfield 163, 3) := by decide +kernel
theorem dX9_track_29 : decode cX9_track 29 = .ok (.iload_n 2, 1) := by decide +kernel
theorem dX9_track_30 : decode cX9_track 30 = .ok (.iconst 1, 1) := by decide +kernel
theorem dX9_track_31 : decode cX9_track 31 = .ok (.isub, 1) := by decide +kernel
theorem dX9_track_32 : decode cX9_track 32 = .ok (.iaload, 1) := by decide +kernel
theorem dX9_track_33 : decode cX9_track 33 = .ok (.iload_n 1, 1) := by decide +kernel
theorem dX9_track_34 : decode cX9_track 34 = .ok (.invokestatic 166, 3) := by decide +kernel
theorem dX9_track_37 : decode cX9_track 37 = .ok (.ifCond .ne 6, 3) := by decide +kernel
theorem dX9_track_40 : decode cX9_track 40 = .ok (.ldc 169, 2) := by decide +kernel
theorem dX9_track_42 : decode cX9_track 42 = .ok (.ireturn, 1) := by decide +kernel
theorem dX9_track_43 : decode cX9_track 43 = .ok (.iload_n 2, 1) := by decide +kernel
theorem dX9_track_44 : decode cX9_track 44 = .ok (.bipush 24, 2) := by decide +kernel
theorem dX9_track_46 : decode cX9_track 46 = .ok (.if_icmp .lt 6, 3) := by decide +kernel
theorem dX9_track_49 : decode cX9_track 49 = .ok (.ldc 170, 2) := by decide +kernel
theorem dX9_track_51 : decode cX9_track 51 = .ok (.ireturn, 1) := by decide +kernel
theorem dX9_track_52 : decode cX9_track 52 = .ok (.aload_n 0, 1) := by decide +kernel
theorem dX9_track_53 : decode cX9_track 53 = .ok (.getfield 21, 3) := by decide +kernel
theorem dX9_track_56 : decode cX9_track 56 = .ok (.getfield 163, 3) := by decide +kernel
theorem dX9_track_59 : decode cX9_track 59 = .ok (.iload_n 2, 1) := by decide +kernel
theorem dX9_track_60 : decode cX9_track 60 = .ok (.iload_n 1, 1) := by decide +kernel
theorem dX9_track_61 : decode cX9_track 61 = .ok (.iastore, 1) := by decide +kernel
theorem dX9_track_62 : decode cX9_track 62 = .ok (.aload_n 0, 1) := by decide +kernel
theorem dX9_track_63 : decode cX9_track 63 = .ok (.getfield 21, 3) := by decide +kernel
theorem dX9_track_66 : decode cX9_track 66 = .ok (.iload_n 2, 1) := by decide +kernel
theorem dX9_track_67 : decode cX9_track 67 = .ok (.iconst 1, 1) := by decide +kernel
theorem dX9_track_68 : decode cX9_track 68 = .ok (.iadd, 1) := by decide +kernel
theorem dX9_track_69 : decode cX9_track 69 = .ok (.putfield 160, 3) := by decide +kernel
theorem dX9_track_72 : decode cX9_track 72 = .ok (.aload_n 0, 1) := by decide +kernel
theorem dX9_track_73 : decode cX9_track 73 = .ok (.getfield 21, 3) := by decide +kernel
theorem dX9_track_76 : decode cX9_track 76 = .ok (.getfield 160, 3) := by decide +kernel
theorem dX9_track_79 : decode cX9_track 79 = .ok (.ireturn, 1) := by decide +kernel
theorem dX9_wipe_0 : decode cX9_wipe 0 = .ok (.aload_n 0, 1) := by decide +kernel
theorem dX9_wipe_1 : decode cX9_wipe 1 = .ok (.getfield 21, 3) := by decide +kernel
theorem dX9_wipe_4 : decode cX9_wipe 4 = .ok (.getfield 160, 3) := by decide +kernel
theorem dX9_wipe_7 : decode cX9_wipe 7 = .ok (.istore_n 1, 1) := by decide +kernel
theorem dX9_wipe_8 : decode cX9_wipe 8 = .ok (.aload_n 0, 1) := by decide +kernel
theorem dX9_wipe_9 : decode cX9_wipe 9 = .ok (.getfield 21, 3) := by decide +kernel
theorem dX9_wipe_12 : decode cX9_wipe 12 = .ok (.iconst 0, 1) := by decide +kernel
theorem dX9_wipe_13 : decode cX9_wipe 13 = .ok (.putfield 160, 3) := by decide +kernel
theorem dX9_wipe_16 : decode cX9_wipe 16 = .ok (.iload_n 1, 1) := by decide +kernel
theorem dX9_wipe_17 : decode cX9_wipe 17 = .ok (.ireturn, 1) := by decide +kernel
theorem dX9_at_0 : decode cX9_at 0 = .ok (.iload_n 1, 1) := by decide +kernel
theorem dX9_at_1 : decode cX9_at 1 = .ok (.ifCond .ge 6, 3) := by decide +kernel
theorem dX9_at_4 : decode cX9_at 4 = .ok (.ldc 85, 2) := by decide +kernel
theorem dX9_at_6 : decode cX9_at 6 = .ok (.ireturn, 1) := by decide +kernel
theorem dX9_at_7 : decode cX9_at 7 = .ok (.iload_n 1, 1) := by decide +kernel
theorem dX9_at_8 : decode cX9_at 8 = .ok (.aload_n 0, 1) := by decide +kernel
theorem dX9_at_9 : decode cX9_at 9 = .ok (.getfield 21, 3) := by decide +kernel
theorem dX9_at_12 : decode cX9_at 12 = .ok (.getfield 160, 3) := by decide +kernel
theorem dX9_at_15 : decode cX9_at 15 = .ok (.if_icmp .ge 15, 3) := by decide +kernel
theorem dX9_at_18 : decode cX9_at 18 = .ok (.aload_n 0, 1) := by decide +kernel
theorem dX9_at_19 : decode cX9_at 19 = .ok (.getfield 21, 3) := by decide +kernel
theorem dX9_at_22 : decode cX9_at 22 = .ok (.getfield 163, 3) := by decide +kernel
theorem dX9_at_25 : decode cX9_at 25 = .ok (.iload_n 1, 1) := by decide +kernel
theorem dX9_at_26 : decode cX9_at 26 = .ok (.iaload, 1) := by decide +kernel
theorem dX9_at_27 : decode cX9_at 27 = .ok (.goto 5, 3) := by decide +kernel
theorem dX9_at_30 : decode cX9_at 30 = .ok (.ldc 159, 2) := by decide +kernel
theorem dX9_at_32 : decode cX9_at 32 = .ok (.ireturn, 1) := by decide +kernel
theorem dX9_along_0 : decode cX9_along 0 = .ok (.iload_n 1, 1) := by decide +kernel
theorem dX9_along_1 : decode cX9_along 1 = .ok (.iconst 0, 1) := by decide +kernel
theorem dX9_along_2 : decode cX9_along 2 = .ok (.iconst 4, 1) := by decide +kernel
theorem dX9_along_3 : decode cX9_along 3 = .ok (.invokestatic 81, 3) := by decide +kernel
theorem dX9_along_6 : decode cX9_along 6 = .ok (.ifCond .ne 6, 3) := by decide +kernel
theorem dX9_along_9 : decode cX9_along 9 = .ok (.ldc 85, 2) := by decide +kernel
theorem dX9_along_11 : decode cX9_along 11 = .ok (.ireturn, 1) := by decide +kernel
theorem dX9_along_12 : decode cX9_along 12 = .ok (.aload_n 0, 1) := by decide +kernel
theorem dX9_along_13 : decode cX9_along 13 = .ok (.getfield 21, 3) := by decide +kernel
theorem dX9_along_16 : decode cX9_along 16 = .ok (.getfield 160, 3) := by decide +kernel
theorem dX9_along_19 : decode cX9_along 19 = .ok (.ifCond .ne 6, 3) := by decide +kernel
theorem dX9_along_22 : decode cX9_along 22 = .ok (.ldc 159, 2) := by decide +kernel
theorem dX9_along_24 : decode cX9_along 24 = .ok (.ireturn, 1) := by decide +kernel
theorem dX9_along_25 : decode cX9_along 25 = .ok (.iload_n 1, 1) := by decide +kernel
theorem dX9_along_26 : decode cX9_along 26 = .ok (.tableswitch 62 0 3 #[30, 38, 46, 54], 30) := by decide +kernel
theorem dX9_along_56 : decode cX9_along 56 = .ok (.aload_n 0, 1) := by decide +kernel
theorem dX9_along_57 : decode cX9_along 57 = .ok (.getfield 21, 3) := by decide +kernel
theorem dX9_along_60 : decode cX9_along 60 = .ok (.invokevirtual 171, 3) := by decide +kernel
theorem dX9_along_63 : decode cX9_along 63 = .ok (.ireturn, 1) := by decide +kernel
theorem dX9_along_64 : decode cX9_along 64 = .ok (.aload_n 0, 1) := by decide +kernel
theorem dX9_along_65 : decode cX9_along 65 = .ok (.getfield 21, 3) := by decide +kernel
theorem dX9_along_68 : decode cX9_along 68 = .ok (.invokevirtual 174, 3) := by decide +kernel
theorem dX9_along_71 : decode cX9_along 71 = .ok (.ireturn, 1) := by decide +kernel
theorem dX9_along_72 : decode cX9_along 72 = .ok (.aload_n 0, 1) := by decide +kernel
theorem dX9_along_73 : decode cX9_along 73 = .ok (.getfield 21, 3) := by decide +kernel
theorem dX9_along_76 : decode cX9_along 76 = .ok (.invokevirtual 177, 3) := by decide +kernel
theorem dX9_along_79 : decode cX9_along 79 = .ok (.ireturn, 1) := by decide +kernel
theorem dX9_along_80 : decode cX9_along 80 = .ok (.aload_n 0, 1) := by decide +kernel
theorem dX9_along_81 : decode cX9_along 81 = .ok (.getfield 21, 3) := by decide +kernel
theorem dX9_along_84 : decode cX9_along 84 = .ok (.invokevirtual 180, 3) := by decide +kernel
theorem dX9_along_87 : decode cX9_along 87 = .ok (.ireturn, 1) := by decide +kernel
theorem dX9_along_88 : decode cX9_along 88 = .ok (.aload_n 0, 1) := by decide +kernel
theorem dX9_along_89 : decode cX9_along 89 = .ok (.getfield 21, 3) := by decide +kernel
theorem dX9_along_92 : decode cX9_along 92 = .ok (.invokevirtual 183, 3) := by decide +kernel
theorem dX9_along_95 : decode cX9_along 95 = .ok (.ireturn, 1) := by decide +kernel
theorem dX9_turnBack_0 : decode cX9_turnBack 0 = .ok (.iload_n 1, 1) := by decide +kernel
theorem dX9_turnBack_1 : decode cX9_turnBack 1 = .ok (.iconst 0, 1) := by decide +kernel
theorem dX9_turnBack_2 : decode cX9_turnBack 2 = .ok (.ldc 186, 2) := by decide +kernel
theorem dX9_turnBack_4 : decode cX9_turnBack 4 = .ok (.invokestatic 81, 3) := by decide +kernel
theorem dX9_turnBack_7 : decode cX9_turnBack 7 = .ok (.ifCond .ne 6, 3) := by decide +kernel
theorem dX9_turnBack_10 : decode cX9_turnBack 10 = .ok (.ldc 85, 2) := by decide +kernel
theorem dX9_turnBack_12 : decode cX9_turnBack 12 = .ok (.ireturn, 1) := by decide +kernel
theorem dX9_turnBack_13 : decode cX9_turnBack 13 = .ok (.aload_n 0, 1) := by decide +kernel
theorem dX9_turnBack_14 : decode cX9_turnBack 14 = .ok (.getfield 21, 3) := by decide +kernel
theorem dX9_turnBack_17 : decode cX9_turnBack 17 = .ok (.invokevirtual 187, 3) := by decide +kernel
theorem dX9_turnBack_20 : decode cX9_turnBack 20 = .ok (.iconst 0, 1) := by decide +kernel
theorem dX9_turnBack_21 : decode cX9_turnBack 21 = .ok (.istore_n 2, 1) := by decide +kernel
theorem dX9_turnBack_22 : decode cX9_turnBack 22 = .ok (.iload_n 2, 1) := by decide +kernel
theorem dX9_turnBack_23 : decode cX9_turnBack 23 = .ok (.aload_n 0, 1) := by decide +kernel
theorem dX9_turnBack_24 : decode cX9_turnBack 24 = .ok (.getfield 21, 3) := by decide +kernel
theorem dX9_turnBack_27 : decode cX9_turnBack 27 = .ok (.getfield 160, 3) := by decide +kernel
theorem dX9_turnBack_30 : decode cX9_turnBack 30 = .ok (.if_icmp .ge 32, 3) := by decide +kernel
theorem dX9_turnBack_33 : decode cX9_turnBack 33 = .ok (.aload_n 0, 1) := by decide +kernel
theorem dX9_turnBack_34 : decode cX9_turnBack 34 = .ok (.getfield 21, 3) := by decide +kernel
theorem dX9_turnBack_37 : decode cX9_turnBack 37 = .ok (.getfield 190, 3) := by decide +kernel
theorem dX9_turnBack_40 : decode cX9_turnBack 40 = .ok (.aload_n 0, 1) := by decide +kernel
theorem dX9_turnBack_41 : decode cX9_turnBack 41 = .ok (.getfield 21, 3) := by decide +kernel
theorem dX9_turnBack_44 : decode cX9_turnBack 44 = .ok (.getfield 163, 3) := by decide +kernel
theorem dX9_turnBack_47 : decode cX9_turnBack 47 = .ok (.iload_n 2, 1) := by decide +kernel
theorem dX9_turnBack_48 : decode cX9_turnBack 48 = .ok (.iaload, 1) := by decide +kernel
theorem dX9_turnBack_49 : decode cX9_turnBack 49 = .ok (.iaload, 1) := by decide +kernel
theorem dX9_turnBack_50 : decode cX9_turnBack 50 = .ok (.iload_n 1, 1) := by decide +kernel
theorem dX9_turnBack_51 : decode cX9_turnBack 51 = .ok (.if_icmp .le 5, 3) := by decide +kernel
theorem dX9_turnBack_54 : decode cX9_turnBack 54 = .ok (.iload_n 2, 1) := by decide +kernel
theorem dX9_turnBack_55 : decode cX9_turnBack 55 = .ok (.ireturn, 1) := by decide +kernel
theorem dX9_turnBack_56 : decode cX9_turnBack 56 = .ok (.iinc 2 1, 3) := by decide +kernel
theorem dX9_turnBack_59 : decode cX9_turnBack 59 = .ok (.goto (-37), 3) := by decide +kernel
theorem dX9_turnBack_62 : decode cX9_turnBack 62 = .ok (.ldc 159, 2) := by decide +kernel
theorem dX9_turnBack_64 : decode cX9_turnBack 64 = .ok (.ireturn, 1) := by decide +kernel
theorem dX9_way_0 : decode cX9_way 0 = .ok (.iload_n 1, 1) := by decide +kernel
theorem dX9_way_1 : decode cX9_way 1 = .ok (.invokestatic 72, 3) := by decide +kernel
theorem dX9_way_4 : decode cX9_way 4 = .ok (.ifCond .eq 24, 3) := by decide +kernel
theorem dX9_way_7 : decode cX9_way 7 = .ok (.iload_n 2, 1) := by decide +kernel
theorem dX9_way_8 : decode cX9_way 8 = .ok (.invokestatic 72, 3) := by decide +kernel
theorem dX9_way_11 : decode cX9_way 11 = .ok (.ifCond .eq 17, 3) := by decide +kernel
theorem dX9_way_14 : decode cX9_way 14 = .ok (.iload_n 3, 1) := by decide +kernel
theorem dX9_way_15 : decode cX9_way 15 = .ok (.ifCond .lt 13, 3) := by decide +kernel
theorem dX9_way_18 : decode cX9_way 18 = .ok (.iload_n 3, 1) := by decide +kernel
theorem dX9_way_19 : decode cX9_way 19 = .ok (.iconst 3, 1) := by decide +kernel
theorem dX9_way_20 : decode cX9_way 20 = .ok (.bipush 9, 2) := by decide +kernel
theorem dX9_way_22 : decode cX9_way 22 = .ok (.invokestatic 81, 3) := by decide +kernel
theorem dX9_way_25 : decode cX9_way 25 = .ok (.ifCond .eq 6, 3) := by decide +kernel
theorem dX9_way_28 : decode cX9_way 28 = .ok (.ldc 85, 2) := by decide +kernel
theorem dX9_way_30 : decode cX9_way 30 = .ok (.ireturn, 1) := by decide +kernel
theorem dX9_way_31 : decode cX9_way 31 = .ok (.aload_n 0, 1) := by decide +kernel
theorem dX9_way_32 : decode cX9_way 32 = .ok (.getfield 34, 3) := by decide +kernel
theorem dX9_way_35 : decode cX9_way 35 = .ok (.aload_n 0, 1) := by decide +kernel
theorem dX9_way_36 : decode cX9_way 36 = .ok (.getfield 21, 3) := by decide +kernel
theorem dX9_way_39 : decode cX9_way 39 = .ok (.iload_n 2, 1) := by decide +kernel
theorem dX9_way_40 : decode cX9_way 40 = .ok (.invokevirtual 193, 3) := by decide +kernel
theorem dX9_way_43 : decode cX9_way 43 = .ok (.iload_n 3, 1) := by decide +kernel
theorem dX9_way_44 : decode cX9_way 44 = .ok (.tableswitch 59 0 2 #[28, 37, 46], 28) := by decide +kernel
theorem dX9_way_72 : decode cX9_way 72 = .ok (.aload_n 0, 1) := by decide +kernel
theorem dX9_way_73 : decode cX9_way 73 = .ok (.getfield 34, 3) := by decide +kernel
theorem dX9_way_76 : decode cX9_way 76 = .ok (.iload_n 1, 1) := by decide +kernel
theorem dX9_way_77 : decode cX9_way 77 = .ok (.invokevirtual 197, 3) := by decide +kernel
theorem dX9_way_80 : decode cX9_way 80 = .ok (.ireturn, 1) := by decide +kernel
theorem dX9_way_81 : decode cX9_way 81 = .ok (.aload_n 0, 1) := by decide +kernel
theorem dX9_way_82 : decode cX9_way 82 = .ok (.getfield 34, 3) := by decide +kernel
theorem dX9_way_85 : decode cX9_way 85 = .ok (.iload_n 1, 1) := by decide +kernel
theorem dX9_way_86 : decode cX9_way 86 = .ok (.invokevirtual 200, 3) := by decide +kernel
theorem dX9_way_89 : decode cX9_way 89 = .ok (.ireturn, 1) := by decide +kernel
theorem dX9_way_90 : decode cX9_way 90 = .ok (.aload_n 0, 1) := by decide +kernel
theorem dX9_way_91 : decode cX9_way 91 = .ok (.getfield 34, 3) := by decide +kernel
theorem dX9_way_94 : decode cX9_way 94 = .ok (.aload_n 0, 1) := by decide +kernel
theorem dX9_way_95 : decode cX9_way 95 = .ok (.getfield 21, 3) := by decide +kernel
theorem dX9_way_98 : decode cX9_way 98 = .ok (.iload_n 1, 1) := by decide +kernel
theorem dX9_way_99 : decode cX9_way 99 = .ok (.invokevirtual 203, 3) := by decide +kernel
theorem dX9_way_102 : decode cX9_way 102 = .ok (.ireturn, 1) := by decide +kernel
theorem dX9_way_103 : decode cX9_way 103 = .ok (.aload_n 0, 1) := by decide +kernel
theorem dX9_way_104 : decode cX9_way 104 = .ok (.getfield 34, 3) := by decide +kernel
theorem dX9_way_107 : decode cX9_way 107 = .ok (.aload_n 0, 1) := by decide +kernel
theorem dX9_way_108 : decode cX9_way 108 = .ok (.getfield 21, 3) := by decide +kernel
theorem dX9_way_111 : decode cX9_way 111 = .ok (.iload_n 1, 1) := by decide +kernel
theorem dX9_way_112 : decode cX9_way 112 = .ok (.iload_n 3, 1) := by decide +kernel
theorem dX9_way_113 : decode cX9_way 113 = .ok (.bipush 10, 2) := by decide +kernel
theorem dX9_way_115 : decode cX9_way 115 = .ok (.isub, 1) := by decide +kernel
theorem dX9_way_116 : decode cX9_way 116 = .ok (.invokevirtual 207, 3) := by decide +kernel
theorem dX9_way_119 : decode cX9_way 119 = .ok (.ireturn, 1) := by decide +kernel
theorem dX9_bound_0 : decode cX9_bound 0 = .ok (.iload_n 1, 1) := by decide +kernel
theorem dX9_bound_1 : decode cX9_bound 1 = .ok (.invokestatic 72, 3) := by decide +kernel
theorem dX9_bound_4 : decode cX9_bound 4 = .ok (.ifCond .eq 20, 3) := by decide +kernel
theorem dX9_bound_7 : decode cX9_bound 7 = .ok (.iload_n 2, 1) := by decide +kernel
theorem dX9_bound_8 : decode cX9_bound 8 = .ok (.invokestatic 72, 3) := by decide +kernel
theorem dX9_bound_11 : decode cX9_bound 11 = .ok (.ifCond .eq 13, 3) := by decide +kernel
theorem dX9_bound_14 : decode cX9_bound 14 = .ok (.iload_n 3, 1) := by decide +kernel
theorem dX9_bound_15 : decode cX9_bound 15 = .ok (.iconst 0, 1) := by decide +kernel
theorem dX9_bound_16 : decode cX9_bound 16 = .ok (.bipush 40, 2) := by decide +kernel
theorem dX9_bound_18 : decode cX9_bound 18 = .ok (.invokestatic 81, 3) := by decide +kernel
theorem dX9_bound_21 : decode cX9_bound 21 = .ok (.ifCond .ne 6, 3) := by decide +kernel
theorem dX9_bound_24 : decode cX9_bound 24 = .ok (.ldc 85, 2) := by decide +kernel
theorem dX9_bound_26 : decode cX9_bound 26 = .ok (.ireturn, 1) := by decide +kernel
theorem dX9_bound_27 : decode cX9_bound 27 = .ok (.aload_n 0, 1) := by decide +kernel
theorem dX9_bound_28 : decode cX9_bound 28 = .ok (.getfield 34, 3) := by decide +kernel
theorem dX9_bound_31 : decode cX9_bound 31 = .ok (.aload_n 0, 1) := by decide +kernel
theorem dX9_bound_32 : decode cX9_bound 32 = .ok (.getfield 21, 3) := by decide +kernel
theorem dX9_bound_35 : decode cX9_bound 35 = .ok (.iload_n 1, 1) := by decide +kernel
theorem dX9_bound_36 : decode cX9_bound 36 = .ok (.iload_n 2, 1) := by decide +kernel
theorem dX9_bound_37 : decode cX9_bound 37 = .ok (.iload_n 3, 1) := by decide +kernel
theorem dX9_bound_38 : decode cX9_bound 38 = .ok (.invokevirtual 211, 3) := by decide +kernel
theorem dX9_bound_41 : decode cX9_bound 41 = .ok (.ireturn, 1) := by decide +kernel
theorem dX9_wall_0 : decode cX9_wall 0 = .ok (.iload_n 1, 1) := by decide +kernel
theorem dX9_wall_1 : decode cX9_wall 1 = .ok (.invokestatic 72, 3) := by decide +kernel
theorem dX9_wall_4 : decode cX9_wall 4 = .ok (.ifCond .eq 10, 3) := by decide +kernel
theorem dX9_wall_7 : decode cX9_wall 7 = .ok (.iload_n 2, 1) := by decide +kernel
theorem dX9_wall_8 : decode cX9_wall 8 = .ok (.invokestatic 72, 3) := by decide +kernel
theorem dX9_wall_11 : decode cX9_wall 11 = .ok (.ifCond .ne 6, 3) := by decide +kernel
theorem dX9_wall_14 : decode cX9_wall 14 = .ok (.ldc 85, 2) := by decide +kernel
theorem dX9_wall_16 : decode cX9_wall 16 = .ok (.ireturn, 1) := by decide +kernel
theorem dX9_wall_17 : decode cX9_wall 17 = .ok (.aload_n 0, 1) := by decide +kernel
theorem dX9_wall_18 : decode cX9_wall 18 = .ok (.getfield 34, 3) := by decide +kernel
theorem dX9_wall_21 : decode cX9_wall 21 = .ok (.aload_n 0, 1) := by decide +kernel
theorem dX9_wall_22 : decode cX9_wall 22 = .ok (.getfield 21, 3) := by decide +kernel
theorem dX9_wall_25 : decode cX9_wall 25 = .ok (.iload_n 1, 1) := by decide +kernel
theorem dX9_wall_26 : decode cX9_wall 26 = .ok (.iload_n 2, 1) := by decide +kernel
theorem dX9_wall_27 : decode cX9_wall 27 = .ok (.invokevirtual 215, 3) := by decide +kernel
theorem dX9_wall_30 : decode cX9_wall 30 = .ok (.ireturn, 1) := by decide +kernel
theorem dX9_reach_0 : decode cX9_reach 0 = .ok (.iload_n 1, 1) := by decide +kernel
theorem dX9_reach_1 : decode cX9_reach 1 = .ok (.invokestatic 72, 3) := by decide +kernel
theorem dX9_reach_4 : decode cX9_reach 4 = .ok (.ifCond .eq 13, 3) := by decide +kernel
theorem dX9_reach_7 : decode cX9_reach 7 = .ok (.iload_n 2, 1) := by decide +kernel
theorem dX9_reach_8 : decode cX9_reach 8 = .ok (.iconst 0, 1) := by decide +kernel
theorem dX9_reach_9 : decode cX9_reach 9 = .ok (.ldc 186, 2) := by decide +kernel
theorem dX9_reach_11 : decode cX9_reach 11 = .ok (.invokestatic 81, 3) := by decide +kernel
theorem dX9_reach_14 : decode cX9_reach 14 = .ok (.ifCond .ne 6, 3) := by decide +kernel
theorem dX9_reach_17 : decode cX9_reach 17 = .ok (.ldc 85, 2) := by decide +kernel
theorem dX9_reach_19 : decode cX9_reach 19 = .ok (.ireturn, 1) := by decide +kernel
theorem dX9_reach_20 : decode cX9_reach 20 = .ok (.aload_n 0, 1) := by decide +kernel
theorem dX9_reach_21 : decode cX9_reach 21 = .ok (.getfield 34, 3) := by decide +kernel
theorem dX9_reach_24 : decode cX9_reach 24 = .ok (.aload_n 0, 1) := by decide +kernel
theorem dX9_reach_25 : decode cX9_reach 25 = .ok (.getfield 21, 3) := by decide +kernel
theorem dX9_reach_28 : decode cX9_reach 28 = .ok (.iload_n 1, 1) := by decide +kernel
theorem dX9_reach_29 : decode cX9_reach 29 = .ok (.iload_n 2, 1) := by decide +kernel
theorem dX9_reach_30 : decode cX9_reach 30 = .ok (.invokevirtual 218, 3) := by decide +kernel
theorem dX9_reach_33 : decode cX9_reach 33 = .ok (.ireturn, 1) := by decide +kernel
theorem dX9_odds_0 : decode cX9_odds 0 = .ok (.iload_n 1, 1) := by decide +kernel
theorem dX9_odds_1 : decode cX9_odds 1 = .ok (.iconst 0, 1) := by decide +kernel
theorem dX9_odds_2 : decode cX9_odds 2 = .ok (.bipush 100, 2) := by decide +kernel
theorem dX9_odds_4 : decode cX9_odds 4 = .ok (.invokestatic 81, 3) := by decide +kernel
theorem dX9_odds_7 : decode cX9_odds 7 = .ok (.ifCond .eq 22, 3) := by decide +kernel
theorem dX9_odds_10 : decode cX9_odds 10 = .ok (.iload_n 2, 1) := by decide +kernel
theorem dX9_odds_11 : decode cX9_odds 11 = .ok (.iconst 0, 1) := by decide +kernel
theorem dX9_odds_12 : decode cX9_odds 12 = .ok (.bipush 12, 2) := by decide +kernel
theorem dX9_odds_14 : decode cX9_odds 14 = .ok (.invokestatic 81, 3) := by decide +kernel
theorem dX9_odds_17 : decode cX9_odds 17 = .ok (.ifCond .eq 12, 3) := by decide +kernel
theorem dX9_odds_20 : decode cX9_odds 20 = .ok (.iload_n 3, 1) := by decide +kernel
theorem dX9_odds_21 : decode cX9_odds 21 = .ok (.iconst 0, 1) := by decide +kernel
theorem dX9_odds_22 : decode cX9_odds 22 = .ok (.iconst 1, 1) := by decide +kernel
theorem dX9_odds_23 : decode cX9_odds 23 = .ok (.invokestatic 81, 3) := by decide +kernel
theorem dX9_odds_26 : decode cX9_odds 26 = .ok (.ifCond .ne 7, 3) := by decide +kernel
theorem dX9_odds_29 : decode cX9_odds 29 = .ok (.ldc2_w 221, 3) := by decide +kernel
theorem dX9_odds_32 : decode cX9_odds 32 = .ok (.lreturn, 1) := by decide +kernel
theorem dX9_odds_33 : decode cX9_odds 33 = .ok (.iload_n 1, 1) := by decide +kernel
theorem dX9_odds_34 : decode cX9_odds 34 = .ok (.istore 4, 2) := by decide +kernel
theorem dX9_odds_36 : decode cX9_odds 36 = .ok (.iconst 0, 1) := by decide +kernel
theorem dX9_odds_37 : decode cX9_odds 37 = .ok (.istore 5, 2) := by decide +kernel
theorem dX9_odds_39 : decode cX9_odds 39 = .ok (.iload 5, 2) := by decide +kernel
theorem dX9_odds_41 : decode cX9_odds 41 = .ok (.iload_n 2, 1) := by decide +kernel
theorem dX9_odds_42 : decode cX9_odds 42 = .ok (.if_icmp .ge 15, 3) := by decide +kernel
theorem dX9_odds_45 : decode cX9_odds 45 = .ok (.iload 4, 2) := by decide +kernel
theorem dX9_odds_47 : decode cX9_odds 47 = .ok (.iconst 3, 1) := by decide +kernel
theorem dX9_odds_48 : decode cX9_odds 48 = .ok (.imul, 1) := by decide +kernel
theorem dX9_odds_49 : decode cX9_odds 49 = .ok (.istore 4, 2) := by decide +kernel
theorem dX9_odds_51 : decode cX9_odds 51 = .ok (.iinc 5 1, 3) := by decide +kernel
theorem dX9_odds_54 : decode cX9_odds 54 = .ok (.goto (-15), 3) := by decide +kernel
theorem dX9_odds_57 : decode cX9_odds 57 = .ok (.iload 4, 2) := by decide +kernel
theorem dX9_odds_59 : decode cX9_odds 59 = .ok (.bipush 100, 2) := by decide +kernel
theorem dX9_odds_61 : decode cX9_odds 61 = .ok (.iadd, 1) := by decide +kernel
theorem dX9_odds_62 : decode cX9_odds 62 = .ok (.iload_n 1, 1) := by decide +kernel
theorem dX9_odds_63 : decode cX9_odds 63 = .ok (.isub, 1) := by decide +kernel
theorem dX9_odds_64 : decode cX9_odds 64 = .ok (.istore 5, 2) := by decide +kernel
theorem dX9_odds_66 : decode cX9_odds 66 = .ok (.iload 4, 2) := by decide +kernel
theorem dX9_odds_68 : decode cX9_odds 68 = .ok (.iload 5, 2) := by decide +kernel
theorem dX9_odds_70 : decode cX9_odds 70 = .ok (.invokestatic 223, 3) := by decide +kernel
theorem dX9_odds_73 : decode cX9_odds 73 = .ok (.istore 6, 2) := by decide +kernel
theorem dX9_odds_75 : decode cX9_odds 75 = .ok (.iload 6, 2) := by decide +kernel
theorem dX9_odds_77 : decode cX9_odds 77 = .ok (.iconst 1, 1) := by decide +kernel
theorem dX9_odds_78 : decode cX9_odds 78 = .ok (.if_icmp .ge 7, 3) := by decide +kernel
theorem dX9_odds_81 : decode cX9_odds 81 = .ok (.ldc2_w 221, 3) := by decide +kernel
theorem dX9_odds_84 : decode cX9_odds 84 = .ok (.lreturn, 1) := by decide +kernel
theorem dX9_odds_85 : decode cX9_odds 85 = .ok (.iload_n 3, 1) := by decide +kernel
theorem dX9_odds_86 : decode cX9_odds 86 = .ok (.ifCond .ne 12, 3) := by decide +kernel
theorem dX9_odds_89 : decode cX9_odds 89 = .ok (.iload 4, 2) := by decide +kernel
theorem dX9_odds_91 : decode cX9_odds 91 = .ok (.iload 6, 2) := by decide +kernel
theorem dX9_odds_93 : decode cX9_odds 93 = .ok (.idiv, 1) := by decide +kernel
theorem dX9_odds_94 : decode cX9_odds 94 = .ok (.i2l, 1) := by decide +kernel
theorem dX9_odds_95 : decode cX9_odds 95 = .ok (.goto 9, 3) := by decide +kernel
theorem dX9_odds_98 : decode cX9_odds 98 = .ok (.iload 5, 2) := by decide +kernel
theorem dX9_odds_100 : decode cX9_odds 100 = .ok (.iload 6, 2) := by decide +kernel
theorem dX9_odds_102 : decode cX9_odds 102 = .ok (.idiv, 1) := by decide +kernel
theorem dX9_odds_103 : decode cX9_odds 103 = .ok (.i2l, 1) := by decide +kernel
theorem dX9_odds_104 : decode cX9_odds 104 = .ok (.lreturn, 1) := by decide +kernel
theorem dX9_feed_0 : decode cX9_feed 0 = .ok (.aload_n 0, 1) := by decide +kernel
theorem dX9_feed_1 : decode cX9_feed 1 = .ok (.getfield 41, 3) := by decide +kernel
theorem dX9_feed_4 : decode cX9_feed 4 = .ok (.bipush 12, 2) := by decide +kernel
theorem dX9_feed_6 : decode cX9_feed 6 = .ok (.invokevirtual 227, 3) := by decide +kernel
theorem dX9_feed_9 : decode cX9_feed 9 = .ok (.ifCond .ne 6, 3) := by decide +kernel
theorem dX9_feed_12 : decode cX9_feed 12 = .ok (.ldc 170, 2) := by decide +kernel
theorem dX9_feed_14 : decode cX9_feed 14 = .ok (.ireturn, 1) := by decide +kernel
theorem dX9_feed_15 : decode cX9_feed 15 = .ok (.aload_n 0, 1) := by decide +kernel
theorem dX9_feed_16 : decode cX9_feed 16 = .ok (.getfield 41, 3) := by decide +kernel
theorem dX9_feed_19 : decode cX9_feed 19 = .ok (.iload_n 1, 1) := by decide +kernel
theorem dX9_feed_20 : decode cX9_feed 20 = .ok (.invokevirtual 230, 3) := by decide +kernel
theorem dX9_feed_23 : decode cX9_feed 23 = .ok (.aload_n 0, 1) := by decide +kernel
theorem dX9_feed_24 : decode cX9_feed 24 = .ok (.getfield 41, 3) := by decide +kernel
theorem dX9_feed_27 : decode cX9_feed 27 = .ok (.iload_n 2, 1) := by decide +kernel
theorem dX9_feed_28 : decode cX9_feed 28 = .ok (.invokevirtual 230, 3) := by decide +kernel
theorem dX9_feed_31 : decode cX9_feed 31 = .ok (.aload_n 0, 1) := by decide +kernel
theorem dX9_feed_32 : decode cX9_feed 32 = .ok (.getfield 41, 3) := by decide +kernel
theorem dX9_feed_35 : decode cX9_feed 35 = .ok (.iload_n 3, 1) := by decide +kernel
theorem dX9_feed_36 : decode cX9_feed 36 = .ok (.invokevirtual 230, 3) := by decide +kernel
theorem dX9_feed_39 : decode cX9_feed 39 = .ok (.aload_n 0, 1) := by decide +kernel
theorem dX9_feed_40 : decode cX9_feed 40 = .ok (.getfield 41, 3) := by decide +kernel
theorem dX9_feed_43 : decode cX9_feed 43 = .ok (.getfield 234, 3) := by decide +kernel
theorem dX9_feed_46 : decode cX9_feed 46 = .ok (.ireturn, 1) := by decide +kernel
theorem dX9_trim_0 : decode cX9_trim 0 = .ok (.iload_n 1, 1) := by decide +kernel
theorem dX9_trim_1 : decode cX9_trim 1 = .ok (.iconst 0, 1) := by decide +kernel
theorem dX9_trim_2 : decode cX9_trim 2 = .ok (.aload_n 0, 1) := by decide +kernel
theorem dX9_trim_3 : decode cX9_trim 3 = .ok (.getfield 41, 3) := by decide +kernel
theorem dX9_trim_6 : decode cX9_trim 6 = .ok (.getfield 234, 3) := by decide +kernel
theorem dX9_trim_9 : decode cX9_trim 9 = .ok (.invokestatic 81, 3) := by decide +kernel
theorem dX9_trim_12 : decode cX9_trim 12 = .ok (.ifCond .ne 6, 3) := by decide +kernel
theorem dX9_trim_15 : decode cX9_trim 15 = .ok (.ldc 85, 2) := by decide +kernel
theorem dX9_trim_17 : decode cX9_trim 17 = .ok (.ireturn, 1) := by decide +kernel
theorem dX9_trim_18 : decode cX9_trim 18 = .ok (.aload_n 0, 1) := by decide +kernel
theorem dX9_trim_19 : decode cX9_trim 19 = .ok (.getfield 41, 3) := by decide +kernel
theorem dX9_trim_22 : decode cX9_trim 22 = .ok (.iload_n 1, 1) := by decide +kernel
theorem dX9_trim_23 : decode cX9_trim 23 = .ok (.putfield 234, 3) := by decide +kernel
theorem dX9_trim_26 : decode cX9_trim 26 = .ok (.iload_n 1, 1) := by decide +kernel
theorem dX9_trim_27 : decode cX9_trim 27 = .ok (.ireturn, 1) := by decide +kernel
theorem dX9_text_0 : decode cX9_text 0 = .ok (.aload_n 0, 1) := by decide +kernel
theorem dX9_text_1 : decode cX9_text 1 = .ok (.getfield 50, 3) := by decide +kernel
theorem dX9_text_4 : decode cX9_text 4 = .ok (.invokevirtual 237, 3) := by decide +kernel
theorem dX9_text_7 : decode cX9_text 7 = .ok (.istore_n 1, 1) := by decide +kernel
theorem dX9_text_8 : decode cX9_text 8 = .ok (.aload_n 0, 1) := by decide +kernel
theorem dX9_text_9 : decode cX9_text 9 = .ok (.getfield 41, 3) := by decide +kernel
theorem dX9_text_12 : decode cX9_text 12 = .ok (.iconst 0, 1) := by decide +kernel
theorem dX9_text_13 : decode cX9_text 13 = .ok (.putfield 234, 3) := by decide +kernel
theorem dX9_text_16 : decode cX9_text 16 = .ok (.iload_n 1, 1) := by decide +kernel
theorem dX9_text_17 : decode cX9_text 17 = .ok (.ldc 159, 2) := by decide +kernel
theorem dX9_text_19 : decode cX9_text 19 = .ok (.if_icmp .eq 8, 3) := by decide +kernel
theorem dX9_text_22 : decode cX9_text 22 = .ok (.bipush (-100), 2) := by decide +kernel
theorem dX9_text_24 : decode cX9_text 24 = .ok (.iload_n 1, 1) := by decide +kernel
theorem dX9_text_25 : decode cX9_text 25 = .ok (.isub, 1) := by decide +kernel
theorem dX9_text_26 : decode cX9_text 26 = .ok (.ireturn, 1) := by decide +kernel
theorem dX9_text_27 : decode cX9_text 27 = .ok (.aload_n 0, 1) := by decide +kernel
theorem dX9_text_28 : decode cX9_text 28 = .ok (.getfield 21, 3) := by decide +kernel
theorem dX9_text_31 : decode cX9_text 31 = .ok (.getfield 240, 3) := by decide +kernel
theorem dX9_text_34 : decode cX9_text 34 = .ok (.istore_n 2, 1) := by decide +kernel
theorem dX9_text_35 : decode cX9_text 35 = .ok (.iload_n 2, 1) := by decide +kernel
theorem dX9_text_36 : decode cX9_text 36 = .ok (.bipush 14, 2) := by decide +kernel
theorem dX9_text_38 : decode cX9_text 38 = .ok (.if_icmp .lt 6, 3) := by decide +kernel
theorem dX9_text_41 : decode cX9_text 41 = .ok (.ldc 170, 2) := by decide +kernel
theorem dX9_text_43 : decode cX9_text 43 = .ok (.ireturn, 1) := by decide +kernel
theorem dX9_text_44 : decode cX9_text 44 = .ok (.aload_n 0, 1) := by decide +kernel
theorem dX9_text_45 : decode cX9_text 45 = .ok (.getfield 10, 3) := by decide +kernel
theorem dX9_text_48 : decode cX9_text 48 = .ok (.getfield 243, 3) := by decide +kernel
theorem dX9_text_51 : decode cX9_text 51 = .ok (.iload_n 2, 1) := by decide +kernel
theorem dX9_text_52 : decode cX9_text 52 = .ok (.aaload, 1) := by decide +kernel
theorem dX9_text_53 : decode cX9_text 53 = .ok (.aload_n 0, 1) := by decide +kernel
theorem dX9_text_54 : decode cX9_text 54 = .ok (.getfield 50, 3) := by decide +kernel
theorem dX9_text_57 : decode cX9_text 57 = .ok (.getfield 247, 3) := by decide +kernel
theorem dX9_text_60 : decode cX9_text 60 = .ok (.invokevirtual 251, 3) := by decide +kernel
theorem dX9_text_63 : decode cX9_text 63 = .ok (.aload_n 0, 1) := by decide +kernel
theorem dX9_text_64 : decode cX9_text 64 = .ok (.getfield 21, 3) := by decide +kernel
theorem dX9_text_67 : decode cX9_text 67 = .ok (.iload_n 2, 1) := by decide +kernel
theorem dX9_text_68 : decode cX9_text 68 = .ok (.iconst 1, 1) := by decide +kernel
theorem dX9_text_69 : decode cX9_text 69 = .ok (.iadd, 1) := by decide +kernel
theorem dX9_text_70 : decode cX9_text 70 = .ok (.putfield 240, 3) := by decide +kernel
theorem dX9_text_73 : decode cX9_text 73 = .ok (.iload_n 2, 1) := by decide +kernel
theorem dX9_text_74 : decode cX9_text 74 = .ok (.ireturn, 1) := by decide +kernel
theorem dX9_textTold_0 : decode cX9_textTold 0 = .ok (.iload_n 1, 1) := by decide +kernel
theorem dX9_textTold_1 : decode cX9_textTold 1 = .ok (.iconst 0, 1) := by decide +kernel
theorem dX9_textTold_2 : decode cX9_textTold 2 = .ok (.aload_n 0, 1) := by decide +kernel
theorem dX9_textTold_3 : decode cX9_textTold 3 = .ok (.getfield 21, 3) := by decide +kernel
theorem dX9_textTold_6 : decode cX9_textTold 6 = .ok (.getfield 240, 3) := by decide +kernel
theorem dX9_textTold_9 : decode cX9_textTold 9 = .ok (.iconst 1, 1) := by decide +kernel
theorem dX9_textTold_10 : decode cX9_textTold 10 = .ok (.isub, 1) := by decide +kernel
theorem dX9_textTold_11 : decode cX9_textTold 11 = .ok (.invokestatic 81, 3) := by decide +kernel
theorem dX9_textTold_14 : decode cX9_textTold 14 = .ok (.ifCond .eq 12, 3) := by decide +kernel
theorem dX9_textTold_17 : decode cX9_textTold 17 = .ok (.iload_n 2, 1) := by decide +kernel
theorem dX9_textTold_18 : decode cX9_textTold 18 = .ok (.iconst 0, 1) := by decide +kernel
theorem dX9_textTold_19 : decode cX9_textTold 19 = .ok (.iconst 1, 1) := by decide +kernel
theorem dX9_textTold_20 : decode cX9_textTold 20 = .ok (.invokestatic 81, 3) := by decide +kernel
theorem dX9_textTold_23 : decode cX9_textTold 23 = .ok (.ifCond .ne 6, 3) := by decide +kernel
theorem dX9_textTold_26 : decode cX9_textTold 26 = .ok (.ldc 85, 2) := by decide +kernel
theorem dX9_textTold_28 : decode cX9_textTold 28 = .ok (.ireturn, 1) := by decide +kernel
theorem dX9_textTold_29 : decode cX9_textTold 29 = .ok (.iload_n 2, 1) := by decide +kernel
theorem dX9_textTold_30 : decode cX9_textTold 30 = .ok (.ifCond .ne 18, 3) := by decide +kernel
theorem dX9_textTold_33 : decode cX9_textTold 33 = .ok (.aload_n 0, 1) := by decide +kernel
theorem dX9_textTold_34 : decode cX9_textTold 34 = .ok (.getfield 10, 3) := by decide +kernel
theorem dX9_textTold_37 : decode cX9_textTold 37 = .ok (.getfield 243, 3) := by decide +kernel
theorem dX9_textTold_40 : decode cX9_textTold 40 = .ok (.iload_n 1, 1) := by decide +kernel
theorem dX9_textTold_41 : decode cX9_textTold 41 = .ok (.aaload, 1) := by decide +kernel
theorem dX9_textTold_42 : decode cX9_textTold 42 = .ok (.getfield 256, 3) := by decide +kernel
theorem dX9_textTold_45 : decode cX9_textTold 45 = .ok (.goto 15, 3) := by decide +kernel
theorem dX9_textTold_48 : decode cX9_textTold 48 = .ok (.aload_n 0, 1) := by decide +kernel
theorem dX9_textTold_49 : decode cX9_textTold 49 = .ok (.getfield 10, 3) := by decide +kernel
theorem dX9_textTold_52 : decode cX9_textTold 52 = .ok (.getfield 243, 3) := by decide +kernel
theorem dX9_textTold_55 : decode cX9_textTold 55 = .ok (.iload_n 1, 1) := by decide +kernel
theorem dX9_textTold_56 : decode cX9_textTold 56 = .ok (.aaload, 1) := by decide +kernel
theorem dX9_textTold_57 : decode cX9_textTold 57 = .ok (.getfield 259, 3) := by decide +kernel
theorem dX9_textTold_60 : decode cX9_textTold 60 = .ok (.ireturn, 1) := by decide +kernel
theorem dX9_why_0 : decode cX9_why 0 = .ok (.iload_n 1, 1) := by decide +kernel
theorem dX9_why_1 : decode cX9_why 1 = .ok (.iconst 0, 1) := by decide +kernel
theorem dX9_why_2 : decode cX9_why 2 = .ok (.iconst 2, 1) := by decide +kernel
theorem dX9_why_3 : decode cX9_why 3 = .ok (.invokestatic 81, 3) := by decide +kernel
theorem dX9_why_6 : decode cX9_why 6 = .ok (.ifCond .ne 6, 3) := by decide +kernel
theorem dX9_why_9 : decode cX9_why 9 = .ok (.ldc 85, 2) := by decide +kernel
theorem dX9_why_11 : decode cX9_why 11 = .ok (.ireturn, 1) := by decide +kernel
theorem dX9_why_12 : decode cX9_why 12 = .ok (.aload_n 0, 1) := by decide +kernel
theorem dX9_why_13 : decode cX9_why 13 = .ok (.getfield 10, 3) := by decide +kernel
theorem dX9_why_16 : decode cX9_why 16 = .ok (.iload_n 1, 1) := by decide +kernel
theorem dX9_why_17 : decode cX9_why 17 = .ok (.aload_n 0, 1) := by decide +kernel
theorem dX9_why_18 : decode cX9_why 18 = .ok (.getfield 21, 3) := by decide +kernel
theorem dX9_why_21 : decode cX9_why 21 = .ok (.getfield 240, 3) := by decide +kernel
theorem dX9_why_24 : decode cX9_why 24 = .ok (.invokevirtual 262, 3) := by decide +kernel
theorem dX9_why_27 : decode cX9_why 27 = .ok (.ireturn, 1) := by decide +kernel
theorem dX9_sheet_0 : decode cX9_sheet 0 = .ok (.iload_n 1, 1) := by decide +kernel
theorem dX9_sheet_1 : decode cX9_sheet 1 = .ok (.invokestatic 265, 3) := by decide +kernel
theorem dX9_sheet_4 : decode cX9_sheet 4 = .ok (.ifCond .eq 12, 3) := by decide +kernel
theorem dX9_sheet_7 : decode cX9_sheet 7 = .ok (.iload_n 2, 1) := by decide +kernel
theorem dX9_sheet_8 : decode cX9_sheet 8 = .ok (.iconst (-1), 1) := by decide +kernel
theorem dX9_sheet_9 : decode cX9_sheet 9 = .ok (.iconst 1, 1) := by decide +kernel
theorem dX9_sheet_10 : decode cX9_sheet 10 = .ok (.invokestatic 81, 3) := by decide +kernel
theorem dX9_sheet_13 : decode cX9_sheet 13 = .ok (.ifCond .ne 6, 3) := by decide +kernel
theorem dX9_sheet_16 : decode cX9_sheet 16 = .ok (.ldc 85, 2) := by decide +kernel
theorem dX9_sheet_18 : decode cX9_sheet 18 = .ok (.ireturn, 1) := by decide +kernel
theorem dX9_sheet_19 : decode cX9_sheet 19 = .ok (.iload_n 2, 1) := by decide +kernel
theorem dX9_sheet_20 : decode cX9_sheet 20 = .ok (.iconst (-1), 1) := by decide +kernel
theorem dX9_sheet_21 : decode cX9_sheet 21 = .ok (.if_icmp .ne 16, 3) := by decide +kernel
theorem dX9_sheet_24 : decode cX9_sheet 24 = .ok (.aload_n 0, 1) := by decide +kernel
theorem dX9_sheet_25 : decode cX9_sheet 25 = .ok (.getfield 56, 3) := by decide +kernel
theorem dX9_sheet_28 : decode cX9_sheet 28 = .ok (.iload_n 1, 1) := by decide +kernel
theorem dX9_sheet_29 : decode cX9_sheet 29 = .ok (.aaload, 1) := by decide +kernel
theorem dX9_sheet_30 : decode cX9_sheet 30 = .ok (.iconst (-1), 1) := by decide +kernel
theorem dX9_sheet_31 : decode cX9_sheet 31 = .ok (.iconst 0, 1) := by decide +kernel
theorem dX9_sheet_32 : decode cX9_sheet 32 = .ok (.invokevirtual 268, 3) := by decide +kernel
theorem dX9_sheet_35 : decode cX9_sheet 35 = .ok (.iconst 0, 1) := by decide +kernel
theorem dX9_sheet_36 : decode cX9_sheet 36 = .ok (.ireturn, 1) := by decide +kernel
theorem dX9_sheet_37 : decode cX9_sheet 37 = .ok (.iload_n 3, 1) := by decide +kernel
theorem dX9_sheet_38 : decode cX9_sheet 38 = .ok (.bipush 24, 2) := by decide +kernel
theorem dX9_sheet_40 : decode cX9_sheet 40 = .ok (.if_icmp .le 6, 3) := by decide +kernel
theorem dX9_sheet_43 : decode cX9_sheet 43 = .ok (.ldc 85, 2) := by decide +kernel
theorem dX9_sheet_45 : decode cX9_sheet 45 = .ok (.ireturn, 1) := by decide +kernel
theorem dX9_sheet_46 : decode cX9_sheet 46 = .ok (.iload_n 3, 1) := by decide +kernel
theorem dX9_sheet_47 : decode cX9_sheet 47 = .ok (.ifCond .ge 7, 3) := by decide +kernel
theorem dX9_sheet_50 : decode cX9_sheet 50 = .ok (.ldc_w 272, 3) := by decide +kernel
theorem dX9_sheet_53 : decode cX9_sheet 53 = .ok (.ireturn, 1) := by decide +kernel
theorem dX9_sheet_54 : decode cX9_sheet 54 = .ok (.aload_n 0, 1) := by decide +kernel
theorem dX9_sheet_55 : decode cX9_sheet 55 = .ok (.getfield 56, 3) := by decide +kernel
theorem dX9_sheet_58 : decode cX9_sheet 58 = .ok (.iload_n 1, 1) := by decide +kernel
theorem dX9_sheet_59 : decode cX9_sheet 59 = .ok (.aaload, 1) := by decide +kernel
theorem dX9_sheet_60 : decode cX9_sheet 60 = .ok (.iload_n 2, 1) := by decide +kernel
theorem dX9_sheet_61 : decode cX9_sheet 61 = .ok (.iload_n 3, 1) := by decide +kernel
theorem dX9_sheet_62 : decode cX9_sheet 62 = .ok (.invokevirtual 268, 3) := by decide +kernel
theorem dX9_sheet_65 : decode cX9_sheet 65 = .ok (.iload_n 3, 1) := by decide +kernel
theorem dX9_sheet_66 : decode cX9_sheet 66 = .ok (.ireturn, 1) := by decide +kernel
theorem dX9_mark_0 : decode cX9_mark 0 = .ok (.iload_n 1, 1) := by decide +kernel
theorem dX9_mark_1 : decode cX9_mark 1 = .ok (.invokestatic 265, 3) := by decide +kernel
theorem dX9_mark_4 : decode cX9_mark 4 = .ok (.ifCond .ne 6, 3) := by decide +kernel
theorem dX9_mark_7 : decode cX9_mark 7 = .ok (.ldc 85, 2) := by decide +kernel
theorem dX9_mark_9 : decode cX9_mark 9 = .ok (.ireturn, 1) := by decide +kernel
theorem dX9_mark_10 : decode cX9_mark 10 = .ok (.aload_n 0, 1) := by decide +kernel
theorem dX9_mark_11 : decode cX9_mark 11 = .ok (.getfield 56, 3) := by decide +kernel
theorem dX9_mark_14 : decode cX9_mark 14 = .ok (.iload_n 1, 1) := by decide +kernel
theorem dX9_mark_15 : decode cX9_mark 15 = .ok (.aaload, 1) := by decide +kernel
theorem dX9_mark_16 : decode cX9_mark 16 = .ok (.astore 4, 2) := by decide +kernel
theorem dX9_mark_18 : decode cX9_mark 18 = .ok (.aload 4, 2) := by decide +kernel
theorem dX9_mark_20 : decode cX9_mark 20 = .ok (.getfield 273, 3) := by decide +kernel
theorem dX9_mark_23 : decode cX9_mark 23 = .ok (.iconst (-1), 1) := by decide +kernel
theorem dX9_mark_24 : decode cX9_mark 24 = .ok (.if_icmp .ne 7, 3) := by decide +kernel
theorem dX9_mark_27 : decode cX9_mark 27 = .ok (.ldc_w 276, 3) := by decide +kernel
theorem dX9_mark_30 : decode cX9_mark 30 = .ok (.ireturn, 1) := by decide +kernel
theorem dX9_mark_31 : decode cX9_mark 31 = .ok (.aload 4, 2) := by decide +kernel
theorem dX9_mark_33 : decode cX9_mark 33 = .ok (.iload_n 2, 1) := by decide +kernel
theorem dX9_mark_34 : decode cX9_mark 34 = .ok (.invokevirtual 277, 3) := by decide +kernel
theorem dX9_mark_37 : decode cX9_mark 37 = .ok (.ifCond .ne 7, 3) := by decide +kernel
theorem dX9_mark_40 : decode cX9_mark 40 = .ok (.ldc_w 280, 3) := by decide +kernel
theorem dX9_mark_43 : decode cX9_mark 43 = .ok (.ireturn, 1) := by decide +kernel
theorem dX9_mark_44 : decode cX9_mark 44 = .ok (.aload 4, 2) := by decide +kernel
theorem dX9_mark_46 : decode cX9_mark 46 = .ok (.getfield 273, 3) := by decide +kernel
theorem dX9_mark_49 : decode cX9_mark 49 = .ok (.ifCond .ne 23, 3) := by decide +kernel
theorem dX9_mark_52 : decode cX9_mark 52 = .ok (.iload_n 3, 1) := by decide +kernel
theorem dX9_mark_53 : decode cX9_mark 53 = .ok (.ldc 159, 2) := by decide +kernel
theorem dX9_mark_55 : decode cX9_mark 55 = .ok (.if_icmp .ne 6, 3) := by decide +kernel
theorem dX9_mark_58 : decode cX9_mark 58 = .ok (.ldc 123, 2) := by decide +kernel
theorem dX9_mark_60 : decode cX9_mark 60 = .ok (.ireturn, 1) := by decide +kernel
theorem dX9_mark_61 : decode cX9_mark 61 = .ok (.aload 4, 2) := by decide +kernel
theorem dX9_mark_63 : decode cX9_mark 63 = .ok (.getfield 281, 3) := by decide +kernel
theorem dX9_mark_66 : decode cX9_mark 66 = .ok (.iload_n 2, 1) := by decide +kernel
theorem dX9_mark_67 : decode cX9_mark 67 = .ok (.iload_n 3, 1) := by decide +kernel
theorem dX9_mark_68 : decode cX9_mark 68 = .ok (.i2s, 1) := by decide +kernel
theorem dX9_mark_69 : decode cX9_mark 69 = .ok (.iastore, 1) := by decide +kernel
theorem dX9_mark_70 : decode cX9_mark 70 = .ok (.iconst 1, 1) := by decide +kernel
theorem dX9_mark_71 : decode cX9_mark 71 = .ok (.ireturn, 1) := by decide +kernel
theorem dX9_mark_72 : decode cX9_mark 72 = .ok (.iload_n 3, 1) := by decide +kernel
theorem dX9_mark_73 : decode cX9_mark 73 = .ok (.ldc 159, 2) := by decide +kernel
theorem dX9_mark_75 : decode cX9_mark 75 = .ok (.if_icmp .eq 18, 3) := by decide +kernel
theorem dX9_mark_78 : decode cX9_mark 78 = .ok (.iload_n 3, 1) := by decide +kernel
theorem dX9_mark_79 : decode cX9_mark 79 = .ok (.ldc_w 284, 3) := by decide +kernel
theorem dX9_mark_82 : decode cX9_mark 82 = .ok (.ldc 186, 2) := by decide +kernel
theorem dX9_mark_84 : decode cX9_mark 84 = .ok (.invokestatic 81, 3) := by decide +kernel
theorem dX9_mark_87 : decode cX9_mark 87 = .ok (.ifCond .ne 6, 3) := by decide +kernel
theorem dX9_mark_90 : decode cX9_mark 90 = .ok (.ldc 85, 2) := by decide +kernel
theorem dX9_mark_92 : decode cX9_mark 92 = .ok (.ireturn, 1) := by decide +kernel
theorem dX9_mark_93 : decode cX9_mark 93 = .ok (.aload 4, 2) := by decide +kernel
theorem dX9_mark_95 : decode cX9_mark 95 = .ok (.getfield 281, 3) := by decide +kernel
theorem dX9_mark_98 : decode cX9_mark 98 = .ok (.iload_n 2, 1) := by decide +kernel
theorem dX9_mark_99 : decode cX9_mark 99 = .ok (.iload_n 3, 1) := by decide +kernel
theorem dX9_mark_100 : decode cX9_mark 100 = .ok (.iastore, 1) := by decide +kernel
theorem dX9_mark_101 : decode cX9_mark 101 = .ok (.iconst 1, 1) := by decide +kernel
theorem dX9_mark_102 : decode cX9_mark 102 = .ok (.ireturn, 1) := by decide +kernel
theorem dX9_pour_0 : decode cX9_pour 0 = .ok (.iload_n 1, 1) := by decide +kernel
theorem dX9_pour_1 : decode cX9_pour 1 = .ok (.invokestatic 265, 3) := by decide +kernel
theorem dX9_pour_4 : decode cX9_pour 4 = .ok (.ifCond .eq 12, 3) := by decide +kernel
theorem dX9_pour_7 : decode cX9_pour 7 = .ok (.iload_n 2, 1) := by decide +kernel
theorem dX9_pour_8 : decode cX9_pour 8 = .ok (.iconst 0, 1) := by decide +kernel
theorem dX9_pour_9 : decode cX9_pour 9 = .ok (.iconst 4, 1) := by decide +kernel
theorem dX9_pour_10 : decode cX9_pour 10 = .ok (.invokestatic 81, 3) := by decide +kernel
theorem dX9_pour_13 : decode cX9_pour 13 = .ok (.ifCond .ne 6, 3) := by decide +kernel
theorem dX9_pour_16 : decode cX9_pour 16 = .ok (.ldc 85, 2) := by decide +kernel
theorem dX9_pour_18 : decode cX9_pour 18 = .ok (.ireturn, 1) := by decide +kernel
theorem dX9_pour_19 : decode cX9_pour 19 = .ok (.aload_n 0, 1) := by decide +kernel
theorem dX9_pour_20 : decode cX9_pour 20 = .ok (.getfield 56, 3) := by decide +kernel
theorem dX9_pour_23 : decode cX9_pour 23 = .ok (.iload_n 1, 1) := by decide +kernel
theorem dX9_pour_24 : decode cX9_pour 24 = .ok (.aaload, 1) := by decide +kernel
theorem dX9_pour_25 : decode cX9_pour 25 = .ok (.astore_n 3, 1) := by decide +kernel
theorem dX9_pour_26 : decode cX9_pour 26 = .ok (.aload_n 3, 1) := by decide +kernel
theorem dX9_pour_27 : decode cX9_pour 27 = .ok (.getfield 273, 3) := by decide +kernel
theorem dX9_pour_30 : decode cX9_pour 30 = .ok (.iconst (-1), 1) := by decide +kernel
theorem dX9_pour_31 : decode cX9_pour 31 = .ok (.if_icmp .ne 7, 3) := by decide +kernel
theorem dX9_pour_34 : decode cX9_pour 34 = .ok (.ldc_w 276, 3) := by decide +kernel
theorem dX9_pour_37 : decode cX9_pour 37 = .ok (.ireturn, 1) := by decide +kernel
theorem dX9_pour_38 : decode cX9_pour 38 = .ok (.iconst 0, 1) := by decide +kernel
theorem dX9_pour_39 : decode cX9_pour 39 = .ok (.istore 4, 2) := by decide +kernel
theorem dX9_pour_41 : decode cX9_pour 41 = .ok (.iconst 0, 1) := by decide +kernel
theorem dX9_pour_42 : decode cX9_pour 42 = .ok (.istore 5, 2) := by decide +kernel
theorem dX9_pour_44 : decode cX9_pour 44 = .ok (.iload 5, 2) := by decide +kernel
theorem dX9_pour_46 : decode cX9_pour 46 = .ok (.bipush 6, 2) := by decide +kernel
theorem dX9_pour_48 : decode cX9_pour 48 = .ok (.if_icmp .ge 95, 3) := by decide +kernel
theorem dX9_pour_51 : decode cX9_pour 51 = .ok (.iload 5, 2) := by decide +kernel
theorem dX9_pour_53 : decode cX9_pour 53 = .ok (.aload_n 3, 1) := by decide +kernel
theorem dX9_pour_54 : decode cX9_pour 54 = .ok (.getfield 285, 3) := by decide +kernel
theorem dX9_pour_57 : decode cX9_pour 57 = .ok (.if_icmp .ge 86, 3) := by decide +kernel
theorem dX9_pour_60 : decode cX9_pour 60 = .ok (.iload_n 2, 1) := by decide +kernel
theorem dX9_pour_61 : decode cX9_pour 61 = .ok (.bipush 6, 2) := by decide +kernel
theorem dX9_pour_63 : decode cX9_pour 63 = .ok (.imul, 1) := by decide +kernel
theorem dX9_pour_64 : decode cX9_pour 64 = .ok (.iload 5, 2) := by decide +kernel
theorem dX9_pour_66 : decode cX9_pour 66 = .ok (.iadd, 1) := by decide +kernel
theorem dX9_pour_67 : decode cX9_pour 67 = .ok (.istore 6, 2) := by decide +kernel
theorem dX9_pour_69 : decode cX9_pour 69 = .ok (.aload_n 3, 1) := by decide +kernel
theorem dX9_pour_70 : decode cX9_pour 70 = .ok (.iload 5, 2) := by decide +kernel
theorem dX9_pour_72 : decode cX9_pour 72 = .ok (.invokevirtual 288, 3) := by decide +kernel
theorem dX9_pour_75 : decode cX9_pour 75 = .ok (.ifCond .eq 20, 3) := by decide +kernel
theorem dX9_pour_78 : decode cX9_pour 78 = .ok (.aload_n 3, 1) := by decide +kernel
theorem dX9_pour_79 : decode cX9_pour 79 = .ok (.getfield 281, 3) := by decide +kernel
theorem dX9_pour_82 : decode cX9_pour 82 = .ok (.iload 5, 2) := by decide +kernel
theorem dX9_pour_84 : decode cX9_pour 84 = .ok (.iaload, 1) := by decide +kernel
theorem dX9_pour_85 : decode cX9_pour 85 = .ok (.iconst 0, 1) := by decide +kernel
theorem dX9_pour_86 : decode cX9_pour 86 = .ok (.sipush 999, 3) := by decide +kernel
theorem dX9_pour_89 : decode cX9_pour 89 = .ok (.invokestatic 291, 3) := by decide +kernel
theorem dX9_pour_92 : decode cX9_pour 92 = .ok (.goto 13, 3) := by decide +kernel
theorem dX9_pour_95 : decode cX9_pour 95 = .ok (.aload_n 0, 1) := by decide +kernel
theorem dX9_pour_96 : decode cX9_pour 96 = .ok (.getfield 21, 3) := by decide +kernel
theorem dX9_pour_99 : decode cX9_pour 99 = .ok (.getfield 92, 3) := by decide +kernel
theorem dX9_pour_102 : decode cX9_pour 102 = .ok (.iload 6, 2) := by decide +kernel
theorem dX9_pour_104 : decode cX9_pour 104 = .ok (.iaload, 1) := by decide +kernel
theorem dX9_pour_105 : decode cX9_pour 105 = .ok (.istore 7, 2) := by decide +kernel
theorem dX9_pour_107 : decode cX9_pour 107 = .ok (.iload 7, 2) := by decide +kernel
theorem dX9_pour_109 : decode cX9_pour 109 = .ok (.aload_n 0, 1) := by decide +kernel
theorem dX9_pour_110 : decode cX9_pour 110 = .ok (.getfield 21, 3) := by decide +kernel
theorem dX9_pour_113 : decode cX9_pour 113 = .ok (.getfield 92, 3) := by decide +kernel
theorem dX9_pour_116 : decode cX9_pour 116 = .ok (.iload 6, 2) := by decide +kernel
theorem dX9_pour_118 : decode cX9_pour 118 = .ok (.iaload, 1) := by decide +kernel
theorem dX9_pour_119 : decode cX9_pour 119 = .ok (.if_icmp .eq 18, 3) := by decide +kernel
theorem dX9_pour_122 : decode cX9_pour 122 = .ok (.iinc 4 1, 3) := by decide +kernel
theorem dX9_pour_125 : decode cX9_pour 125 = .ok (.aload_n 0, 1) := by decide +kernel
theorem dX9_pour_126 : decode cX9_pour 126 = .ok (.getfield 21, 3) := by decide +kernel
theorem dX9_pour_129 : decode cX9_pour 129 = .ok (.getfield 92, 3) := by decide +kernel
theorem dX9_pour_132 : decode cX9_pour 132 = .ok (.iload 6, 2) := by decide +kernel
theorem dX9_pour_134 : decode cX9_pour 134 = .ok (.iload 7, 2) := by decide +kernel
theorem dX9_pour_136 : decode cX9_pour 136 = .ok (.iastore, 1) := by decide +kernel
theorem dX9_pour_137 : decode cX9_pour 137 = .ok (.iinc 5 1, 3) := by decide +kernel
theorem dX9_pour_140 : decode cX9_pour 140 = .ok (.goto (-96), 3) := by decide +kernel
theorem dX9_pour_143 : decode cX9_pour 143 = .ok (.iload 4, 2) := by decide +kernel
theorem dX9_pour_145 : decode cX9_pour 145 = .ok (.ireturn, 1) := by decide +kernel
theorem dX9_reads_0 : decode cX9_reads 0 = .ok (.iload_n 1, 1) := by decide +kernel
theorem dX9_reads_1 : decode cX9_reads 1 = .ok (.invokestatic 265, 3) := by decide +kernel
theorem dX9_reads_4 : decode cX9_reads 4 = .ok (.ifCond .ne 6, 3) := by decide +kernel
theorem dX9_reads_7 : decode cX9_reads 7 = .ok (.ldc 85, 2) := by decide +kernel
theorem dX9_reads_9 : decode cX9_reads 9 = .ok (.ireturn, 1) := by decide +kernel
theorem dX9_reads_10 : decode cX9_reads 10 = .ok (.aload_n 0, 1) := by decide +kernel
theorem dX9_reads_11 : decode cX9_reads 11 = .ok (.getfield 56, 3) := by decide +kernel
theorem dX9_reads_14 : decode cX9_reads 14 = .ok (.iload_n 1, 1) := by decide +kernel
theorem dX9_reads_15 : decode cX9_reads 15 = .ok (.aaload, 1) := by decide +kernel
theorem dX9_reads_16 : decode cX9_reads 16 = .ok (.astore_n 2, 1) := by decide +kernel
theorem dX9_reads_17 : decode cX9_reads 17 = .ok (.aload_n 2, 1) := by decide +kernel
theorem dX9_reads_18 : decode cX9_reads 18 = .ok (.getfield 273, 3) := by decide +kernel
theorem dX9_reads_21 : decode cX9_reads 21 = .ok (.iconst (-1), 1) := by decide +kernel
theorem dX9_reads_22 : decode cX9_reads 22 = .ok (.if_icmp .ne 7, 3) := by decide +kernel
theorem dX9_reads_25 : decode cX9_reads 25 = .ok (.ldc_w 276, 3) := by decide +kernel
theorem dX9_reads_28 : decode cX9_reads 28 = .ok (.ireturn, 1) := by decide +kernel
theorem dX9_reads_29 : decode cX9_reads 29 = .ok (.aload_n 0, 1) := by decide +kernel
theorem dX9_reads_30 : decode cX9_reads 30 = .ok (.getfield 21, 3) := by decide +kernel
theorem dX9_reads_33 : decode cX9_reads 33 = .ok (.invokevirtual 187, 3) := by decide +kernel
theorem dX9_reads_36 : decode cX9_reads 36 = .ok (.iconst 0, 1) := by decide +kernel
theorem dX9_reads_37 : decode cX9_reads 37 = .ok (.istore_n 3, 1) := by decide +kernel
theorem dX9_reads_38 : decode cX9_reads 38 = .ok (.iload_n 3, 1) := by decide +kernel
theorem dX9_reads_39 : decode cX9_reads 39 = .ok (.aload_n 2, 1) := by decide +kernel
theorem dX9_reads_40 : decode cX9_reads 40 = .ok (.getfield 285, 3) := by decide +kernel
theorem dX9_reads_43 : decode cX9_reads 43 = .ok (.if_icmp .ge 37, 3) := by decide +kernel
theorem dX9_reads_46 : decode cX9_reads 46 = .ok (.aload_n 2, 1) := by decide +kernel
theorem dX9_reads_47 : decode cX9_reads 47 = .ok (.iload_n 3, 1) := by decide +kernel
theorem dX9_reads_48 : decode cX9_reads 48 = .ok (.invokevirtual 288, 3) := by decide +kernel
theorem dX9_reads_51 : decode cX9_reads 51 = .ok (.ifCond .eq 23, 3) := by decide +kernel
theorem dX9_reads_54 : decode cX9_reads 54 = .ok (.aload_n 2, 1) := by decide +kernel
theorem dX9_reads_55 : decode cX9_reads 55 = .ok (.getfield 281, 3) := by decide +kernel
theorem dX9_reads_58 : decode cX9_reads 58 = .ok (.iload_n 3, 1) := by decide +kernel
theorem dX9_reads_59 : decode cX9_reads 59 = .ok (.iaload, 1) := by decide +kernel
theorem dX9_reads_60 : decode cX9_reads 60 = .ok (.aload_n 0, 1) := by decide +kernel
theorem dX9_reads_61 : decode cX9_reads 61 = .ok (.getfield 21, 3) := by decide +kernel
theorem dX9_reads_64 : decode cX9_reads 64 = .ok (.getfield 190, 3) := by decide +kernel
theorem dX9_reads_67 : decode cX9_reads 67 = .ok (.iload_n 3, 1) := by decide +kernel
theorem dX9_reads_68 : decode cX9_reads 68 = .ok (.iaload, 1) := by decide +kernel
theorem dX9_reads_69 : decode cX9_reads 69 = .ok (.if_icmp .eq 5, 3) := by decide +kernel
theorem dX9_reads_72 : decode cX9_reads 72 = .ok (.iload_n 3, 1) := by decide +kernel
theorem dX9_reads_73 : decode cX9_reads 73 = .ok (.ireturn, 1) := by decide +kernel
theorem dX9_reads_74 : decode cX9_reads 74 = .ok (.iinc 3 1, 3) := by decide +kernel
theorem dX9_reads_77 : decode cX9_reads 77 = .ok (.goto (-39), 3) := by decide +kernel
theorem dX9_reads_80 : decode cX9_reads 80 = .ok (.ldc 159, 2) := by decide +kernel
theorem dX9_reads_82 : decode cX9_reads 82 = .ok (.ireturn, 1) := by decide +kernel
theorem dX9_copy_0 : decode cX9_copy 0 = .ok (.iload_n 1, 1) := by decide +kernel
theorem dX9_copy_1 : decode cX9_copy 1 = .ok (.invokestatic 265, 3) := by decide +kernel
theorem dX9_copy_4 : decode cX9_copy 4 = .ok (.ifCond .eq 10, 3) := by decide +kernel
theorem dX9_copy_7 : decode cX9_copy 7 = .ok (.iload_n 3, 1) := by decide +kernel
theorem dX9_copy_8 : decode cX9_copy 8 = .ok (.invokestatic 265, 3) := by decide +kernel
theorem dX9_copy_11 : decode cX9_copy 11 = .ok (.ifCond .ne 6, 3) := by decide +kernel
theorem dX9_copy_14 : decode cX9_copy 14 = .ok (.ldc 85, 2) := by decide +kernel
theorem dX9_copy_16 : decode cX9_copy 16 = .ok (.ireturn, 1) := by decide +kernel
theorem dX9_copy_17 : decode cX9_copy 17 = .ok (.aload_n 0, 1) := by decide +kernel
theorem dX9_copy_18 : decode cX9_copy 18 = .ok (.getfield 56, 3) := by decide +kernel
theorem dX9_copy_21 : decode cX9_copy 21 = .ok (.iload_n 1, 1) := by decide +kernel
theorem dX9_copy_22 : decode cX9_copy 22 = .ok (.aaload, 1) := by decide +kernel
theorem dX9_copy_23 : decode cX9_copy 23 = .ok (.astore 6, 2) := by decide +kernel
theorem dX9_copy_25 : decode cX9_copy 25 = .ok (.aload_n 0, 1) := by decide +kernel
theorem dX9_copy_26 : decode cX9_copy 26 = .ok (.getfield 56, 3) := by decide +kernel
theorem dX9_copy_29 : decode cX9_copy 29 = .ok (.iload_n 3, 1) := by decide +kernel
theorem dX9_copy_30 : decode cX9_copy 30 = .ok (.aaload, 1) := by decide +kernel
theorem dX9_copy_31 : decode cX9_copy 31 = .ok (.astore 7, 2) := by decide +kernel
theorem dX9_copy_33 : decode cX9_copy 33 = .ok (.aload 6, 2) := by decide +kernel
theorem dX9_copy_35 : decode cX9_copy 35 = .ok (.getfield 273, 3) := by decide +kernel
theorem dX9_copy_38 : decode cX9_copy 38 = .ok (.iconst (-1), 1) := by decide +kernel
theorem dX9_copy_39 : decode cX9_copy 39 = .ok (.if_icmp .eq 12, 3) := by decide +kernel
theorem dX9_copy_42 : decode cX9_copy 42 = .ok (.aload 7, 2) := by decide +kernel
theorem dX9_copy_44 : decode cX9_copy 44 = .ok (.getfield 273, 3) := by decide +kernel
theorem dX9_copy_47 : decode cX9_copy 47 = .ok (.iconst (-1), 1) := by decide +kernel
theorem dX9_copy_48 : decode cX9_copy 48 = .ok (.if_icmp .ne 7, 3) := by decide +kernel
theorem dX9_copy_51 : decode cX9_copy 51 = .ok (.ldc_w 276, 3) := by decide +kernel
theorem dX9_copy_54 : decode cX9_copy 54 = .ok (.ireturn, 1) := by decide +kernel
theorem dX9_copy_55 : decode cX9_copy 55 = .ok (.aload 6, 2) := by decide +kernel
theorem dX9_copy_57 : decode cX9_copy 57 = .ok (.getfield 273, 3) := by decide +kernel
theorem dX9_copy_60 : decode cX9_copy 60 = .ok (.aload 7, 2) := by decide +kernel
theorem dX9_copy_62 : decode cX9_copy 62 = .ok (.getfield 273, 3) := by decide +kernel
theorem dX9_copy_65 : decode cX9_copy 65 = .ok (.if_icmp .eq 6, 3) := by decide +kernel
theorem dX9_copy_68 : decode cX9_copy 68 = .ok (.ldc 123, 2) := by decide +kernel
theorem dX9_copy_70 : decode cX9_copy 70 = .ok (.ireturn, 1) := by decide +kernel
theorem dX9_copy_71 : decode cX9_copy 71 = .ok (.aload 6, 2) := by decide +kernel
theorem dX9_copy_73 : decode cX9_copy 73 = .ok (.iload_n 2, 1) := by decide +kernel
theorem dX9_copy_74 : decode cX9_copy 74 = .ok (.iload 5, 2) := by decide +kernel
theorem dX9_copy_76 : decode cX9_copy 76 = .ok (.invokevirtual 294, 3) := by decide +kernel
theorem dX9_copy_79 : decode cX9_copy 79 = .ok (.ifCond .eq 15, 3) := by decide +kernel
theorem dX9_copy_82 : decode cX9_copy 82 = .ok (.aload 7, 2) := by decide +kernel
theorem dX9_copy_84 : decode cX9_copy 84 = .ok (.iload 4, 2) := by decide +kernel
theorem dX9_copy_86 : decode cX9_copy 86 = .ok (.iload 5, 2) := by decide +kernel
theorem dX9_copy_88 : decode cX9_copy 88 = .ok (.invokevirtual 294, 3) := by decide +kernel
theorem dX9_copy_91 : decode cX9_copy 91 = .ok (.ifCond .ne 7, 3) := by decide +kernel
theorem dX9_copy_94 : decode cX9_copy 94 = .ok (.ldc_w 280, 3) := by decide +kernel
theorem dX9_copy_97 : decode cX9_copy 97 = .ok (.ireturn, 1) := by decide +kernel
theorem dX9_copy_98 : decode cX9_copy 98 = .ok (.aload 6, 2) := by decide +kernel
theorem dX9_copy_100 : decode cX9_copy 100 = .ok (.getfield 281, 3) := by decide +kernel
theorem dX9_copy_103 : decode cX9_copy 103 = .ok (.iload_n 2, 1) := by decide +kernel
theorem dX9_copy_104 : decode cX9_copy 104 = .ok (.aload 7, 2) := by decide +kernel
theorem dX9_copy_106 : decode cX9_copy 106 = .ok (.getfield 281, 3) := by decide +kernel
theorem dX9_copy_109 : decode cX9_copy 109 = .ok (.iload 4, 2) := by decide +kernel
theorem dX9_copy_111 : decode cX9_copy 111 = .ok (.iload 5, 2) := by decide +kernel
theorem dX9_copy_113 : decode cX9_copy 113 = .ok (.invokestatic 297, 3) := by decide +kernel
theorem dX9_copy_116 : decode cX9_copy 116 = .ok (.iload 5, 2) := by decide +kernel
theorem dX9_copy_118 : decode cX9_copy 118 = .ok (.ireturn, 1) := by decide +kernel
theorem dX9_lay_0 : decode cX9_lay 0 = .ok (.iload_n 1, 1) := by decide +kernel
theorem dX9_lay_1 : decode cX9_lay 1 = .ok (.invokestatic 303, 3) := by decide +kernel
theorem dX9_lay_4 : decode cX9_lay 4 = .ok (.ifCond .eq 36, 3) := by decide +kernel
theorem dX9_lay_7 : decode cX9_lay 7 = .ok (.iload_n 2, 1) := by decide +kernel
theorem dX9_lay_8 : decode cX9_lay 8 = .ok (.iconst 0, 1) := by decide +kernel
theorem dX9_lay_9 : decode cX9_lay 9 = .ok (.iconst 3, 1) := by decide +kernel
theorem dX9_lay_10 : decode cX9_lay 10 = .ok (.invokestatic 81, 3) := by decide +kernel
theorem dX9_lay_13 : decode cX9_lay 13 = .ok (.ifCond .eq 27, 3) := by decide +kernel
theorem dX9_lay_16 : decode cX9_lay 16 = .ok (.iload_n 2, 1) := by decide +kernel
theorem dX9_lay_17 : decode cX9_lay 17 = .ok (.iconst 1, 1) := by decide +kernel
theorem dX9_lay_18 : decode cX9_lay 18 = .ok (.if_icmp .ne 10, 3) := by decide +kernel
theorem dX9_lay_21 : decode cX9_lay 21 = .ok (.iload_n 3, 1) := by decide +kernel
theorem dX9_lay_22 : decode cX9_lay 22 = .ok (.invokestatic 72, 3) := by decide +kernel
theorem dX9_lay_25 : decode cX9_lay 25 = .ok (.ifCond .eq 15, 3) := by decide +kernel
theorem dX9_lay_28 : decode cX9_lay 28 = .ok (.iload_n 2, 1) := by decide +kernel
theorem dX9_lay_29 : decode cX9_lay 29 = .ok (.iconst 2, 1) := by decide +kernel
theorem dX9_lay_30 : decode cX9_lay 30 = .ok (.if_icmp .ne 13, 3) := by decide +kernel
theorem dX9_lay_33 : decode cX9_lay 33 = .ok (.iload_n 3, 1) := by decide +kernel
theorem dX9_lay_34 : decode cX9_lay 34 = .ok (.invokestatic 265, 3) := by decide +kernel
theorem dX9_lay_37 : decode cX9_lay 37 = .ok (.ifCond .ne 6, 3) := by decide +kernel
theorem dX9_lay_40 : decode cX9_lay 40 = .ok (.ldc 85, 2) := by decide +kernel
theorem dX9_lay_42 : decode cX9_lay 42 = .ok (.ireturn, 1) := by decide +kernel
theorem dX9_lay_43 : decode cX9_lay 43 = .ok (.iload_n 2, 1) := by decide +kernel
theorem dX9_lay_44 : decode cX9_lay 44 = .ok (.iconst 2, 1) := by decide +kernel
theorem dX9_lay_45 : decode cX9_lay 45 = .ok (.if_icmp .ne 20, 3) := by decide +kernel
theorem dX9_lay_48 : decode cX9_lay 48 = .ok (.aload_n 0, 1) := by decide +kernel
theorem dX9_lay_49 : decode cX9_lay 49 = .ok (.getfield 56, 3) := by decide +kernel
theorem dX9_lay_52 : decode cX9_lay 52 = .ok (.iload_n 3, 1) := by decide +kernel
theorem dX9_lay_53 : decode cX9_lay 53 = .ok (.aaload, 1) := by decide +kernel
theorem dX9_lay_54 : decode cX9_lay 54 = .ok (.getfield 273, 3) := by decide +kernel
theorem dX9_lay_57 : decode cX9_lay 57 = .ok (.iconst (-1), 1) := by decide +kernel
theorem dX9_lay_58 : decode cX9_lay 58 = .ok (.if_icmp .ne 7, 3) := by decide +kernel
theorem dX9_lay_61 : decode cX9_lay 61 = .ok (.ldc_w 276, 3) := by decide +kernel
theorem dX9_lay_64 : decode cX9_lay 64 = .ok (.ireturn, 1) := by decide +kernel
theorem dX9_lay_65 : decode cX9_lay 65 = .ok (.aload_n 0, 1) := by decide +kernel
theorem dX9_lay_66 : decode cX9_lay 66 = .ok (.getfield 63, 3) := by decide +kernel
theorem dX9_lay_69 : decode cX9_lay 69 = .ok (.iload_n 1, 1) := by decide +kernel
theorem dX9_lay_70 : decode cX9_lay 70 = .ok (.aaload, 1) := by decide +kernel
theorem dX9_lay_71 : decode cX9_lay 71 = .ok (.astore 4, 2) := by decide +kernel
theorem dX9_lay_73 : decode cX9_lay 73 = .ok (.aload 4, 2) := by decide +kernel
theorem dX9_lay_75 : decode cX9_lay 75 = .ok (.getfield 306, 3) := by decide +kernel
theorem dX9_lay_78 : decode cX9_lay 78 = .ok (.istore 5, 2) := by decide +kernel
theorem dX9_lay_80 : decode cX9_lay 80 = .ok (.aload 4, 2) := by decide +kernel
theorem dX9_lay_82 : decode cX9_lay 82 = .ok (.iload_n 2, 1) := by decide +kernel
theorem dX9_lay_83 : decode cX9_lay 83 = .ok (.putfield 306, 3) := by decide +kernel
theorem dX9_lay_86 : decode cX9_lay 86 = .ok (.iload_n 2, 1) := by decide +kernel
theorem dX9_lay_87 : decode cX9_lay 87 = .ok (.iconst 1, 1) := by decide +kernel
theorem dX9_lay_88 : decode cX9_lay 88 = .ok (.if_icmp .ne 48, 3) := by decide +kernel
theorem dX9_lay_91 : decode cX9_lay 91 = .ok (.aload 4, 2) := by decide +kernel
theorem dX9_lay_93 : decode cX9_lay 93 = .ok (.aload_n 0, 1) := by decide +kernel
theorem dX9_lay_94 : decode cX9_lay 94 = .ok (.getfield 21, 3) := by decide +kernel
theorem dX9_lay_97 : decode cX9_lay 97 = .ok (.getfield 86, 3) := by decide +kernel
theorem dX9_lay_100 : decode cX9_lay 100 = .ok (.iload_n 3, 1) := by decide +kernel
theorem dX9_lay_101 : decode cX9_lay 101 = .ok (.iaload, 1) := by decide +kernel
theorem dX9_lay_102 : decode cX9_lay 102 = .ok (.putfield 309, 3) := by decide +kernel
theorem dX9_lay_105 : decode cX9_lay 105 = .ok (.aload 4, 2) := by decide +kernel
theorem dX9_lay_107 : decode cX9_lay 107 = .ok (.aload_n 0, 1) := by decide +kernel
theorem dX9_lay_108 : decode cX9_lay 108 = .ok (.getfield 21, 3) := by decide +kernel
theorem dX9_lay_111 : decode cX9_lay 111 = .ok (.getfield 89, 3) := by decide +kernel
theorem dX9_lay_114 : decode cX9_lay 114 = .ok (.iload_n 3, 1) := by decide +kernel
theorem dX9_lay_115 : decode cX9_lay 115 = .ok (.iaload, 1) := by decide +kernel
theorem dX9_lay_116 : decode cX9_lay 116 = .ok (.putfield 312, 3) := by decide +kernel
theorem dX9_lay_119 : decode cX9_lay 119 = .ok (.aload 4, 2) := by decide +kernel
theorem dX9_lay_121 : decode cX9_lay 121 = .ok (.aload_n 0, 1) := by decide +kernel
theorem dX9_lay_122 : decode cX9_lay 122 = .ok (.getfield 21, 3) := by decide +kernel
theorem dX9_lay_125 : decode cX9_lay 125 = .ok (.getfield 92, 3) := by decide +kernel
theorem dX9_lay_128 : decode cX9_lay 128 = .ok (.iload_n 3, 1) := by decide +kernel
theorem dX9_lay_129 : decode cX9_lay 129 = .ok (.iaload, 1) := by decide +kernel
theorem dX9_lay_130 : decode cX9_lay 130 = .ok (.putfield 315, 3) := by decide +kernel
theorem dX9_lay_133 : decode cX9_lay 133 = .ok (.goto 36, 3) := by decide +kernel
theorem dX9_lay_136 : decode cX9_lay 136 = .ok (.iload_n 2, 1) := by decide +kernel
theorem dX9_lay_137 : decode cX9_lay 137 = .ok (.iconst 2, 1) := by decide +kernel
theorem dX9_lay_138 : decode cX9_lay 138 = .ok (.if_icmp .ne 20, 3) := by decide +kernel
theorem dX9_lay_141 : decode cX9_lay 141 = .ok (.aload 4, 2) := by decide +kernel
theorem dX9_lay_143 : decode cX9_lay 143 = .ok (.getfield 318, 3) := by decide +kernel
theorem dX9_lay_146 : decode cX9_lay 146 = .ok (.aload_n 0, 1) := by decide +kernel
theorem dX9_lay_147 : decode cX9_lay 147 = .ok (.getfield 56, 3) := by decide +kernel
theorem dX9_lay_150 : decode cX9_lay 150 = .ok (.iload_n 3, 1) := by decide +kernel
theorem dX9_lay_151 : decode cX9_lay 151 = .ok (.aaload, 1) := by decide +kernel
theorem dX9_lay_152 : decode cX9_lay 152 = .ok (.invokevirtual 322, 3) := by decide +kernel
theorem dX9_lay_155 : decode cX9_lay 155 = .ok (.goto 14, 3) := by decide +kernel
theorem dX9_lay_158 : decode cX9_lay 158 = .ok (.iload_n 2, 1) := by decide +kernel
theorem dX9_lay_159 : decode cX9_lay 159 = .ok (.iconst 3, 1) := by decide +kernel
theorem dX9_lay_160 : decode cX9_lay 160 = .ok (.if_icmp .ne 9, 3) := by decide +kernel
theorem dX9_lay_163 : decode cX9_lay 163 = .ok (.aload 4, 2) := by decide +kernel
theorem dX9_lay_165 : decode cX9_lay 165 = .ok (.iload_n 3, 1) := by decide +kernel
theorem dX9_lay_166 : decode cX9_lay 166 = .ok (.putfield 325, 3) := by decide +kernel
theorem dX9_lay_169 : decode cX9_lay 169 = .ok (.iload 5, 2) := by decide +kernel
theorem dX9_lay_171 : decode cX9_lay 171 = .ok (.ireturn, 1) := by decide +kernel
theorem dX9_ask_0 : decode cX9_ask 0 = .ok (.iload_n 1, 1) := by decide +kernel
theorem dX9_ask_1 : decode cX9_ask 1 = .ok (.invokestatic 303, 3) := by decide +kernel
theorem dX9_ask_4 : decode cX9_ask 4 = .ok (.ifCond .eq 10, 3) := by decide +kernel
theorem dX9_ask_7 : decode cX9_ask 7 = .ok (.iload_n 2, 1) := by decide +kernel
theorem dX9_ask_8 : decode cX9_ask 8 = .ok (.invokestatic 76, 3) := by decide +kernel
theorem dX9_ask_11 : decode cX9_ask 11 = .ok (.ifCond .ne 6, 3) := by decide +kernel
theorem dX9_ask_14 : decode cX9_ask 14 = .ok (.ldc 85, 2) := by decide +kernel
theorem dX9_ask_16 : decode cX9_ask 16 = .ok (.ireturn, 1) := by decide +kernel
theorem dX9_ask_17 : decode cX9_ask 17 = .ok (.aload_n 0, 1) := by decide +kernel
theorem dX9_ask_18 : decode cX9_ask 18 = .ok (.getfield 63, 3) := by decide +kernel
theorem dX9_ask_21 : decode cX9_ask 21 = .ok (.iload_n 1, 1) := by decide +kernel
theorem dX9_ask_22 : decode cX9_ask 22 = .ok (.aaload, 1) := by decide +kernel
theorem dX9_ask_23 : decode cX9_ask 23 = .ok (.astore_n 3, 1) := by decide +kernel
theorem dX9_ask_24 : decode cX9_ask 24 = .ok (.aload_n 3, 1) := by decide +kernel
theorem dX9_ask_25 : decode cX9_ask 25 = .ok (.getfield 306, 3) := by decide +kernel
theorem dX9_ask_28 : decode cX9_ask 28 = .ok (.ifCond .ne 7, 3) := by decide +kernel
theorem dX9_ask_31 : decode cX9_ask 31 = .ok (.ldc_w 276, 3) := by decide +kernel
theorem dX9_ask_34 : decode cX9_ask 34 = .ok (.ireturn, 1) := by decide +kernel
theorem dX9_ask_35 : decode cX9_ask 35 = .ok (.aload_n 3, 1) := by decide +kernel
theorem dX9_ask_36 : decode cX9_ask 36 = .ok (.getfield 306, 3) := by decide +kernel
theorem dX9_ask_39 : decode cX9_ask 39 = .ok (.iconst 1, 1) := by decide +kernel
theorem dX9_ask_40 : decode cX9_ask 40 = .ok (.if_icmp .ne 14, 3) := by decide +kernel
theorem dX9_ask_43 : decode cX9_ask 43 = .ok (.aload_n 3, 1) := by decide +kernel
theorem dX9_ask_44 : decode cX9_ask 44 = .ok (.getfield 309, 3) := by decide +kernel
theorem dX9_ask_47 : decode cX9_ask 47 = .ok (.iload_n 2, 1) := by decide +kernel
theorem dX9_ask_48 : decode cX9_ask 48 = .ok (.invokestatic 119, 3) := by decide +kernel
theorem dX9_ask_51 : decode cX9_ask 51 = .ok (.ifCond .ne 6, 3) := by decide +kernel
theorem dX9_ask_54 : decode cX9_ask 54 = .ok (.ldc 123, 2) := by decide +kernel
theorem dX9_ask_56 : decode cX9_ask 56 = .ok (.ireturn, 1) := by decide +kernel
theorem dX9_ask_57 : decode cX9_ask 57 = .ok (.aload_n 3, 1) := by decide +kernel
theorem dX9_ask_58 : decode cX9_ask 58 = .ok (.getfield 309, 3) := by decide +kernel
theorem dX9_ask_61 : decode cX9_ask 61 = .ok (.aload_n 3, 1) := by decide +kernel
theorem dX9_ask_62 : decode cX9_ask 62 = .ok (.getfield 312, 3) := by decide +kernel
theorem dX9_ask_65 : decode cX9_ask 65 = .ok (.aload_n 3, 1) := by decide +kernel
theorem dX9_ask_66 : decode cX9_ask 66 = .ok (.getfield 315, 3) := by decide +kernel
theorem dX9_ask_69 : decode cX9_ask 69 = .ok (.invokestatic 116, 3) := by decide +kernel
theorem dX9_ask_72 : decode cX9_ask 72 = .ok (.ireturn, 1) := by decide +kernel
theorem dX9_item_0 : decode cX9_item 0 = .ok (.iload_n 1, 1) := by decide +kernel
theorem dX9_item_1 : decode cX9_item 1 = .ok (.invokestatic 303, 3) := by decide +kernel
theorem dX9_item_4 : decode cX9_item 4 = .ok (.ifCond .ne 6, 3) := by decide +kernel
theorem dX9_item_7 : decode cX9_item 7 = .ok (.ldc 85, 2) := by decide +kernel
theorem dX9_item_9 : decode cX9_item 9 = .ok (.ireturn, 1) := by decide +kernel
theorem dX9_item_10 : decode cX9_item 10 = .ok (.aload_n 0, 1) := by decide +kernel
theorem dX9_item_11 : decode cX9_item 11 = .ok (.getfield 63, 3) := by decide +kernel
theorem dX9_item_14 : decode cX9_item 14 = .ok (.iload_n 1, 1) := by decide +kernel
theorem dX9_item_15 : decode cX9_item 15 = .ok (.aaload, 1) := by decide +kernel
theorem dX9_item_16 : decode cX9_item 16 = .ok (.astore_n 3, 1) := by decide +kernel
theorem dX9_item_17 : decode cX9_item 17 = .ok (.aload_n 3, 1) := by decide +kernel
theorem dX9_item_18 : decode cX9_item 18 = .ok (.getfield 306, 3) := by decide +kernel
theorem dX9_item_21 : decode cX9_item 21 = .ok (.ifCond .ne 7, 3) := by decide +kernel
theorem dX9_item_24 : decode cX9_item 24 = .ok (.ldc_w 276, 3) := by decide +kernel
theorem dX9_item_27 : decode cX9_item 27 = .ok (.ireturn, 1) := by decide +kernel
theorem dX9_item_28 : decode cX9_item 28 = .ok (.aload_n 3, 1) := by decide +kernel
theorem dX9_item_29 : decode cX9_item 29 = .ok (.getfield 306, 3) := by decide +kernel
theorem dX9_item_32 : decode cX9_item 32 = .ok (.iconst 2, 1) := by decide +kernel
theorem dX9_item_33 : decode cX9_item 33 = .ok (.if_icmp .eq 6, 3) := by decide +kernel
theorem dX9_item_36 : decode cX9_item 36 = .ok (.ldc 123, 2) := by decide +kernel
theorem dX9_item_38 : decode cX9_item 38 = .ok (.ireturn, 1) := by decide +kernel
theorem dX9_item_39 : decode cX9_item 39 = .ok (.aload_n 3, 1) := by decide +kernel
theorem dX9_item_40 : decode cX9_item 40 = .ok (.getfield 318, 3) := by decide +kernel
theorem dX9_item_43 : decode cX9_item 43 = .ok (.iload_n 2, 1) := by decide +kernel
theorem dX9_item_44 : decode cX9_item 44 = .ok (.invokevirtual 277, 3) := by decide +kernel
theorem dX9_item_47 : decode cX9_item 47 = .ok (.ifCond .ne 7, 3) := by decide +kernel
theorem dX9_item_50 : decode cX9_item 50 = .ok (.ldc_w 280, 3) := by decide +kernel
theorem dX9_item_53 : decode cX9_item 53 = .ok (.ireturn, 1) := by decide +kernel
theorem dX9_item_54 : decode cX9_item 54 = .ok (.aload_n 3, 1) := by decide +kernel
theorem dX9_item_55 : decode cX9_item 55 = .ok (.getfield 318, 3) := by decide +kernel
theorem dX9_item_58 : decode cX9_item 58 = .ok (.iload_n 2, 1) := by decide +kernel
theorem dX9_item_59 : decode cX9_item 59 = .ok (.invokevirtual 288, 3) := by decide +kernel
theorem dX9_item_62 : decode cX9_item 62 = .ok (.ifCond .eq 15, 3) := by decide +kernel
theorem dX9_item_65 : decode cX9_item 65 = .ok (.aload_n 3, 1) := by decide +kernel
theorem dX9_item_66 : decode cX9_item 66 = .ok (.getfield 318, 3) := by decide +kernel
theorem dX9_item_69 : decode cX9_item 69 = .ok (.getfield 281, 3) := by decide +kernel
theorem dX9_item_72 : decode cX9_item 72 = .ok (.iload_n 2, 1) := by decide +kernel
theorem dX9_item_73 : decode cX9_item 73 = .ok (.iaload, 1) := by decide +kernel
theorem dX9_item_74 : decode cX9_item 74 = .ok (.goto 5, 3) := by decide +kernel
theorem dX9_item_77 : decode cX9_item 77 = .ok (.ldc 123, 2) := by decide +kernel
theorem dX9_item_79 : decode cX9_item 79 = .ok (.ireturn, 1) := by decide +kernel
theorem dX9_rest_0 : decode cX9_rest 0 = .ok (.iload_n 1, 1) := by decide +kernel
theorem dX9_rest_1 : decode cX9_rest 1 = .ok (.invokestatic 303, 3) := by decide +kernel
theorem dX9_rest_4 : decode cX9_rest 4 = .ok (.ifCond .ne 6, 3) := by decide +kernel
theorem dX9_rest_7 : decode cX9_rest 7 = .ok (.ldc 85, 2) := by decide +kernel
theorem dX9_rest_9 : decode cX9_rest 9 = .ok (.ireturn, 1) := by decide +kernel
theorem dX9_rest_10 : decode cX9_rest 10 = .ok (.aload_n 0, 1) := by decide +kernel
theorem dX9_rest_11 : decode cX9_rest 11 = .ok (.getfield 63, 3) := by decide +kernel
theorem dX9_rest_14 : decode cX9_rest 14 = .ok (.iload_n 1, 1) := by decide +kernel
theorem dX9_rest_15 : decode cX9_rest 15 = .ok (.aaload, 1) := by decide +kernel
theorem dX9_rest_16 : decode cX9_rest 16 = .ok (.astore_n 3, 1) := by decide +kernel
theorem dX9_rest_17 : decode cX9_rest 17 = .ok (.aload_n 3, 1) := by decide +kernel
theorem dX9_rest_18 : decode cX9_rest 18 = .ok (.getfield 306, 3) := by decide +kernel
theorem dX9_rest_21 : decode cX9_rest 21 = .ok (.ifCond .ne 7, 3) := by decide +kernel
theorem dX9_rest_24 : decode cX9_rest 24 = .ok (.ldc_w 276, 3) := by decide +kernel
theorem dX9_rest_27 : decode cX9_rest 27 = .ok (.ireturn, 1) := by decide +kernel
theorem dX9_rest_28 : decode cX9_rest 28 = .ok (.aload_n 3, 1) := by decide +kernel
theorem dX9_rest_29 : decode cX9_rest 29 = .ok (.getfield 306, 3) := by decide +kernel
theorem dX9_rest_32 : decode cX9_rest 32 = .ok (.iconst 3, 1) := by decide +kernel
theorem dX9_rest_33 : decode cX9_rest 33 = .ok (.if_icmp .eq 6, 3) := by decide +kernel
theorem dX9_rest_36 : decode cX9_rest 36 = .ok (.ldc 123, 2) := by decide +kernel
theorem dX9_rest_38 : decode cX9_rest 38 = .ok (.ireturn, 1) := by decide +kernel
theorem dX9_rest_39 : decode cX9_rest 39 = .ok (.iload_n 2, 1) := by decide +kernel
theorem dX9_rest_40 : decode cX9_rest 40 = .ok (.ifCond .ne 8, 3) := by decide +kernel
theorem dX9_rest_43 : decode cX9_rest 43 = .ok (.ldc 169, 2) := by decide +kernel
theorem dX9_rest_45 : decode cX9_rest 45 = .ok (.goto 9, 3) := by decide +kernel
theorem dX9_rest_48 : decode cX9_rest 48 = .ok (.aload_n 3, 1) := by decide +kernel
theorem dX9_rest_49 : decode cX9_rest 49 = .ok (.getfield 325, 3) := by decide +kernel
theorem dX9_rest_52 : decode cX9_rest 52 = .ok (.iload_n 2, 1) := by decide +kernel
theorem dX9_rest_53 : decode cX9_rest 53 = .ok (.irem, 1) := by decide +kernel
theorem dX9_rest_54 : decode cX9_rest 54 = .ok (.ireturn, 1) := by decide +kernel
theorem dX9_tell_0 : decode cX9_tell 0 = .ok (.aload_n 0, 1) := by decide +kernel
theorem dX9_tell_1 : decode cX9_tell 1 = .ok (.getfield 328, 3) := by decide +kernel
theorem dX9_tell_4 : decode cX9_tell 4 = .ok (.bipush 60, 2) := by decide +kernel
theorem dX9_tell_6 : decode cX9_tell 6 = .ok (.if_icmp .lt 6, 3) := by decide +kernel
theorem dX9_tell_9 : decode cX9_tell 9 = .ok (.ldc 170, 2) := by decide +kernel
theorem dX9_tell_11 : decode cX9_tell 11 = .ok (.ireturn, 1) := by decide +kernel
theorem dX9_tell_12 : decode cX9_tell 12 = .ok (.aload_n 0, 1) := by decide +kernel
theorem dX9_tell_13 : decode cX9_tell 13 = .ok (.getfield 68, 3) := by decide +kernel
theorem dX9_tell_16 : decode cX9_tell 16 = .ok (.aload_n 0, 1) := by decide +kernel
theorem dX9_tell_17 : decode cX9_tell 17 = .ok (.getfield 328, 3) := by decide +kernel
theorem dX9_tell_20 : decode cX9_tell 20 = .ok (.iload_n 1, 1) := by decide +kernel
theorem dX9_tell_21 : decode cX9_tell 21 = .ok (.iastore, 1) := by decide +kernel
theorem dX9_tell_22 : decode cX9_tell 22 = .ok (.aload_n 0, 1) := by decide +kernel
theorem dX9_tell_23 : decode cX9_tell 23 = .ok (.dup, 1) := by decide +kernel
theorem dX9_tell_24 : decode cX9_tell 24 = .ok (.getfield 328, 3) := by decide +kernel
theorem dX9_tell_27 : decode cX9_tell 27 = .ok (.iconst 1, 1) := by decide +kernel
theorem dX9_tell_28 : decode cX9_tell 28 = .ok (.iadd, 1) := by decide +kernel
theorem dX9_tell_29 : decode cX9_tell 29 = .ok (.putfield 328, 3) := by decide +kernel
theorem dX9_tell_32 : decode cX9_tell 32 = .ok (.aload_n 0, 1) := by decide +kernel
theorem dX9_tell_33 : decode cX9_tell 33 = .ok (.getfield 328, 3) := by decide +kernel
theorem dX9_tell_36 : decode cX9_tell 36 = .ok (.ireturn, 1) := by decide +kernel
theorem dX9_check_0 : decode cX9_check 0 = .ok (.aload_n 0, 1) := by decide +kernel
theorem dX9_check_1 : decode cX9_check 1 = .ok (.getfield 328, 3) := by decide +kernel
theorem dX9_check_4 : decode cX9_check 4 = .ok (.istore_n 2, 1) := by decide +kernel
theorem dX9_check_5 : decode cX9_check 5 = .ok (.aload_n 0, 1) := by decide +kernel
theorem dX9_check_6 : decode cX9_check 6 = .ok (.iconst 0, 1) := by decide +kernel
theorem dX9_check_7 : decode cX9_check 7 = .ok (.putfield 328, 3) := by decide +kernel
theorem dX9_check_10 : decode cX9_check 10 = .ok (.iload_n 1, 1) := by decide +kernel
theorem dX9_check_11 : decode cX9_check 11 = .ok (.iconst 1, 1) := by decide +kernel
theorem dX9_check_12 : decode cX9_check 12 = .ok (.bipush 30, 2) := by decide +kernel
theorem dX9_check_14 : decode cX9_check 14 = .ok (.invokestatic 81, 3) := by decide +kernel
theorem dX9_check_17 : decode cX9_check 17 = .ok (.ifCond .ne 6, 3) := by decide +kernel
theorem dX9_check_20 : decode cX9_check 20 = .ok (.ldc 85, 2) := by decide +kernel
theorem dX9_check_22 : decode cX9_check 22 = .ok (.ireturn, 1) := by decide +kernel
theorem dX9_check_23 : decode cX9_check 23 = .ok (.aload_n 0, 1) := by decide +kernel
theorem dX9_check_24 : decode cX9_check 24 = .ok (.getfield 331, 3) := by decide +kernel
theorem dX9_check_27 : decode cX9_check 27 = .ok (.ifCond .ne 6, 3) := by decide +kernel
theorem dX9_check_30 : decode cX9_check 30 = .ok (.ldc 169, 2) := by decide +kernel
theorem dX9_check_32 : decode cX9_check 32 = .ok (.ireturn, 1) := by decide +kernel
theorem dX9_check_33 : decode cX9_check 33 = .ok (.aload_n 0, 1) := by decide +kernel
theorem dX9_check_34 : decode cX9_check 34 = .ok (.iload_n 2, 1) := by decide +kernel
theorem dX9_check_35 : decode cX9_check 35 = .ok (.iload_n 1, 1) := by decide +kernel
theorem dX9_check_36 : decode cX9_check 36 = .ok (.invokevirtual 335, 3) := by decide +kernel
theorem dX9_check_39 : decode cX9_check 39 = .ok (.istore_n 3, 1) := by decide +kernel
theorem dX9_check_40 : decode cX9_check 40 = .ok (.iload_n 3, 1) := by decide +kernel
theorem dX9_check_41 : decode cX9_check 41 = .ok (.iload_n 2, 1) := by decide +kernel
theorem dX9_check_42 : decode cX9_check 42 = .ok (.if_icmp .ne 14, 3) := by decide +kernel
theorem dX9_check_45 : decode cX9_check 45 = .ok (.iload_n 3, 1) := by decide +kernel
theorem dX9_check_46 : decode cX9_check 46 = .ok (.iconst 2, 1) := by decide +kernel
theorem dX9_check_47 : decode cX9_check 47 = .ok (.iload_n 1, 1) := by decide +kernel
theorem dX9_check_48 : decode cX9_check 48 = .ok (.imul, 1) := by decide +kernel
theorem dX9_check_49 : decode cX9_check 49 = .ok (.if_icmp .ne 7, 3) := by decide +kernel
theorem dX9_check_52 : decode cX9_check 52 = .ok (.iconst 0, 1) := by decide +kernel
theorem dX9_check_53 : decode cX9_check 53 = .ok (.goto 6, 3) := by decide +kernel
theorem dX9_check_56 : decode cX9_check 56 = .ok (.iconst 1, 1) := by decide +kernel
theorem dX9_check_57 : decode cX9_check 57 = .ok (.iload_n 3, 1) := by decide +kernel
theorem dX9_check_58 : decode cX9_check 58 = .ok (.iadd, 1) := by decide +kernel
theorem dX9_check_59 : decode cX9_check 59 = .ok (.ireturn, 1) := by decide +kernel
theorem dX9_keep_0 : decode cX9_keep 0 = .ok (.aload_n 0, 1) := by decide +kernel
theorem dX9_keep_1 : decode cX9_keep 1 = .ok (.getfield 25, 3) := by decide +kernel
theorem dX9_keep_4 : decode cX9_keep 4 = .ok (.aload_n 0, 1) := by decide +kernel
theorem dX9_keep_5 : decode cX9_keep 5 = .ok (.getfield 21, 3) := by decide +kernel
theorem dX9_keep_8 : decode cX9_keep 8 = .ok (.invokevirtual 146, 3) := by decide +kernel
theorem dX9_keep_11 : decode cX9_keep 11 = .ok (.aload_n 0, 1) := by decide +kernel
theorem dX9_keep_12 : decode cX9_keep 12 = .ok (.iconst 1, 1) := by decide +kernel
theorem dX9_keep_13 : decode cX9_keep 13 = .ok (.putfield 331, 3) := by decide +kernel
theorem dX9_keep_16 : decode cX9_keep 16 = .ok (.aload_n 0, 1) := by decide +kernel
theorem dX9_keep_17 : decode cX9_keep 17 = .ok (.getfield 21, 3) := by decide +kernel
theorem dX9_keep_20 : decode cX9_keep 20 = .ok (.invokevirtual 137, 3) := by decide +kernel
theorem dX9_keep_23 : decode cX9_keep 23 = .ok (.ireturn, 1) := by decide +kernel
theorem dX9_back_0 : decode cX9_back 0 = .ok (.aload_n 0, 1) := by decide +kernel
theorem dX9_back_1 : decode cX9_back 1 = .ok (.getfield 331, 3) := by decide +kernel
theorem dX9_back_4 : decode cX9_back 4 = .ok (.ifCond .ne 6, 3) := by decide +kernel
theorem dX9_back_7 : decode cX9_back 7 = .ok (.ldc 169, 2) := by decide +kernel
theorem dX9_back_9 : decode cX9_back 9 = .ok (.ireturn, 1) := by decide +kernel
theorem dX9_back_10 : decode cX9_back 10 = .ok (.aload_n 0, 1) := by decide +kernel
theorem dX9_back_11 : decode cX9_back 11 = .ok (.getfield 21, 3) := by decide +kernel
theorem dX9_back_14 : decode cX9_back 14 = .ok (.aload_n 0, 1) := by decide +kernel
theorem dX9_back_15 : decode cX9_back 15 = .ok (.getfield 25, 3) := by decide +kernel
theorem dX9_back_18 : decode cX9_back 18 = .ok (.invokevirtual 146, 3) := by decide +kernel
theorem dX9_back_21 : decode cX9_back 21 = .ok (.aload_n 0, 1) := by decide +kernel
theorem dX9_back_22 : decode cX9_back 22 = .ok (.getfield 21, 3) := by decide +kernel
theorem dX9_back_25 : decode cX9_back 25 = .ok (.invokevirtual 137, 3) := by decide +kernel
theorem dX9_back_28 : decode cX9_back 28 = .ok (.ireturn, 1) := by decide +kernel
theorem dX9_count_0 : decode cX9_count 0 = .ok (.iload_n 1, 1) := by decide +kernel
theorem dX9_count_1 : decode cX9_count 1 = .ok (.tableswitch 132 0 9 #[55, 63, 71, 79, 87, 95, 103, 111, 116, 124], 55) := by decide +kernel
theorem dX9_count_56 : decode cX9_count 56 = .ok (.aload_n 0, 1) := by decide +kernel
theorem dX9_count_57 : decode cX9_count 57 = .ok (.getfield 21, 3) := by decide +kernel
theorem dX9_count_60 : decode cX9_count 60 = .ok (.invokevirtual 137, 3) := by decide +kernel
theorem dX9_count_63 : decode cX9_count 63 = .ok (.ireturn, 1) := by decide +kernel
theorem dX9_count_64 : decode cX9_count 64 = .ok (.aload_n 0, 1) := by decide +kernel
theorem dX9_count_65 : decode cX9_count 65 = .ok (.getfield 21, 3) := by decide +kernel
theorem dX9_count_68 : decode cX9_count 68 = .ok (.getfield 338, 3) := by decide +kernel
theorem dX9_count_71 : decode cX9_count 71 = .ok (.ireturn, 1) := by decide +kernel
theorem dX9_count_72 : decode cX9_count 72 = .ok (.aload_n 0, 1) := by decide +kernel
theorem dX9_count_73 : decode cX9_count 73 = .ok (.getfield 21, 3) := by decide +kernel
theorem dX9_count_76 : decode cX9_count 76 = .ok (.getfield 124, 3) := by decide +kernel
theorem dX9_count_79 : decode cX9_count 79 = .ok (.ireturn, 1) := by decide +kernel
theorem dX9_count_80 : decode cX9_count 80 = .ok (.aload_n 0, 1) := by decide +kernel
theorem dX9_count_81 : decode cX9_count 81 = .ok (.getfield 21, 3) := by decide +kernel
theorem dX9_count_84 : decode cX9_count 84 = .ok (.getfield 128, 3) := by decide +kernel
theorem dX9_count_87 : decode cX9_count 87 = .ok (.ireturn, 1) := by decide +kernel
theorem dX9_count_88 : decode cX9_count 88 = .ok (.aload_n 0, 1) := by decide +kernel
theorem dX9_count_89 : decode cX9_count 89 = .ok (.getfield 21, 3) := by decide +kernel
theorem dX9_count_92 : decode cX9_count 92 = .ok (.getfield 131, 3) := by decide +kernel
theorem dX9_count_95 : decode cX9_count 95 = .ok (.ireturn, 1) := by decide +kernel
theorem dX9_count_96 : decode cX9_count 96 = .ok (.aload_n 0, 1) := by decide +kernel
theorem dX9_count_97 : decode cX9_count 97 = .ok (.getfield 21, 3) := by decide +kernel
theorem dX9_count_100 : decode cX9_count 100 = .ok (.getfield 160, 3) := by decide +kernel
theorem dX9_count_103 : decode cX9_count 103 = .ok (.ireturn, 1) := by decide +kernel
theorem dX9_count_104 : decode cX9_count 104 = .ok (.aload_n 0, 1) := by decide +kernel
theorem dX9_count_105 : decode cX9_count 105 = .ok (.getfield 21, 3) := by decide +kernel
theorem dX9_count_108 : decode cX9_count 108 = .ok (.getfield 240, 3) := by decide +kernel
theorem dX9_count_111 : decode cX9_count 111 = .ok (.ireturn, 1) := by decide +kernel
theorem dX9_count_112 : decode cX9_count 112 = .ok (.aload_n 0, 1) := by decide +kernel
theorem dX9_count_113 : decode cX9_count 113 = .ok (.getfield 328, 3) := by decide +kernel
theorem dX9_count_116 : decode cX9_count 116 = .ok (.ireturn, 1) := by decide +kernel
theorem dX9_count_117 : decode cX9_count 117 = .ok (.aload_n 0, 1) := by decide +kernel
theorem dX9_count_118 : decode cX9_count 118 = .ok (.getfield 41, 3) := by decide +kernel
theorem dX9_count_121 : decode cX9_count 121 = .ok (.getfield 234, 3) := by decide +kernel
theorem dX9_count_124 : decode cX9_count 124 = .ok (.ireturn, 1) := by decide +kernel
theorem dX9_count_125 : decode cX9_count 125 = .ok (.aload_n 0, 1) := by decide +kernel
theorem dX9_count_126 : decode cX9_count 126 = .ok (.getfield 21, 3) := by decide +kernel
theorem dX9_count_129 : decode cX9_count 129 = .ok (.getfield 140, 3) := by decide +kernel
theorem dX9_count_132 : decode cX9_count 132 = .ok (.ireturn, 1) := by decide +kernel
theorem dX9_count_133 : decode cX9_count 133 = .ok (.ldc 85, 2) := by decide +kernel
theorem dX9_count_135 : decode cX9_count 135 = .ok (.ireturn, 1) := by decide +kernel
theorem dX9_rightAhead_0 : decode cX9_rightAhead 0 = .ok (.aload_n 0, 1) := by decide +kernel
theorem dX9_rightAhead_1 : decode cX9_rightAhead 1 = .ok (.getfield 28, 3) := by decide +kernel
theorem dX9_rightAhead_4 : decode cX9_rightAhead 4 = .ok (.aload_n 0, 1) := by decide +kernel
theorem dX9_rightAhead_5 : decode cX9_rightAhead 5 = .ok (.getfield 25, 3) := by decide +kernel
theorem dX9_rightAhead_8 : decode cX9_rightAhead 8 = .ok (.invokevirtual 146, 3) := by decide +kernel
theorem dX9_rightAhead_11 : decode cX9_rightAhead 11 = .ok (.aload_n 0, 1) := by decide +kernel
theorem dX9_rightAhead_12 : decode cX9_rightAhead 12 = .ok (.getfield 28, 3) := by decide +kernel
theorem dX9_rightAhead_15 : decode cX9_rightAhead 15 = .ok (.invokevirtual 153, 3) := by decide +kernel
theorem dX9_rightAhead_18 : decode cX9_rightAhead 18 = .ok (.iconst 0, 1) := by decide +kernel
theorem dX9_rightAhead_19 : decode cX9_rightAhead 19 = .ok (.istore_n 3, 1) := by decide +kernel
theorem dX9_rightAhead_20 : decode cX9_rightAhead 20 = .ok (.iload_n 3, 1) := by decide +kernel
theorem dX9_rightAhead_21 : decode cX9_rightAhead 21 = .ok (.iload_n 2, 1) := by decide +kernel
theorem dX9_rightAhead_22 : decode cX9_rightAhead 22 = .ok (.if_icmp .ge 76, 3) := by decide +kernel
theorem dX9_rightAhead_25 : decode cX9_rightAhead 25 = .ok (.aload_n 0, 1) := by decide +kernel
theorem dX9_rightAhead_26 : decode cX9_rightAhead 26 = .ok (.getfield 28, 3) := by decide +kernel
theorem dX9_rightAhead_29 : decode cX9_rightAhead 29 = .ok (.invokevirtual 156, 3) := by decide +kernel
theorem dX9_rightAhead_32 : decode cX9_rightAhead 32 = .ok (.istore 4, 2) := by decide +kernel
theorem dX9_rightAhead_34 : decode cX9_rightAhead 34 = .ok (.iconst 2, 1) := by decide +kernel
theorem dX9_rightAhead_35 : decode cX9_rightAhead 35 = .ok (.iload_n 3, 1) := by decide +kernel
theorem dX9_rightAhead_36 : decode cX9_rightAhead 36 = .ok (.imul, 1) := by decide +kernel
theorem dX9_rightAhead_37 : decode cX9_rightAhead 37 = .ok (.istore 5, 2) := by decide +kernel
theorem dX9_rightAhead_39 : decode cX9_rightAhead 39 = .ok (.iload 5, 2) := by decide +kernel
theorem dX9_rightAhead_41 : decode cX9_rightAhead 41 = .ok (.iload_n 1, 1) := by decide +kernel
theorem dX9_rightAhead_42 : decode cX9_rightAhead 42 = .ok (.if_icmp .ge 15, 3) := by decide +kernel
theorem dX9_rightAhead_45 : decode cX9_rightAhead 45 = .ok (.aload_n 0, 1) := by decide +kernel
theorem dX9_rightAhead_46 : decode cX9_rightAhead 46 = .ok (.getfield 68, 3) := by decide +kernel
theorem dX9_rightAhead_49 : decode cX9_rightAhead 49 = .ok (.iload 5, 2) := by decide +kernel
theorem dX9_rightAhead_51 : decode cX9_rightAhead 51 = .ok (.iaload, 1) := by decide +kernel
theorem dX9_rightAhead_52 : decode cX9_rightAhead 52 = .ok (.iload 4, 2) := by decide +kernel
theorem dX9_rightAhead_54 : decode cX9_rightAhead 54 = .ok (.if_icmp .eq 6, 3) := by decide +kernel
theorem dX9_rightAhead_57 : decode cX9_rightAhead 57 = .ok (.iload 5, 2) := by decide +kernel
theorem dX9_rightAhead_59 : decode cX9_rightAhead 59 = .ok (.ireturn, 1) := by decide +kernel
theorem dX9_rightAhead_60 : decode cX9_rightAhead 60 = .ok (.iload 5, 2) := by decide +kernel
theorem dX9_rightAhead_62 : decode cX9_rightAhead 62 = .ok (.iconst 1, 1) := by decide +kernel
theorem dX9_rightAhead_63 : decode cX9_rightAhead 63 = .ok (.iadd, 1) := by decide +kernel
theorem dX9_rightAhead_64 : decode cX9_rightAhead 64 = .ok (.iload_n 1, 1) := by decide +kernel
theorem dX9_rightAhead_65 : decode cX9_rightAhead 65 = .ok (.if_icmp .ge 22, 3) := by decide +kernel
theorem dX9_rightAhead_68 : decode cX9_rightAhead 68 = .ok (.aload_n 0, 1) := by decide +kernel
theorem dX9_rightAhead_69 : decode cX9_rightAhead 69 = .ok (.getfield 68, 3) := by decide +kernel
theorem dX9_rightAhead_72 : decode cX9_rightAhead 72 = .ok (.iload 5, 2) := by decide +kernel
theorem dX9_rightAhead_74 : decode cX9_rightAhead 74 = .ok (.iconst 1, 1) := by decide +kernel
theorem dX9_rightAhead_75 : decode cX9_rightAhead 75 = .ok (.iadd, 1) := by decide +kernel
theorem dX9_rightAhead_76 : decode cX9_rightAhead 76 = .ok (.iaload, 1) := by decide +kernel
theorem dX9_rightAhead_77 : decode cX9_rightAhead 77 = .ok (.aload_n 0, 1) := by decide +kernel
theorem dX9_rightAhead_78 : decode cX9_rightAhead 78 = .ok (.getfield 28, 3) := by decide +kernel
theorem dX9_rightAhead_81 : decode cX9_rightAhead 81 = .ok (.invokevirtual 137, 3) := by decide +kernel
theorem dX9_rightAhead_84 : decode cX9_rightAhead 84 = .ok (.if_icmp .eq 8, 3) := by decide +kernel
theorem dX9_rightAhead_87 : decode cX9_rightAhead 87 = .ok (.iload 5, 2) := by decide +kernel
theorem dX9_rightAhead_89 : decode cX9_rightAhead 89 = .ok (.iconst 1, 1) := by decide +kernel
theorem dX9_rightAhead_90 : decode cX9_rightAhead 90 = .ok (.iadd, 1) := by decide +kernel
theorem dX9_rightAhead_91 : decode cX9_rightAhead 91 = .ok (.ireturn, 1) := by decide +kernel
theorem dX9_rightAhead_92 : decode cX9_rightAhead 92 = .ok (.iinc 3 1, 3) := by decide +kernel
theorem dX9_rightAhead_95 : decode cX9_rightAhead 95 = .ok (.goto (-75), 3) := by decide +kernel
theorem dX9_rightAhead_98 : decode cX9_rightAhead 98 = .ok (.iconst 2, 1) := by decide +kernel
theorem dX9_rightAhead_99 : decode cX9_rightAhead 99 = .ok (.iload_n 2, 1) := by decide +kernel
theorem dX9_rightAhead_100 : decode cX9_rightAhead 100 = .ok (.imul, 1) := by decide +kernel
theorem dX9_rightAhead_101 : decode cX9_rightAhead 101 = .ok (.ireturn, 1) := by decide +kernel
theorem dX9_isWithin_0 : decode cX9_isWithin 0 = .ok (.iload_n 0, 1) := by decide +kernel
theorem dX9_isWithin_1 : decode cX9_isWithin 1 = .ok (.iload_n 1, 1) := by decide +kernel
theorem dX9_isWithin_2 : decode cX9_isWithin 2 = .ok (.if_icmp .lt 12, 3) := by decide +kernel
theorem dX9_isWithin_5 : decode cX9_isWithin 5 = .ok (.iload_n 0, 1) := by decide +kernel
theorem dX9_isWithin_6 : decode cX9_isWithin 6 = .ok (.iload_n 2, 1) := by decide +kernel
theorem dX9_isWithin_7 : decode cX9_isWithin 7 = .ok (.if_icmp .gt 7, 3) := by decide +kernel
theorem dX9_isWithin_10 : decode cX9_isWithin 10 = .ok (.iconst 1, 1) := by decide +kernel
theorem dX9_isWithin_11 : decode cX9_isWithin 11 = .ok (.goto 4, 3) := by decide +kernel
theorem dX9_isWithin_14 : decode cX9_isWithin 14 = .ok (.iconst 0, 1) := by decide +kernel
theorem dX9_isWithin_15 : decode cX9_isWithin 15 = .ok (.ireturn, 1) := by decide +kernel
theorem dX9_heldWithin_0 : decode cX9_heldWithin 0 = .ok (.iload_n 1, 1) := by decide +kernel
theorem dX9_heldWithin_1 : decode cX9_heldWithin 1 = .ok (.iload_n 2, 1) := by decide +kernel
theorem dX9_heldWithin_2 : decode cX9_heldWithin 2 = .ok (.iload_n 0, 1) := by decide +kernel
theorem dX9_heldWithin_3 : decode cX9_heldWithin 3 = .ok (.invokestatic 341, 3) := by decide +kernel
theorem dX9_heldWithin_6 : decode cX9_heldWithin 6 = .ok (.invokestatic 346, 3) := by decide +kernel
theorem dX9_heldWithin_9 : decode cX9_heldWithin 9 = .ok (.ireturn, 1) := by decide +kernel
theorem dX9_isCell_0 : decode cX9_isCell 0 = .ok (.iload_n 0, 1) := by decide +kernel
theorem dX9_isCell_1 : decode cX9_isCell 1 = .ok (.iconst 0, 1) := by decide +kernel
theorem dX9_isCell_2 : decode cX9_isCell 2 = .ok (.bipush 29, 2) := by decide +kernel
theorem dX9_isCell_4 : decode cX9_isCell 4 = .ok (.invokestatic 81, 3) := by decide +kernel
theorem dX9_isCell_7 : decode cX9_isCell 7 = .ok (.ireturn, 1) := by decide +kernel
theorem dX9_isSheet_0 : decode cX9_isSheet 0 = .ok (.iload_n 0, 1) := by decide +kernel
theorem dX9_isSheet_1 : decode cX9_isSheet 1 = .ok (.iconst 0, 1) := by decide +kernel
theorem dX9_isSheet_2 : decode cX9_isSheet 2 = .ok (.iconst 3, 1) := by decide +kernel
theorem dX9_isSheet_3 : decode cX9_isSheet 3 = .ok (.invokestatic 81, 3) := by decide +kernel
theorem dX9_isSheet_6 : decode cX9_isSheet 6 = .ok (.ireturn, 1) := by decide +kernel
theorem dX9_isSlot_0 : decode cX9_isSlot 0 = .ok (.iload_n 0, 1) := by decide +kernel
theorem dX9_isSlot_1 : decode cX9_isSlot 1 = .ok (.iconst 0, 1) := by decide +kernel
theorem dX9_isSlot_2 : decode cX9_isSlot 2 = .ok (.iconst 4, 1) := by decide +kernel
theorem dX9_isSlot_3 : decode cX9_isSlot 3 = .ok (.invokestatic 81, 3) := by decide +kernel
theorem dX9_isSlot_6 : decode cX9_isSlot 6 = .ok (.ireturn, 1) := by decide +kernel
theorem dX9_neighbour_0 : decode cX9_neighbour 0 = .ok (.iload_n 0, 1) := by decide +kernel
theorem dX9_neighbour_1 : decode cX9_neighbour 1 = .ok (.bipush 6, 2) := by decide +kernel
theorem dX9_neighbour_3 : decode cX9_neighbour 3 = .ok (.irem, 1) := by decide +kernel
theorem dX9_neighbour_4 : decode cX9_neighbour 4 = .ok (.istore_n 2, 1) := by decide +kernel
theorem dX9_neighbour_5 : decode cX9_neighbour 5 = .ok (.iload_n 1, 1) := by decide +kernel
theorem dX9_neighbour_6 : decode cX9_neighbour 6 = .ok (.tableswitch 72 0 2 #[26, 42, 56], 26) := by decide +kernel
theorem dX9_neighbour_32 : decode cX9_neighbour 32 = .ok (.iload_n 0, 1) := by decide +kernel
theorem dX9_neighbour_33 : decode cX9_neighbour 33 = .ok (.bipush 24, 2) := by decide +kernel
theorem dX9_neighbour_35 : decode cX9_neighbour 35 = .ok (.if_icmp .ge 10, 3) := by decide +kernel
theorem dX9_neighbour_38 : decode cX9_neighbour 38 = .ok (.iload_n 0, 1) := by decide +kernel
theorem dX9_neighbour_39 : decode cX9_neighbour 39 = .ok (.bipush 6, 2) := by decide +kernel
theorem dX9_neighbour_41 : decode cX9_neighbour 41 = .ok (.iadd, 1) := by decide +kernel
theorem dX9_neighbour_42 : decode cX9_neighbour 42 = .ok (.goto 5, 3) := by decide +kernel
theorem dX9_neighbour_45 : decode cX9_neighbour 45 = .ok (.ldc 159, 2) := by decide +kernel
theorem dX9_neighbour_47 : decode cX9_neighbour 47 = .ok (.ireturn, 1) := by decide +kernel
theorem dX9_neighbour_48 : decode cX9_neighbour 48 = .ok (.iload_n 2, 1) := by decide +kernel
theorem dX9_neighbour_49 : decode cX9_neighbour 49 = .ok (.iconst 5, 1) := by decide +kernel
theorem dX9_neighbour_50 : decode cX9_neighbour 50 = .ok (.if_icmp .ge 9, 3) := by decide +kernel
theorem dX9_neighbour_53 : decode cX9_neighbour 53 = .ok (.iload_n 0, 1) := by decide +kernel
theorem dX9_neighbour_54 : decode cX9_neighbour 54 = .ok (.iconst 1, 1) := by decide +kernel
theorem dX9_neighbour_55 : decode cX9_neighbour 55 = .ok (.iadd, 1) := by decide +kernel
theorem dX9_neighbour_56 : decode cX9_neighbour 56 = .ok (.goto 5, 3) := by decide +kernel
theorem dX9_neighbour_59 : decode cX9_neighbour 59 = .ok (.ldc 159, 2) := by decide +kernel
theorem dX9_neighbour_61 : decode cX9_neighbour 61 = .ok (.ireturn, 1) := by decide +kernel
theorem dX9_neighbour_62 : decode cX9_neighbour 62 = .ok (.iload_n 0, 1) := by decide +kernel
theorem dX9_neighbour_63 : decode cX9_neighbour 63 = .ok (.bipush 6, 2) := by decide +kernel
theorem dX9_neighbour_65 : decode cX9_neighbour 65 = .ok (.if_icmp .lt 10, 3) := by decide +kernel
theorem dX9_neighbour_68 : decode cX9_neighbour 68 = .ok (.iload_n 0, 1) := by decide +kernel
theorem dX9_neighbour_69 : decode cX9_neighbour 69 = .ok (.bipush 6, 2) := by decide +kernel
theorem dX9_neighbour_71 : decode cX9_neighbour 71 = .ok (.isub, 1) := by decide +kernel
theorem dX9_neighbour_72 : decode cX9_neighbour 72 = .ok (.goto 5, 3) := by decide +kernel
theorem dX9_neighbour_75 : decode cX9_neighbour 75 = .ok (.ldc 159, 2) := by decide +kernel
theorem dX9_neighbour_77 : decode cX9_neighbour 77 = .ok (.ireturn, 1) := by decide +kernel
theorem dX9_neighbour_78 : decode cX9_neighbour 78 = .ok (.iload_n 2, 1) := by decide +kernel
theorem dX9_neighbour_79 : decode cX9_neighbour 79 = .ok (.ifCond .le 9, 3) := by decide +kernel
theorem dX9_neighbour_82 : decode cX9_neighbour 82 = .ok (.iload_n 0, 1) := by decide +kernel
theorem dX9_neighbour_83 : decode cX9_neighbour 83 = .ok (.iconst 1, 1) := by decide +kernel
theorem dX9_neighbour_84 : decode cX9_neighbour 84 = .ok (.isub, 1) := by decide +kernel
theorem dX9_neighbour_85 : decode cX9_neighbour 85 = .ok (.goto 5, 3) := by decide +kernel
theorem dX9_neighbour_88 : decode cX9_neighbour 88 = .ok (.ldc 159, 2) := by decide +kernel
theorem dX9_neighbour_90 : decode cX9_neighbour 90 = .ok (.ireturn, 1) := by decide +kernel
theorem dX9_isBeside_0 : decode cX9_isBeside 0 = .ok (.iconst 0, 1) := by decide +kernel
theorem dX9_isBeside_1 : decode cX9_isBeside 1 = .ok (.istore_n 2, 1) := by decide +kernel
theorem dX9_isBeside_2 : decode cX9_isBeside 2 = .ok (.iload_n 2, 1) := by decide +kernel
theorem dX9_isBeside_3 : decode cX9_isBeside 3 = .ok (.iconst 4, 1) := by decide +kernel
theorem dX9_isBeside_4 : decode cX9_isBeside 4 = .ok (.if_icmp .ge 20, 3) := by decide +kernel
theorem dX9_isBeside_7 : decode cX9_isBeside 7 = .ok (.iload_n 0, 1) := by decide +kernel
theorem dX9_isBeside_8 : decode cX9_isBeside 8 = .ok (.iload_n 2, 1) := by decide +kernel
theorem dX9_isBeside_9 : decode cX9_isBeside 9 = .ok (.invokestatic 349, 3) := by decide +kernel
theorem dX9_isBeside_12 : decode cX9_isBeside 12 = .ok (.iload_n 1, 1) := by decide +kernel
theorem dX9_isBeside_13 : decode cX9_isBeside 13 = .ok (.if_icmp .ne 5, 3) := by decide +kernel
theorem dX9_isBeside_16 : decode cX9_isBeside 16 = .ok (.iconst 1, 1) := by decide +kernel
theorem dX9_isBeside_17 : decode cX9_isBeside 17 = .ok (.ireturn, 1) := by decide +kernel
theorem dX9_isBeside_18 : decode cX9_isBeside 18 = .ok (.iinc 2 1, 3) := by decide +kernel
theorem dX9_isBeside_21 : decode cX9_isBeside 21 = .ok (.goto (-19), 3) := by decide +kernel
theorem dX9_isBeside_24 : decode cX9_isBeside 24 = .ok (.iconst 0, 1) := by decide +kernel
theorem dX9_isBeside_25 : decode cX9_isBeside 25 = .ok (.ireturn, 1) := by decide +kernel
theorem dX9_commonDivisor_0 : decode cX9_commonDivisor 0 = .ok (.iload_n 0, 1) := by decide +kernel
theorem dX9_commonDivisor_1 : decode cX9_commonDivisor 1 = .ok (.istore_n 2, 1) := by decide +kernel
theorem dX9_commonDivisor_2 : decode cX9_commonDivisor 2 = .ok (.iload_n 1, 1) := by decide +kernel
theorem dX9_commonDivisor_3 : decode cX9_commonDivisor 3 = .ok (.istore_n 3, 1) := by decide +kernel
theorem dX9_commonDivisor_4 : decode cX9_commonDivisor 4 = .ok (.iconst 0, 1) := by decide +kernel
theorem dX9_commonDivisor_5 : decode cX9_commonDivisor 5 = .ok (.istore 4, 2) := by decide +kernel
theorem dX9_commonDivisor_7 : decode cX9_commonDivisor 7 = .ok (.iload 4, 2) := by decide +kernel
theorem dX9_commonDivisor_9 : decode cX9_commonDivisor 9 = .ok (.bipush 100, 2) := by decide +kernel
theorem dX9_commonDivisor_11 : decode cX9_commonDivisor 11 = .ok (.if_icmp .ge 23, 3) := by decide +kernel
theorem dX9_commonDivisor_14 : decode cX9_commonDivisor 14 = .ok (.iload_n 3, 1) := by decide +kernel
theorem dX9_commonDivisor_15 : decode cX9_commonDivisor 15 = .ok (.ifCond .eq 19, 3) := by decide +kernel
theorem dX9_commonDivisor_18 : decode cX9_commonDivisor 18 = .ok (.iload_n 2, 1) := by decide +kernel
theorem dX9_commonDivisor_19 : decode cX9_commonDivisor 19 = .ok (.iload_n 3, 1) := by decide +kernel
theorem dX9_commonDivisor_20 : decode cX9_commonDivisor 20 = .ok (.irem, 1) := by decide +kernel
theorem dX9_commonDivisor_21 : decode cX9_commonDivisor 21 = .ok (.istore 5, 2) := by decide +kernel
theorem dX9_commonDivisor_23 : decode cX9_commonDivisor 23 = .ok (.iload_n 3, 1) := by decide +kernel
theorem dX9_commonDivisor_24 : decode cX9_commonDivisor 24 = .ok (.istore_n 2, 1) := by decide +kernel
theorem dX9_commonDivisor_25 : decode cX9_commonDivisor 25 = .ok (.iload 5, 2) := by decide +kernel
theorem dX9_commonDivisor_27 : decode cX9_commonDivisor 27 = .ok (.istore_n 3, 1) := by decide +kernel
theorem dX9_commonDivisor_28 : decode cX9_commonDivisor 28 = .ok (.iinc 4 1, 3) := by decide +kernel
theorem dX9_commonDivisor_31 : decode cX9_commonDivisor 31 = .ok (.goto (-24), 3) := by decide +kernel
theorem dX9_commonDivisor_34 : decode cX9_commonDivisor 34 = .ok (.iload_n 2, 1) := by decide +kernel
theorem dX9_commonDivisor_35 : decode cX9_commonDivisor 35 = .ok (.ireturn, 1) := by decide +kernel
theorem dX10_init_0 : decode cX10_init 0 = .ok (.aload_n 0, 1) := by decide +kernel
theorem dX10_init_1 : decode cX10_init 1 = .ok (.invokespecial 1, 3) := by decide +kernel
theorem dX10_init_4 : decode cX10_init 4 = .ok (.aload_n 0, 1) := by decide +kernel
theorem dX10_init_5 : decode cX10_init 5 = .ok (.sipush 3122, 3) := by decide +kernel
theorem dX10_init_8 : decode cX10_init 8 = .ok (.newarray .int, 2) := by decide +kernel
theorem dX10_init_10 : decode cX10_init 10 = .ok (.putfield 7, 3) := by decide +kernel
theorem dX10_init_13 : decode cX10_init 13 = .ok (.aload_n 0, 1) := by decide +kernel
theorem dX10_init_14 : decode cX10_init 14 = .ok (.sipush 3122, 3) := by decide +kernel
theorem dX10_init_17 : decode cX10_init 17 = .ok (.newarray .int, 2) := by decide +kernel
theorem dX10_init_19 : decode cX10_init 19 = .ok (.putfield 13, 3) := by decide +kernel
theorem dX10_init_22 : decode cX10_init 22 = .ok (.aload_n 0, 1) := by decide +kernel
theorem dX10_init_23 : decode cX10_init 23 = .ok (.sipush 3122, 3) := by decide +kernel
theorem dX10_init_26 : decode cX10_init 26 = .ok (.newarray .int, 2) := by decide +kernel
theorem dX10_init_28 : decode cX10_init 28 = .ok (.putfield 16, 3) := by decide +kernel
theorem dX10_init_31 : decode cX10_init 31 = .ok (.aload_n 0, 1) := by decide +kernel
theorem dX10_init_32 : decode cX10_init 32 = .ok (.iconst 4, 1) := by decide +kernel
theorem dX10_init_33 : decode cX10_init 33 = .ok (.newarray .int, 2) := by decide +kernel
theorem dX10_init_35 : decode cX10_init 35 = .ok (.putfield 19, 3) := by decide +kernel
theorem dX10_init_38 : decode cX10_init 38 = .ok (.aload_n 0, 1) := by decide +kernel
theorem dX10_init_39 : decode cX10_init 39 = .ok (.iconst 4, 1) := by decide +kernel
theorem dX10_init_40 : decode cX10_init 40 = .ok (.newarray .int, 2) := by decide +kernel
theorem dX10_init_42 : decode cX10_init 42 = .ok (.putfield 22, 3) := by decide +kernel
theorem dX10_init_45 : decode cX10_init 45 = .ok (.aload_n 0, 1) := by decide +kernel
theorem dX10_init_46 : decode cX10_init 46 = .ok (.bipush 96, 2) := by decide +kernel
theorem dX10_init_48 : decode cX10_init 48 = .ok (.newarray .int, 2) := by decide +kernel
theorem dX10_init_50 : decode cX10_init 50 = .ok (.putfield 25, 3) := by decide +kernel
theorem dX10_init_53 : decode cX10_init 53 = .ok (.aload_n 0, 1) := by decide +kernel
theorem dX10_init_54 : decode cX10_init 54 = .ok (.iconst 5, 1) := by decide +kernel
theorem dX10_init_55 : decode cX10_init 55 = .ok (.newarray .int, 2) := by decide +kernel
theorem dX10_init_57 : decode cX10_init 57 = .ok (.putfield 28, 3) := by decide +kernel
theorem dX10_init_60 : decode cX10_init 60 = .ok (.aload_n 0, 1) := by decide +kernel
theorem dX10_init_61 : decode cX10_init 61 = .ok (.iconst 5, 1) := by decide +kernel
theorem dX10_init_62 : decode cX10_init 62 = .ok (.newarray .int, 2) := by decide +kernel
theorem dX10_init_64 : decode cX10_init 64 = .ok (.putfield 31, 3) := by decide +kernel
theorem dX10_init_67 : decode cX10_init 67 = .ok (.aload_n 0, 1) := by decide +kernel
theorem dX10_init_68 : decode cX10_init 68 = .ok (.iconst 5, 1) := by decide +kernel
theorem dX10_init_69 : decode cX10_init 69 = .ok (.newarray .int, 2) := by decide +kernel
theorem dX10_init_71 : decode cX10_init 71 = .ok (.putfield 34, 3) := by decide +kernel
theorem dX10_init_74 : decode cX10_init 74 = .ok (.aload_n 0, 1) := by decide +kernel
theorem dX10_init_75 : decode cX10_init 75 = .ok (.iconst 5, 1) := by decide +kernel
theorem dX10_init_76 : decode cX10_init 76 = .ok (.newarray .int, 2) := by decide +kernel
theorem dX10_init_78 : decode cX10_init 78 = .ok (.putfield 37, 3) := by decide +kernel
theorem dX10_init_81 : decode cX10_init 81 = .ok (.aload_n 0, 1) := by decide +kernel
theorem dX10_init_82 : decode cX10_init 82 = .ok (.bipush 120, 2) := by decide +kernel
theorem dX10_init_84 : decode cX10_init 84 = .ok (.newarray .int, 2) := by decide +kernel
theorem dX10_init_86 : decode cX10_init 86 = .ok (.putfield 40, 3) := by decide +kernel
theorem dX10_init_89 : decode cX10_init 89 = .ok (.aload_n 0, 1) := by decide +kernel
theorem dX10_init_90 : decode cX10_init 90 = .ok (.bipush 30, 2) := by decide +kernel
theorem dX10_init_92 : decode cX10_init 92 = .ok (.newarray .int, 2) := by decide +kernel
theorem dX10_init_94 : decode cX10_init 94 = .ok (.putfield 43, 3) := by decide +kernel
theorem dX10_init_97 : decode cX10_init 97 = .ok (.aload_n 0, 1) := by decide +kernel
theorem dX10_init_98 : decode cX10_init 98 = .ok (.bipush 122, 2) := by decide +kernel
theorem dX10_init_100 : decode cX10_init 100 = .ok (.newarray .int, 2) := by decide +kernel
theorem dX10_init_102 : decode cX10_init 102 = .ok (.putfield 46, 3) := by decide +kernel
theorem dX10_init_105 : decode cX10_init 105 = .ok (.aload_n 0, 1) := by decide +kernel
theorem dX10_init_106 : decode cX10_init 106 = .ok (.bipush 30, 2) := by decide +kernel
theorem dX10_init_108 : decode cX10_init 108 = .ok (.newarray .int, 2) := by decide +kernel
theorem dX10_init_110 : decode cX10_init 110 = .ok (.putfield 49, 3) := by decide +kernel
theorem dX10_init_113 : decode cX10_init 113 = .ok (.aload_n 0, 1) := by decide +kernel
theorem dX10_init_114 : decode cX10_init 114 = .ok (.bipush 30, 2) := by decide +kernel
theorem dX10_init_116 : decode cX10_init 116 = .ok (.newarray .int, 2) := by decide +kernel
theorem dX10_init_118 : decode cX10_init 118 = .ok (.putfield 52, 3) := by decide +kernel
theorem dX10_init_121 : decode cX10_init 121 = .ok (.aload_n 0, 1) := by decide +kernel
theorem dX10_init_122 : decode cX10_init 122 = .ok (.bipush 30, 2) := by decide +kernel
theorem dX10_init_124 : decode cX10_init 124 = .ok (.newarray .int, 2) := by decide +kernel
theorem dX10_init_126 : decode cX10_init 126 = .ok (.putfield 55, 3) := by decide +kernel
theorem dX10_init_129 : decode cX10_init 129 = .ok (.aload_n 0, 1) := by decide +kernel
theorem dX10_init_130 : decode cX10_init 130 = .ok (.bipush 30, 2) := by decide +kernel
theorem dX10_init_132 : decode cX10_init 132 = .ok (.newarray .int, 2) := by decide +kernel
theorem dX10_init_134 : decode cX10_init 134 = .ok (.putfield 58, 3) := by decide +kernel
theorem dX10_init_137 : decode cX10_init 137 = .ok (.aload_n 0, 1) := by decide +kernel
theorem dX10_init_138 : decode cX10_init 138 = .ok (.bipush 30, 2) := by decide +kernel
theorem dX10_init_140 : decode cX10_init 140 = .ok (.newarray .int, 2) := by decide +kernel
theorem dX10_init_142 : decode cX10_init 142 = .ok (.putfield 61, 3) := by decide +kernel
theorem dX10_init_145 : decode cX10_init 145 = .ok (.aload_n 0, 1) := by decide +kernel
theorem dX10_init_146 : decode cX10_init 146 = .ok (.bipush 30, 2) := by decide +kernel
theorem dX10_init_148 : decode cX10_init 148 = .ok (.newarray .boolean, 2) := by decide +kernel
theorem dX10_init_150 : decode cX10_init 150 = .ok (.putfield 64, 3) := by decide +kernel
theorem dX10_init_153 : decode cX10_init 153 = .ok (.aload_n 0, 1) := by decide +kernel
theorem dX10_init_154 : decode cX10_init 154 = .ok (.bipush 96, 2) := by decide +kernel
theorem dX10_init_156 : decode cX10_init 156 = .ok (.newarray .int, 2) := by decide +kernel
theorem dX10_init_158 : decode cX10_init 158 = .ok (.putfield 68, 3) := by decide +kernel
theorem dX10_init_161 : decode cX10_init 161 = .ok (.aload_n 0, 1) := by decide +kernel
theorem dX10_init_162 : decode cX10_init 162 = .ok (.sipush 128, 3) := by decide +kernel
theorem dX10_init_165 : decode cX10_init 165 = .ok (.newarray .int, 2) := by decide +kernel
theorem dX10_init_167 : decode cX10_init 167 = .ok (.putfield 71, 3) := by decide +kernel
theorem dX10_init_170 : decode cX10_init 170 = .ok (.aload_n 0, 1) := by decide +kernel
theorem dX10_init_171 : decode cX10_init 171 = .ok (.bipush 100, 2) := by decide +kernel
theorem dX10_init_173 : decode cX10_init 173 = .ok (.newarray .int, 2) := by decide +kernel
theorem dX10_init_175 : decode cX10_init 175 = .ok (.putfield 74, 3) := by decide +kernel
theorem dX10_init_178 : decode cX10_init 178 = .ok (.aload_n 0, 1) := by decide +kernel
theorem dX10_init_179 : decode cX10_init 179 = .ok (.bipush 24, 2) := by decide +kernel
theorem dX10_init_181 : decode cX10_init 181 = .ok (.newarray .int, 2) := by decide +kernel
theorem dX10_init_183 : decode cX10_init 183 = .ok (.putfield 77, 3) := by decide +kernel
theorem dX10_init_186 : decode cX10_init 186 = .ok (.aload_n 0, 1) := by decide +kernel
theorem dX10_init_187 : decode cX10_init 187 = .ok (.bipush 60, 2) := by decide +kernel
theorem dX10_init_189 : decode cX10_init 189 = .ok (.newarray .int, 2) := by decide +kernel
theorem dX10_init_191 : decode cX10_init 191 = .ok (.putfield 80, 3) := by decide +kernel
theorem dX10_init_194 : decode cX10_init 194 = .ok (.aload_n 0, 1) := by decide +kernel
theorem dX10_init_195 : decode cX10_init 195 = .ok (.bipush 60, 2) := by decide +kernel
theorem dX10_init_197 : decode cX10_init 197 = .ok (.newarray .int, 2) := by decide +kernel
theorem dX10_init_199 : decode cX10_init 199 = .ok (.putfield 83, 3) := by decide +kernel
theorem dX10_init_202 : decode cX10_init 202 = .ok (.aload_n 0, 1) := by decide +kernel
theorem dX10_init_203 : decode cX10_init 203 = .ok (.getfield 7, 3) := by decide +kernel
theorem dX10_init_206 : decode cX10_init 206 = .ok (.iconst 2, 1) := by decide +kernel
theorem dX10_init_207 : decode cX10_init 207 = .ok (.iconst 2, 1) := by decide +kernel
theorem dX10_init_208 : decode cX10_init 208 = .ok (.iastore, 1) := by decide +kernel
theorem dX10_init_209 : decode cX10_init 209 = .ok (.aload_n 0, 1) := by decide +kernel
theorem dX10_init_210 : decode cX10_init 210 = .ok (.getfield 7, 3) := by decide +kernel
theorem dX10_init_213 : decode cX10_init 213 = .ok (.iconst 3, 1) := by decide +kernel
theorem dX10_init_214 : decode cX10_init 214 = .ok (.bipush 6, 2) := by decide +kernel
theorem dX10_init_216 : decode cX10_init 216 = .ok (.iastore, 1) := by decide +kernel
theorem dX10_init_217 : decode cX10_init 217 = .ok (.aload_n 0, 1) := by decide +kernel
theorem dX10_init_218 : decode cX10_init 218 = .ok (.getfield 7, 3) := by decide +kernel
theorem dX10_init_221 : decode cX10_init 221 = .ok (.iconst 4, 1) := by decide +kernel
theorem dX10_init_222 : decode cX10_init 222 = .ok (.iconst 3, 1) := by decide +kernel
theorem dX10_init_223 : decode cX10_init 223 = .ok (.iastore, 1) := by decide +kernel
theorem dX10_init_224 : decode cX10_init 224 = .ok (.aload_n 0, 1) := by decide +kernel
theorem dX10_init_225 : decode cX10_init 225 = .ok (.getfield 7, 3) := by decide +kernel
theorem dX10_init_228 : decode cX10_init 228 = .ok (.bipush 6, 2) := by decide +kernel
theorem dX10_init_230 : decode cX10_init 230 = .ok (.iconst 1, 1) := by decide +kernel
theorem dX10_init_231 : decode cX10_init 231 = .ok (.iastore, 1) := by decide +kernel
theorem dX10_init_232 : decode cX10_init 232 = .ok (.iconst 0, 1) := by decide +kernel
theorem dX10_init_233 : decode cX10_init 233 = .ok (.istore_n 1, 1) := by decide +kernel
theorem dX10_init_234 : decode cX10_init 234 = .ok (.iload_n 1, 1) := by decide +kernel
theorem dX10_init_235 : decode cX10_init 235 = .ok (.iconst 4, 1) := by decide +kernel
theorem dX10_init_236 : decode cX10_init 236 = .ok (.if_icmp .ge 16, 3) := by decide +kernel
theorem dX10_init_239 : decode cX10_init 239 = .ok (.aload_n 0, 1) := by decide +kernel
theorem dX10_init_240 : decode cX10_init 240 = .ok (.getfield 19, 3) := by decide +kernel
theorem dX10_init_243 : decode cX10_init 243 = .ok (.iload_n 1, 1) := by decide +kernel
theorem dX10_init_244 : decode cX10_init 244 = .ok (.iconst (-1), 1) := by decide +kernel
theorem dX10_init_245 : decode cX10_init 245 = .ok (.iastore, 1) := by decide +kernel
theorem dX10_init_246 : decode cX10_init 246 = .ok (.iinc 1 1, 3) := by decide +kernel
theorem dX10_init_249 : decode cX10_init 249 = .ok (.goto (-15), 3) := by decide +kernel
theorem dX10_init_252 : decode cX10_init 252 = .ok (.return_, 1) := by decide +kernel
theorem dX10_isIn_0 : decode cX10_isIn 0 = .ok (.lload_n 0, 1) := by decide +kernel
theorem dX10_isIn_1 : decode cX10_isIn 1 = .ok (.lload_n 2, 1) := by decide +kernel
theorem dX10_isIn_2 : decode cX10_isIn 2 = .ok (.lcmp, 1) := by decide +kernel
theorem dX10_isIn_3 : decode cX10_isIn 3 = .ok (.ifCond .lt 14, 3) := by decide +kernel
theorem dX10_isIn_6 : decode cX10_isIn 6 = .ok (.lload_n 0, 1) := by decide +kernel
theorem dX10_isIn_7 : decode cX10_isIn 7 = .ok (.lload 4, 2) := by decide +kernel
theorem dX10_isIn_9 : decode cX10_isIn 9 = .ok (.lcmp, 1) := by decide +kernel
theorem dX10_isIn_10 : decode cX10_isIn 10 = .ok (.ifCond .gt 7, 3) := by decide +kernel
theorem dX10_isIn_13 : decode cX10_isIn 13 = .ok (.iconst 1, 1) := by decide +kernel
theorem dX10_isIn_14 : decode cX10_isIn 14 = .ok (.goto 4, 3) := by decide +kernel
theorem dX10_isIn_17 : decode cX10_isIn 17 = .ok (.iconst 0, 1) := by decide +kernel
theorem dX10_isIn_18 : decode cX10_isIn 18 = .ok (.ireturn, 1) := by decide +kernel
theorem dX10_orNone_0 : decode cX10_orNone 0 = .ok (.iload_n 0, 1) := by decide +kernel
theorem dX10_orNone_1 : decode cX10_orNone 1 = .ok (.ifCond .ge 8, 3) := by decide +kernel
theorem dX10_orNone_4 : decode cX10_orNone 4 = .ok (.ldc 86, 2) := by decide +kernel
theorem dX10_orNone_6 : decode cX10_orNone 6 = .ok (.goto 4, 3) := by decide +kernel
theorem dX10_orNone_9 : decode cX10_orNone 9 = .ok (.iload_n 0, 1) := by decide +kernel
theorem dX10_orNone_10 : decode cX10_orNone 10 = .ok (.ireturn, 1) := by decide +kernel
theorem dX10_within_0 : decode cX10_within 0 = .ok (.iload_n 0, 1) := by decide +kernel
theorem dX10_within_1 : decode cX10_within 1 = .ok (.ifCond .ge 7, 3) := by decide +kernel
theorem dX10_within_4 : decode cX10_within 4 = .ok (.iconst 0, 1) := by decide +kernel
theorem dX10_within_5 : decode cX10_within 5 = .ok (.goto 13, 3) := by decide +kernel
theorem dX10_within_8 : decode cX10_within 8 = .ok (.iload_n 0, 1) := by decide +kernel
theorem dX10_within_9 : decode cX10_within 9 = .ok (.iload_n 1, 1) := by decide +kernel
theorem dX10_within_10 : decode cX10_within 10 = .ok (.if_icmp .le 7, 3) := by decide +kernel
theorem dX10_within_13 : decode cX10_within 13 = .ok (.iload_n 1, 1) := by decide +kernel
theorem dX10_within_14 : decode cX10_within 14 = .ok (.goto 4, 3) := by decide +kernel
theorem dX10_within_17 : decode cX10_within 17 = .ok (.iload_n 0, 1) := by decide +kernel
theorem dX10_within_18 : decode cX10_within 18 = .ok (.ireturn, 1) := by decide +kernel
theorem dX10_becomes_0 : decode cX10_becomes 0 = .ok (.aload_n 0, 1) := by decide +kernel
theorem dX10_becomes_1 : decode cX10_becomes 1 = .ok (.getfield 7, 3) := by decide +kernel
theorem dX10_becomes_4 : decode cX10_becomes 4 = .ok (.iload_n 1, 1) := by decide +kernel
theorem dX10_becomes_5 : decode cX10_becomes 5 = .ok (.iaload, 1) := by decide +kernel
theorem dX10_becomes_6 : decode cX10_becomes 6 = .ok (.istore_n 3, 1) := by decide +kernel
theorem dX10_becomes_7 : decode cX10_becomes 7 = .ok (.aload_n 0, 1) := by decide +kernel
theorem dX10_becomes_8 : decode cX10_becomes 8 = .ok (.getfield 7, 3) := by decide +kernel
theorem dX10_becomes_11 : decode cX10_becomes 11 = .ok (.iload_n 1, 1) := by decide +kernel
theorem dX10_becomes_12 : decode cX10_becomes 12 = .ok (.iload_n 2, 1) := by decide +kernel
theorem dX10_becomes_13 : decode cX10_becomes 13 = .ok (.iastore, 1) := by decide +kernel
theorem dX10_becomes_14 : decode cX10_becomes 14 = .ok (.iload_n 3, 1) := by decide +kernel
theorem dX10_becomes_15 : decode cX10_becomes 15 = .ok (.ireturn, 1) := by decide +kernel
theorem dX10_textAt_0 : decode cX10_textAt 0 = .ok (.bipush 122, 2) := by decide +kernel
theorem dX10_textAt_2 : decode cX10_textAt 2 = .ok (.sipush 200, 3) := by decide +kernel
theorem dX10_textAt_5 : decode cX10_textAt 5 = .ok (.iload_n 1, 1) := by decide +kernel
theorem dX10_textAt_6 : decode cX10_textAt 6 = .ok (.imul, 1) := by decide +kernel
theorem dX10_textAt_7 : decode cX10_textAt 7 = .ok (.iadd, 1) := by decide +kernel
theorem dX10_textAt_8 : decode cX10_textAt 8 = .ok (.ireturn, 1) := by decide +kernel
theorem dX10_of_0 : decode cX10_of 0 = .ok (.aload_n 0, 1) := by decide +kernel
theorem dX10_of_1 : decode cX10_of 1 = .ok (.getfield 7, 3) := by decide +kernel
theorem dX10_of_4 : decode cX10_of 4 = .ok (.bipush 8, 2) := by decide +kernel
theorem dX10_of_6 : decode cX10_of 6 = .ok (.iconst 3, 1) := by decide +kernel
theorem dX10_of_7 : decode cX10_of 7 = .ok (.iload_n 1, 1) := by decide +kernel
theorem dX10_of_8 : decode cX10_of 8 = .ok (.imul, 1) := by decide +kernel
theorem dX10_of_9 : decode cX10_of 9 = .ok (.iadd, 1) := by decide +kernel
theorem dX10_of_10 : decode cX10_of 10 = .ok (.iload_n 2, 1) := by decide +kernel
theorem dX10_of_11 : decode cX10_of 11 = .ok (.iadd, 1) := by decide +kernel
theorem dX10_of_12 : decode cX10_of 12 = .ok (.iaload, 1) := by decide +kernel
theorem dX10_of_13 : decode cX10_of 13 = .ok (.ireturn, 1) := by decide +kernel
theorem dX10_sets_0 : decode cX10_sets 0 = .ok (.aload_n 0, 1) := by decide +kernel
theorem dX10_sets_1 : decode cX10_sets 1 = .ok (.getfield 7, 3) := by decide +kernel
theorem dX10_sets_4 : decode cX10_sets 4 = .ok (.bipush 8, 2) := by decide +kernel
theorem dX10_sets_6 : decode cX10_sets 6 = .ok (.iconst 3, 1) := by decide +kernel
theorem dX10_sets_7 : decode cX10_sets 7 = .ok (.iload_n 1, 1) := by decide +kernel
theorem dX10_sets_8 : decode cX10_sets 8 = .ok (.imul, 1) := by decide +kernel
theorem dX10_sets_9 : decode cX10_sets 9 = .ok (.iadd, 1) := by decide +kernel
theorem dX10_sets_10 : decode cX10_sets 10 = .ok (.iload_n 2, 1) := by decide +kernel
theorem dX10_sets_11 : decode cX10_sets 11 = .ok (.iadd, 1) := by decide +kernel
theorem dX10_sets_12 : decode cX10_sets 12 = .ok (.iload_n 3, 1) := by decide +kernel
theorem dX10_sets_13 : decode cX10_sets 13 = .ok (.iastore, 1) := by decide +kernel
theorem dX10_sets_14 : decode cX10_sets 14 = .ok (.return_, 1) := by decide +kernel
theorem dX10_isCell_0 : decode cX10_isCell 0 = .ok (.iload_n 0, 1) := by decide +kernel
theorem dX10_isCell_1 : decode cX10_isCell 1 = .ok (.ifCond .lt 13, 3) := by decide +kernel
theorem dX10_isCell_4 : decode cX10_isCell 4 = .ok (.iload_n 0, 1) := by decide +kernel
theorem dX10_isCell_5 : decode cX10_isCell 5 = .ok (.bipush 30, 2) := by decide +kernel
theorem dX10_isCell_7 : decode cX10_isCell 7 = .ok (.if_icmp .ge 7, 3) := by decide +kernel
theorem dX10_isCell_10 : decode cX10_isCell 10 = .ok (.iconst 1, 1) := by decide +kernel
theorem dX10_isCell_11 : decode cX10_isCell 11 = .ok (.goto 4, 3) := by decide +kernel
theorem dX10_isCell_14 : decode cX10_isCell 14 = .ok (.iconst 0, 1) := by decide +kernel
theorem dX10_isCell_15 : decode cX10_isCell 15 = .ok (.ireturn, 1) := by decide +kernel
theorem dX10_isText_0 : decode cX10_isText 0 = .ok (.iload_n 1, 1) := by decide +kernel
theorem dX10_isText_1 : decode cX10_isText 1 = .ok (.i2l, 1) := by decide +kernel
theorem dX10_isText_2 : decode cX10_isText 2 = .ok (.lconst 0, 1) := by decide +kernel
theorem dX10_isText_3 : decode cX10_isText 3 = .ok (.aload_n 0, 1) := by decide +kernel
theorem dX10_isText_4 : decode cX10_isText 4 = .ok (.getfield 7, 3) := by decide +kernel
theorem dX10_isText_7 : decode cX10_isText 7 = .ok (.iconst 1, 1) := by decide +kernel
theorem dX10_isText_8 : decode cX10_isText 8 = .ok (.iaload, 1) := by decide +kernel
theorem dX10_isText_9 : decode cX10_isText 9 = .ok (.iconst 1, 1) := by decide +kernel
theorem dX10_isText_10 : decode cX10_isText 10 = .ok (.isub, 1) := by decide +kernel
theorem dX10_isText_11 : decode cX10_isText 11 = .ok (.i2l, 1) := by decide +kernel
theorem dX10_isText_12 : decode cX10_isText 12 = .ok (.invokestatic 87, 3) := by decide +kernel
theorem dX10_isText_15 : decode cX10_isText 15 = .ok (.ireturn, 1) := by decide +kernel
theorem dX10_drawn_0 : decode cX10_drawn 0 = .ok (.aload_n 0, 1) := by decide +kernel
theorem dX10_drawn_1 : decode cX10_drawn 1 = .ok (.getfield 7, 3) := by decide +kernel
theorem dX10_drawn_4 : decode cX10_drawn 4 = .ok (.bipush 6, 2) := by decide +kernel
theorem dX10_drawn_6 : decode cX10_drawn 6 = .ok (.aload_n 0, 1) := by decide +kernel
theorem dX10_drawn_7 : decode cX10_drawn 7 = .ok (.getfield 7, 3) := by decide +kernel
theorem dX10_drawn_10 : decode cX10_drawn 10 = .ok (.bipush 6, 2) := by decide +kernel
theorem dX10_drawn_12 : decode cX10_drawn 12 = .ok (.iaload, 1) := by decide +kernel
theorem dX10_drawn_13 : decode cX10_drawn 13 = .ok (.ldc 91, 2) := by decide +kernel
theorem dX10_drawn_15 : decode cX10_drawn 15 = .ok (.imul, 1) := by decide +kernel
theorem dX10_drawn_16 : decode cX10_drawn 16 = .ok (.sipush 12345, 3) := by decide +kernel
theorem dX10_drawn_19 : decode cX10_drawn 19 = .ok (.iadd, 1) := by decide +kernel
theorem dX10_drawn_20 : decode cX10_drawn 20 = .ok (.iastore, 1) := by decide +kernel
theorem dX10_drawn_21 : decode cX10_drawn 21 = .ok (.aload_n 0, 1) := by decide +kernel
theorem dX10_drawn_22 : decode cX10_drawn 22 = .ok (.getfield 7, 3) := by decide +kernel
theorem dX10_drawn_25 : decode cX10_drawn 25 = .ok (.bipush 6, 2) := by decide +kernel
theorem dX10_drawn_27 : decode cX10_drawn 27 = .ok (.iaload, 1) := by decide +kernel
theorem dX10_drawn_28 : decode cX10_drawn 28 = .ok (.bipush 8, 2) := by decide +kernel
theorem dX10_drawn_30 : decode cX10_drawn 30 = .ok (.iushr, 1) := by decide +kernel
theorem dX10_drawn_31 : decode cX10_drawn 31 = .ok (.ireturn, 1) := by decide +kernel
theorem dX10_sun_0 : decode cX10_sun 0 = .ok (.aload_n 0, 1) := by decide +kernel
theorem dX10_sun_1 : decode cX10_sun 1 = .ok (.getfield 7, 3) := by decide +kernel
theorem dX10_sun_4 : decode cX10_sun 4 = .ok (.iconst 3, 1) := by decide +kernel
theorem dX10_sun_5 : decode cX10_sun 5 = .ok (.iaload, 1) := by decide +kernel
theorem dX10_sun_6 : decode cX10_sun 6 = .ok (.bipush 9, 2) := by decide +kernel
theorem dX10_sun_8 : decode cX10_sun 8 = .ok (.if_icmp .ge 7, 3) := by decide +kernel
theorem dX10_sun_11 : decode cX10_sun 11 = .ok (.iconst 0, 1) := by decide +kernel
theorem dX10_sun_12 : decode cX10_sun 12 = .ok (.goto 12, 3) := by decide +kernel
theorem dX10_sun_15 : decode cX10_sun 15 = .ok (.aload_n 0, 1) := by decide +kernel
theorem dX10_sun_16 : decode cX10_sun 16 = .ok (.getfield 7, 3) := by decide +kernel
theorem dX10_sun_19 : decode cX10_sun 19 = .ok (.iconst 3, 1) := by decide +kernel
theorem dX10_sun_20 : decode cX10_sun 20 = .ok (.iaload, 1) := by decide +kernel
theorem dX10_sun_21 : decode cX10_sun 21 = .ok (.bipush 9, 2) := by decide +kernel
theorem dX10_sun_23 : decode cX10_sun 23 = .ok (.isub, 1) := by decide +kernel
theorem dX10_sun_24 : decode cX10_sun 24 = .ok (.ireturn, 1) := by decide +kernel
theorem dX10_plainRisk_0 : decode cX10_plainRisk 0 = .ok (.aload_n 0, 1) := by decide +kernel
theorem dX10_plainRisk_1 : decode cX10_plainRisk 1 = .ok (.iload_n 1, 1) := by decide +kernel
theorem dX10_plainRisk_2 : decode cX10_plainRisk 2 = .ok (.iconst 1, 1) := by decide +kernel
theorem dX10_plainRisk_3 : decode cX10_plainRisk 3 = .ok (.invokevirtual 92, 3) := by decide +kernel
theorem dX10_plainRisk_6 : decode cX10_plainRisk 6 = .ok (.istore_n 2, 1) := by decide +kernel
theorem dX10_plainRisk_7 : decode cX10_plainRisk 7 = .ok (.aload_n 0, 1) := by decide +kernel
theorem dX10_plainRisk_8 : decode cX10_plainRisk 8 = .ok (.iconst 0, 1) := by decide +kernel
theorem dX10_plainRisk_9 : decode cX10_plainRisk 9 = .ok (.invokevirtual 96, 3) := by decide +kernel
theorem dX10_plainRisk_12 : decode cX10_plainRisk 12 = .ok (.istore_n 3, 1) := by decide +kernel
theorem dX10_plainRisk_13 : decode cX10_plainRisk 13 = .ok (.iload_n 3, 1) := by decide +kernel
theorem dX10_plainRisk_14 : decode cX10_plainRisk 14 = .ok (.ifCond .ge 35, 3) := by decide +kernel
theorem dX10_plainRisk_17 : decode cX10_plainRisk 17 = .ok (.iload_n 2, 1) := by decide +kernel
theorem dX10_plainRisk_18 : decode cX10_plainRisk 18 = .ok (.bipush 30, 2) := by decide +kernel
theorem dX10_plainRisk_20 : decode cX10_plainRisk 20 = .ok (.if_icmp .ge 7, 3) := by decide +kernel
theorem dX10_plainRisk_23 : decode cX10_plainRisk 23 = .ok (.iconst 0, 1) := by decide +kernel
theorem dX10_plainRisk_24 : decode cX10_plainRisk 24 = .ok (.goto 24, 3) := by decide +kernel
theorem dX10_plainRisk_27 : decode cX10_plainRisk 27 = .ok (.iload_n 2, 1) := by decide +kernel
theorem dX10_plainRisk_28 : decode cX10_plainRisk 28 = .ok (.bipush 29, 2) := by decide +kernel
theorem dX10_plainRisk_30 : decode cX10_plainRisk 30 = .ok (.isub, 1) := by decide +kernel
theorem dX10_plainRisk_31 : decode cX10_plainRisk 31 = .ok (.aload_n 0, 1) := by decide +kernel
theorem dX10_plainRisk_32 : decode cX10_plainRisk 32 = .ok (.getfield 7, 3) := by decide +kernel
theorem dX10_plainRisk_35 : decode cX10_plainRisk 35 = .ok (.iconst 2, 1) := by decide +kernel
theorem dX10_plainRisk_36 : decode cX10_plainRisk 36 = .ok (.iaload, 1) := by decide +kernel
theorem dX10_plainRisk_37 : decode cX10_plainRisk 37 = .ok (.imul, 1) := by decide +kernel
theorem dX10_plainRisk_38 : decode cX10_plainRisk 38 = .ok (.aload_n 0, 1) := by decide +kernel
theorem dX10_plainRisk_39 : decode cX10_plainRisk 39 = .ok (.iload_n 1, 1) := by decide +kernel
theorem dX10_plainRisk_40 : decode cX10_plainRisk 40 = .ok (.iconst 2, 1) := by decide +kernel
theorem dX10_plainRisk_41 : decode cX10_plainRisk 41 = .ok (.invokevirtual 92, 3) := by decide +kernel
theorem dX10_plainRisk_44 : decode cX10_plainRisk 44 = .ok (.bipush 10, 2) := by decide +kernel
theorem dX10_plainRisk_46 : decode cX10_plainRisk 46 = .ok (.idiv, 1) := by decide +kernel
theorem dX10_plainRisk_47 : decode cX10_plainRisk 47 = .ok (.iadd, 1) := by decide +kernel
theorem dX10_plainRisk_48 : decode cX10_plainRisk 48 = .ok (.ireturn, 1) := by decide +kernel
theorem dX10_plainRisk_49 : decode cX10_plainRisk 49 = .ok (.aload_n 0, 1) := by decide +kernel
theorem dX10_plainRisk_50 : decode cX10_plainRisk 50 = .ok (.getfield 71, 3) := by decide +kernel
theorem dX10_plainRisk_53 : decode cX10_plainRisk 53 = .ok (.bipush 115, 2) := by decide +kernel
theorem dX10_plainRisk_55 : decode cX10_plainRisk 55 = .ok (.iload_n 2, 1) := by decide +kernel
theorem dX10_plainRisk_56 : decode cX10_plainRisk 56 = .ok (.iastore, 1) := by decide +kernel
theorem dX10_plainRisk_57 : decode cX10_plainRisk 57 = .ok (.aload_n 0, 1) := by decide +kernel
theorem dX10_plainRisk_58 : decode cX10_plainRisk 58 = .ok (.getfield 71, 3) := by decide +kernel
theorem dX10_plainRisk_61 : decode cX10_plainRisk 61 = .ok (.bipush 108, 2) := by decide +kernel
theorem dX10_plainRisk_63 : decode cX10_plainRisk 63 = .ok (.aload_n 0, 1) := by decide +kernel
theorem dX10_plainRisk_64 : decode cX10_plainRisk 64 = .ok (.iload_n 1, 1) := by decide +kernel
theorem dX10_plainRisk_65 : decode cX10_plainRisk 65 = .ok (.iconst 2, 1) := by decide +kernel
theorem dX10_plainRisk_66 : decode cX10_plainRisk 66 = .ok (.invokevirtual 92, 3) := by decide +kernel
theorem dX10_plainRisk_69 : decode cX10_plainRisk 69 = .ok (.iastore, 1) := by decide +kernel
theorem dX10_plainRisk_70 : decode cX10_plainRisk 70 = .ok (.aload_n 0, 1) := by decide +kernel
theorem dX10_plainRisk_71 : decode cX10_plainRisk 71 = .ok (.getfield 71, 3) := by decide +kernel
theorem dX10_plainRisk_74 : decode cX10_plainRisk 74 = .ok (.bipush 100, 2) := by decide +kernel
theorem dX10_plainRisk_76 : decode cX10_plainRisk 76 = .ok (.aload_n 0, 1) := by decide +kernel
theorem dX10_plainRisk_77 : decode cX10_plainRisk 77 = .ok (.getfield 7, 3) := by decide +kernel
theorem dX10_plainRisk_80 : decode cX10_plainRisk 80 = .ok (.iconst 2, 1) := by decide +kernel
theorem dX10_plainRisk_81 : decode cX10_plainRisk 81 = .ok (.iaload, 1) := by decide +kernel
theorem dX10_plainRisk_82 : decode cX10_plainRisk 82 = .ok (.iastore, 1) := by decide +kernel
theorem dX10_plainRisk_83 : decode cX10_plainRisk 83 = .ok (.aload_n 0, 1) := by decide +kernel
theorem dX10_plainRisk_84 : decode cX10_plainRisk 84 = .ok (.iload_n 3, 1) := by decide +kernel
theorem dX10_plainRisk_85 : decode cX10_plainRisk 85 = .ok (.invokevirtual 100, 3) := by decide +kernel
theorem dX10_plainRisk_88 : decode cX10_plainRisk 88 = .ok (.sipush 999, 3) := by decide +kernel
theorem dX10_plainRisk_91 : decode cX10_plainRisk 91 = .ok (.invokestatic 103, 3) := by decide +kernel
theorem dX10_plainRisk_94 : decode cX10_plainRisk 94 = .ok (.ireturn, 1) := by decide +kernel
theorem dX10_above_0 : decode cX10_above 0 = .ok (.iconst 0, 1) := by decide +kernel
theorem dX10_above_1 : decode cX10_above 1 = .ok (.istore_n 2, 1) := by decide +kernel
theorem dX10_above_2 : decode cX10_above 2 = .ok (.iload_n 1, 1) := by decide +kernel
theorem dX10_above_3 : decode cX10_above 3 = .ok (.bipush 6, 2) := by decide +kernel
theorem dX10_above_5 : decode cX10_above 5 = .ok (.iadd, 1) := by decide +kernel
theorem dX10_above_6 : decode cX10_above 6 = .ok (.istore_n 3, 1) := by decide +kernel
theorem dX10_above_7 : decode cX10_above 7 = .ok (.iload_n 3, 1) := by decide +kernel
theorem dX10_above_8 : decode cX10_above 8 = .ok (.bipush 30, 2) := by decide +kernel
theorem dX10_above_10 : decode cX10_above 10 = .ok (.if_icmp .ge 29, 3) := by decide +kernel
theorem dX10_above_13 : decode cX10_above 13 = .ok (.aload_n 0, 1) := by decide +kernel
theorem dX10_above_14 : decode cX10_above 14 = .ok (.iload_n 3, 1) := by decide +kernel
theorem dX10_above_15 : decode cX10_above 15 = .ok (.invokevirtual 106, 3) := by decide +kernel
theorem dX10_above_18 : decode cX10_above 18 = .ok (.istore 4, 2) := by decide +kernel
theorem dX10_above_20 : decode cX10_above 20 = .ok (.iload 4, 2) := by decide +kernel
theorem dX10_above_22 : decode cX10_above 22 = .ok (.iload_n 2, 1) := by decide +kernel
theorem dX10_above_23 : decode cX10_above 23 = .ok (.if_icmp .le 8, 3) := by decide +kernel
theorem dX10_above_26 : decode cX10_above 26 = .ok (.iload 4, 2) := by decide +kernel
theorem dX10_above_28 : decode cX10_above 28 = .ok (.goto 4, 3) := by decide +kernel
theorem dX10_above_31 : decode cX10_above 31 = .ok (.iload_n 2, 1) := by decide +kernel
theorem dX10_above_32 : decode cX10_above 32 = .ok (.istore_n 2, 1) := by decide +kernel
theorem dX10_above_33 : decode cX10_above 33 = .ok (.iinc 3 6, 3) := by decide +kernel
theorem dX10_above_36 : decode cX10_above 36 = .ok (.goto (-29), 3) := by decide +kernel
theorem dX10_above_39 : decode cX10_above 39 = .ok (.iload_n 2, 1) := by decide +kernel
theorem dX10_above_40 : decode cX10_above 40 = .ok (.ireturn, 1) := by decide +kernel
theorem dX10_risk_0 : decode cX10_risk 0 = .ok (.aload_n 0, 1) := by decide +kernel
theorem dX10_risk_1 : decode cX10_risk 1 = .ok (.iload_n 1, 1) := by decide +kernel
theorem dX10_risk_2 : decode cX10_risk 2 = .ok (.invokevirtual 106, 3) := by decide +kernel
theorem dX10_risk_5 : decode cX10_risk 5 = .ok (.istore_n 2, 1) := by decide +kernel
theorem dX10_risk_6 : decode cX10_risk 6 = .ok (.aload_n 0, 1) := by decide +kernel
theorem dX10_risk_7 : decode cX10_risk 7 = .ok (.iload_n 1, 1) := by decide +kernel
theorem dX10_risk_8 : decode cX10_risk 8 = .ok (.iconst 0, 1) := by decide +kernel
theorem dX10_risk_9 : decode cX10_risk 9 = .ok (.invokevirtual 92, 3) := by decide +kernel
theorem dX10_risk_12 : decode cX10_risk 12 = .ok (.tableswitch 75 1 5 #[36, 46, 50, 62, 71], 36) := by decide +kernel
theorem dX10_risk_48 : decode cX10_risk 48 = .ok (.iload_n 2, 1) := by decide +kernel
theorem dX10_risk_49 : decode cX10_risk 49 = .ok (.aload_n 0, 1) := by decide +kernel
theorem dX10_risk_50 : decode cX10_risk 50 = .ok (.iload_n 1, 1) := by decide +kernel
theorem dX10_risk_51 : decode cX10_risk 51 = .ok (.invokevirtual 109, 3) := by decide +kernel
theorem dX10_risk_54 : decode cX10_risk 54 = .ok (.iconst 2, 1) := by decide +kernel
theorem dX10_risk_55 : decode cX10_risk 55 = .ok (.idiv, 1) := by decide +kernel
theorem dX10_risk_56 : decode cX10_risk 56 = .ok (.iadd, 1) := by decide +kernel
theorem dX10_risk_57 : decode cX10_risk 57 = .ok (.ireturn, 1) := by decide +kernel
theorem dX10_risk_58 : decode cX10_risk 58 = .ok (.iload_n 2, 1) := by decide +kernel
theorem dX10_risk_59 : decode cX10_risk 59 = .ok (.iconst 2, 1) := by decide +kernel
theorem dX10_risk_60 : decode cX10_risk 60 = .ok (.idiv, 1) := by decide +kernel
theorem dX10_risk_61 : decode cX10_risk 61 = .ok (.ireturn, 1) := by decide +kernel
theorem dX10_risk_62 : decode cX10_risk 62 = .ok (.iconst 2, 1) := by decide +kernel
theorem dX10_risk_63 : decode cX10_risk 63 = .ok (.iload_n 2, 1) := by decide +kernel
theorem dX10_risk_64 : decode cX10_risk 64 = .ok (.aload_n 0, 1) := by decide +kernel
theorem dX10_risk_65 : decode cX10_risk 65 = .ok (.iload_n 1, 1) := by decide +kernel
theorem dX10_risk_66 : decode cX10_risk 66 = .ok (.invokevirtual 109, 3) := by decide +kernel
theorem dX10_risk_69 : decode cX10_risk 69 = .ok (.iconst 2, 1) := by decide +kernel
theorem dX10_risk_70 : decode cX10_risk 70 = .ok (.idiv, 1) := by decide +kernel
theorem dX10_risk_71 : decode cX10_risk 71 = .ok (.iadd, 1) := by decide +kernel
theorem dX10_risk_72 : decode cX10_risk 72 = .ok (.imul, 1) := by decide +kernel
theorem dX10_risk_73 : decode cX10_risk 73 = .ok (.ireturn, 1) := by decide +kernel
theorem dX10_risk_74 : decode cX10_risk 74 = .ok (.iload_n 2, 1) := by decide +kernel
theorem dX10_risk_75 : decode cX10_risk 75 = .ok (.iconst 2, 1) := by decide +kernel
theorem dX10_risk_76 : decode cX10_risk 76 = .ok (.idiv, 1) := by decide +kernel
theorem dX10_risk_77 : decode cX10_risk 77 = .ok (.aload_n 0, 1) := by decide +kernel
theorem dX10_risk_78 : decode cX10_risk 78 = .ok (.invokevirtual 112, 3) := by decide +kernel
theorem dX10_risk_81 : decode cX10_risk 81 = .ok (.iadd, 1) := by decide +kernel
theorem dX10_risk_82 : decode cX10_risk 82 = .ok (.ireturn, 1) := by decide +kernel
theorem dX10_risk_83 : decode cX10_risk 83 = .ok (.iload_n 2, 1) := by decide +kernel
theorem dX10_risk_84 : decode cX10_risk 84 = .ok (.iconst 3, 1) := by decide +kernel
theorem dX10_risk_85 : decode cX10_risk 85 = .ok (.idiv, 1) := by decide +kernel
theorem dX10_risk_86 : decode cX10_risk 86 = .ok (.ireturn, 1) := by decide +kernel
theorem dX10_risk_87 : decode cX10_risk 87 = .ok (.iload_n 2, 1) := by decide +kernel
theorem dX10_risk_88 : decode cX10_risk 88 = .ok (.ireturn, 1) := by decide +kernel
theorem dX10_holds_0 : decode cX10_holds 0 = .ok (.bipush 70, 2) := by decide +kernel
theorem dX10_holds_2 : decode cX10_holds 2 = .ok (.aload_n 0, 1) := by decide +kernel
theorem dX10_holds_3 : decode cX10_holds 3 = .ok (.iload_n 1, 1) := by decide +kernel
theorem dX10_holds_4 : decode cX10_holds 4 = .ok (.iconst 1, 1) := by decide +kernel
theorem dX10_holds_5 : decode cX10_holds 5 = .ok (.invokevirtual 92, 3) := by decide +kernel
theorem dX10_holds_8 : decode cX10_holds 8 = .ok (.isub, 1) := by decide +kernel
theorem dX10_holds_9 : decode cX10_holds 9 = .ok (.istore_n 2, 1) := by decide +kernel
theorem dX10_holds_10 : decode cX10_holds 10 = .ok (.aload_n 0, 1) := by decide +kernel
theorem dX10_holds_11 : decode cX10_holds 11 = .ok (.iconst 1, 1) := by decide +kernel
theorem dX10_holds_12 : decode cX10_holds 12 = .ok (.invokevirtual 96, 3) := by decide +kernel
theorem dX10_holds_15 : decode cX10_holds 15 = .ok (.istore_n 3, 1) := by decide +kernel
theorem dX10_holds_16 : decode cX10_holds 16 = .ok (.iload_n 3, 1) := by decide +kernel
theorem dX10_holds_17 : decode cX10_holds 17 = .ok (.ifCond .lt 38, 3) := by decide +kernel
theorem dX10_holds_20 : decode cX10_holds 20 = .ok (.aload_n 0, 1) := by decide +kernel
theorem dX10_holds_21 : decode cX10_holds 21 = .ok (.getfield 71, 3) := by decide +kernel
theorem dX10_holds_24 : decode cX10_holds 24 = .ok (.bipush 115, 2) := by decide +kernel
theorem dX10_holds_26 : decode cX10_holds 26 = .ok (.aload_n 0, 1) := by decide +kernel
theorem dX10_holds_27 : decode cX10_holds 27 = .ok (.iload_n 1, 1) := by decide +kernel
theorem dX10_holds_28 : decode cX10_holds 28 = .ok (.iconst 1, 1) := by decide +kernel
theorem dX10_holds_29 : decode cX10_holds 29 = .ok (.invokevirtual 92, 3) := by decide +kernel
theorem dX10_holds_32 : decode cX10_holds 32 = .ok (.iastore, 1) := by decide +kernel
theorem dX10_holds_33 : decode cX10_holds 33 = .ok (.aload_n 0, 1) := by decide +kernel
theorem dX10_holds_34 : decode cX10_holds 34 = .ok (.getfield 71, 3) := by decide +kernel
theorem dX10_holds_37 : decode cX10_holds 37 = .ok (.bipush 114, 2) := by decide +kernel
theorem dX10_holds_39 : decode cX10_holds 39 = .ok (.iload_n 1, 1) := by decide +kernel
theorem dX10_holds_40 : decode cX10_holds 40 = .ok (.bipush 6, 2) := by decide +kernel
theorem dX10_holds_42 : decode cX10_holds 42 = .ok (.idiv, 1) := by decide +kernel
theorem dX10_holds_43 : decode cX10_holds 43 = .ok (.iastore, 1) := by decide +kernel
theorem dX10_holds_44 : decode cX10_holds 44 = .ok (.aload_n 0, 1) := by decide +kernel
theorem dX10_holds_45 : decode cX10_holds 45 = .ok (.iload_n 3, 1) := by decide +kernel
theorem dX10_holds_46 : decode cX10_holds 46 = .ok (.invokevirtual 100, 3) := by decide +kernel
theorem dX10_holds_49 : decode cX10_holds 49 = .ok (.bipush 99, 2) := by decide +kernel
theorem dX10_holds_51 : decode cX10_holds 51 = .ok (.invokestatic 103, 3) := by decide +kernel
theorem dX10_holds_54 : decode cX10_holds 54 = .ok (.istore_n 2, 1) := by decide +kernel
theorem dX10_holds_55 : decode cX10_holds 55 = .ok (.aload_n 0, 1) := by decide +kernel
theorem dX10_holds_56 : decode cX10_holds 56 = .ok (.iload_n 1, 1) := by decide +kernel
theorem dX10_holds_57 : decode cX10_holds 57 = .ok (.iconst 0, 1) := by decide +kernel
theorem dX10_holds_58 : decode cX10_holds 58 = .ok (.invokevirtual 92, 3) := by decide +kernel
theorem dX10_holds_61 : decode cX10_holds 61 = .ok (.istore 4, 2) := by decide +kernel
theorem dX10_holds_63 : decode cX10_holds 63 = .ok (.iload 4, 2) := by decide +kernel
theorem dX10_holds_65 : decode cX10_holds 65 = .ok (.iconst 2, 1) := by decide +kernel
theorem dX10_holds_66 : decode cX10_holds 66 = .ok (.if_icmp .ne 9, 3) := by decide +kernel
theorem dX10_holds_69 : decode cX10_holds 69 = .ok (.iload_n 2, 1) := by decide +kernel
theorem dX10_holds_70 : decode cX10_holds 70 = .ok (.iconst 5, 1) := by decide +kernel
theorem dX10_holds_71 : decode cX10_holds 71 = .ok (.iadd, 1) := by decide +kernel
theorem dX10_holds_72 : decode cX10_holds 72 = .ok (.goto 34, 3) := by decide +kernel
theorem dX10_holds_75 : decode cX10_holds 75 = .ok (.iload 4, 2) := by decide +kernel
theorem dX10_holds_77 : decode cX10_holds 77 = .ok (.iconst 4, 1) := by decide +kernel
theorem dX10_holds_78 : decode cX10_holds 78 = .ok (.if_icmp .ne 14, 3) := by decide +kernel
theorem dX10_holds_81 : decode cX10_holds 81 = .ok (.iload_n 2, 1) := by decide +kernel
theorem dX10_holds_82 : decode cX10_holds 82 = .ok (.iconst 5, 1) := by decide +kernel
theorem dX10_holds_83 : decode cX10_holds 83 = .ok (.iadd, 1) := by decide +kernel
theorem dX10_holds_84 : decode cX10_holds 84 = .ok (.aload_n 0, 1) := by decide +kernel
theorem dX10_holds_85 : decode cX10_holds 85 = .ok (.invokevirtual 112, 3) := by decide +kernel
theorem dX10_holds_88 : decode cX10_holds 88 = .ok (.isub, 1) := by decide +kernel
theorem dX10_holds_89 : decode cX10_holds 89 = .ok (.goto 17, 3) := by decide +kernel
theorem dX10_holds_92 : decode cX10_holds 92 = .ok (.iload 4, 2) := by decide +kernel
theorem dX10_holds_94 : decode cX10_holds 94 = .ok (.iconst 5, 1) := by decide +kernel
theorem dX10_holds_95 : decode cX10_holds 95 = .ok (.if_icmp .ne 10, 3) := by decide +kernel
theorem dX10_holds_98 : decode cX10_holds 98 = .ok (.iload_n 2, 1) := by decide +kernel
theorem dX10_holds_99 : decode cX10_holds 99 = .ok (.bipush 20, 2) := by decide +kernel
theorem dX10_holds_101 : decode cX10_holds 101 = .ok (.iadd, 1) := by decide +kernel
theorem dX10_holds_102 : decode cX10_holds 102 = .ok (.goto 4, 3) := by decide +kernel
theorem dX10_holds_105 : decode cX10_holds 105 = .ok (.iload_n 2, 1) := by decide +kernel
theorem dX10_holds_106 : decode cX10_holds 106 = .ok (.ireturn, 1) := by decide +kernel
theorem dX10_worth_0 : decode cX10_worth 0 = .ok (.aload_n 0, 1) := by decide +kernel
theorem dX10_worth_1 : decode cX10_worth 1 = .ok (.iload_n 1, 1) := by decide +kernel
theorem dX10_worth_2 : decode cX10_worth 2 = .ok (.iconst 1, 1) := by decide +kernel
theorem dX10_worth_3 : decode cX10_worth 3 = .ok (.invokevirtual 92, 3) := by decide +kernel
theorem dX10_worth_6 : decode cX10_worth 6 = .ok (.istore_n 2, 1) := by decide +kernel
theorem dX10_worth_7 : decode cX10_worth 7 = .ok (.aload_n 0, 1) := by decide +kernel
theorem dX10_worth_8 : decode cX10_worth 8 = .ok (.iload_n 1, 1) := by decide +kernel
theorem dX10_worth_9 : decode cX10_worth 9 = .ok (.iconst 0, 1) := by decide +kernel
theorem dX10_worth_10 : decode cX10_worth 10 = .ok (.invokevirtual 92, 3) := by decide +kernel
theorem dX10_worth_13 : decode cX10_worth 13 = .ok (.tableswitch 72 1 5 #[35, 44, 49, 60, 65], 35) := by decide +kernel
theorem dX10_worth_48 : decode cX10_worth 48 = .ok (.iload_n 2, 1) := by decide +kernel
theorem dX10_worth_49 : decode cX10_worth 49 = .ok (.aload_n 0, 1) := by decide +kernel
theorem dX10_worth_50 : decode cX10_worth 50 = .ok (.iload_n 1, 1) := by decide +kernel
theorem dX10_worth_51 : decode cX10_worth 51 = .ok (.iconst 2, 1) := by decide +kernel
theorem dX10_worth_52 : decode cX10_worth 52 = .ok (.invokevirtual 92, 3) := by decide +kernel
theorem dX10_worth_55 : decode cX10_worth 55 = .ok (.iadd, 1) := by decide +kernel
theorem dX10_worth_56 : decode cX10_worth 56 = .ok (.ireturn, 1) := by decide +kernel
theorem dX10_worth_57 : decode cX10_worth 57 = .ok (.bipush 60, 2) := by decide +kernel
theorem dX10_worth_59 : decode cX10_worth 59 = .ok (.iload_n 2, 1) := by decide +kernel
theorem dX10_worth_60 : decode cX10_worth 60 = .ok (.isub, 1) := by decide +kernel
theorem dX10_worth_61 : decode cX10_worth 61 = .ok (.ireturn, 1) := by decide +kernel
theorem dX10_worth_62 : decode cX10_worth 62 = .ok (.iconst 2, 1) := by decide +kernel
theorem dX10_worth_63 : decode cX10_worth 63 = .ok (.iload_n 2, 1) := by decide +kernel
theorem dX10_worth_64 : decode cX10_worth 64 = .ok (.aload_n 0, 1) := by decide +kernel
theorem dX10_worth_65 : decode cX10_worth 65 = .ok (.iload_n 1, 1) := by decide +kernel
theorem dX10_worth_66 : decode cX10_worth 66 = .ok (.iconst 2, 1) := by decide +kernel
theorem dX10_worth_67 : decode cX10_worth 67 = .ok (.invokevirtual 92, 3) := by decide +kernel
theorem dX10_worth_70 : decode cX10_worth 70 = .ok (.iadd, 1) := by decide +kernel
theorem dX10_worth_71 : decode cX10_worth 71 = .ok (.imul, 1) := by decide +kernel
theorem dX10_worth_72 : decode cX10_worth 72 = .ok (.ireturn, 1) := by decide +kernel
theorem dX10_worth_73 : decode cX10_worth 73 = .ok (.bipush 69, 2) := by decide +kernel
theorem dX10_worth_75 : decode cX10_worth 75 = .ok (.iload_n 2, 1) := by decide +kernel
theorem dX10_worth_76 : decode cX10_worth 76 = .ok (.isub, 1) := by decide +kernel
theorem dX10_worth_77 : decode cX10_worth 77 = .ok (.ireturn, 1) := by decide +kernel
theorem dX10_worth_78 : decode cX10_worth 78 = .ok (.aload_n 0, 1) := by decide +kernel
theorem dX10_worth_79 : decode cX10_worth 79 = .ok (.iload_n 1, 1) := by decide +kernel
theorem dX10_worth_80 : decode cX10_worth 80 = .ok (.iconst 2, 1) := by decide +kernel
theorem dX10_worth_81 : decode cX10_worth 81 = .ok (.invokevirtual 92, 3) := by decide +kernel
theorem dX10_worth_84 : decode cX10_worth 84 = .ok (.ireturn, 1) := by decide +kernel
theorem dX10_worth_85 : decode cX10_worth 85 = .ok (.iload_n 2, 1) := by decide +kernel
theorem dX10_worth_86 : decode cX10_worth 86 = .ok (.ireturn, 1) := by decide +kernel
theorem dX10_place_0 : decode cX10_place 0 = .ok (.iload_n 1, 1) := by decide +kernel
theorem dX10_place_1 : decode cX10_place 1 = .ok (.invokestatic 116, 3) := by decide +kernel
theorem dX10_place_4 : decode cX10_place 4 = .ok (.ifCond .eq 40, 3) := by decide +kernel
theorem dX10_place_7 : decode cX10_place 7 = .ok (.iload_n 2, 1) := by decide +kernel
theorem dX10_place_8 : decode cX10_place 8 = .ok (.i2l, 1) := by decide +kernel
theorem dX10_place_9 : decode cX10_place 9 = .ok (.lconst 0, 1) := by decide +kernel
theorem dX10_place_10 : decode cX10_place 10 = .ok (.ldc2_w 120, 3) := by decide +kernel
theorem dX10_place_13 : decode cX10_place 13 = .ok (.invokestatic 87, 3) := by decide +kernel
theorem dX10_place_16 : decode cX10_place 16 = .ok (.ifCond .eq 28, 3) := by decide +kernel
theorem dX10_place_19 : decode cX10_place 19 = .ok (.iload_n 3, 1) := by decide +kernel
theorem dX10_place_20 : decode cX10_place 20 = .ok (.i2l, 1) := by decide +kernel
theorem dX10_place_21 : decode cX10_place 21 = .ok (.lconst 0, 1) := by decide +kernel
theorem dX10_place_22 : decode cX10_place 22 = .ok (.ldc2_w 122, 3) := by decide +kernel
theorem dX10_place_25 : decode cX10_place 25 = .ok (.invokestatic 87, 3) := by decide +kernel
theorem dX10_place_28 : decode cX10_place 28 = .ok (.ifCond .eq 16, 3) := by decide +kernel
theorem dX10_place_31 : decode cX10_place 31 = .ok (.iload 4, 2) := by decide +kernel
theorem dX10_place_33 : decode cX10_place 33 = .ok (.i2l, 1) := by decide +kernel
theorem dX10_place_34 : decode cX10_place 34 = .ok (.lconst 0, 1) := by decide +kernel
theorem dX10_place_35 : decode cX10_place 35 = .ok (.ldc2_w 124, 3) := by decide +kernel
theorem dX10_place_38 : decode cX10_place 38 = .ok (.invokestatic 87, 3) := by decide +kernel
theorem dX10_place_41 : decode cX10_place 41 = .ok (.ifCond .ne 6, 3) := by decide +kernel
theorem dX10_place_44 : decode cX10_place 44 = .ok (.ldc 126, 2) := by decide +kernel
theorem dX10_place_46 : decode cX10_place 46 = .ok (.ireturn, 1) := by decide +kernel
theorem dX10_place_47 : decode cX10_place 47 = .ok (.aload_n 0, 1) := by decide +kernel
theorem dX10_place_48 : decode cX10_place 48 = .ok (.iload_n 1, 1) := by decide +kernel
theorem dX10_place_49 : decode cX10_place 49 = .ok (.iconst 0, 1) := by decide +kernel
theorem dX10_place_50 : decode cX10_place 50 = .ok (.invokevirtual 92, 3) := by decide +kernel
theorem dX10_place_53 : decode cX10_place 53 = .ok (.istore 5, 2) := by decide +kernel
theorem dX10_place_55 : decode cX10_place 55 = .ok (.aload_n 0, 1) := by decide +kernel
theorem dX10_place_56 : decode cX10_place 56 = .ok (.iload_n 1, 1) := by decide +kernel
theorem dX10_place_57 : decode cX10_place 57 = .ok (.iconst 0, 1) := by decide +kernel
theorem dX10_place_58 : decode cX10_place 58 = .ok (.iload_n 2, 1) := by decide +kernel
theorem dX10_place_59 : decode cX10_place 59 = .ok (.invokevirtual 127, 3) := by decide +kernel
theorem dX10_place_62 : decode cX10_place 62 = .ok (.aload_n 0, 1) := by decide +kernel
theorem dX10_place_63 : decode cX10_place 63 = .ok (.iload_n 1, 1) := by decide +kernel
theorem dX10_place_64 : decode cX10_place 64 = .ok (.iconst 1, 1) := by decide +kernel
theorem dX10_place_65 : decode cX10_place 65 = .ok (.iload_n 3, 1) := by decide +kernel
theorem dX10_place_66 : decode cX10_place 66 = .ok (.invokevirtual 127, 3) := by decide +kernel
theorem dX10_place_69 : decode cX10_place 69 = .ok (.aload_n 0, 1) := by decide +kernel
theorem dX10_place_70 : decode cX10_place 70 = .ok (.iload_n 1, 1) := by decide +kernel
theorem dX10_place_71 : decode cX10_place 71 = .ok (.iconst 2, 1) := by decide +kernel
theorem dX10_place_72 : decode cX10_place 72 = .ok (.iload 4, 2) := by decide +kernel
theorem dX10_place_74 : decode cX10_place 74 = .ok (.invokevirtual 127, 3) := by decide +kernel
theorem dX10_place_77 : decode cX10_place 77 = .ok (.iload 5, 2) := by decide +kernel
theorem dX10_place_79 : decode cX10_place 79 = .ok (.ireturn, 1) := by decide +kernel
theorem dX10_told_0 : decode cX10_told 0 = .ok (.iload_n 1, 1) := by decide +kernel
theorem dX10_told_1 : decode cX10_told 1 = .ok (.invokestatic 116, 3) := by decide +kernel
theorem dX10_told_4 : decode cX10_told 4 = .ok (.ifCond .ne 6, 3) := by decide +kernel
theorem dX10_told_7 : decode cX10_told 7 = .ok (.ldc 126, 2) := by decide +kernel
theorem dX10_told_9 : decode cX10_told 9 = .ok (.ireturn, 1) := by decide +kernel
theorem dX10_told_10 : decode cX10_told 10 = .ok (.iload_n 2, 1) := by decide +kernel
theorem dX10_told_11 : decode cX10_told 11 = .ok (.tableswitch 82 0 7 #[45, 45, 45, 52, 58, 64, 70, 76], 45) := by decide +kernel
theorem dX10_told_56 : decode cX10_told 56 = .ok (.aload_n 0, 1) := by decide +kernel
theorem dX10_told_57 : decode cX10_told 57 = .ok (.iload_n 1, 1) := by decide +kernel
theorem dX10_told_58 : decode cX10_told 58 = .ok (.iload_n 2, 1) := by decide +kernel
theorem dX10_told_59 : decode cX10_told 59 = .ok (.invokevirtual 92, 3) := by decide +kernel
theorem dX10_told_62 : decode cX10_told 62 = .ok (.ireturn, 1) := by decide +kernel
theorem dX10_told_63 : decode cX10_told 63 = .ok (.aload_n 0, 1) := by decide +kernel
theorem dX10_told_64 : decode cX10_told 64 = .ok (.iload_n 1, 1) := by decide +kernel
theorem dX10_told_65 : decode cX10_told 65 = .ok (.invokevirtual 106, 3) := by decide +kernel
theorem dX10_told_68 : decode cX10_told 68 = .ok (.ireturn, 1) := by decide +kernel
theorem dX10_told_69 : decode cX10_told 69 = .ok (.aload_n 0, 1) := by decide +kernel
theorem dX10_told_70 : decode cX10_told 70 = .ok (.iload_n 1, 1) := by decide +kernel
theorem dX10_told_71 : decode cX10_told 71 = .ok (.invokevirtual 109, 3) := by decide +kernel
theorem dX10_told_74 : decode cX10_told 74 = .ok (.ireturn, 1) := by decide +kernel
theorem dX10_told_75 : decode cX10_told 75 = .ok (.aload_n 0, 1) := by decide +kernel
theorem dX10_told_76 : decode cX10_told 76 = .ok (.iload_n 1, 1) := by decide +kernel
theorem dX10_told_77 : decode cX10_told 77 = .ok (.invokevirtual 131, 3) := by decide +kernel
theorem dX10_told_80 : decode cX10_told 80 = .ok (.ireturn, 1) := by decide +kernel
theorem dX10_told_81 : decode cX10_told 81 = .ok (.aload_n 0, 1) := by decide +kernel
theorem dX10_told_82 : decode cX10_told 82 = .ok (.iload_n 1, 1) := by decide +kernel
theorem dX10_told_83 : decode cX10_told 83 = .ok (.invokevirtual 134, 3) := by decide +kernel
theorem dX10_told_86 : decode cX10_told 86 = .ok (.ireturn, 1) := by decide +kernel
theorem dX10_told_87 : decode cX10_told 87 = .ok (.aload_n 0, 1) := by decide +kernel
theorem dX10_told_88 : decode cX10_told 88 = .ok (.iload_n 1, 1) := by decide +kernel
theorem dX10_told_89 : decode cX10_told 89 = .ok (.invokevirtual 137, 3) := by decide +kernel
theorem dX10_told_92 : decode cX10_told 92 = .ok (.ireturn, 1) := by decide +kernel
theorem dX10_told_93 : decode cX10_told 93 = .ok (.ldc 126, 2) := by decide +kernel
theorem dX10_told_95 : decode cX10_told 95 = .ok (.ireturn, 1) := by decide +kernel
theorem dX10_isOf_0 : decode cX10_isOf 0 = .ok (.iload_n 0, 1) := by decide +kernel
theorem dX10_isOf_1 : decode cX10_isOf 1 = .ok (.iload_n 1, 1) := by decide +kernel
theorem dX10_isOf_2 : decode cX10_isOf 2 = .ok (.if_icmp .eq 27, 3) := by decide +kernel
theorem dX10_isOf_5 : decode cX10_isOf 5 = .ok (.iload_n 1, 1) := by decide +kernel
theorem dX10_isOf_6 : decode cX10_isOf 6 = .ok (.ifCond .eq 23, 3) := by decide +kernel
theorem dX10_isOf_9 : decode cX10_isOf 9 = .ok (.iload_n 1, 1) := by decide +kernel
theorem dX10_isOf_10 : decode cX10_isOf 10 = .ok (.iconst 1, 1) := by decide +kernel
theorem dX10_isOf_11 : decode cX10_isOf 11 = .ok (.if_icmp .ne 8, 3) := by decide +kernel
theorem dX10_isOf_14 : decode cX10_isOf 14 = .ok (.iload_n 0, 1) := by decide +kernel
theorem dX10_isOf_15 : decode cX10_isOf 15 = .ok (.iconst 3, 1) := by decide +kernel
theorem dX10_isOf_16 : decode cX10_isOf 16 = .ok (.if_icmp .eq 13, 3) := by decide +kernel
theorem dX10_isOf_19 : decode cX10_isOf 19 = .ok (.iload_n 1, 1) := by decide +kernel
theorem dX10_isOf_20 : decode cX10_isOf 20 = .ok (.iconst 2, 1) := by decide +kernel
theorem dX10_isOf_21 : decode cX10_isOf 21 = .ok (.if_icmp .ne 12, 3) := by decide +kernel
theorem dX10_isOf_24 : decode cX10_isOf 24 = .ok (.iload_n 0, 1) := by decide +kernel
theorem dX10_isOf_25 : decode cX10_isOf 25 = .ok (.iconst 4, 1) := by decide +kernel
theorem dX10_isOf_26 : decode cX10_isOf 26 = .ok (.if_icmp .ne 7, 3) := by decide +kernel
theorem dX10_isOf_29 : decode cX10_isOf 29 = .ok (.iconst 1, 1) := by decide +kernel
theorem dX10_isOf_30 : decode cX10_isOf 30 = .ok (.goto 4, 3) := by decide +kernel
theorem dX10_isOf_33 : decode cX10_isOf 33 = .ok (.iconst 0, 1) := by decide +kernel
theorem dX10_isOf_34 : decode cX10_isOf 34 = .ok (.ireturn, 1) := by decide +kernel
theorem dX10_as_0 : decode cX10_as 0 = .ok (.iload_n 1, 1) := by decide +kernel
theorem dX10_as_1 : decode cX10_as 1 = .ok (.invokestatic 116, 3) := by decide +kernel
theorem dX10_as_4 : decode cX10_as 4 = .ok (.ifCond .eq 15, 3) := by decide +kernel
theorem dX10_as_7 : decode cX10_as 7 = .ok (.iload_n 2, 1) := by decide +kernel
theorem dX10_as_8 : decode cX10_as 8 = .ok (.i2l, 1) := by decide +kernel
theorem dX10_as_9 : decode cX10_as 9 = .ok (.lconst 0, 1) := by decide +kernel
theorem dX10_as_10 : decode cX10_as 10 = .ok (.ldc2_w 120, 3) := by decide +kernel
theorem dX10_as_13 : decode cX10_as 13 = .ok (.invokestatic 87, 3) := by decide +kernel
theorem dX10_as_16 : decode cX10_as 16 = .ok (.ifCond .ne 6, 3) := by decide +kernel
theorem dX10_as_19 : decode cX10_as 19 = .ok (.ldc 126, 2) := by decide +kernel
theorem dX10_as_21 : decode cX10_as 21 = .ok (.ireturn, 1) := by decide +kernel
theorem dX10_as_22 : decode cX10_as 22 = .ok (.aload_n 0, 1) := by decide +kernel
theorem dX10_as_23 : decode cX10_as 23 = .ok (.iload_n 1, 1) := by decide +kernel
theorem dX10_as_24 : decode cX10_as 24 = .ok (.iconst 0, 1) := by decide +kernel
theorem dX10_as_25 : decode cX10_as 25 = .ok (.invokevirtual 92, 3) := by decide +kernel
theorem dX10_as_28 : decode cX10_as 28 = .ok (.iload_n 2, 1) := by decide +kernel
theorem dX10_as_29 : decode cX10_as 29 = .ok (.invokestatic 140, 3) := by decide +kernel
theorem dX10_as_32 : decode cX10_as 32 = .ok (.ifCond .eq 12, 3) := by decide +kernel
theorem dX10_as_35 : decode cX10_as 35 = .ok (.aload_n 0, 1) := by decide +kernel
theorem dX10_as_36 : decode cX10_as 36 = .ok (.iload_n 1, 1) := by decide +kernel
theorem dX10_as_37 : decode cX10_as 37 = .ok (.iconst 1, 1) := by decide +kernel
theorem dX10_as_38 : decode cX10_as 38 = .ok (.invokevirtual 92, 3) := by decide +kernel
theorem dX10_as_41 : decode cX10_as 41 = .ok (.goto 5, 3) := by decide +kernel
theorem dX10_as_44 : decode cX10_as 44 = .ok (.ldc 144, 2) := by decide +kernel
theorem dX10_as_46 : decode cX10_as 46 = .ok (.ireturn, 1) := by decide +kernel
theorem dX10_turns_0 : decode cX10_turns 0 = .ok (.iload_n 1, 1) := by decide +kernel
theorem dX10_turns_1 : decode cX10_turns 1 = .ok (.invokestatic 116, 3) := by decide +kernel
theorem dX10_turns_4 : decode cX10_turns 4 = .ok (.ifCond .eq 29, 3) := by decide +kernel
theorem dX10_turns_7 : decode cX10_turns 7 = .ok (.iload_n 2, 1) := by decide +kernel
theorem dX10_turns_8 : decode cX10_turns 8 = .ok (.i2l, 1) := by decide +kernel
theorem dX10_turns_9 : decode cX10_turns 9 = .ok (.lconst 0, 1) := by decide +kernel
theorem dX10_turns_10 : decode cX10_turns 10 = .ok (.ldc2_w 120, 3) := by decide +kernel
theorem dX10_turns_13 : decode cX10_turns 13 = .ok (.invokestatic 87, 3) := by decide +kernel
theorem dX10_turns_16 : decode cX10_turns 16 = .ok (.ifCond .eq 17, 3) := by decide +kernel
theorem dX10_turns_19 : decode cX10_turns 19 = .ok (.aload_n 0, 1) := by decide +kernel
theorem dX10_turns_20 : decode cX10_turns 20 = .ok (.bipush 8, 2) := by decide +kernel
theorem dX10_turns_22 : decode cX10_turns 22 = .ok (.iconst 3, 1) := by decide +kernel
theorem dX10_turns_23 : decode cX10_turns 23 = .ok (.iload_n 1, 1) := by decide +kernel
theorem dX10_turns_24 : decode cX10_turns 24 = .ok (.imul, 1) := by decide +kernel
theorem dX10_turns_25 : decode cX10_turns 25 = .ok (.iadd, 1) := by decide +kernel
theorem dX10_turns_26 : decode cX10_turns 26 = .ok (.iload_n 2, 1) := by decide +kernel
theorem dX10_turns_27 : decode cX10_turns 27 = .ok (.invokevirtual 145, 3) := by decide +kernel
theorem dX10_turns_30 : decode cX10_turns 30 = .ok (.goto 5, 3) := by decide +kernel
theorem dX10_turns_33 : decode cX10_turns 33 = .ok (.ldc 126, 2) := by decide +kernel
theorem dX10_turns_35 : decode cX10_turns 35 = .ok (.ireturn, 1) := by decide +kernel
theorem dX10_set_0 : decode cX10_set 0 = .ok (.iload_n 1, 1) := by decide +kernel
theorem dX10_set_1 : decode cX10_set 1 = .ok (.invokestatic 116, 3) := by decide +kernel
theorem dX10_set_4 : decode cX10_set 4 = .ok (.ifCond .eq 35, 3) := by decide +kernel
theorem dX10_set_7 : decode cX10_set 7 = .ok (.iload_n 2, 1) := by decide +kernel
theorem dX10_set_8 : decode cX10_set 8 = .ok (.i2l, 1) := by decide +kernel
theorem dX10_set_9 : decode cX10_set 9 = .ok (.lconst 0, 1) := by decide +kernel
theorem dX10_set_10 : decode cX10_set 10 = .ok (.lconst 1, 1) := by decide +kernel
theorem dX10_set_11 : decode cX10_set 11 = .ok (.invokestatic 87, 3) := by decide +kernel
theorem dX10_set_14 : decode cX10_set 14 = .ok (.ifCond .eq 25, 3) := by decide +kernel
theorem dX10_set_17 : decode cX10_set 17 = .ok (.iload_n 3, 1) := by decide +kernel
theorem dX10_set_18 : decode cX10_set 18 = .ok (.i2l, 1) := by decide +kernel
theorem dX10_set_19 : decode cX10_set 19 = .ok (.lconst 0, 1) := by decide +kernel
theorem dX10_set_20 : decode cX10_set 20 = .ok (.iload_n 2, 1) := by decide +kernel
theorem dX10_set_21 : decode cX10_set 21 = .ok (.ifCond .ne 9, 3) := by decide +kernel
theorem dX10_set_24 : decode cX10_set 24 = .ok (.ldc2_w 122, 3) := by decide +kernel
theorem dX10_set_27 : decode cX10_set 27 = .ok (.goto 6, 3) := by decide +kernel
theorem dX10_set_30 : decode cX10_set 30 = .ok (.ldc2_w 124, 3) := by decide +kernel
theorem dX10_set_33 : decode cX10_set 33 = .ok (.invokestatic 87, 3) := by decide +kernel
theorem dX10_set_36 : decode cX10_set 36 = .ok (.ifCond .ne 6, 3) := by decide +kernel
theorem dX10_set_39 : decode cX10_set 39 = .ok (.ldc 126, 2) := by decide +kernel
theorem dX10_set_41 : decode cX10_set 41 = .ok (.ireturn, 1) := by decide +kernel
theorem dX10_set_42 : decode cX10_set 42 = .ok (.aload_n 0, 1) := by decide +kernel
theorem dX10_set_43 : decode cX10_set 43 = .ok (.bipush 8, 2) := by decide +kernel
theorem dX10_set_45 : decode cX10_set 45 = .ok (.iconst 3, 1) := by decide +kernel
theorem dX10_set_46 : decode cX10_set 46 = .ok (.iload_n 1, 1) := by decide +kernel
theorem dX10_set_47 : decode cX10_set 47 = .ok (.imul, 1) := by decide +kernel
theorem dX10_set_48 : decode cX10_set 48 = .ok (.iadd, 1) := by decide +kernel
theorem dX10_set_49 : decode cX10_set 49 = .ok (.iconst 1, 1) := by decide +kernel
theorem dX10_set_50 : decode cX10_set 50 = .ok (.iadd, 1) := by decide +kernel
theorem dX10_set_51 : decode cX10_set 51 = .ok (.iload_n 2, 1) := by decide +kernel
theorem dX10_set_52 : decode cX10_set 52 = .ok (.iadd, 1) := by decide +kernel
theorem dX10_set_53 : decode cX10_set 53 = .ok (.iload_n 3, 1) := by decide +kernel
theorem dX10_set_54 : decode cX10_set 54 = .ok (.invokevirtual 145, 3) := by decide +kernel
theorem dX10_set_57 : decode cX10_set 57 = .ok (.ireturn, 1) := by decide +kernel
theorem dX10_today_0 : decode cX10_today 0 = .ok (.iload_n 1, 1) := by decide +kernel
theorem dX10_today_1 : decode cX10_today 1 = .ok (.i2l, 1) := by decide +kernel
theorem dX10_today_2 : decode cX10_today 2 = .ok (.lconst 0, 1) := by decide +kernel
theorem dX10_today_3 : decode cX10_today 3 = .ok (.ldc2_w 148, 3) := by decide +kernel
theorem dX10_today_6 : decode cX10_today 6 = .ok (.invokestatic 87, 3) := by decide +kernel
theorem dX10_today_9 : decode cX10_today 9 = .ok (.ifCond .eq 36, 3) := by decide +kernel
theorem dX10_today_12 : decode cX10_today 12 = .ok (.iload_n 2, 1) := by decide +kernel
theorem dX10_today_13 : decode cX10_today 13 = .ok (.i2l, 1) := by decide +kernel
theorem dX10_today_14 : decode cX10_today 14 = .ok (.lconst 0, 1) := by decide +kernel
theorem dX10_today_15 : decode cX10_today 15 = .ok (.iload_n 1, 1) := by decide +kernel
theorem dX10_today_16 : decode cX10_today 16 = .ok (.ifCond .ne 9, 3) := by decide +kernel
theorem dX10_today_19 : decode cX10_today 19 = .ok (.ldc2_w 120, 3) := by decide +kernel
theorem dX10_today_22 : decode cX10_today 22 = .ok (.goto 17, 3) := by decide +kernel
theorem dX10_today_25 : decode cX10_today 25 = .ok (.iload_n 1, 1) := by decide +kernel
theorem dX10_today_26 : decode cX10_today 26 = .ok (.iconst 1, 1) := by decide +kernel
theorem dX10_today_27 : decode cX10_today 27 = .ok (.if_icmp .ne 9, 3) := by decide +kernel
theorem dX10_today_30 : decode cX10_today 30 = .ok (.ldc2_w 150, 3) := by decide +kernel
theorem dX10_today_33 : decode cX10_today 33 = .ok (.goto 6, 3) := by decide +kernel
theorem dX10_today_36 : decode cX10_today 36 = .ok (.ldc2_w 152, 3) := by decide +kernel
theorem dX10_today_39 : decode cX10_today 39 = .ok (.invokestatic 87, 3) := by decide +kernel
theorem dX10_today_42 : decode cX10_today 42 = .ok (.ifCond .ne 6, 3) := by decide +kernel
theorem dX10_today_45 : decode cX10_today 45 = .ok (.ldc 126, 2) := by decide +kernel
theorem dX10_today_47 : decode cX10_today 47 = .ok (.ireturn, 1) := by decide +kernel
theorem dX10_today_48 : decode cX10_today 48 = .ok (.aload_n 0, 1) := by decide +kernel
theorem dX10_today_49 : decode cX10_today 49 = .ok (.iconst 2, 1) := by decide +kernel
theorem dX10_today_50 : decode cX10_today 50 = .ok (.iload_n 1, 1) := by decide +kernel
theorem dX10_today_51 : decode cX10_today 51 = .ok (.iadd, 1) := by decide +kernel
theorem dX10_today_52 : decode cX10_today 52 = .ok (.iload_n 2, 1) := by decide +kernel
theorem dX10_today_53 : decode cX10_today 53 = .ok (.invokevirtual 145, 3) := by decide +kernel
theorem dX10_today_56 : decode cX10_today 56 = .ok (.ireturn, 1) := by decide +kernel
theorem dX10_allLoad_0 : decode cX10_allLoad 0 = .ok (.iconst 0, 1) := by decide +kernel
theorem dX10_allLoad_1 : decode cX10_allLoad 1 = .ok (.istore_n 1, 1) := by decide +kernel
theorem dX10_allLoad_2 : decode cX10_allLoad 2 = .ok (.iconst 0, 1) := by decide +kernel
theorem dX10_allLoad_3 : decode cX10_allLoad 3 = .ok (.istore_n 2, 1) := by decide +kernel
theorem dX10_allLoad_4 : decode cX10_allLoad 4 = .ok (.iload_n 2, 1) := by decide +kernel
theorem dX10_allLoad_5 : decode cX10_allLoad 5 = .ok (.bipush 30, 2) := by decide +kernel
theorem dX10_allLoad_7 : decode cX10_allLoad 7 = .ok (.if_icmp .ge 18, 3) := by decide +kernel
theorem dX10_allLoad_10 : decode cX10_allLoad 10 = .ok (.iload_n 1, 1) := by decide +kernel
theorem dX10_allLoad_11 : decode cX10_allLoad 11 = .ok (.aload_n 0, 1) := by decide +kernel
theorem dX10_allLoad_12 : decode cX10_allLoad 12 = .ok (.iload_n 2, 1) := by decide +kernel
theorem dX10_allLoad_13 : decode cX10_allLoad 13 = .ok (.iconst 2, 1) := by decide +kernel
theorem dX10_allLoad_14 : decode cX10_allLoad 14 = .ok (.invokevirtual 92, 3) := by decide +kernel
theorem dX10_allLoad_17 : decode cX10_allLoad 17 = .ok (.iadd, 1) := by decide +kernel
theorem dX10_allLoad_18 : decode cX10_allLoad 18 = .ok (.istore_n 1, 1) := by decide +kernel
theorem dX10_allLoad_19 : decode cX10_allLoad 19 = .ok (.iinc 2 1, 3) := by decide +kernel
theorem dX10_allLoad_22 : decode cX10_allLoad 22 = .ok (.goto (-18), 3) := by decide +kernel
theorem dX10_allLoad_25 : decode cX10_allLoad 25 = .ok (.iload_n 1, 1) := by decide +kernel
theorem dX10_allLoad_26 : decode cX10_allLoad 26 = .ok (.ireturn, 1) := by decide +kernel
theorem dX10_deal_0 : decode cX10_deal 0 = .ok (.iconst 0, 1) := by decide +kernel
theorem dX10_deal_1 : decode cX10_deal 1 = .ok (.istore_n 1, 1) := by decide +kernel
theorem dX10_deal_2 : decode cX10_deal 2 = .ok (.iload_n 1, 1) := by decide +kernel
theorem dX10_deal_3 : decode cX10_deal 3 = .ok (.bipush 30, 2) := by decide +kernel
theorem dX10_deal_5 : decode cX10_deal 5 = .ok (.if_icmp .ge 48, 3) := by decide +kernel
theorem dX10_deal_8 : decode cX10_deal 8 = .ok (.aload_n 0, 1) := by decide +kernel
theorem dX10_deal_9 : decode cX10_deal 9 = .ok (.iload_n 1, 1) := by decide +kernel
theorem dX10_deal_10 : decode cX10_deal 10 = .ok (.iconst 0, 1) := by decide +kernel
theorem dX10_deal_11 : decode cX10_deal 11 = .ok (.aload_n 0, 1) := by decide +kernel
theorem dX10_deal_12 : decode cX10_deal 12 = .ok (.invokevirtual 154, 3) := by decide +kernel
theorem dX10_deal_15 : decode cX10_deal 15 = .ok (.bipush 6, 2) := by decide +kernel
theorem dX10_deal_17 : decode cX10_deal 17 = .ok (.irem, 1) := by decide +kernel
theorem dX10_deal_18 : decode cX10_deal 18 = .ok (.invokevirtual 127, 3) := by decide +kernel
theorem dX10_deal_21 : decode cX10_deal 21 = .ok (.aload_n 0, 1) := by decide +kernel
theorem dX10_deal_22 : decode cX10_deal 22 = .ok (.iload_n 1, 1) := by decide +kernel
theorem dX10_deal_23 : decode cX10_deal 23 = .ok (.iconst 1, 1) := by decide +kernel
theorem dX10_deal_24 : decode cX10_deal 24 = .ok (.aload_n 0, 1) := by decide +kernel
theorem dX10_deal_25 : decode cX10_deal 25 = .ok (.invokevirtual 154, 3) := by decide +kernel
theorem dX10_deal_28 : decode cX10_deal 28 = .ok (.bipush 50, 2) := by decide +kernel
theorem dX10_deal_30 : decode cX10_deal 30 = .ok (.irem, 1) := by decide +kernel
theorem dX10_deal_31 : decode cX10_deal 31 = .ok (.invokevirtual 127, 3) := by decide +kernel
theorem dX10_deal_34 : decode cX10_deal 34 = .ok (.aload_n 0, 1) := by decide +kernel
theorem dX10_deal_35 : decode cX10_deal 35 = .ok (.iload_n 1, 1) := by decide +kernel
theorem dX10_deal_36 : decode cX10_deal 36 = .ok (.iconst 2, 1) := by decide +kernel
theorem dX10_deal_37 : decode cX10_deal 37 = .ok (.aload_n 0, 1) := by decide +kernel
theorem dX10_deal_38 : decode cX10_deal 38 = .ok (.invokevirtual 154, 3) := by decide +kernel
theorem dX10_deal_41 : decode cX10_deal 41 = .ok (.bipush 40, 2) := by decide +kernel
theorem dX10_deal_43 : decode cX10_deal 43 = .ok (.irem, 1) := by decide +kernel
theorem dX10_deal_44 : decode cX10_deal 44 = .ok (.invokevirtual 127, 3) := by decide +kernel
theorem dX10_deal_47 : decode cX10_deal 47 = .ok (.iinc 1 1, 3) := by decide +kernel
theorem dX10_deal_50 : decode cX10_deal 50 = .ok (.goto (-48), 3) := by decide +kernel
theorem dX10_deal_53 : decode cX10_deal 53 = .ok (.aload_n 0, 1) := by decide +kernel
theorem dX10_deal_54 : decode cX10_deal 54 = .ok (.invokevirtual 157, 3) := by decide +kernel
theorem dX10_deal_57 : decode cX10_deal 57 = .ok (.ireturn, 1) := by decide +kernel
theorem dX10_seed_0 : decode cX10_seed 0 = .ok (.aload_n 0, 1) := by decide +kernel
theorem dX10_seed_1 : decode cX10_seed 1 = .ok (.bipush 6, 2) := by decide +kernel
theorem dX10_seed_3 : decode cX10_seed 3 = .ok (.iload_n 1, 1) := by decide +kernel
theorem dX10_seed_4 : decode cX10_seed 4 = .ok (.invokevirtual 145, 3) := by decide +kernel
theorem dX10_seed_7 : decode cX10_seed 7 = .ok (.ireturn, 1) := by decide +kernel
theorem dX10_holdsLoads_0 : decode cX10_holdsLoads 0 = .ok (.iconst 0, 1) := by decide +kernel
end
section
theorem dX10_holdsLoads_1 : decode cX10_holdsLoads 1 = .ok (.istore_n 1, 1) := by decide +kernel
theorem dX10_holdsLoads_2 : decode cX10_holdsLoads 2 = .ok (.iload_n 1, 1) := by decide +kernel
theorem dX10_holdsLoads_3 : decode cX10_holdsLoads 3 = .ok (.bipush 30, 2) := by decide +kernel
theorem dX10_holdsLoads_5 : decode cX10_holdsLoads 5 = .ok (.if_icmp .ge 27, 3) := by decide +kernel
theorem dX10_holdsLoads_8 : decode cX10_holdsLoads 8 = .ok (.aload_n 0, 1) := by decide +kernel
theorem dX10_holdsLoads_9 : decode cX10_holdsLoads 9 = .ok (.iload_n 1, 1) := by decide +kernel
theorem dX10_holdsLoads_10 : decode cX10_holdsLoads 10 = .ok (.iconst 2, 1) := by decide +kernel
theorem dX10_holdsLoads_11 : decode cX10_holdsLoads 11 = .ok (.aload_n 0, 1) := by decide +kernel
theorem dX10_holdsLoads_12 : decode cX10_holdsLoads 12 = .ok (.iload_n 1, 1) := by decide +kernel
theorem dX10_holdsLoads_13 : decode cX10_holdsLoads 13 = .ok (.iconst 2, 1) := by decide +kernel
theorem dX10_holdsLoads_14 : decode cX10_holdsLoads 14 = .ok (.invokevirtual 92, 3) := by decide +kernel
theorem dX10_holdsLoads_17 : decode cX10_holdsLoads 17 = .ok (.sipush 999, 3) := by decide +kernel
theorem dX10_holdsLoads_20 : decode cX10_holdsLoads 20 = .ok (.invokestatic 103, 3) := by decide +kernel
theorem dX10_holdsLoads_23 : decode cX10_holdsLoads 23 = .ok (.invokevirtual 127, 3) := by decide +kernel
theorem dX10_holdsLoads_26 : decode cX10_holdsLoads 26 = .ok (.iinc 1 1, 3) := by decide +kernel
theorem dX10_holdsLoads_29 : decode cX10_holdsLoads 29 = .ok (.goto (-27), 3) := by decide +kernel
theorem dX10_holdsLoads_32 : decode cX10_holdsLoads 32 = .ok (.return_, 1) := by decide +kernel
theorem dX10_ticks_0 : decode cX10_ticks 0 = .ok (.aload_n 0, 1) := by decide +kernel
theorem dX10_ticks_1 : decode cX10_ticks 1 = .ok (.getfield 7, 3) := by decide +kernel
theorem dX10_ticks_4 : decode cX10_ticks 4 = .ok (.iconst 4, 1) := by decide +kernel
theorem dX10_ticks_5 : decode cX10_ticks 5 = .ok (.iaload, 1) := by decide +kernel
theorem dX10_ticks_6 : decode cX10_ticks 6 = .ok (.aload_n 0, 1) := by decide +kernel
theorem dX10_ticks_7 : decode cX10_ticks 7 = .ok (.invokevirtual 154, 3) := by decide +kernel
theorem dX10_ticks_10 : decode cX10_ticks 10 = .ok (.iconst 3, 1) := by decide +kernel
theorem dX10_ticks_11 : decode cX10_ticks 11 = .ok (.irem, 1) := by decide +kernel
theorem dX10_ticks_12 : decode cX10_ticks 12 = .ok (.iadd, 1) := by decide +kernel
theorem dX10_ticks_13 : decode cX10_ticks 13 = .ok (.istore_n 1, 1) := by decide +kernel
theorem dX10_ticks_14 : decode cX10_ticks 14 = .ok (.iconst 0, 1) := by decide +kernel
theorem dX10_ticks_15 : decode cX10_ticks 15 = .ok (.istore_n 2, 1) := by decide +kernel
theorem dX10_ticks_16 : decode cX10_ticks 16 = .ok (.iload_n 2, 1) := by decide +kernel
theorem dX10_ticks_17 : decode cX10_ticks 17 = .ok (.bipush 30, 2) := by decide +kernel
theorem dX10_ticks_19 : decode cX10_ticks 19 = .ok (.if_icmp .ge 23, 3) := by decide +kernel
theorem dX10_ticks_22 : decode cX10_ticks 22 = .ok (.aload_n 0, 1) := by decide +kernel
theorem dX10_ticks_23 : decode cX10_ticks 23 = .ok (.iload_n 2, 1) := by decide +kernel
theorem dX10_ticks_24 : decode cX10_ticks 24 = .ok (.iconst 2, 1) := by decide +kernel
theorem dX10_ticks_25 : decode cX10_ticks 25 = .ok (.aload_n 0, 1) := by decide +kernel
theorem dX10_ticks_26 : decode cX10_ticks 26 = .ok (.iload_n 2, 1) := by decide +kernel
theorem dX10_ticks_27 : decode cX10_ticks 27 = .ok (.iconst 2, 1) := by decide +kernel
theorem dX10_ticks_28 : decode cX10_ticks 28 = .ok (.invokevirtual 92, 3) := by decide +kernel
theorem dX10_ticks_31 : decode cX10_ticks 31 = .ok (.iload_n 1, 1) := by decide +kernel
theorem dX10_ticks_32 : decode cX10_ticks 32 = .ok (.iadd, 1) := by decide +kernel
theorem dX10_ticks_33 : decode cX10_ticks 33 = .ok (.invokevirtual 127, 3) := by decide +kernel
theorem dX10_ticks_36 : decode cX10_ticks 36 = .ok (.iinc 2 1, 3) := by decide +kernel
theorem dX10_ticks_39 : decode cX10_ticks 39 = .ok (.goto (-23), 3) := by decide +kernel
theorem dX10_ticks_42 : decode cX10_ticks 42 = .ok (.aload_n 0, 1) := by decide +kernel
theorem dX10_ticks_43 : decode cX10_ticks 43 = .ok (.invokevirtual 160, 3) := by decide +kernel
theorem dX10_ticks_46 : decode cX10_ticks 46 = .ok (.iconst 0, 1) := by decide +kernel
theorem dX10_ticks_47 : decode cX10_ticks 47 = .ok (.istore_n 2, 1) := by decide +kernel
theorem dX10_ticks_48 : decode cX10_ticks 48 = .ok (.iload_n 2, 1) := by decide +kernel
theorem dX10_ticks_49 : decode cX10_ticks 49 = .ok (.bipush 30, 2) := by decide +kernel
theorem dX10_ticks_51 : decode cX10_ticks 51 = .ok (.if_icmp .ge 52, 3) := by decide +kernel
theorem dX10_ticks_54 : decode cX10_ticks 54 = .ok (.aload_n 0, 1) := by decide +kernel
theorem dX10_ticks_55 : decode cX10_ticks 55 = .ok (.getfield 43, 3) := by decide +kernel
theorem dX10_ticks_58 : decode cX10_ticks 58 = .ok (.iload_n 2, 1) := by decide +kernel
theorem dX10_ticks_59 : decode cX10_ticks 59 = .ok (.aload_n 0, 1) := by decide +kernel
theorem dX10_ticks_60 : decode cX10_ticks 60 = .ok (.iload_n 2, 1) := by decide +kernel
theorem dX10_ticks_61 : decode cX10_ticks 61 = .ok (.iconst 0, 1) := by decide +kernel
theorem dX10_ticks_62 : decode cX10_ticks 62 = .ok (.invokevirtual 92, 3) := by decide +kernel
theorem dX10_ticks_65 : decode cX10_ticks 65 = .ok (.iconst 5, 1) := by decide +kernel
theorem dX10_ticks_66 : decode cX10_ticks 66 = .ok (.if_icmp .eq 14, 3) := by decide +kernel
theorem dX10_ticks_69 : decode cX10_ticks 69 = .ok (.aload_n 0, 1) := by decide +kernel
theorem dX10_ticks_70 : decode cX10_ticks 70 = .ok (.iload_n 2, 1) := by decide +kernel
theorem dX10_ticks_71 : decode cX10_ticks 71 = .ok (.iconst 2, 1) := by decide +kernel
theorem dX10_ticks_72 : decode cX10_ticks 72 = .ok (.invokevirtual 92, 3) := by decide +kernel
theorem dX10_ticks_75 : decode cX10_ticks 75 = .ok (.bipush 20, 2) := by decide +kernel
theorem dX10_ticks_77 : decode cX10_ticks 77 = .ok (.if_icmp .gt 7, 3) := by decide +kernel
theorem dX10_ticks_80 : decode cX10_ticks 80 = .ok (.iconst 0, 1) := by decide +kernel
theorem dX10_ticks_81 : decode cX10_ticks 81 = .ok (.goto 15, 3) := by decide +kernel
theorem dX10_ticks_84 : decode cX10_ticks 84 = .ok (.aload_n 0, 1) := by decide +kernel
theorem dX10_ticks_85 : decode cX10_ticks 85 = .ok (.iload_n 2, 1) := by decide +kernel
theorem dX10_ticks_86 : decode cX10_ticks 86 = .ok (.iconst 2, 1) := by decide +kernel
theorem dX10_ticks_87 : decode cX10_ticks 87 = .ok (.invokevirtual 92, 3) := by decide +kernel
theorem dX10_ticks_90 : decode cX10_ticks 90 = .ok (.bipush 20, 2) := by decide +kernel
theorem dX10_ticks_92 : decode cX10_ticks 92 = .ok (.isub, 1) := by decide +kernel
theorem dX10_ticks_93 : decode cX10_ticks 93 = .ok (.bipush 10, 2) := by decide +kernel
theorem dX10_ticks_95 : decode cX10_ticks 95 = .ok (.idiv, 1) := by decide +kernel
theorem dX10_ticks_96 : decode cX10_ticks 96 = .ok (.iastore, 1) := by decide +kernel
theorem dX10_ticks_97 : decode cX10_ticks 97 = .ok (.iinc 2 1, 3) := by decide +kernel
theorem dX10_ticks_100 : decode cX10_ticks 100 = .ok (.goto (-52), 3) := by decide +kernel
theorem dX10_ticks_103 : decode cX10_ticks 103 = .ok (.iconst 0, 1) := by decide +kernel
theorem dX10_ticks_104 : decode cX10_ticks 104 = .ok (.istore_n 2, 1) := by decide +kernel
theorem dX10_ticks_105 : decode cX10_ticks 105 = .ok (.iload_n 2, 1) := by decide +kernel
theorem dX10_ticks_106 : decode cX10_ticks 106 = .ok (.bipush 30, 2) := by decide +kernel
theorem dX10_ticks_108 : decode cX10_ticks 108 = .ok (.if_icmp .ge 48, 3) := by decide +kernel
theorem dX10_ticks_111 : decode cX10_ticks 111 = .ok (.aload_n 0, 1) := by decide +kernel
theorem dX10_ticks_112 : decode cX10_ticks 112 = .ok (.iload_n 2, 1) := by decide +kernel
theorem dX10_ticks_113 : decode cX10_ticks 113 = .ok (.iconst 2, 1) := by decide +kernel
theorem dX10_ticks_114 : decode cX10_ticks 114 = .ok (.aload_n 0, 1) := by decide +kernel
theorem dX10_ticks_115 : decode cX10_ticks 115 = .ok (.iload_n 2, 1) := by decide +kernel
theorem dX10_ticks_116 : decode cX10_ticks 116 = .ok (.iconst 2, 1) := by decide +kernel
theorem dX10_ticks_117 : decode cX10_ticks 117 = .ok (.invokevirtual 92, 3) := by decide +kernel
theorem dX10_ticks_120 : decode cX10_ticks 120 = .ok (.aload_n 0, 1) := by decide +kernel
theorem dX10_ticks_121 : decode cX10_ticks 121 = .ok (.getfield 43, 3) := by decide +kernel
theorem dX10_ticks_124 : decode cX10_ticks 124 = .ok (.iload_n 2, 1) := by decide +kernel
theorem dX10_ticks_125 : decode cX10_ticks 125 = .ok (.iaload, 1) := by decide +kernel
theorem dX10_ticks_126 : decode cX10_ticks 126 = .ok (.isub, 1) := by decide +kernel
theorem dX10_ticks_127 : decode cX10_ticks 127 = .ok (.iload_n 2, 1) := by decide +kernel
theorem dX10_ticks_128 : decode cX10_ticks 128 = .ok (.bipush 6, 2) := by decide +kernel
theorem dX10_ticks_130 : decode cX10_ticks 130 = .ok (.irem, 1) := by decide +kernel
theorem dX10_ticks_131 : decode cX10_ticks 131 = .ok (.ifCond .ne 7, 3) := by decide +kernel
theorem dX10_ticks_134 : decode cX10_ticks 134 = .ok (.iconst 0, 1) := by decide +kernel
theorem dX10_ticks_135 : decode cX10_ticks 135 = .ok (.goto 11, 3) := by decide +kernel
theorem dX10_ticks_138 : decode cX10_ticks 138 = .ok (.aload_n 0, 1) := by decide +kernel
theorem dX10_ticks_139 : decode cX10_ticks 139 = .ok (.getfield 43, 3) := by decide +kernel
theorem dX10_ticks_142 : decode cX10_ticks 142 = .ok (.iload_n 2, 1) := by decide +kernel
theorem dX10_ticks_143 : decode cX10_ticks 143 = .ok (.iconst 1, 1) := by decide +kernel
theorem dX10_ticks_144 : decode cX10_ticks 144 = .ok (.isub, 1) := by decide +kernel
theorem dX10_ticks_145 : decode cX10_ticks 145 = .ok (.iaload, 1) := by decide +kernel
theorem dX10_ticks_146 : decode cX10_ticks 146 = .ok (.iadd, 1) := by decide +kernel
theorem dX10_ticks_147 : decode cX10_ticks 147 = .ok (.invokevirtual 127, 3) := by decide +kernel
theorem dX10_ticks_150 : decode cX10_ticks 150 = .ok (.iinc 2 1, 3) := by decide +kernel
theorem dX10_ticks_153 : decode cX10_ticks 153 = .ok (.goto (-48), 3) := by decide +kernel
theorem dX10_ticks_156 : decode cX10_ticks 156 = .ok (.aload_n 0, 1) := by decide +kernel
theorem dX10_ticks_157 : decode cX10_ticks 157 = .ok (.invokevirtual 160, 3) := by decide +kernel
theorem dX10_ticks_160 : decode cX10_ticks 160 = .ok (.iconst 0, 1) := by decide +kernel
theorem dX10_ticks_161 : decode cX10_ticks 161 = .ok (.istore_n 2, 1) := by decide +kernel
theorem dX10_ticks_162 : decode cX10_ticks 162 = .ok (.iconst 4, 1) := by decide +kernel
theorem dX10_ticks_163 : decode cX10_ticks 163 = .ok (.istore_n 3, 1) := by decide +kernel
theorem dX10_ticks_164 : decode cX10_ticks 164 = .ok (.iload_n 3, 1) := by decide +kernel
theorem dX10_ticks_165 : decode cX10_ticks 165 = .ok (.ifCond .lt 108, 3) := by decide +kernel
theorem dX10_ticks_168 : decode cX10_ticks 168 = .ok (.bipush 6, 2) := by decide +kernel
theorem dX10_ticks_170 : decode cX10_ticks 170 = .ok (.iload_n 3, 1) := by decide +kernel
theorem dX10_ticks_171 : decode cX10_ticks 171 = .ok (.imul, 1) := by decide +kernel
theorem dX10_ticks_172 : decode cX10_ticks 172 = .ok (.istore 4, 2) := by decide +kernel
theorem dX10_ticks_174 : decode cX10_ticks 174 = .ok (.iload 4, 2) := by decide +kernel
theorem dX10_ticks_176 : decode cX10_ticks 176 = .ok (.bipush 6, 2) := by decide +kernel
theorem dX10_ticks_178 : decode cX10_ticks 178 = .ok (.iload_n 3, 1) := by decide +kernel
theorem dX10_ticks_179 : decode cX10_ticks 179 = .ok (.imul, 1) := by decide +kernel
theorem dX10_ticks_180 : decode cX10_ticks 180 = .ok (.bipush 6, 2) := by decide +kernel
theorem dX10_ticks_182 : decode cX10_ticks 182 = .ok (.iadd, 1) := by decide +kernel
theorem dX10_ticks_183 : decode cX10_ticks 183 = .ok (.if_icmp .ge 84, 3) := by decide +kernel
theorem dX10_ticks_186 : decode cX10_ticks 186 = .ok (.aload_n 0, 1) := by decide +kernel
theorem dX10_ticks_187 : decode cX10_ticks 187 = .ok (.iload 4, 2) := by decide +kernel
theorem dX10_ticks_189 : decode cX10_ticks 189 = .ok (.iconst 1, 1) := by decide +kernel
theorem dX10_ticks_190 : decode cX10_ticks 190 = .ok (.invokevirtual 92, 3) := by decide +kernel
theorem dX10_ticks_193 : decode cX10_ticks 193 = .ok (.bipush 30, 2) := by decide +kernel
theorem dX10_ticks_195 : decode cX10_ticks 195 = .ok (.if_icmp .lt 66, 3) := by decide +kernel
theorem dX10_ticks_198 : decode cX10_ticks 198 = .ok (.aload_n 0, 1) := by decide +kernel
theorem dX10_ticks_199 : decode cX10_ticks 199 = .ok (.iload 4, 2) := by decide +kernel
theorem dX10_ticks_201 : decode cX10_ticks 201 = .ok (.iconst 2, 1) := by decide +kernel
theorem dX10_ticks_202 : decode cX10_ticks 202 = .ok (.invokevirtual 92, 3) := by decide +kernel
theorem dX10_ticks_205 : decode cX10_ticks 205 = .ok (.aload_n 0, 1) := by decide +kernel
theorem dX10_ticks_206 : decode cX10_ticks 206 = .ok (.iload 4, 2) := by decide +kernel
theorem dX10_ticks_208 : decode cX10_ticks 208 = .ok (.invokevirtual 134, 3) := by decide +kernel
theorem dX10_ticks_211 : decode cX10_ticks 211 = .ok (.if_icmp .le 50, 3) := by decide +kernel
theorem dX10_ticks_214 : decode cX10_ticks 214 = .ok (.aload_n 0, 1) := by decide +kernel
theorem dX10_ticks_215 : decode cX10_ticks 215 = .ok (.iload 4, 2) := by decide +kernel
theorem dX10_ticks_217 : decode cX10_ticks 217 = .ok (.iconst 2, 1) := by decide +kernel
theorem dX10_ticks_218 : decode cX10_ticks 218 = .ok (.invokevirtual 92, 3) := by decide +kernel
theorem dX10_ticks_221 : decode cX10_ticks 221 = .ok (.istore 5, 2) := by decide +kernel
theorem dX10_ticks_223 : decode cX10_ticks 223 = .ok (.aload_n 0, 1) := by decide +kernel
theorem dX10_ticks_224 : decode cX10_ticks 224 = .ok (.iload 4, 2) := by decide +kernel
theorem dX10_ticks_226 : decode cX10_ticks 226 = .ok (.iconst 2, 1) := by decide +kernel
theorem dX10_ticks_227 : decode cX10_ticks 227 = .ok (.iconst 0, 1) := by decide +kernel
theorem dX10_ticks_228 : decode cX10_ticks 228 = .ok (.invokevirtual 127, 3) := by decide +kernel
theorem dX10_ticks_231 : decode cX10_ticks 231 = .ok (.iload_n 3, 1) := by decide +kernel
theorem dX10_ticks_232 : decode cX10_ticks 232 = .ok (.ifCond .le 26, 3) := by decide +kernel
theorem dX10_ticks_235 : decode cX10_ticks 235 = .ok (.aload_n 0, 1) := by decide +kernel
theorem dX10_ticks_236 : decode cX10_ticks 236 = .ok (.iload 4, 2) := by decide +kernel
theorem dX10_ticks_238 : decode cX10_ticks 238 = .ok (.bipush 6, 2) := by decide +kernel
theorem dX10_ticks_240 : decode cX10_ticks 240 = .ok (.isub, 1) := by decide +kernel
theorem dX10_ticks_241 : decode cX10_ticks 241 = .ok (.iconst 2, 1) := by decide +kernel
theorem dX10_ticks_242 : decode cX10_ticks 242 = .ok (.aload_n 0, 1) := by decide +kernel
theorem dX10_ticks_243 : decode cX10_ticks 243 = .ok (.iload 4, 2) := by decide +kernel
theorem dX10_ticks_245 : decode cX10_ticks 245 = .ok (.bipush 6, 2) := by decide +kernel
theorem dX10_ticks_247 : decode cX10_ticks 247 = .ok (.isub, 1) := by decide +kernel
theorem dX10_ticks_248 : decode cX10_ticks 248 = .ok (.iconst 2, 1) := by decide +kernel
theorem dX10_ticks_249 : decode cX10_ticks 249 = .ok (.invokevirtual 92, 3) := by decide +kernel
theorem dX10_ticks_252 : decode cX10_ticks 252 = .ok (.iload 5, 2) := by decide +kernel
theorem dX10_ticks_254 : decode cX10_ticks 254 = .ok (.iadd, 1) := by decide +kernel
theorem dX10_ticks_255 : decode cX10_ticks 255 = .ok (.invokevirtual 127, 3) := by decide +kernel
theorem dX10_ticks_258 : decode cX10_ticks 258 = .ok (.iinc 2 1, 3) := by decide +kernel
theorem dX10_ticks_261 : decode cX10_ticks 261 = .ok (.iinc 4 1, 3) := by decide +kernel
theorem dX10_ticks_264 : decode cX10_ticks 264 = .ok (.goto (-90), 3) := by decide +kernel
theorem dX10_ticks_267 : decode cX10_ticks 267 = .ok (.iinc 3 (-1), 3) := by decide +kernel
theorem dX10_ticks_270 : decode cX10_ticks 270 = .ok (.goto (-106), 3) := by decide +kernel
theorem dX10_ticks_273 : decode cX10_ticks 273 = .ok (.aload_n 0, 1) := by decide +kernel
theorem dX10_ticks_274 : decode cX10_ticks 274 = .ok (.invokevirtual 160, 3) := by decide +kernel
theorem dX10_ticks_277 : decode cX10_ticks 277 = .ok (.aload_n 0, 1) := by decide +kernel
theorem dX10_ticks_278 : decode cX10_ticks 278 = .ok (.getfield 7, 3) := by decide +kernel
theorem dX10_ticks_281 : decode cX10_ticks 281 = .ok (.iconst 5, 1) := by decide +kernel
theorem dX10_ticks_282 : decode cX10_ticks 282 = .ok (.dup2, 1) := by decide +kernel
theorem dX10_ticks_283 : decode cX10_ticks 283 = .ok (.iaload, 1) := by decide +kernel
theorem dX10_ticks_284 : decode cX10_ticks 284 = .ok (.iload_n 2, 1) := by decide +kernel
theorem dX10_ticks_285 : decode cX10_ticks 285 = .ok (.iadd, 1) := by decide +kernel
theorem dX10_ticks_286 : decode cX10_ticks 286 = .ok (.iastore, 1) := by decide +kernel
theorem dX10_ticks_287 : decode cX10_ticks 287 = .ok (.aload_n 0, 1) := by decide +kernel
theorem dX10_ticks_288 : decode cX10_ticks 288 = .ok (.getfield 7, 3) := by decide +kernel
theorem dX10_ticks_291 : decode cX10_ticks 291 = .ok (.iconst 3, 1) := by decide +kernel
theorem dX10_ticks_292 : decode cX10_ticks 292 = .ok (.aload_n 0, 1) := by decide +kernel
theorem dX10_ticks_293 : decode cX10_ticks 293 = .ok (.getfield 7, 3) := by decide +kernel
theorem dX10_ticks_296 : decode cX10_ticks 296 = .ok (.iconst 3, 1) := by decide +kernel
theorem dX10_ticks_297 : decode cX10_ticks 297 = .ok (.iaload, 1) := by decide +kernel
theorem dX10_ticks_298 : decode cX10_ticks 298 = .ok (.bipush 23, 2) := by decide +kernel
theorem dX10_ticks_300 : decode cX10_ticks 300 = .ok (.if_icmp .ne 7, 3) := by decide +kernel
theorem dX10_ticks_303 : decode cX10_ticks 303 = .ok (.iconst 0, 1) := by decide +kernel
theorem dX10_ticks_304 : decode cX10_ticks 304 = .ok (.goto 11, 3) := by decide +kernel
theorem dX10_ticks_307 : decode cX10_ticks 307 = .ok (.aload_n 0, 1) := by decide +kernel
theorem dX10_ticks_308 : decode cX10_ticks 308 = .ok (.getfield 7, 3) := by decide +kernel
theorem dX10_ticks_311 : decode cX10_ticks 311 = .ok (.iconst 3, 1) := by decide +kernel
theorem dX10_ticks_312 : decode cX10_ticks 312 = .ok (.iaload, 1) := by decide +kernel
theorem dX10_ticks_313 : decode cX10_ticks 313 = .ok (.iconst 1, 1) := by decide +kernel
theorem dX10_ticks_314 : decode cX10_ticks 314 = .ok (.iadd, 1) := by decide +kernel
theorem dX10_ticks_315 : decode cX10_ticks 315 = .ok (.iastore, 1) := by decide +kernel
theorem dX10_ticks_316 : decode cX10_ticks 316 = .ok (.iload_n 2, 1) := by decide +kernel
theorem dX10_ticks_317 : decode cX10_ticks 317 = .ok (.ireturn, 1) := by decide +kernel
theorem dX10_ticksMany_0 : decode cX10_ticksMany 0 = .ok (.iconst 0, 1) := by decide +kernel
theorem dX10_ticksMany_1 : decode cX10_ticksMany 1 = .ok (.istore_n 2, 1) := by decide +kernel
theorem dX10_ticksMany_2 : decode cX10_ticksMany 2 = .ok (.iconst 0, 1) := by decide +kernel
theorem dX10_ticksMany_3 : decode cX10_ticksMany 3 = .ok (.istore_n 3, 1) := by decide +kernel
theorem dX10_ticksMany_4 : decode cX10_ticksMany 4 = .ok (.iload_n 3, 1) := by decide +kernel
theorem dX10_ticksMany_5 : decode cX10_ticksMany 5 = .ok (.iload_n 1, 1) := by decide +kernel
theorem dX10_ticksMany_6 : decode cX10_ticksMany 6 = .ok (.if_icmp .ge 16, 3) := by decide +kernel
theorem dX10_ticksMany_9 : decode cX10_ticksMany 9 = .ok (.iload_n 2, 1) := by decide +kernel
theorem dX10_ticksMany_10 : decode cX10_ticksMany 10 = .ok (.aload_n 0, 1) := by decide +kernel
theorem dX10_ticksMany_11 : decode cX10_ticksMany 11 = .ok (.invokevirtual 163, 3) := by decide +kernel
theorem dX10_ticksMany_14 : decode cX10_ticksMany 14 = .ok (.iadd, 1) := by decide +kernel
theorem dX10_ticksMany_15 : decode cX10_ticksMany 15 = .ok (.istore_n 2, 1) := by decide +kernel
theorem dX10_ticksMany_16 : decode cX10_ticksMany 16 = .ok (.iinc 3 1, 3) := by decide +kernel
theorem dX10_ticksMany_19 : decode cX10_ticksMany 19 = .ok (.goto (-15), 3) := by decide +kernel
theorem dX10_ticksMany_22 : decode cX10_ticksMany 22 = .ok (.iload_n 2, 1) := by decide +kernel
theorem dX10_ticksMany_23 : decode cX10_ticksMany 23 = .ok (.ireturn, 1) := by decide +kernel
theorem dX10_run_0 : decode cX10_run 0 = .ok (.iload_n 1, 1) := by decide +kernel
theorem dX10_run_1 : decode cX10_run 1 = .ok (.i2l, 1) := by decide +kernel
theorem dX10_run_2 : decode cX10_run 2 = .ok (.lconst 1, 1) := by decide +kernel
theorem dX10_run_3 : decode cX10_run 3 = .ok (.ldc2_w 166, 3) := by decide +kernel
theorem dX10_run_6 : decode cX10_run 6 = .ok (.invokestatic 87, 3) := by decide +kernel
theorem dX10_run_9 : decode cX10_run 9 = .ok (.ifCond .eq 11, 3) := by decide +kernel
theorem dX10_run_12 : decode cX10_run 12 = .ok (.aload_n 0, 1) := by decide +kernel
theorem dX10_run_13 : decode cX10_run 13 = .ok (.iload_n 1, 1) := by decide +kernel
theorem dX10_run_14 : decode cX10_run 14 = .ok (.invokevirtual 168, 3) := by decide +kernel
theorem dX10_run_17 : decode cX10_run 17 = .ok (.goto 5, 3) := by decide +kernel
theorem dX10_run_20 : decode cX10_run 20 = .ok (.ldc 126, 2) := by decide +kernel
theorem dX10_run_22 : decode cX10_run 22 = .ok (.ireturn, 1) := by decide +kernel
theorem dX10_laysBy_0 : decode cX10_laysBy 0 = .ok (.iconst 0, 1) := by decide +kernel
theorem dX10_laysBy_1 : decode cX10_laysBy 1 = .ok (.istore_n 1, 1) := by decide +kernel
theorem dX10_laysBy_2 : decode cX10_laysBy 2 = .ok (.iload_n 1, 1) := by decide +kernel
theorem dX10_laysBy_3 : decode cX10_laysBy 3 = .ok (.bipush 122, 2) := by decide +kernel
theorem dX10_laysBy_5 : decode cX10_laysBy 5 = .ok (.if_icmp .ge 21, 3) := by decide +kernel
theorem dX10_laysBy_8 : decode cX10_laysBy 8 = .ok (.aload_n 0, 1) := by decide +kernel
theorem dX10_laysBy_9 : decode cX10_laysBy 9 = .ok (.getfield 46, 3) := by decide +kernel
theorem dX10_laysBy_12 : decode cX10_laysBy 12 = .ok (.iload_n 1, 1) := by decide +kernel
theorem dX10_laysBy_13 : decode cX10_laysBy 13 = .ok (.aload_n 0, 1) := by decide +kernel
theorem dX10_laysBy_14 : decode cX10_laysBy 14 = .ok (.getfield 7, 3) := by decide +kernel
theorem dX10_laysBy_17 : decode cX10_laysBy 17 = .ok (.iload_n 1, 1) := by decide +kernel
theorem dX10_laysBy_18 : decode cX10_laysBy 18 = .ok (.iaload, 1) := by decide +kernel
theorem dX10_laysBy_19 : decode cX10_laysBy 19 = .ok (.iastore, 1) := by decide +kernel
theorem dX10_laysBy_20 : decode cX10_laysBy 20 = .ok (.iinc 1 1, 3) := by decide +kernel
theorem dX10_laysBy_23 : decode cX10_laysBy 23 = .ok (.goto (-21), 3) := by decide +kernel
theorem dX10_laysBy_26 : decode cX10_laysBy 26 = .ok (.return_, 1) := by decide +kernel
theorem dX10_laysBack_0 : decode cX10_laysBack 0 = .ok (.iconst 0, 1) := by decide +kernel
theorem dX10_laysBack_1 : decode cX10_laysBack 1 = .ok (.istore_n 1, 1) := by decide +kernel
theorem dX10_laysBack_2 : decode cX10_laysBack 2 = .ok (.iload_n 1, 1) := by decide +kernel
theorem dX10_laysBack_3 : decode cX10_laysBack 3 = .ok (.bipush 122, 2) := by decide +kernel
theorem dX10_laysBack_5 : decode cX10_laysBack 5 = .ok (.if_icmp .ge 21, 3) := by decide +kernel
theorem dX10_laysBack_8 : decode cX10_laysBack 8 = .ok (.aload_n 0, 1) := by decide +kernel
theorem dX10_laysBack_9 : decode cX10_laysBack 9 = .ok (.getfield 7, 3) := by decide +kernel
theorem dX10_laysBack_12 : decode cX10_laysBack 12 = .ok (.iload_n 1, 1) := by decide +kernel
theorem dX10_laysBack_13 : decode cX10_laysBack 13 = .ok (.aload_n 0, 1) := by decide +kernel
theorem dX10_laysBack_14 : decode cX10_laysBack 14 = .ok (.getfield 46, 3) := by decide +kernel
theorem dX10_laysBack_17 : decode cX10_laysBack 17 = .ok (.iload_n 1, 1) := by decide +kernel
theorem dX10_laysBack_18 : decode cX10_laysBack 18 = .ok (.iaload, 1) := by decide +kernel
theorem dX10_laysBack_19 : decode cX10_laysBack 19 = .ok (.iastore, 1) := by decide +kernel
theorem dX10_laysBack_20 : decode cX10_laysBack 20 = .ok (.iinc 1 1, 3) := by decide +kernel
theorem dX10_laysBack_23 : decode cX10_laysBack 23 = .ok (.goto (-21), 3) := by decide +kernel
theorem dX10_laysBack_26 : decode cX10_laysBack 26 = .ok (.return_, 1) := by decide +kernel
theorem dX10_ahead_0 : decode cX10_ahead 0 = .ok (.iload_n 1, 1) := by decide +kernel
theorem dX10_ahead_1 : decode cX10_ahead 1 = .ok (.i2l, 1) := by decide +kernel
theorem dX10_ahead_2 : decode cX10_ahead 2 = .ok (.lconst 0, 1) := by decide +kernel
theorem dX10_ahead_3 : decode cX10_ahead 3 = .ok (.ldc2_w 166, 3) := by decide +kernel
theorem dX10_ahead_6 : decode cX10_ahead 6 = .ok (.invokestatic 87, 3) := by decide +kernel
theorem dX10_ahead_9 : decode cX10_ahead 9 = .ok (.ifCond .eq 15, 3) := by decide +kernel
theorem dX10_ahead_12 : decode cX10_ahead 12 = .ok (.iload_n 2, 1) := by decide +kernel
theorem dX10_ahead_13 : decode cX10_ahead 13 = .ok (.i2l, 1) := by decide +kernel
theorem dX10_ahead_14 : decode cX10_ahead 14 = .ok (.lconst 0, 1) := by decide +kernel
theorem dX10_ahead_15 : decode cX10_ahead 15 = .ok (.ldc2_w 171, 3) := by decide +kernel
theorem dX10_ahead_18 : decode cX10_ahead 18 = .ok (.invokestatic 87, 3) := by decide +kernel
theorem dX10_ahead_21 : decode cX10_ahead 21 = .ok (.ifCond .ne 6, 3) := by decide +kernel
theorem dX10_ahead_24 : decode cX10_ahead 24 = .ok (.ldc 126, 2) := by decide +kernel
theorem dX10_ahead_26 : decode cX10_ahead 26 = .ok (.ireturn, 1) := by decide +kernel
theorem dX10_ahead_27 : decode cX10_ahead 27 = .ok (.aload_n 0, 1) := by decide +kernel
theorem dX10_ahead_28 : decode cX10_ahead 28 = .ok (.invokevirtual 173, 3) := by decide +kernel
theorem dX10_ahead_31 : decode cX10_ahead 31 = .ok (.aload_n 0, 1) := by decide +kernel
theorem dX10_ahead_32 : decode cX10_ahead 32 = .ok (.iload_n 1, 1) := by decide +kernel
theorem dX10_ahead_33 : decode cX10_ahead 33 = .ok (.invokevirtual 168, 3) := by decide +kernel
theorem dX10_ahead_36 : decode cX10_ahead 36 = .ok (.istore_n 3, 1) := by decide +kernel
theorem dX10_ahead_37 : decode cX10_ahead 37 = .ok (.iconst 0, 1) := by decide +kernel
theorem dX10_ahead_38 : decode cX10_ahead 38 = .ok (.istore 4, 2) := by decide +kernel
theorem dX10_ahead_40 : decode cX10_ahead 40 = .ok (.iconst 1, 1) := by decide +kernel
theorem dX10_ahead_41 : decode cX10_ahead 41 = .ok (.istore 5, 2) := by decide +kernel
theorem dX10_ahead_43 : decode cX10_ahead 43 = .ok (.iload 5, 2) := by decide +kernel
theorem dX10_ahead_45 : decode cX10_ahead 45 = .ok (.bipush 30, 2) := by decide +kernel
theorem dX10_ahead_47 : decode cX10_ahead 47 = .ok (.if_icmp .ge 35, 3) := by decide +kernel
theorem dX10_ahead_50 : decode cX10_ahead 50 = .ok (.aload_n 0, 1) := by decide +kernel
theorem dX10_ahead_51 : decode cX10_ahead 51 = .ok (.iload 5, 2) := by decide +kernel
theorem dX10_ahead_53 : decode cX10_ahead 53 = .ok (.iconst 2, 1) := by decide +kernel
theorem dX10_ahead_54 : decode cX10_ahead 54 = .ok (.invokevirtual 92, 3) := by decide +kernel
theorem dX10_ahead_57 : decode cX10_ahead 57 = .ok (.aload_n 0, 1) := by decide +kernel
theorem dX10_ahead_58 : decode cX10_ahead 58 = .ok (.iload 4, 2) := by decide +kernel
theorem dX10_ahead_60 : decode cX10_ahead 60 = .ok (.iconst 2, 1) := by decide +kernel
theorem dX10_ahead_61 : decode cX10_ahead 61 = .ok (.invokevirtual 92, 3) := by decide +kernel
theorem dX10_ahead_64 : decode cX10_ahead 64 = .ok (.if_icmp .le 8, 3) := by decide +kernel
theorem dX10_ahead_67 : decode cX10_ahead 67 = .ok (.iload 5, 2) := by decide +kernel
theorem dX10_ahead_69 : decode cX10_ahead 69 = .ok (.goto 5, 3) := by decide +kernel
theorem dX10_ahead_72 : decode cX10_ahead 72 = .ok (.iload 4, 2) := by decide +kernel
theorem dX10_ahead_74 : decode cX10_ahead 74 = .ok (.istore 4, 2) := by decide +kernel
theorem dX10_ahead_76 : decode cX10_ahead 76 = .ok (.iinc 5 1, 3) := by decide +kernel
theorem dX10_ahead_79 : decode cX10_ahead 79 = .ok (.goto (-36), 3) := by decide +kernel
theorem dX10_ahead_82 : decode cX10_ahead 82 = .ok (.iload_n 2, 1) := by decide +kernel
theorem dX10_ahead_83 : decode cX10_ahead 83 = .ok (.ifCond .ne 10, 3) := by decide +kernel
theorem dX10_ahead_86 : decode cX10_ahead 86 = .ok (.aload_n 0, 1) := by decide +kernel
theorem dX10_ahead_87 : decode cX10_ahead 87 = .ok (.invokevirtual 157, 3) := by decide +kernel
theorem dX10_ahead_90 : decode cX10_ahead 90 = .ok (.goto 29, 3) := by decide +kernel
theorem dX10_ahead_93 : decode cX10_ahead 93 = .ok (.iload_n 2, 1) := by decide +kernel
theorem dX10_ahead_94 : decode cX10_ahead 94 = .ok (.iconst 1, 1) := by decide +kernel
theorem dX10_ahead_95 : decode cX10_ahead 95 = .ok (.if_icmp .ne 7, 3) := by decide +kernel
theorem dX10_ahead_98 : decode cX10_ahead 98 = .ok (.iload_n 3, 1) := by decide +kernel
theorem dX10_ahead_99 : decode cX10_ahead 99 = .ok (.goto 20, 3) := by decide +kernel
theorem dX10_ahead_102 : decode cX10_ahead 102 = .ok (.iload_n 2, 1) := by decide +kernel
theorem dX10_ahead_103 : decode cX10_ahead 103 = .ok (.iconst 2, 1) := by decide +kernel
theorem dX10_ahead_104 : decode cX10_ahead 104 = .ok (.if_icmp .ne 13, 3) := by decide +kernel
theorem dX10_ahead_107 : decode cX10_ahead 107 = .ok (.aload_n 0, 1) := by decide +kernel
theorem dX10_ahead_108 : decode cX10_ahead 108 = .ok (.iload 4, 2) := by decide +kernel
theorem dX10_ahead_110 : decode cX10_ahead 110 = .ok (.iconst 2, 1) := by decide +kernel
theorem dX10_ahead_111 : decode cX10_ahead 111 = .ok (.invokevirtual 92, 3) := by decide +kernel
theorem dX10_ahead_114 : decode cX10_ahead 114 = .ok (.goto 5, 3) := by decide +kernel
theorem dX10_ahead_117 : decode cX10_ahead 117 = .ok (.iload 4, 2) := by decide +kernel
theorem dX10_ahead_119 : decode cX10_ahead 119 = .ok (.istore 5, 2) := by decide +kernel
theorem dX10_ahead_121 : decode cX10_ahead 121 = .ok (.aload_n 0, 1) := by decide +kernel
theorem dX10_ahead_122 : decode cX10_ahead 122 = .ok (.invokevirtual 176, 3) := by decide +kernel
theorem dX10_ahead_125 : decode cX10_ahead 125 = .ok (.iload 5, 2) := by decide +kernel
theorem dX10_ahead_127 : decode cX10_ahead 127 = .ok (.ireturn, 1) := by decide +kernel
theorem dX10_calm_0 : decode cX10_calm 0 = .ok (.aload_n 0, 1) := by decide +kernel
theorem dX10_calm_1 : decode cX10_calm 1 = .ok (.invokevirtual 173, 3) := by decide +kernel
theorem dX10_calm_4 : decode cX10_calm 4 = .ok (.iconst 1, 1) := by decide +kernel
theorem dX10_calm_5 : decode cX10_calm 5 = .ok (.istore_n 1, 1) := by decide +kernel
theorem dX10_calm_6 : decode cX10_calm 6 = .ok (.iload_n 1, 1) := by decide +kernel
theorem dX10_calm_7 : decode cX10_calm 7 = .ok (.bipush 48, 2) := by decide +kernel
theorem dX10_calm_9 : decode cX10_calm 9 = .ok (.if_icmp .gt 16, 3) := by decide +kernel
theorem dX10_calm_12 : decode cX10_calm 12 = .ok (.aload_n 0, 1) := by decide +kernel
theorem dX10_calm_13 : decode cX10_calm 13 = .ok (.invokevirtual 163, 3) := by decide +kernel
theorem dX10_calm_16 : decode cX10_calm 16 = .ok (.ifCond .ne 9, 3) := by decide +kernel
theorem dX10_calm_19 : decode cX10_calm 19 = .ok (.iinc 1 1, 3) := by decide +kernel
theorem dX10_calm_22 : decode cX10_calm 22 = .ok (.goto (-16), 3) := by decide +kernel
theorem dX10_calm_25 : decode cX10_calm 25 = .ok (.aload_n 0, 1) := by decide +kernel
theorem dX10_calm_26 : decode cX10_calm 26 = .ok (.invokevirtual 176, 3) := by decide +kernel
theorem dX10_calm_29 : decode cX10_calm 29 = .ok (.iload_n 1, 1) := by decide +kernel
theorem dX10_calm_30 : decode cX10_calm 30 = .ok (.bipush 48, 2) := by decide +kernel
theorem dX10_calm_32 : decode cX10_calm 32 = .ok (.if_icmp .le 8, 3) := by decide +kernel
theorem dX10_calm_35 : decode cX10_calm 35 = .ok (.ldc 86, 2) := by decide +kernel
theorem dX10_calm_37 : decode cX10_calm 37 = .ok (.goto 4, 3) := by decide +kernel
theorem dX10_calm_40 : decode cX10_calm 40 = .ok (.iload_n 1, 1) := by decide +kernel
theorem dX10_calm_41 : decode cX10_calm 41 = .ok (.ireturn, 1) := by decide +kernel
theorem dX10_beside_0 : decode cX10_beside 0 = .ok (.iload_n 0, 1) := by decide +kernel
theorem dX10_beside_1 : decode cX10_beside 1 = .ok (.bipush 6, 2) := by decide +kernel
theorem dX10_beside_3 : decode cX10_beside 3 = .ok (.irem, 1) := by decide +kernel
theorem dX10_beside_4 : decode cX10_beside 4 = .ok (.istore_n 2, 1) := by decide +kernel
theorem dX10_beside_5 : decode cX10_beside 5 = .ok (.iload_n 1, 1) := by decide +kernel
theorem dX10_beside_6 : decode cX10_beside 6 = .ok (.ifCond .ne 10, 3) := by decide +kernel
theorem dX10_beside_9 : decode cX10_beside 9 = .ok (.iload_n 0, 1) := by decide +kernel
theorem dX10_beside_10 : decode cX10_beside 10 = .ok (.bipush 6, 2) := by decide +kernel
theorem dX10_beside_12 : decode cX10_beside 12 = .ok (.iadd, 1) := by decide +kernel
theorem dX10_beside_13 : decode cX10_beside 13 = .ok (.goto 46, 3) := by decide +kernel
theorem dX10_beside_16 : decode cX10_beside 16 = .ok (.iload_n 1, 1) := by decide +kernel
theorem dX10_beside_17 : decode cX10_beside 17 = .ok (.iconst 1, 1) := by decide +kernel
theorem dX10_beside_18 : decode cX10_beside 18 = .ok (.if_icmp .ne 18, 3) := by decide +kernel
theorem dX10_beside_21 : decode cX10_beside 21 = .ok (.iload_n 2, 1) := by decide +kernel
theorem dX10_beside_22 : decode cX10_beside 22 = .ok (.iconst 5, 1) := by decide +kernel
theorem dX10_beside_23 : decode cX10_beside 23 = .ok (.if_icmp .ne 7, 3) := by decide +kernel
theorem dX10_beside_26 : decode cX10_beside 26 = .ok (.iconst (-1), 1) := by decide +kernel
theorem dX10_beside_27 : decode cX10_beside 27 = .ok (.goto 32, 3) := by decide +kernel
theorem dX10_beside_30 : decode cX10_beside 30 = .ok (.iload_n 0, 1) := by decide +kernel
theorem dX10_beside_31 : decode cX10_beside 31 = .ok (.iconst 1, 1) := by decide +kernel
theorem dX10_beside_32 : decode cX10_beside 32 = .ok (.iadd, 1) := by decide +kernel
theorem dX10_beside_33 : decode cX10_beside 33 = .ok (.goto 26, 3) := by decide +kernel
theorem dX10_beside_36 : decode cX10_beside 36 = .ok (.iload_n 1, 1) := by decide +kernel
theorem dX10_beside_37 : decode cX10_beside 37 = .ok (.iconst 2, 1) := by decide +kernel
theorem dX10_beside_38 : decode cX10_beside 38 = .ok (.if_icmp .ne 10, 3) := by decide +kernel
theorem dX10_beside_41 : decode cX10_beside 41 = .ok (.iload_n 0, 1) := by decide +kernel
theorem dX10_beside_42 : decode cX10_beside 42 = .ok (.bipush 6, 2) := by decide +kernel
theorem dX10_beside_44 : decode cX10_beside 44 = .ok (.isub, 1) := by decide +kernel
theorem dX10_beside_45 : decode cX10_beside 45 = .ok (.goto 14, 3) := by decide +kernel
theorem dX10_beside_48 : decode cX10_beside 48 = .ok (.iload_n 2, 1) := by decide +kernel
theorem dX10_beside_49 : decode cX10_beside 49 = .ok (.ifCond .ne 7, 3) := by decide +kernel
theorem dX10_beside_52 : decode cX10_beside 52 = .ok (.iconst (-1), 1) := by decide +kernel
theorem dX10_beside_53 : decode cX10_beside 53 = .ok (.goto 6, 3) := by decide +kernel
theorem dX10_beside_56 : decode cX10_beside 56 = .ok (.iload_n 0, 1) := by decide +kernel
theorem dX10_beside_57 : decode cX10_beside 57 = .ok (.iconst 1, 1) := by decide +kernel
theorem dX10_beside_58 : decode cX10_beside 58 = .ok (.isub, 1) := by decide +kernel
theorem dX10_beside_59 : decode cX10_beside 59 = .ok (.istore_n 3, 1) := by decide +kernel
theorem dX10_beside_60 : decode cX10_beside 60 = .ok (.iload_n 3, 1) := by decide +kernel
theorem dX10_beside_61 : decode cX10_beside 61 = .ok (.invokestatic 116, 3) := by decide +kernel
theorem dX10_beside_64 : decode cX10_beside 64 = .ok (.ifCond .eq 7, 3) := by decide +kernel
theorem dX10_beside_67 : decode cX10_beside 67 = .ok (.iload_n 3, 1) := by decide +kernel
theorem dX10_beside_68 : decode cX10_beside 68 = .ok (.goto 4, 3) := by decide +kernel
theorem dX10_beside_71 : decode cX10_beside 71 = .ok (.iconst (-1), 1) := by decide +kernel
theorem dX10_beside_72 : decode cX10_beside 72 = .ok (.ireturn, 1) := by decide +kernel
theorem dX10_isBeside_0 : decode cX10_isBeside 0 = .ok (.iconst 0, 1) := by decide +kernel
theorem dX10_isBeside_1 : decode cX10_isBeside 1 = .ok (.istore_n 2, 1) := by decide +kernel
theorem dX10_isBeside_2 : decode cX10_isBeside 2 = .ok (.iconst 0, 1) := by decide +kernel
theorem dX10_isBeside_3 : decode cX10_isBeside 3 = .ok (.istore_n 3, 1) := by decide +kernel
theorem dX10_isBeside_4 : decode cX10_isBeside 4 = .ok (.iload_n 3, 1) := by decide +kernel
theorem dX10_isBeside_5 : decode cX10_isBeside 5 = .ok (.iconst 4, 1) := by decide +kernel
theorem dX10_isBeside_6 : decode cX10_isBeside 6 = .ok (.if_icmp .ge 28, 3) := by decide +kernel
theorem dX10_isBeside_9 : decode cX10_isBeside 9 = .ok (.iload_n 2, 1) := by decide +kernel
theorem dX10_isBeside_10 : decode cX10_isBeside 10 = .ok (.ifCond .ne 12, 3) := by decide +kernel
theorem dX10_isBeside_13 : decode cX10_isBeside 13 = .ok (.iload_n 0, 1) := by decide +kernel
theorem dX10_isBeside_14 : decode cX10_isBeside 14 = .ok (.iload_n 3, 1) := by decide +kernel
theorem dX10_isBeside_15 : decode cX10_isBeside 15 = .ok (.invokestatic 179, 3) := by decide +kernel
theorem dX10_isBeside_18 : decode cX10_isBeside 18 = .ok (.iload_n 1, 1) := by decide +kernel
theorem dX10_isBeside_19 : decode cX10_isBeside 19 = .ok (.if_icmp .ne 7, 3) := by decide +kernel
theorem dX10_isBeside_22 : decode cX10_isBeside 22 = .ok (.iconst 1, 1) := by decide +kernel
theorem dX10_isBeside_23 : decode cX10_isBeside 23 = .ok (.goto 4, 3) := by decide +kernel
theorem dX10_isBeside_26 : decode cX10_isBeside 26 = .ok (.iconst 0, 1) := by decide +kernel
theorem dX10_isBeside_27 : decode cX10_isBeside 27 = .ok (.istore_n 2, 1) := by decide +kernel
theorem dX10_isBeside_28 : decode cX10_isBeside 28 = .ok (.iinc 3 1, 3) := by decide +kernel
theorem dX10_isBeside_31 : decode cX10_isBeside 31 = .ok (.goto (-27), 3) := by decide +kernel
theorem dX10_isBeside_34 : decode cX10_isBeside 34 = .ok (.iload_n 2, 1) := by decide +kernel
theorem dX10_isBeside_35 : decode cX10_isBeside 35 = .ok (.ireturn, 1) := by decide +kernel
theorem dX10_trackAt_0 : decode cX10_trackAt 0 = .ok (.aload_n 0, 1) := by decide +kernel
theorem dX10_trackAt_1 : decode cX10_trackAt 1 = .ok (.getfield 7, 3) := by decide +kernel
theorem dX10_trackAt_4 : decode cX10_trackAt 4 = .ok (.bipush 98, 2) := by decide +kernel
theorem dX10_trackAt_6 : decode cX10_trackAt 6 = .ok (.iload_n 1, 1) := by decide +kernel
theorem dX10_trackAt_7 : decode cX10_trackAt 7 = .ok (.iadd, 1) := by decide +kernel
theorem dX10_trackAt_8 : decode cX10_trackAt 8 = .ok (.iaload, 1) := by decide +kernel
theorem dX10_trackAt_9 : decode cX10_trackAt 9 = .ok (.ireturn, 1) := by decide +kernel
theorem dX10_track_0 : decode cX10_track 0 = .ok (.iload_n 1, 1) := by decide +kernel
theorem dX10_track_1 : decode cX10_track 1 = .ok (.invokestatic 116, 3) := by decide +kernel
theorem dX10_track_4 : decode cX10_track 4 = .ok (.ifCond .ne 6, 3) := by decide +kernel
theorem dX10_track_7 : decode cX10_track 7 = .ok (.ldc 126, 2) := by decide +kernel
theorem dX10_track_9 : decode cX10_track 9 = .ok (.ireturn, 1) := by decide +kernel
theorem dX10_track_10 : decode cX10_track 10 = .ok (.aload_n 0, 1) := by decide +kernel
theorem dX10_track_11 : decode cX10_track 11 = .ok (.getfield 7, 3) := by decide +kernel
theorem dX10_track_14 : decode cX10_track 14 = .ok (.iconst 0, 1) := by decide +kernel
theorem dX10_track_15 : decode cX10_track 15 = .ok (.iaload, 1) := by decide +kernel
theorem dX10_track_16 : decode cX10_track 16 = .ok (.istore_n 2, 1) := by decide +kernel
theorem dX10_track_17 : decode cX10_track 17 = .ok (.iload_n 2, 1) := by decide +kernel
theorem dX10_track_18 : decode cX10_track 18 = .ok (.ifCond .le 20, 3) := by decide +kernel
theorem dX10_track_21 : decode cX10_track 21 = .ok (.aload_n 0, 1) := by decide +kernel
theorem dX10_track_22 : decode cX10_track 22 = .ok (.iload_n 2, 1) := by decide +kernel
theorem dX10_track_23 : decode cX10_track 23 = .ok (.iconst 1, 1) := by decide +kernel
theorem dX10_track_24 : decode cX10_track 24 = .ok (.isub, 1) := by decide +kernel
theorem dX10_track_25 : decode cX10_track 25 = .ok (.invokevirtual 182, 3) := by decide +kernel
theorem dX10_track_28 : decode cX10_track 28 = .ok (.iload_n 1, 1) := by decide +kernel
theorem dX10_track_29 : decode cX10_track 29 = .ok (.invokestatic 185, 3) := by decide +kernel
theorem dX10_track_32 : decode cX10_track 32 = .ok (.ifCond .ne 6, 3) := by decide +kernel
theorem dX10_track_35 : decode cX10_track 35 = .ok (.ldc 188, 2) := by decide +kernel
theorem dX10_track_37 : decode cX10_track 37 = .ok (.ireturn, 1) := by decide +kernel
theorem dX10_track_38 : decode cX10_track 38 = .ok (.iload_n 2, 1) := by decide +kernel
theorem dX10_track_39 : decode cX10_track 39 = .ok (.bipush 24, 2) := by decide +kernel
theorem dX10_track_41 : decode cX10_track 41 = .ok (.if_icmp .ne 6, 3) := by decide +kernel
theorem dX10_track_44 : decode cX10_track 44 = .ok (.ldc 189, 2) := by decide +kernel
theorem dX10_track_46 : decode cX10_track 46 = .ok (.ireturn, 1) := by decide +kernel
theorem dX10_track_47 : decode cX10_track 47 = .ok (.aload_n 0, 1) := by decide +kernel
theorem dX10_track_48 : decode cX10_track 48 = .ok (.getfield 7, 3) := by decide +kernel
theorem dX10_track_51 : decode cX10_track 51 = .ok (.bipush 98, 2) := by decide +kernel
theorem dX10_track_53 : decode cX10_track 53 = .ok (.iload_n 2, 1) := by decide +kernel
theorem dX10_track_54 : decode cX10_track 54 = .ok (.iadd, 1) := by decide +kernel
theorem dX10_track_55 : decode cX10_track 55 = .ok (.iload_n 1, 1) := by decide +kernel
theorem dX10_track_56 : decode cX10_track 56 = .ok (.iastore, 1) := by decide +kernel
theorem dX10_track_57 : decode cX10_track 57 = .ok (.aload_n 0, 1) := by decide +kernel
theorem dX10_track_58 : decode cX10_track 58 = .ok (.getfield 7, 3) := by decide +kernel
theorem dX10_track_61 : decode cX10_track 61 = .ok (.iconst 0, 1) := by decide +kernel
theorem dX10_track_62 : decode cX10_track 62 = .ok (.dup2, 1) := by decide +kernel
theorem dX10_track_63 : decode cX10_track 63 = .ok (.iaload, 1) := by decide +kernel
theorem dX10_track_64 : decode cX10_track 64 = .ok (.iconst 1, 1) := by decide +kernel
theorem dX10_track_65 : decode cX10_track 65 = .ok (.iadd, 1) := by decide +kernel
theorem dX10_track_66 : decode cX10_track 66 = .ok (.iastore, 1) := by decide +kernel
theorem dX10_track_67 : decode cX10_track 67 = .ok (.aload_n 0, 1) := by decide +kernel
theorem dX10_track_68 : decode cX10_track 68 = .ok (.getfield 7, 3) := by decide +kernel
theorem dX10_track_71 : decode cX10_track 71 = .ok (.iconst 0, 1) := by decide +kernel
theorem dX10_track_72 : decode cX10_track 72 = .ok (.iaload, 1) := by decide +kernel
theorem dX10_track_73 : decode cX10_track 73 = .ok (.ireturn, 1) := by decide +kernel
theorem dX10_wipe_0 : decode cX10_wipe 0 = .ok (.aload_n 0, 1) := by decide +kernel
theorem dX10_wipe_1 : decode cX10_wipe 1 = .ok (.iconst 0, 1) := by decide +kernel
theorem dX10_wipe_2 : decode cX10_wipe 2 = .ok (.iconst 0, 1) := by decide +kernel
theorem dX10_wipe_3 : decode cX10_wipe 3 = .ok (.invokevirtual 145, 3) := by decide +kernel
theorem dX10_wipe_6 : decode cX10_wipe 6 = .ok (.ireturn, 1) := by decide +kernel
theorem dX10_at_0 : decode cX10_at 0 = .ok (.iload_n 1, 1) := by decide +kernel
theorem dX10_at_1 : decode cX10_at 1 = .ok (.ifCond .ge 8, 3) := by decide +kernel
theorem dX10_at_4 : decode cX10_at 4 = .ok (.ldc 126, 2) := by decide +kernel
theorem dX10_at_6 : decode cX10_at 6 = .ok (.goto 23, 3) := by decide +kernel
theorem dX10_at_9 : decode cX10_at 9 = .ok (.iload_n 1, 1) := by decide +kernel
theorem dX10_at_10 : decode cX10_at 10 = .ok (.aload_n 0, 1) := by decide +kernel
theorem dX10_at_11 : decode cX10_at 11 = .ok (.getfield 7, 3) := by decide +kernel
theorem dX10_at_14 : decode cX10_at 14 = .ok (.iconst 0, 1) := by decide +kernel
theorem dX10_at_15 : decode cX10_at 15 = .ok (.iaload, 1) := by decide +kernel
theorem dX10_at_16 : decode cX10_at 16 = .ok (.if_icmp .ge 11, 3) := by decide +kernel
theorem dX10_at_19 : decode cX10_at 19 = .ok (.aload_n 0, 1) := by decide +kernel
theorem dX10_at_20 : decode cX10_at 20 = .ok (.iload_n 1, 1) := by decide +kernel
theorem dX10_at_21 : decode cX10_at 21 = .ok (.invokevirtual 182, 3) := by decide +kernel
theorem dX10_at_24 : decode cX10_at 24 = .ok (.goto 5, 3) := by decide +kernel
theorem dX10_at_27 : decode cX10_at 27 = .ok (.ldc 86, 2) := by decide +kernel
theorem dX10_at_29 : decode cX10_at 29 = .ok (.ireturn, 1) := by decide +kernel
theorem dX10_stepInto_0 : decode cX10_stepInto 0 = .ok (.aload_n 0, 1) := by decide +kernel
theorem dX10_stepInto_1 : decode cX10_stepInto 1 = .ok (.iload_n 2, 1) := by decide +kernel
theorem dX10_stepInto_2 : decode cX10_stepInto 2 = .ok (.iconst 1, 1) := by decide +kernel
theorem dX10_stepInto_3 : decode cX10_stepInto 3 = .ok (.invokevirtual 92, 3) := by decide +kernel
theorem dX10_stepInto_6 : decode cX10_stepInto 6 = .ok (.istore_n 3, 1) := by decide +kernel
theorem dX10_stepInto_7 : decode cX10_stepInto 7 = .ok (.iload_n 2, 1) := by decide +kernel
theorem dX10_stepInto_8 : decode cX10_stepInto 8 = .ok (.bipush 6, 2) := by decide +kernel
theorem dX10_stepInto_10 : decode cX10_stepInto 10 = .ok (.idiv, 1) := by decide +kernel
theorem dX10_stepInto_11 : decode cX10_stepInto 11 = .ok (.iload_n 1, 1) := by decide +kernel
theorem dX10_stepInto_12 : decode cX10_stepInto 12 = .ok (.bipush 6, 2) := by decide +kernel
theorem dX10_stepInto_14 : decode cX10_stepInto 14 = .ok (.idiv, 1) := by decide +kernel
theorem dX10_stepInto_15 : decode cX10_stepInto 15 = .ok (.if_icmp .le 7, 3) := by decide +kernel
theorem dX10_stepInto_18 : decode cX10_stepInto 18 = .ok (.iconst 1, 1) := by decide +kernel
theorem dX10_stepInto_19 : decode cX10_stepInto 19 = .ok (.goto 4, 3) := by decide +kernel
theorem dX10_stepInto_22 : decode cX10_stepInto 22 = .ok (.iconst 0, 1) := by decide +kernel
theorem dX10_stepInto_23 : decode cX10_stepInto 23 = .ok (.istore 4, 2) := by decide +kernel
theorem dX10_stepInto_25 : decode cX10_stepInto 25 = .ok (.aload_n 0, 1) := by decide +kernel
theorem dX10_stepInto_26 : decode cX10_stepInto 26 = .ok (.iconst 2, 1) := by decide +kernel
theorem dX10_stepInto_27 : decode cX10_stepInto 27 = .ok (.invokevirtual 96, 3) := by decide +kernel
theorem dX10_stepInto_30 : decode cX10_stepInto 30 = .ok (.istore 5, 2) := by decide +kernel
theorem dX10_stepInto_32 : decode cX10_stepInto 32 = .ok (.iload 5, 2) := by decide +kernel
theorem dX10_stepInto_34 : decode cX10_stepInto 34 = .ok (.ifCond .ge 21, 3) := by decide +kernel
theorem dX10_stepInto_37 : decode cX10_stepInto 37 = .ok (.iconst 1, 1) := by decide +kernel
theorem dX10_stepInto_38 : decode cX10_stepInto 38 = .ok (.iload_n 3, 1) := by decide +kernel
theorem dX10_stepInto_39 : decode cX10_stepInto 39 = .ok (.bipush 10, 2) := by decide +kernel
theorem dX10_stepInto_41 : decode cX10_stepInto 41 = .ok (.idiv, 1) := by decide +kernel
theorem dX10_stepInto_42 : decode cX10_stepInto 42 = .ok (.iadd, 1) := by decide +kernel
theorem dX10_stepInto_43 : decode cX10_stepInto 43 = .ok (.iload 4, 2) := by decide +kernel
theorem dX10_stepInto_45 : decode cX10_stepInto 45 = .ok (.ifCond .eq 7, 3) := by decide +kernel
theorem dX10_stepInto_48 : decode cX10_stepInto 48 = .ok (.iconst 2, 1) := by decide +kernel
theorem dX10_stepInto_49 : decode cX10_stepInto 49 = .ok (.goto 4, 3) := by decide +kernel
theorem dX10_stepInto_52 : decode cX10_stepInto 52 = .ok (.iconst 0, 1) := by decide +kernel
theorem dX10_stepInto_53 : decode cX10_stepInto 53 = .ok (.iadd, 1) := by decide +kernel
theorem dX10_stepInto_54 : decode cX10_stepInto 54 = .ok (.ireturn, 1) := by decide +kernel
theorem dX10_stepInto_55 : decode cX10_stepInto 55 = .ok (.aload_n 0, 1) := by decide +kernel
theorem dX10_stepInto_56 : decode cX10_stepInto 56 = .ok (.getfield 71, 3) := by decide +kernel
theorem dX10_stepInto_59 : decode cX10_stepInto 59 = .ok (.bipush 115, 2) := by decide +kernel
theorem dX10_stepInto_61 : decode cX10_stepInto 61 = .ok (.iload_n 3, 1) := by decide +kernel
theorem dX10_stepInto_62 : decode cX10_stepInto 62 = .ok (.iastore, 1) := by decide +kernel
theorem dX10_stepInto_63 : decode cX10_stepInto 63 = .ok (.aload_n 0, 1) := by decide +kernel
theorem dX10_stepInto_64 : decode cX10_stepInto 64 = .ok (.getfield 71, 3) := by decide +kernel
theorem dX10_stepInto_67 : decode cX10_stepInto 67 = .ok (.bipush 117, 2) := by decide +kernel
theorem dX10_stepInto_69 : decode cX10_stepInto 69 = .ok (.iload 4, 2) := by decide +kernel
theorem dX10_stepInto_71 : decode cX10_stepInto 71 = .ok (.ifCond .eq 7, 3) := by decide +kernel
theorem dX10_stepInto_74 : decode cX10_stepInto 74 = .ok (.iconst 1, 1) := by decide +kernel
theorem dX10_stepInto_75 : decode cX10_stepInto 75 = .ok (.goto 4, 3) := by decide +kernel
theorem dX10_stepInto_78 : decode cX10_stepInto 78 = .ok (.iconst 0, 1) := by decide +kernel
theorem dX10_stepInto_79 : decode cX10_stepInto 79 = .ok (.iastore, 1) := by decide +kernel
theorem dX10_stepInto_80 : decode cX10_stepInto 80 = .ok (.aload_n 0, 1) := by decide +kernel
theorem dX10_stepInto_81 : decode cX10_stepInto 81 = .ok (.iload 5, 2) := by decide +kernel
theorem dX10_stepInto_83 : decode cX10_stepInto 83 = .ok (.invokevirtual 100, 3) := by decide +kernel
theorem dX10_stepInto_86 : decode cX10_stepInto 86 = .ok (.bipush 99, 2) := by decide +kernel
theorem dX10_stepInto_88 : decode cX10_stepInto 88 = .ok (.invokestatic 103, 3) := by decide +kernel
theorem dX10_stepInto_91 : decode cX10_stepInto 91 = .ok (.ireturn, 1) := by decide +kernel
theorem dX10_along_0 : decode cX10_along 0 = .ok (.iload_n 1, 1) := by decide +kernel
theorem dX10_along_1 : decode cX10_along 1 = .ok (.i2l, 1) := by decide +kernel
theorem dX10_along_2 : decode cX10_along 2 = .ok (.lconst 0, 1) := by decide +kernel
theorem dX10_along_3 : decode cX10_along 3 = .ok (.ldc2_w 190, 3) := by decide +kernel
theorem dX10_along_6 : decode cX10_along 6 = .ok (.invokestatic 87, 3) := by decide +kernel
theorem dX10_along_9 : decode cX10_along 9 = .ok (.ifCond .ne 6, 3) := by decide +kernel
theorem dX10_along_12 : decode cX10_along 12 = .ok (.ldc 126, 2) := by decide +kernel
theorem dX10_along_14 : decode cX10_along 14 = .ok (.ireturn, 1) := by decide +kernel
theorem dX10_along_15 : decode cX10_along 15 = .ok (.aload_n 0, 1) := by decide +kernel
theorem dX10_along_16 : decode cX10_along 16 = .ok (.getfield 7, 3) := by decide +kernel
theorem dX10_along_19 : decode cX10_along 19 = .ok (.iconst 0, 1) := by decide +kernel
theorem dX10_along_20 : decode cX10_along 20 = .ok (.iaload, 1) := by decide +kernel
theorem dX10_along_21 : decode cX10_along 21 = .ok (.ifCond .ne 6, 3) := by decide +kernel
theorem dX10_along_24 : decode cX10_along 24 = .ok (.ldc 86, 2) := by decide +kernel
theorem dX10_along_26 : decode cX10_along 26 = .ok (.ireturn, 1) := by decide +kernel
theorem dX10_along_27 : decode cX10_along 27 = .ok (.iconst 0, 1) := by decide +kernel
theorem dX10_along_28 : decode cX10_along 28 = .ok (.istore_n 2, 1) := by decide +kernel
theorem dX10_along_29 : decode cX10_along 29 = .ok (.iconst 0, 1) := by decide +kernel
theorem dX10_along_30 : decode cX10_along 30 = .ok (.istore_n 3, 1) := by decide +kernel
theorem dX10_along_31 : decode cX10_along 31 = .ok (.iconst 0, 1) := by decide +kernel
theorem dX10_along_32 : decode cX10_along 32 = .ok (.istore 4, 2) := by decide +kernel
theorem dX10_along_34 : decode cX10_along 34 = .ok (.aload_n 0, 1) := by decide +kernel
theorem dX10_along_35 : decode cX10_along 35 = .ok (.aload_n 0, 1) := by decide +kernel
theorem dX10_along_36 : decode cX10_along 36 = .ok (.iconst 0, 1) := by decide +kernel
theorem dX10_along_37 : decode cX10_along 37 = .ok (.invokevirtual 182, 3) := by decide +kernel
theorem dX10_along_40 : decode cX10_along 40 = .ok (.iconst 1, 1) := by decide +kernel
theorem dX10_along_41 : decode cX10_along 41 = .ok (.invokevirtual 92, 3) := by decide +kernel
theorem dX10_along_44 : decode cX10_along 44 = .ok (.istore 5, 2) := by decide +kernel
theorem dX10_along_46 : decode cX10_along 46 = .ok (.aload_n 0, 1) := by decide +kernel
theorem dX10_along_47 : decode cX10_along 47 = .ok (.aload_n 0, 1) := by decide +kernel
theorem dX10_along_48 : decode cX10_along 48 = .ok (.iconst 0, 1) := by decide +kernel
theorem dX10_along_49 : decode cX10_along 49 = .ok (.invokevirtual 182, 3) := by decide +kernel
theorem dX10_along_52 : decode cX10_along 52 = .ok (.invokevirtual 131, 3) := by decide +kernel
theorem dX10_along_55 : decode cX10_along 55 = .ok (.istore 6, 2) := by decide +kernel
theorem dX10_along_57 : decode cX10_along 57 = .ok (.iconst 1, 1) := by decide +kernel
theorem dX10_along_58 : decode cX10_along 58 = .ok (.istore 7, 2) := by decide +kernel
theorem dX10_along_60 : decode cX10_along 60 = .ok (.iload 7, 2) := by decide +kernel
theorem dX10_along_62 : decode cX10_along 62 = .ok (.aload_n 0, 1) := by decide +kernel
theorem dX10_along_63 : decode cX10_along 63 = .ok (.getfield 7, 3) := by decide +kernel
theorem dX10_along_66 : decode cX10_along 66 = .ok (.iconst 0, 1) := by decide +kernel
theorem dX10_along_67 : decode cX10_along 67 = .ok (.iaload, 1) := by decide +kernel
theorem dX10_along_68 : decode cX10_along 68 = .ok (.if_icmp .ge 136, 3) := by decide +kernel
theorem dX10_along_71 : decode cX10_along 71 = .ok (.aload_n 0, 1) := by decide +kernel
theorem dX10_along_72 : decode cX10_along 72 = .ok (.iload 7, 2) := by decide +kernel
theorem dX10_along_74 : decode cX10_along 74 = .ok (.invokevirtual 182, 3) := by decide +kernel
theorem dX10_along_77 : decode cX10_along 77 = .ok (.istore 8, 2) := by decide +kernel
theorem dX10_along_79 : decode cX10_along 79 = .ok (.aload_n 0, 1) := by decide +kernel
theorem dX10_along_80 : decode cX10_along 80 = .ok (.iload 8, 2) := by decide +kernel
theorem dX10_along_82 : decode cX10_along 82 = .ok (.invokevirtual 131, 3) := by decide +kernel
theorem dX10_along_85 : decode cX10_along 85 = .ok (.istore 9, 2) := by decide +kernel
theorem dX10_along_87 : decode cX10_along 87 = .ok (.iload_n 2, 1) := by decide +kernel
theorem dX10_along_88 : decode cX10_along 88 = .ok (.iload 9, 2) := by decide +kernel
theorem dX10_along_90 : decode cX10_along 90 = .ok (.iadd, 1) := by decide +kernel
theorem dX10_along_91 : decode cX10_along 91 = .ok (.istore_n 2, 1) := by decide +kernel
theorem dX10_along_92 : decode cX10_along 92 = .ok (.iload_n 3, 1) := by decide +kernel
theorem dX10_along_93 : decode cX10_along 93 = .ok (.aload_n 0, 1) := by decide +kernel
theorem dX10_along_94 : decode cX10_along 94 = .ok (.aload_n 0, 1) := by decide +kernel
theorem dX10_along_95 : decode cX10_along 95 = .ok (.iload 7, 2) := by decide +kernel
theorem dX10_along_97 : decode cX10_along 97 = .ok (.iconst 1, 1) := by decide +kernel
theorem dX10_along_98 : decode cX10_along 98 = .ok (.isub, 1) := by decide +kernel
theorem dX10_along_99 : decode cX10_along 99 = .ok (.invokevirtual 182, 3) := by decide +kernel
theorem dX10_along_102 : decode cX10_along 102 = .ok (.iload 8, 2) := by decide +kernel
theorem dX10_along_104 : decode cX10_along 104 = .ok (.invokevirtual 192, 3) := by decide +kernel
theorem dX10_along_107 : decode cX10_along 107 = .ok (.iadd, 1) := by decide +kernel
theorem dX10_along_108 : decode cX10_along 108 = .ok (.istore_n 3, 1) := by decide +kernel
theorem dX10_along_109 : decode cX10_along 109 = .ok (.iload 4, 2) := by decide +kernel
theorem dX10_along_111 : decode cX10_along 111 = .ok (.iload 7, 2) := by decide +kernel
theorem dX10_along_113 : decode cX10_along 113 = .ok (.iconst 1, 1) := by decide +kernel
theorem dX10_along_114 : decode cX10_along 114 = .ok (.if_icmp .le 38, 3) := by decide +kernel
theorem dX10_along_117 : decode cX10_along 117 = .ok (.iload 8, 2) := by decide +kernel
theorem dX10_along_119 : decode cX10_along 119 = .ok (.aload_n 0, 1) := by decide +kernel
theorem dX10_along_120 : decode cX10_along 120 = .ok (.iload 7, 2) := by decide +kernel
theorem dX10_along_122 : decode cX10_along 122 = .ok (.iconst 1, 1) := by decide +kernel
theorem dX10_along_123 : decode cX10_along 123 = .ok (.isub, 1) := by decide +kernel
theorem dX10_along_124 : decode cX10_along 124 = .ok (.invokevirtual 182, 3) := by decide +kernel
theorem dX10_along_127 : decode cX10_along 127 = .ok (.isub, 1) := by decide +kernel
theorem dX10_along_128 : decode cX10_along 128 = .ok (.aload_n 0, 1) := by decide +kernel
theorem dX10_along_129 : decode cX10_along 129 = .ok (.iload 7, 2) := by decide +kernel
theorem dX10_along_131 : decode cX10_along 131 = .ok (.iconst 1, 1) := by decide +kernel
theorem dX10_along_132 : decode cX10_along 132 = .ok (.isub, 1) := by decide +kernel
theorem dX10_along_133 : decode cX10_along 133 = .ok (.invokevirtual 182, 3) := by decide +kernel
theorem dX10_along_136 : decode cX10_along 136 = .ok (.aload_n 0, 1) := by decide +kernel
theorem dX10_along_137 : decode cX10_along 137 = .ok (.iload 7, 2) := by decide +kernel
theorem dX10_along_139 : decode cX10_along 139 = .ok (.iconst 2, 1) := by decide +kernel
theorem dX10_along_140 : decode cX10_along 140 = .ok (.isub, 1) := by decide +kernel
theorem dX10_along_141 : decode cX10_along 141 = .ok (.invokevirtual 182, 3) := by decide +kernel
theorem dX10_along_144 : decode cX10_along 144 = .ok (.isub, 1) := by decide +kernel
theorem dX10_along_145 : decode cX10_along 145 = .ok (.if_icmp .eq 7, 3) := by decide +kernel
theorem dX10_along_148 : decode cX10_along 148 = .ok (.iconst 1, 1) := by decide +kernel
theorem dX10_along_149 : decode cX10_along 149 = .ok (.goto 4, 3) := by decide +kernel
theorem dX10_along_152 : decode cX10_along 152 = .ok (.iconst 0, 1) := by decide +kernel
theorem dX10_along_153 : decode cX10_along 153 = .ok (.iadd, 1) := by decide +kernel
theorem dX10_along_154 : decode cX10_along 154 = .ok (.istore 4, 2) := by decide +kernel
theorem dX10_along_156 : decode cX10_along 156 = .ok (.aload_n 0, 1) := by decide +kernel
theorem dX10_along_157 : decode cX10_along 157 = .ok (.iload 8, 2) := by decide +kernel
theorem dX10_along_159 : decode cX10_along 159 = .ok (.iconst 1, 1) := by decide +kernel
theorem dX10_along_160 : decode cX10_along 160 = .ok (.invokevirtual 92, 3) := by decide +kernel
theorem dX10_along_163 : decode cX10_along 163 = .ok (.iload 5, 2) := by decide +kernel
theorem dX10_along_165 : decode cX10_along 165 = .ok (.if_icmp .le 13, 3) := by decide +kernel
theorem dX10_along_168 : decode cX10_along 168 = .ok (.aload_n 0, 1) := by decide +kernel
theorem dX10_along_169 : decode cX10_along 169 = .ok (.iload 8, 2) := by decide +kernel
theorem dX10_along_171 : decode cX10_along 171 = .ok (.iconst 1, 1) := by decide +kernel
theorem dX10_along_172 : decode cX10_along 172 = .ok (.invokevirtual 92, 3) := by decide +kernel
theorem dX10_along_175 : decode cX10_along 175 = .ok (.goto 5, 3) := by decide +kernel
theorem dX10_along_178 : decode cX10_along 178 = .ok (.iload 5, 2) := by decide +kernel
theorem dX10_along_180 : decode cX10_along 180 = .ok (.istore 5, 2) := by decide +kernel
theorem dX10_along_182 : decode cX10_along 182 = .ok (.iload 9, 2) := by decide +kernel
theorem dX10_along_184 : decode cX10_along 184 = .ok (.iload 6, 2) := by decide +kernel
theorem dX10_along_186 : decode cX10_along 186 = .ok (.if_icmp .le 8, 3) := by decide +kernel
theorem dX10_along_189 : decode cX10_along 189 = .ok (.iload 9, 2) := by decide +kernel
theorem dX10_along_191 : decode cX10_along 191 = .ok (.goto 5, 3) := by decide +kernel
theorem dX10_along_194 : decode cX10_along 194 = .ok (.iload 6, 2) := by decide +kernel
theorem dX10_along_196 : decode cX10_along 196 = .ok (.istore 6, 2) := by decide +kernel
theorem dX10_along_198 : decode cX10_along 198 = .ok (.iinc 7 1, 3) := by decide +kernel
theorem dX10_along_201 : decode cX10_along 201 = .ok (.goto (-141), 3) := by decide +kernel
theorem dX10_along_204 : decode cX10_along 204 = .ok (.iload_n 1, 1) := by decide +kernel
theorem dX10_along_205 : decode cX10_along 205 = .ok (.tableswitch 41 0 3 #[31, 33, 35, 38], 31) := by decide +kernel
theorem dX10_along_236 : decode cX10_along 236 = .ok (.iload_n 2, 1) := by decide +kernel
theorem dX10_along_237 : decode cX10_along 237 = .ok (.ireturn, 1) := by decide +kernel
theorem dX10_along_238 : decode cX10_along 238 = .ok (.iload_n 3, 1) := by decide +kernel
theorem dX10_along_239 : decode cX10_along 239 = .ok (.ireturn, 1) := by decide +kernel
theorem dX10_along_240 : decode cX10_along 240 = .ok (.iload 4, 2) := by decide +kernel
theorem dX10_along_242 : decode cX10_along 242 = .ok (.ireturn, 1) := by decide +kernel
theorem dX10_along_243 : decode cX10_along 243 = .ok (.iload 5, 2) := by decide +kernel
theorem dX10_along_245 : decode cX10_along 245 = .ok (.ireturn, 1) := by decide +kernel
theorem dX10_along_246 : decode cX10_along 246 = .ok (.iload 6, 2) := by decide +kernel
theorem dX10_along_248 : decode cX10_along 248 = .ok (.ireturn, 1) := by decide +kernel
theorem dX10_isBound_0 : decode cX10_isBound 0 = .ok (.iload_n 0, 1) := by decide +kernel
theorem dX10_isBound_1 : decode cX10_isBound 1 = .ok (.i2l, 1) := by decide +kernel
theorem dX10_isBound_2 : decode cX10_isBound 2 = .ok (.lconst 0, 1) := by decide +kernel
theorem dX10_isBound_3 : decode cX10_isBound 3 = .ok (.ldc2_w 195, 3) := by decide +kernel
theorem dX10_isBound_6 : decode cX10_isBound 6 = .ok (.invokestatic 87, 3) := by decide +kernel
theorem dX10_isBound_9 : decode cX10_isBound 9 = .ok (.ireturn, 1) := by decide +kernel
theorem dX10_turnBack_0 : decode cX10_turnBack 0 = .ok (.iload_n 1, 1) := by decide +kernel
theorem dX10_turnBack_1 : decode cX10_turnBack 1 = .ok (.invokestatic 197, 3) := by decide +kernel
theorem dX10_turnBack_4 : decode cX10_turnBack 4 = .ok (.ifCond .ne 6, 3) := by decide +kernel
theorem dX10_turnBack_7 : decode cX10_turnBack 7 = .ok (.ldc 126, 2) := by decide +kernel
theorem dX10_turnBack_9 : decode cX10_turnBack 9 = .ok (.ireturn, 1) := by decide +kernel
theorem dX10_turnBack_10 : decode cX10_turnBack 10 = .ok (.iconst 0, 1) := by decide +kernel
theorem dX10_turnBack_11 : decode cX10_turnBack 11 = .ok (.istore_n 2, 1) := by decide +kernel
theorem dX10_turnBack_12 : decode cX10_turnBack 12 = .ok (.iload_n 2, 1) := by decide +kernel
theorem dX10_turnBack_13 : decode cX10_turnBack 13 = .ok (.aload_n 0, 1) := by decide +kernel
theorem dX10_turnBack_14 : decode cX10_turnBack 14 = .ok (.getfield 7, 3) := by decide +kernel
theorem dX10_turnBack_17 : decode cX10_turnBack 17 = .ok (.iconst 0, 1) := by decide +kernel
theorem dX10_turnBack_18 : decode cX10_turnBack 18 = .ok (.iaload, 1) := by decide +kernel
theorem dX10_turnBack_19 : decode cX10_turnBack 19 = .ok (.if_icmp .ge 24, 3) := by decide +kernel
theorem dX10_turnBack_22 : decode cX10_turnBack 22 = .ok (.aload_n 0, 1) := by decide +kernel
theorem dX10_turnBack_23 : decode cX10_turnBack 23 = .ok (.aload_n 0, 1) := by decide +kernel
theorem dX10_turnBack_24 : decode cX10_turnBack 24 = .ok (.iload_n 2, 1) := by decide +kernel
theorem dX10_turnBack_25 : decode cX10_turnBack 25 = .ok (.invokevirtual 182, 3) := by decide +kernel
theorem dX10_turnBack_28 : decode cX10_turnBack 28 = .ok (.invokevirtual 131, 3) := by decide +kernel
theorem dX10_turnBack_31 : decode cX10_turnBack 31 = .ok (.iload_n 1, 1) := by decide +kernel
theorem dX10_turnBack_32 : decode cX10_turnBack 32 = .ok (.if_icmp .le 5, 3) := by decide +kernel
theorem dX10_turnBack_35 : decode cX10_turnBack 35 = .ok (.iload_n 2, 1) := by decide +kernel
theorem dX10_turnBack_36 : decode cX10_turnBack 36 = .ok (.ireturn, 1) := by decide +kernel
theorem dX10_turnBack_37 : decode cX10_turnBack 37 = .ok (.iinc 2 1, 3) := by decide +kernel
theorem dX10_turnBack_40 : decode cX10_turnBack 40 = .ok (.goto (-28), 3) := by decide +kernel
theorem dX10_turnBack_43 : decode cX10_turnBack 43 = .ok (.ldc 86, 2) := by decide +kernel
theorem dX10_turnBack_45 : decode cX10_turnBack 45 = .ok (.ireturn, 1) := by decide +kernel
theorem dX10_knowsRisks_0 : decode cX10_knowsRisks 0 = .ok (.iconst 0, 1) := by decide +kernel
theorem dX10_knowsRisks_1 : decode cX10_knowsRisks 1 = .ok (.istore_n 1, 1) := by decide +kernel
theorem dX10_knowsRisks_2 : decode cX10_knowsRisks 2 = .ok (.iload_n 1, 1) := by decide +kernel
theorem dX10_knowsRisks_3 : decode cX10_knowsRisks 3 = .ok (.bipush 30, 2) := by decide +kernel
theorem dX10_knowsRisks_5 : decode cX10_knowsRisks 5 = .ok (.if_icmp .ge 20, 3) := by decide +kernel
theorem dX10_knowsRisks_8 : decode cX10_knowsRisks 8 = .ok (.aload_n 0, 1) := by decide +kernel
theorem dX10_knowsRisks_9 : decode cX10_knowsRisks 9 = .ok (.getfield 49, 3) := by decide +kernel
theorem dX10_knowsRisks_12 : decode cX10_knowsRisks 12 = .ok (.iload_n 1, 1) := by decide +kernel
theorem dX10_knowsRisks_13 : decode cX10_knowsRisks 13 = .ok (.aload_n 0, 1) := by decide +kernel
theorem dX10_knowsRisks_14 : decode cX10_knowsRisks 14 = .ok (.iload_n 1, 1) := by decide +kernel
theorem dX10_knowsRisks_15 : decode cX10_knowsRisks 15 = .ok (.invokevirtual 131, 3) := by decide +kernel
theorem dX10_knowsRisks_18 : decode cX10_knowsRisks 18 = .ok (.iastore, 1) := by decide +kernel
theorem dX10_knowsRisks_19 : decode cX10_knowsRisks 19 = .ok (.iinc 1 1, 3) := by decide +kernel
theorem dX10_knowsRisks_22 : decode cX10_knowsRisks 22 = .ok (.goto (-20), 3) := by decide +kernel
theorem dX10_knowsRisks_25 : decode cX10_knowsRisks 25 = .ok (.return_, 1) := by decide +kernel
theorem dX10_isLess_0 : decode cX10_isLess 0 = .ok (.aload_n 0, 1) := by decide +kernel
theorem dX10_isLess_1 : decode cX10_isLess 1 = .ok (.getfield 52, 3) := by decide +kernel
theorem dX10_isLess_4 : decode cX10_isLess 4 = .ok (.iload_n 2, 1) := by decide +kernel
theorem dX10_isLess_5 : decode cX10_isLess 5 = .ok (.iaload, 1) := by decide +kernel
theorem dX10_isLess_6 : decode cX10_isLess 6 = .ok (.aload_n 0, 1) := by decide +kernel
theorem dX10_isLess_7 : decode cX10_isLess 7 = .ok (.getfield 49, 3) := by decide +kernel
theorem dX10_isLess_10 : decode cX10_isLess 10 = .ok (.iload_n 2, 1) := by decide +kernel
theorem dX10_isLess_11 : decode cX10_isLess 11 = .ok (.iaload, 1) := by decide +kernel
theorem dX10_isLess_12 : decode cX10_isLess 12 = .ok (.iadd, 1) := by decide +kernel
theorem dX10_isLess_13 : decode cX10_isLess 13 = .ok (.istore_n 3, 1) := by decide +kernel
theorem dX10_isLess_14 : decode cX10_isLess 14 = .ok (.aload_n 0, 1) := by decide +kernel
theorem dX10_isLess_15 : decode cX10_isLess 15 = .ok (.getfield 52, 3) := by decide +kernel
theorem dX10_isLess_18 : decode cX10_isLess 18 = .ok (.iload_n 2, 1) := by decide +kernel
theorem dX10_isLess_19 : decode cX10_isLess 19 = .ok (.iaload, 1) := by decide +kernel
theorem dX10_isLess_20 : decode cX10_isLess 20 = .ok (.ldc 200, 2) := by decide +kernel
theorem dX10_isLess_22 : decode cX10_isLess 22 = .ok (.if_icmp .ge 44, 3) := by decide +kernel
theorem dX10_isLess_25 : decode cX10_isLess 25 = .ok (.iload_n 3, 1) := by decide +kernel
theorem dX10_isLess_26 : decode cX10_isLess 26 = .ok (.aload_n 0, 1) := by decide +kernel
theorem dX10_isLess_27 : decode cX10_isLess 27 = .ok (.getfield 52, 3) := by decide +kernel
theorem dX10_isLess_30 : decode cX10_isLess 30 = .ok (.iload_n 1, 1) := by decide +kernel
theorem dX10_isLess_31 : decode cX10_isLess 31 = .ok (.iaload, 1) := by decide +kernel
theorem dX10_isLess_32 : decode cX10_isLess 32 = .ok (.if_icmp .lt 30, 3) := by decide +kernel
theorem dX10_isLess_35 : decode cX10_isLess 35 = .ok (.iload_n 3, 1) := by decide +kernel
theorem dX10_isLess_36 : decode cX10_isLess 36 = .ok (.aload_n 0, 1) := by decide +kernel
theorem dX10_isLess_37 : decode cX10_isLess 37 = .ok (.getfield 52, 3) := by decide +kernel
theorem dX10_isLess_40 : decode cX10_isLess 40 = .ok (.iload_n 1, 1) := by decide +kernel
theorem dX10_isLess_41 : decode cX10_isLess 41 = .ok (.iaload, 1) := by decide +kernel
theorem dX10_isLess_42 : decode cX10_isLess 42 = .ok (.if_icmp .ne 24, 3) := by decide +kernel
theorem dX10_isLess_45 : decode cX10_isLess 45 = .ok (.aload_n 0, 1) := by decide +kernel
theorem dX10_isLess_46 : decode cX10_isLess 46 = .ok (.getfield 55, 3) := by decide +kernel
theorem dX10_isLess_49 : decode cX10_isLess 49 = .ok (.iload_n 2, 1) := by decide +kernel
theorem dX10_isLess_50 : decode cX10_isLess 50 = .ok (.iaload, 1) := by decide +kernel
theorem dX10_isLess_51 : decode cX10_isLess 51 = .ok (.iconst 1, 1) := by decide +kernel
theorem dX10_isLess_52 : decode cX10_isLess 52 = .ok (.iadd, 1) := by decide +kernel
theorem dX10_isLess_53 : decode cX10_isLess 53 = .ok (.aload_n 0, 1) := by decide +kernel
theorem dX10_isLess_54 : decode cX10_isLess 54 = .ok (.getfield 55, 3) := by decide +kernel
theorem dX10_isLess_57 : decode cX10_isLess 57 = .ok (.iload_n 1, 1) := by decide +kernel
theorem dX10_isLess_58 : decode cX10_isLess 58 = .ok (.iaload, 1) := by decide +kernel
theorem dX10_isLess_59 : decode cX10_isLess 59 = .ok (.if_icmp .ge 7, 3) := by decide +kernel
theorem dX10_isLess_62 : decode cX10_isLess 62 = .ok (.iconst 1, 1) := by decide +kernel
theorem dX10_isLess_63 : decode cX10_isLess 63 = .ok (.goto 4, 3) := by decide +kernel
theorem dX10_isLess_66 : decode cX10_isLess 66 = .ok (.iconst 0, 1) := by decide +kernel
theorem dX10_isLess_67 : decode cX10_isLess 67 = .ok (.ireturn, 1) := by decide +kernel
theorem dX10_findWays_0 : decode cX10_findWays 0 = .ok (.aload_n 0, 1) := by decide +kernel
theorem dX10_findWays_1 : decode cX10_findWays 1 = .ok (.invokevirtual 201, 3) := by decide +kernel
theorem dX10_findWays_4 : decode cX10_findWays 4 = .ok (.iconst 0, 1) := by decide +kernel
theorem dX10_findWays_5 : decode cX10_findWays 5 = .ok (.istore_n 2, 1) := by decide +kernel
theorem dX10_findWays_6 : decode cX10_findWays 6 = .ok (.iload_n 2, 1) := by decide +kernel
theorem dX10_findWays_7 : decode cX10_findWays 7 = .ok (.bipush 30, 2) := by decide +kernel
theorem dX10_findWays_9 : decode cX10_findWays 9 = .ok (.if_icmp .ge 33, 3) := by decide +kernel
theorem dX10_findWays_12 : decode cX10_findWays 12 = .ok (.aload_n 0, 1) := by decide +kernel
theorem dX10_findWays_13 : decode cX10_findWays 13 = .ok (.getfield 52, 3) := by decide +kernel
theorem dX10_findWays_16 : decode cX10_findWays 16 = .ok (.iload_n 2, 1) := by decide +kernel
theorem dX10_findWays_17 : decode cX10_findWays 17 = .ok (.iload_n 2, 1) := by decide +kernel
theorem dX10_findWays_18 : decode cX10_findWays 18 = .ok (.iload_n 1, 1) := by decide +kernel
theorem dX10_findWays_19 : decode cX10_findWays 19 = .ok (.if_icmp .ne 7, 3) := by decide +kernel
theorem dX10_findWays_22 : decode cX10_findWays 22 = .ok (.iconst 0, 1) := by decide +kernel
theorem dX10_findWays_23 : decode cX10_findWays 23 = .ok (.goto 5, 3) := by decide +kernel
theorem dX10_findWays_26 : decode cX10_findWays 26 = .ok (.ldc 200, 2) := by decide +kernel
theorem dX10_findWays_28 : decode cX10_findWays 28 = .ok (.iastore, 1) := by decide +kernel
theorem dX10_findWays_29 : decode cX10_findWays 29 = .ok (.aload_n 0, 1) := by decide +kernel
theorem dX10_findWays_30 : decode cX10_findWays 30 = .ok (.getfield 55, 3) := by decide +kernel
theorem dX10_findWays_33 : decode cX10_findWays 33 = .ok (.iload_n 2, 1) := by decide +kernel
theorem dX10_findWays_34 : decode cX10_findWays 34 = .ok (.iconst 0, 1) := by decide +kernel
theorem dX10_findWays_35 : decode cX10_findWays 35 = .ok (.iastore, 1) := by decide +kernel
theorem dX10_findWays_36 : decode cX10_findWays 36 = .ok (.iinc 2 1, 3) := by decide +kernel
theorem dX10_findWays_39 : decode cX10_findWays 39 = .ok (.goto (-33), 3) := by decide +kernel
theorem dX10_findWays_42 : decode cX10_findWays 42 = .ok (.iconst 1, 1) := by decide +kernel
theorem dX10_findWays_43 : decode cX10_findWays 43 = .ok (.istore_n 2, 1) := by decide +kernel
theorem dX10_findWays_44 : decode cX10_findWays 44 = .ok (.iload_n 2, 1) := by decide +kernel
theorem dX10_findWays_45 : decode cX10_findWays 45 = .ok (.ifCond .eq 103, 3) := by decide +kernel
theorem dX10_findWays_48 : decode cX10_findWays 48 = .ok (.iconst 0, 1) := by decide +kernel
theorem dX10_findWays_49 : decode cX10_findWays 49 = .ok (.istore_n 2, 1) := by decide +kernel
theorem dX10_findWays_50 : decode cX10_findWays 50 = .ok (.iconst 0, 1) := by decide +kernel
theorem dX10_findWays_51 : decode cX10_findWays 51 = .ok (.istore_n 3, 1) := by decide +kernel
theorem dX10_findWays_52 : decode cX10_findWays 52 = .ok (.iload_n 3, 1) := by decide +kernel
theorem dX10_findWays_53 : decode cX10_findWays 53 = .ok (.bipush 30, 2) := by decide +kernel
theorem dX10_findWays_55 : decode cX10_findWays 55 = .ok (.if_icmp .ge 90, 3) := by decide +kernel
theorem dX10_findWays_58 : decode cX10_findWays 58 = .ok (.iconst 0, 1) := by decide +kernel
theorem dX10_findWays_59 : decode cX10_findWays 59 = .ok (.istore 4, 2) := by decide +kernel
theorem dX10_findWays_61 : decode cX10_findWays 61 = .ok (.iload 4, 2) := by decide +kernel
theorem dX10_findWays_63 : decode cX10_findWays 63 = .ok (.iconst 4, 1) := by decide +kernel
theorem dX10_findWays_64 : decode cX10_findWays 64 = .ok (.if_icmp .ge 75, 3) := by decide +kernel
theorem dX10_findWays_67 : decode cX10_findWays 67 = .ok (.iload_n 3, 1) := by decide +kernel
theorem dX10_findWays_68 : decode cX10_findWays 68 = .ok (.iload 4, 2) := by decide +kernel
theorem dX10_findWays_70 : decode cX10_findWays 70 = .ok (.invokestatic 179, 3) := by decide +kernel
theorem dX10_findWays_73 : decode cX10_findWays 73 = .ok (.istore 5, 2) := by decide +kernel
theorem dX10_findWays_75 : decode cX10_findWays 75 = .ok (.iload_n 3, 1) := by decide +kernel
theorem dX10_findWays_76 : decode cX10_findWays 76 = .ok (.iload_n 1, 1) := by decide +kernel
theorem dX10_findWays_77 : decode cX10_findWays 77 = .ok (.if_icmp .eq 56, 3) := by decide +kernel
theorem dX10_findWays_80 : decode cX10_findWays 80 = .ok (.iload 5, 2) := by decide +kernel
theorem dX10_findWays_82 : decode cX10_findWays 82 = .ok (.ifCond .lt 51, 3) := by decide +kernel
theorem dX10_findWays_85 : decode cX10_findWays 85 = .ok (.aload_n 0, 1) := by decide +kernel
theorem dX10_findWays_86 : decode cX10_findWays 86 = .ok (.iload_n 3, 1) := by decide +kernel
theorem dX10_findWays_87 : decode cX10_findWays 87 = .ok (.iload 5, 2) := by decide +kernel
theorem dX10_findWays_89 : decode cX10_findWays 89 = .ok (.invokevirtual 204, 3) := by decide +kernel
theorem dX10_findWays_92 : decode cX10_findWays 92 = .ok (.ifCond .eq 41, 3) := by decide +kernel
theorem dX10_findWays_95 : decode cX10_findWays 95 = .ok (.aload_n 0, 1) := by decide +kernel
theorem dX10_findWays_96 : decode cX10_findWays 96 = .ok (.getfield 52, 3) := by decide +kernel
theorem dX10_findWays_99 : decode cX10_findWays 99 = .ok (.iload_n 3, 1) := by decide +kernel
theorem dX10_findWays_100 : decode cX10_findWays 100 = .ok (.aload_n 0, 1) := by decide +kernel
theorem dX10_findWays_101 : decode cX10_findWays 101 = .ok (.getfield 52, 3) := by decide +kernel
theorem dX10_findWays_104 : decode cX10_findWays 104 = .ok (.iload 5, 2) := by decide +kernel
theorem dX10_findWays_106 : decode cX10_findWays 106 = .ok (.iaload, 1) := by decide +kernel
theorem dX10_findWays_107 : decode cX10_findWays 107 = .ok (.aload_n 0, 1) := by decide +kernel
theorem dX10_findWays_108 : decode cX10_findWays 108 = .ok (.getfield 49, 3) := by decide +kernel
theorem dX10_findWays_111 : decode cX10_findWays 111 = .ok (.iload 5, 2) := by decide +kernel
theorem dX10_findWays_113 : decode cX10_findWays 113 = .ok (.iaload, 1) := by decide +kernel
theorem dX10_findWays_114 : decode cX10_findWays 114 = .ok (.iadd, 1) := by decide +kernel
theorem dX10_findWays_115 : decode cX10_findWays 115 = .ok (.iastore, 1) := by decide +kernel
theorem dX10_findWays_116 : decode cX10_findWays 116 = .ok (.aload_n 0, 1) := by decide +kernel
theorem dX10_findWays_117 : decode cX10_findWays 117 = .ok (.getfield 55, 3) := by decide +kernel
theorem dX10_findWays_120 : decode cX10_findWays 120 = .ok (.iload_n 3, 1) := by decide +kernel
theorem dX10_findWays_121 : decode cX10_findWays 121 = .ok (.aload_n 0, 1) := by decide +kernel
theorem dX10_findWays_122 : decode cX10_findWays 122 = .ok (.getfield 55, 3) := by decide +kernel
theorem dX10_findWays_125 : decode cX10_findWays 125 = .ok (.iload 5, 2) := by decide +kernel
theorem dX10_findWays_127 : decode cX10_findWays 127 = .ok (.iaload, 1) := by decide +kernel
theorem dX10_findWays_128 : decode cX10_findWays 128 = .ok (.iconst 1, 1) := by decide +kernel
theorem dX10_findWays_129 : decode cX10_findWays 129 = .ok (.iadd, 1) := by decide +kernel
theorem dX10_findWays_130 : decode cX10_findWays 130 = .ok (.iastore, 1) := by decide +kernel
theorem dX10_findWays_131 : decode cX10_findWays 131 = .ok (.iconst 1, 1) := by decide +kernel
theorem dX10_findWays_132 : decode cX10_findWays 132 = .ok (.istore_n 2, 1) := by decide +kernel
theorem dX10_findWays_133 : decode cX10_findWays 133 = .ok (.iinc 4 1, 3) := by decide +kernel
theorem dX10_findWays_136 : decode cX10_findWays 136 = .ok (.goto (-75), 3) := by decide +kernel
theorem dX10_findWays_139 : decode cX10_findWays 139 = .ok (.iinc 3 1, 3) := by decide +kernel
theorem dX10_findWays_142 : decode cX10_findWays 142 = .ok (.goto (-90), 3) := by decide +kernel
theorem dX10_findWays_145 : decode cX10_findWays 145 = .ok (.goto (-101), 3) := by decide +kernel
theorem dX10_findWays_148 : decode cX10_findWays 148 = .ok (.return_, 1) := by decide +kernel
theorem dX10_way_0 : decode cX10_way 0 = .ok (.iload_n 1, 1) := by decide +kernel
theorem dX10_way_1 : decode cX10_way 1 = .ok (.invokestatic 116, 3) := by decide +kernel
theorem dX10_way_4 : decode cX10_way 4 = .ok (.ifCond .eq 28, 3) := by decide +kernel
theorem dX10_way_7 : decode cX10_way 7 = .ok (.iload_n 2, 1) := by decide +kernel
theorem dX10_way_8 : decode cX10_way 8 = .ok (.invokestatic 116, 3) := by decide +kernel
theorem dX10_way_11 : decode cX10_way 11 = .ok (.ifCond .eq 21, 3) := by decide +kernel
theorem dX10_way_14 : decode cX10_way 14 = .ok (.iload_n 3, 1) := by decide +kernel
theorem dX10_way_15 : decode cX10_way 15 = .ok (.i2l, 1) := by decide +kernel
theorem dX10_way_16 : decode cX10_way 16 = .ok (.lconst 0, 1) := by decide +kernel
theorem dX10_way_17 : decode cX10_way 17 = .ok (.ldc2_w 148, 3) := by decide +kernel
theorem dX10_way_20 : decode cX10_way 20 = .ok (.invokestatic 87, 3) := by decide +kernel
theorem dX10_way_23 : decode cX10_way 23 = .ok (.ifCond .ne 12, 3) := by decide +kernel
theorem dX10_way_26 : decode cX10_way 26 = .ok (.iload_n 3, 1) := by decide +kernel
theorem dX10_way_27 : decode cX10_way 27 = .ok (.bipush 10, 2) := by decide +kernel
theorem dX10_way_29 : decode cX10_way 29 = .ok (.if_icmp .ge 6, 3) := by decide +kernel
theorem dX10_way_32 : decode cX10_way 32 = .ok (.ldc 126, 2) := by decide +kernel
theorem dX10_way_34 : decode cX10_way 34 = .ok (.ireturn, 1) := by decide +kernel
theorem dX10_way_35 : decode cX10_way 35 = .ok (.aload_n 0, 1) := by decide +kernel
theorem dX10_way_36 : decode cX10_way 36 = .ok (.iload_n 2, 1) := by decide +kernel
theorem dX10_way_37 : decode cX10_way 37 = .ok (.invokevirtual 207, 3) := by decide +kernel
theorem dX10_way_40 : decode cX10_way 40 = .ok (.iload_n 3, 1) := by decide +kernel
theorem dX10_way_41 : decode cX10_way 41 = .ok (.iconst 2, 1) := by decide +kernel
theorem dX10_way_42 : decode cX10_way 42 = .ok (.if_icmp .ge 23, 3) := by decide +kernel
theorem dX10_way_45 : decode cX10_way 45 = .ok (.iload_n 3, 1) := by decide +kernel
theorem dX10_way_46 : decode cX10_way 46 = .ok (.ifCond .ne 12, 3) := by decide +kernel
theorem dX10_way_49 : decode cX10_way 49 = .ok (.aload_n 0, 1) := by decide +kernel
theorem dX10_way_50 : decode cX10_way 50 = .ok (.getfield 52, 3) := by decide +kernel
theorem dX10_way_53 : decode cX10_way 53 = .ok (.iload_n 1, 1) := by decide +kernel
theorem dX10_way_54 : decode cX10_way 54 = .ok (.iaload, 1) := by decide +kernel
theorem dX10_way_55 : decode cX10_way 55 = .ok (.goto 9, 3) := by decide +kernel
theorem dX10_way_58 : decode cX10_way 58 = .ok (.aload_n 0, 1) := by decide +kernel
theorem dX10_way_59 : decode cX10_way 59 = .ok (.getfield 55, 3) := by decide +kernel
theorem dX10_way_62 : decode cX10_way 62 = .ok (.iload_n 1, 1) := by decide +kernel
theorem dX10_way_63 : decode cX10_way 63 = .ok (.iaload, 1) := by decide +kernel
theorem dX10_way_64 : decode cX10_way 64 = .ok (.ireturn, 1) := by decide +kernel
theorem dX10_way_65 : decode cX10_way 65 = .ok (.iconst 1, 1) := by decide +kernel
theorem dX10_way_66 : decode cX10_way 66 = .ok (.istore 4, 2) := by decide +kernel
theorem dX10_way_68 : decode cX10_way 68 = .ok (.aload_n 0, 1) := by decide +kernel
theorem dX10_way_69 : decode cX10_way 69 = .ok (.getfield 58, 3) := by decide +kernel
theorem dX10_way_72 : decode cX10_way 72 = .ok (.iconst 0, 1) := by decide +kernel
theorem dX10_way_73 : decode cX10_way 73 = .ok (.iload_n 1, 1) := by decide +kernel
theorem dX10_way_74 : decode cX10_way 74 = .ok (.iastore, 1) := by decide +kernel
theorem dX10_way_75 : decode cX10_way 75 = .ok (.iconst 0, 1) := by decide +kernel
theorem dX10_way_76 : decode cX10_way 76 = .ok (.istore 5, 2) := by decide +kernel
theorem dX10_way_78 : decode cX10_way 78 = .ok (.aload_n 0, 1) := by decide +kernel
theorem dX10_way_79 : decode cX10_way 79 = .ok (.getfield 58, 3) := by decide +kernel
theorem dX10_way_82 : decode cX10_way 82 = .ok (.iload 4, 2) := by decide +kernel
theorem dX10_way_84 : decode cX10_way 84 = .ok (.iconst 1, 1) := by decide +kernel
theorem dX10_way_85 : decode cX10_way 85 = .ok (.isub, 1) := by decide +kernel
theorem dX10_way_86 : decode cX10_way 86 = .ok (.iaload, 1) := by decide +kernel
theorem dX10_way_87 : decode cX10_way 87 = .ok (.iload_n 2, 1) := by decide +kernel
theorem dX10_way_88 : decode cX10_way 88 = .ok (.if_icmp .eq 143, 3) := by decide +kernel
theorem dX10_way_91 : decode cX10_way 91 = .ok (.aload_n 0, 1) := by decide +kernel
theorem dX10_way_92 : decode cX10_way 92 = .ok (.getfield 58, 3) := by decide +kernel
theorem dX10_way_95 : decode cX10_way 95 = .ok (.iload 4, 2) := by decide +kernel
theorem dX10_way_97 : decode cX10_way 97 = .ok (.iconst 1, 1) := by decide +kernel
theorem dX10_way_98 : decode cX10_way 98 = .ok (.isub, 1) := by decide +kernel
theorem dX10_way_99 : decode cX10_way 99 = .ok (.iaload, 1) := by decide +kernel
theorem dX10_way_100 : decode cX10_way 100 = .ok (.istore 6, 2) := by decide +kernel
theorem dX10_way_102 : decode cX10_way 102 = .ok (.iconst (-1), 1) := by decide +kernel
theorem dX10_way_103 : decode cX10_way 103 = .ok (.istore 7, 2) := by decide +kernel
theorem dX10_way_105 : decode cX10_way 105 = .ok (.iconst 0, 1) := by decide +kernel
theorem dX10_way_106 : decode cX10_way 106 = .ok (.istore 8, 2) := by decide +kernel
theorem dX10_way_108 : decode cX10_way 108 = .ok (.iload 8, 2) := by decide +kernel
theorem dX10_way_110 : decode cX10_way 110 = .ok (.iconst 4, 1) := by decide +kernel
theorem dX10_way_111 : decode cX10_way 111 = .ok (.if_icmp .ge 92, 3) := by decide +kernel
theorem dX10_way_114 : decode cX10_way 114 = .ok (.iload 7, 2) := by decide +kernel
theorem dX10_way_116 : decode cX10_way 116 = .ok (.ifCond .ge 87, 3) := by decide +kernel
theorem dX10_way_119 : decode cX10_way 119 = .ok (.iload 6, 2) := by decide +kernel
theorem dX10_way_121 : decode cX10_way 121 = .ok (.iload 8, 2) := by decide +kernel
theorem dX10_way_123 : decode cX10_way 123 = .ok (.invokestatic 179, 3) := by decide +kernel
theorem dX10_way_126 : decode cX10_way 126 = .ok (.istore 9, 2) := by decide +kernel
theorem dX10_way_128 : decode cX10_way 128 = .ok (.iload 9, 2) := by decide +kernel
theorem dX10_way_130 : decode cX10_way 130 = .ok (.ifCond .lt 51, 3) := by decide +kernel
theorem dX10_way_133 : decode cX10_way 133 = .ok (.aload_n 0, 1) := by decide +kernel
theorem dX10_way_134 : decode cX10_way 134 = .ok (.getfield 52, 3) := by decide +kernel
theorem dX10_way_137 : decode cX10_way 137 = .ok (.iload 9, 2) := by decide +kernel
theorem dX10_way_139 : decode cX10_way 139 = .ok (.iaload, 1) := by decide +kernel
theorem dX10_way_140 : decode cX10_way 140 = .ok (.aload_n 0, 1) := by decide +kernel
theorem dX10_way_141 : decode cX10_way 141 = .ok (.getfield 49, 3) := by decide +kernel
theorem dX10_way_144 : decode cX10_way 144 = .ok (.iload 9, 2) := by decide +kernel
theorem dX10_way_146 : decode cX10_way 146 = .ok (.iaload, 1) := by decide +kernel
theorem dX10_way_147 : decode cX10_way 147 = .ok (.iadd, 1) := by decide +kernel
theorem dX10_way_148 : decode cX10_way 148 = .ok (.aload_n 0, 1) := by decide +kernel
theorem dX10_way_149 : decode cX10_way 149 = .ok (.getfield 52, 3) := by decide +kernel
theorem dX10_way_152 : decode cX10_way 152 = .ok (.iload 6, 2) := by decide +kernel
theorem dX10_way_154 : decode cX10_way 154 = .ok (.iaload, 1) := by decide +kernel
theorem dX10_way_155 : decode cX10_way 155 = .ok (.if_icmp .ne 26, 3) := by decide +kernel
theorem dX10_way_158 : decode cX10_way 158 = .ok (.aload_n 0, 1) := by decide +kernel
theorem dX10_way_159 : decode cX10_way 159 = .ok (.getfield 55, 3) := by decide +kernel
theorem dX10_way_162 : decode cX10_way 162 = .ok (.iload 9, 2) := by decide +kernel
theorem dX10_way_164 : decode cX10_way 164 = .ok (.iaload, 1) := by decide +kernel
theorem dX10_way_165 : decode cX10_way 165 = .ok (.iconst 1, 1) := by decide +kernel
theorem dX10_way_166 : decode cX10_way 166 = .ok (.iadd, 1) := by decide +kernel
theorem dX10_way_167 : decode cX10_way 167 = .ok (.aload_n 0, 1) := by decide +kernel
theorem dX10_way_168 : decode cX10_way 168 = .ok (.getfield 55, 3) := by decide +kernel
theorem dX10_way_171 : decode cX10_way 171 = .ok (.iload 6, 2) := by decide +kernel
theorem dX10_way_173 : decode cX10_way 173 = .ok (.iaload, 1) := by decide +kernel
theorem dX10_way_174 : decode cX10_way 174 = .ok (.if_icmp .ne 7, 3) := by decide +kernel
theorem dX10_way_177 : decode cX10_way 177 = .ok (.iconst 1, 1) := by decide +kernel
theorem dX10_way_178 : decode cX10_way 178 = .ok (.goto 4, 3) := by decide +kernel
theorem dX10_way_181 : decode cX10_way 181 = .ok (.iconst 0, 1) := by decide +kernel
theorem dX10_way_182 : decode cX10_way 182 = .ok (.istore 10, 2) := by decide +kernel
theorem dX10_way_184 : decode cX10_way 184 = .ok (.iload 10, 2) := by decide +kernel
theorem dX10_way_186 : decode cX10_way 186 = .ok (.ifCond .eq 8, 3) := by decide +kernel
theorem dX10_way_189 : decode cX10_way 189 = .ok (.iload 9, 2) := by decide +kernel
theorem dX10_way_191 : decode cX10_way 191 = .ok (.goto 4, 3) := by decide +kernel
theorem dX10_way_194 : decode cX10_way 194 = .ok (.iconst (-1), 1) := by decide +kernel
theorem dX10_way_195 : decode cX10_way 195 = .ok (.istore 7, 2) := by decide +kernel
theorem dX10_way_197 : decode cX10_way 197 = .ok (.iinc 8 1, 3) := by decide +kernel
theorem dX10_way_200 : decode cX10_way 200 = .ok (.goto (-92), 3) := by decide +kernel
theorem dX10_way_203 : decode cX10_way 203 = .ok (.iload 5, 2) := by decide +kernel
theorem dX10_way_205 : decode cX10_way 205 = .ok (.aload_n 0, 1) := by decide +kernel
theorem dX10_way_206 : decode cX10_way 206 = .ok (.iload 6, 2) := by decide +kernel
theorem dX10_way_208 : decode cX10_way 208 = .ok (.iload 7, 2) := by decide +kernel
theorem dX10_way_210 : decode cX10_way 210 = .ok (.invokevirtual 192, 3) := by decide +kernel
theorem dX10_way_213 : decode cX10_way 213 = .ok (.iadd, 1) := by decide +kernel
theorem dX10_way_214 : decode cX10_way 214 = .ok (.istore 5, 2) := by decide +kernel
theorem dX10_way_216 : decode cX10_way 216 = .ok (.aload_n 0, 1) := by decide +kernel
theorem dX10_way_217 : decode cX10_way 217 = .ok (.getfield 58, 3) := by decide +kernel
theorem dX10_way_220 : decode cX10_way 220 = .ok (.iload 4, 2) := by decide +kernel
theorem dX10_way_222 : decode cX10_way 222 = .ok (.iload 7, 2) := by decide +kernel
theorem dX10_way_224 : decode cX10_way 224 = .ok (.iastore, 1) := by decide +kernel
theorem dX10_way_225 : decode cX10_way 225 = .ok (.iinc 4 1, 3) := by decide +kernel
theorem dX10_way_228 : decode cX10_way 228 = .ok (.goto (-150), 3) := by decide +kernel
theorem dX10_way_231 : decode cX10_way 231 = .ok (.iload_n 3, 1) := by decide +kernel
theorem dX10_way_232 : decode cX10_way 232 = .ok (.iconst 2, 1) := by decide +kernel
theorem dX10_way_233 : decode cX10_way 233 = .ok (.if_icmp .ne 8, 3) := by decide +kernel
theorem dX10_way_236 : decode cX10_way 236 = .ok (.iload 5, 2) := by decide +kernel
theorem dX10_way_238 : decode cX10_way 238 = .ok (.goto 26, 3) := by decide +kernel
theorem dX10_way_241 : decode cX10_way 241 = .ok (.iload_n 3, 1) := by decide +kernel
theorem dX10_way_242 : decode cX10_way 242 = .ok (.bipush 10, 2) := by decide +kernel
theorem dX10_way_244 : decode cX10_way 244 = .ok (.isub, 1) := by decide +kernel
theorem dX10_way_245 : decode cX10_way 245 = .ok (.iload 4, 2) := by decide +kernel
theorem dX10_way_247 : decode cX10_way 247 = .ok (.if_icmp .ge 15, 3) := by decide +kernel
theorem dX10_way_250 : decode cX10_way 250 = .ok (.aload_n 0, 1) := by decide +kernel
theorem dX10_way_251 : decode cX10_way 251 = .ok (.getfield 58, 3) := by decide +kernel
theorem dX10_way_254 : decode cX10_way 254 = .ok (.iload_n 3, 1) := by decide +kernel
theorem dX10_way_255 : decode cX10_way 255 = .ok (.bipush 10, 2) := by decide +kernel
theorem dX10_way_257 : decode cX10_way 257 = .ok (.isub, 1) := by decide +kernel
theorem dX10_way_258 : decode cX10_way 258 = .ok (.iaload, 1) := by decide +kernel
theorem dX10_way_259 : decode cX10_way 259 = .ok (.goto 5, 3) := by decide +kernel
theorem dX10_way_262 : decode cX10_way 262 = .ok (.ldc 86, 2) := by decide +kernel
theorem dX10_way_264 : decode cX10_way 264 = .ok (.ireturn, 1) := by decide +kernel
theorem dX10_bound_0 : decode cX10_bound 0 = .ok (.iload_n 1, 1) := by decide +kernel
theorem dX10_bound_1 : decode cX10_bound 1 = .ok (.invokestatic 116, 3) := by decide +kernel
theorem dX10_bound_4 : decode cX10_bound 4 = .ok (.ifCond .eq 22, 3) := by decide +kernel
theorem dX10_bound_7 : decode cX10_bound 7 = .ok (.iload_n 2, 1) := by decide +kernel
theorem dX10_bound_8 : decode cX10_bound 8 = .ok (.invokestatic 116, 3) := by decide +kernel
theorem dX10_bound_11 : decode cX10_bound 11 = .ok (.ifCond .eq 15, 3) := by decide +kernel
theorem dX10_bound_14 : decode cX10_bound 14 = .ok (.iload_n 3, 1) := by decide +kernel
theorem dX10_bound_15 : decode cX10_bound 15 = .ok (.i2l, 1) := by decide +kernel
theorem dX10_bound_16 : decode cX10_bound 16 = .ok (.lconst 0, 1) := by decide +kernel
theorem dX10_bound_17 : decode cX10_bound 17 = .ok (.ldc2_w 211, 3) := by decide +kernel
theorem dX10_bound_20 : decode cX10_bound 20 = .ok (.invokestatic 87, 3) := by decide +kernel
theorem dX10_bound_23 : decode cX10_bound 23 = .ok (.ifCond .ne 6, 3) := by decide +kernel
theorem dX10_bound_26 : decode cX10_bound 26 = .ok (.ldc 126, 2) := by decide +kernel
theorem dX10_bound_28 : decode cX10_bound 28 = .ok (.ireturn, 1) := by decide +kernel
theorem dX10_bound_29 : decode cX10_bound 29 = .ok (.aload_n 0, 1) := by decide +kernel
theorem dX10_bound_30 : decode cX10_bound 30 = .ok (.invokevirtual 201, 3) := by decide +kernel
theorem dX10_bound_33 : decode cX10_bound 33 = .ok (.iconst 0, 1) := by decide +kernel
theorem dX10_bound_34 : decode cX10_bound 34 = .ok (.istore 4, 2) := by decide +kernel
theorem dX10_bound_36 : decode cX10_bound 36 = .ok (.iload 4, 2) := by decide +kernel
theorem dX10_bound_38 : decode cX10_bound 38 = .ok (.bipush 30, 2) := by decide +kernel
theorem dX10_bound_40 : decode cX10_bound 40 = .ok (.if_icmp .ge 28, 3) := by decide +kernel
theorem dX10_bound_43 : decode cX10_bound 43 = .ok (.aload_n 0, 1) := by decide +kernel
theorem dX10_bound_44 : decode cX10_bound 44 = .ok (.getfield 52, 3) := by decide +kernel
theorem dX10_bound_47 : decode cX10_bound 47 = .ok (.iload 4, 2) := by decide +kernel
theorem dX10_bound_49 : decode cX10_bound 49 = .ok (.iload 4, 2) := by decide +kernel
theorem dX10_bound_51 : decode cX10_bound 51 = .ok (.iload_n 1, 1) := by decide +kernel
theorem dX10_bound_52 : decode cX10_bound 52 = .ok (.if_icmp .ne 7, 3) := by decide +kernel
theorem dX10_bound_55 : decode cX10_bound 55 = .ok (.iconst 0, 1) := by decide +kernel
theorem dX10_bound_56 : decode cX10_bound 56 = .ok (.goto 5, 3) := by decide +kernel
theorem dX10_bound_59 : decode cX10_bound 59 = .ok (.ldc 200, 2) := by decide +kernel
theorem dX10_bound_61 : decode cX10_bound 61 = .ok (.iastore, 1) := by decide +kernel
theorem dX10_bound_62 : decode cX10_bound 62 = .ok (.iinc 4 1, 3) := by decide +kernel
theorem dX10_bound_65 : decode cX10_bound 65 = .ok (.goto (-29), 3) := by decide +kernel
theorem dX10_bound_68 : decode cX10_bound 68 = .ok (.iconst 0, 1) := by decide +kernel
theorem dX10_bound_69 : decode cX10_bound 69 = .ok (.istore 4, 2) := by decide +kernel
theorem dX10_bound_71 : decode cX10_bound 71 = .ok (.iload 4, 2) := by decide +kernel
theorem dX10_bound_73 : decode cX10_bound 73 = .ok (.iload_n 3, 1) := by decide +kernel
theorem dX10_bound_74 : decode cX10_bound 74 = .ok (.if_icmp .ge 163, 3) := by decide +kernel
theorem dX10_bound_77 : decode cX10_bound 77 = .ok (.iconst 0, 1) := by decide +kernel
theorem dX10_bound_78 : decode cX10_bound 78 = .ok (.istore 5, 2) := by decide +kernel
theorem dX10_bound_80 : decode cX10_bound 80 = .ok (.iload 5, 2) := by decide +kernel
theorem dX10_bound_82 : decode cX10_bound 82 = .ok (.bipush 30, 2) := by decide +kernel
theorem dX10_bound_84 : decode cX10_bound 84 = .ok (.if_icmp .ge 117, 3) := by decide +kernel
theorem dX10_bound_87 : decode cX10_bound 87 = .ok (.aload_n 0, 1) := by decide +kernel
theorem dX10_bound_88 : decode cX10_bound 88 = .ok (.getfield 61, 3) := by decide +kernel
theorem dX10_bound_91 : decode cX10_bound 91 = .ok (.iload 5, 2) := by decide +kernel
theorem dX10_bound_93 : decode cX10_bound 93 = .ok (.aload_n 0, 1) := by decide +kernel
theorem dX10_bound_94 : decode cX10_bound 94 = .ok (.getfield 52, 3) := by decide +kernel
theorem dX10_bound_97 : decode cX10_bound 97 = .ok (.iload 5, 2) := by decide +kernel
theorem dX10_bound_99 : decode cX10_bound 99 = .ok (.iaload, 1) := by decide +kernel
theorem dX10_bound_100 : decode cX10_bound 100 = .ok (.iastore, 1) := by decide +kernel
theorem dX10_bound_101 : decode cX10_bound 101 = .ok (.iconst 0, 1) := by decide +kernel
theorem dX10_bound_102 : decode cX10_bound 102 = .ok (.istore 6, 2) := by decide +kernel
theorem dX10_bound_104 : decode cX10_bound 104 = .ok (.iload 6, 2) := by decide +kernel
theorem dX10_bound_106 : decode cX10_bound 106 = .ok (.iconst 4, 1) := by decide +kernel
theorem dX10_bound_107 : decode cX10_bound 107 = .ok (.if_icmp .ge 88, 3) := by decide +kernel
theorem dX10_bound_110 : decode cX10_bound 110 = .ok (.iload 5, 2) := by decide +kernel
theorem dX10_bound_112 : decode cX10_bound 112 = .ok (.iload 6, 2) := by decide +kernel
theorem dX10_bound_114 : decode cX10_bound 114 = .ok (.invokestatic 179, 3) := by decide +kernel
theorem dX10_bound_117 : decode cX10_bound 117 = .ok (.istore 7, 2) := by decide +kernel
theorem dX10_bound_119 : decode cX10_bound 119 = .ok (.iload 7, 2) := by decide +kernel
theorem dX10_bound_121 : decode cX10_bound 121 = .ok (.ifCond .lt 15, 3) := by decide +kernel
theorem dX10_bound_124 : decode cX10_bound 124 = .ok (.aload_n 0, 1) := by decide +kernel
theorem dX10_bound_125 : decode cX10_bound 125 = .ok (.getfield 52, 3) := by decide +kernel
theorem dX10_bound_128 : decode cX10_bound 128 = .ok (.iload 7, 2) := by decide +kernel
theorem dX10_bound_130 : decode cX10_bound 130 = .ok (.iaload, 1) := by decide +kernel
theorem dX10_bound_131 : decode cX10_bound 131 = .ok (.ldc 200, 2) := by decide +kernel
theorem dX10_bound_133 : decode cX10_bound 133 = .ok (.if_icmp .ne 8, 3) := by decide +kernel
theorem dX10_bound_136 : decode cX10_bound 136 = .ok (.ldc 200, 2) := by decide +kernel
theorem dX10_bound_138 : decode cX10_bound 138 = .ok (.goto 18, 3) := by decide +kernel
theorem dX10_bound_141 : decode cX10_bound 141 = .ok (.aload_n 0, 1) := by decide +kernel
theorem dX10_bound_142 : decode cX10_bound 142 = .ok (.getfield 52, 3) := by decide +kernel
theorem dX10_bound_145 : decode cX10_bound 145 = .ok (.iload 7, 2) := by decide +kernel
theorem dX10_bound_147 : decode cX10_bound 147 = .ok (.iaload, 1) := by decide +kernel
theorem dX10_bound_148 : decode cX10_bound 148 = .ok (.aload_n 0, 1) := by decide +kernel
theorem dX10_bound_149 : decode cX10_bound 149 = .ok (.getfield 49, 3) := by decide +kernel
theorem dX10_bound_152 : decode cX10_bound 152 = .ok (.iload 5, 2) := by decide +kernel
theorem dX10_bound_154 : decode cX10_bound 154 = .ok (.iaload, 1) := by decide +kernel
theorem dX10_bound_155 : decode cX10_bound 155 = .ok (.iadd, 1) := by decide +kernel
theorem dX10_bound_156 : decode cX10_bound 156 = .ok (.istore 8, 2) := by decide +kernel
theorem dX10_bound_158 : decode cX10_bound 158 = .ok (.aload_n 0, 1) := by decide +kernel
theorem dX10_bound_159 : decode cX10_bound 159 = .ok (.getfield 61, 3) := by decide +kernel
theorem dX10_bound_162 : decode cX10_bound 162 = .ok (.iload 5, 2) := by decide +kernel
theorem dX10_bound_164 : decode cX10_bound 164 = .ok (.iload 8, 2) := by decide +kernel
theorem dX10_bound_166 : decode cX10_bound 166 = .ok (.aload_n 0, 1) := by decide +kernel
theorem dX10_bound_167 : decode cX10_bound 167 = .ok (.getfield 61, 3) := by decide +kernel
theorem dX10_bound_170 : decode cX10_bound 170 = .ok (.iload 5, 2) := by decide +kernel
theorem dX10_bound_172 : decode cX10_bound 172 = .ok (.iaload, 1) := by decide +kernel
theorem dX10_bound_173 : decode cX10_bound 173 = .ok (.if_icmp .ge 8, 3) := by decide +kernel
theorem dX10_bound_176 : decode cX10_bound 176 = .ok (.iload 8, 2) := by decide +kernel
theorem dX10_bound_178 : decode cX10_bound 178 = .ok (.goto 10, 3) := by decide +kernel
theorem dX10_bound_181 : decode cX10_bound 181 = .ok (.aload_n 0, 1) := by decide +kernel
theorem dX10_bound_182 : decode cX10_bound 182 = .ok (.getfield 61, 3) := by decide +kernel
theorem dX10_bound_185 : decode cX10_bound 185 = .ok (.iload 5, 2) := by decide +kernel
theorem dX10_bound_187 : decode cX10_bound 187 = .ok (.iaload, 1) := by decide +kernel
theorem dX10_bound_188 : decode cX10_bound 188 = .ok (.iastore, 1) := by decide +kernel
theorem dX10_bound_189 : decode cX10_bound 189 = .ok (.iinc 6 1, 3) := by decide +kernel
theorem dX10_bound_192 : decode cX10_bound 192 = .ok (.goto (-88), 3) := by decide +kernel
theorem dX10_bound_195 : decode cX10_bound 195 = .ok (.iinc 5 1, 3) := by decide +kernel
theorem dX10_bound_198 : decode cX10_bound 198 = .ok (.goto (-118), 3) := by decide +kernel
theorem dX10_bound_201 : decode cX10_bound 201 = .ok (.iconst 0, 1) := by decide +kernel
theorem dX10_bound_202 : decode cX10_bound 202 = .ok (.istore 5, 2) := by decide +kernel
theorem dX10_bound_204 : decode cX10_bound 204 = .ok (.iload 5, 2) := by decide +kernel
theorem dX10_bound_206 : decode cX10_bound 206 = .ok (.bipush 30, 2) := by decide +kernel
theorem dX10_bound_208 : decode cX10_bound 208 = .ok (.if_icmp .ge 23, 3) := by decide +kernel
theorem dX10_bound_211 : decode cX10_bound 211 = .ok (.aload_n 0, 1) := by decide +kernel
theorem dX10_bound_212 : decode cX10_bound 212 = .ok (.getfield 52, 3) := by decide +kernel
theorem dX10_bound_215 : decode cX10_bound 215 = .ok (.iload 5, 2) := by decide +kernel
theorem dX10_bound_217 : decode cX10_bound 217 = .ok (.aload_n 0, 1) := by decide +kernel
theorem dX10_bound_218 : decode cX10_bound 218 = .ok (.getfield 61, 3) := by decide +kernel
theorem dX10_bound_221 : decode cX10_bound 221 = .ok (.iload 5, 2) := by decide +kernel
theorem dX10_bound_223 : decode cX10_bound 223 = .ok (.iaload, 1) := by decide +kernel
theorem dX10_bound_224 : decode cX10_bound 224 = .ok (.iastore, 1) := by decide +kernel
theorem dX10_bound_225 : decode cX10_bound 225 = .ok (.iinc 5 1, 3) := by decide +kernel
theorem dX10_bound_228 : decode cX10_bound 228 = .ok (.goto (-24), 3) := by decide +kernel
theorem dX10_bound_231 : decode cX10_bound 231 = .ok (.iinc 4 1, 3) := by decide +kernel
theorem dX10_bound_234 : decode cX10_bound 234 = .ok (.goto (-163), 3) := by decide +kernel
theorem dX10_bound_237 : decode cX10_bound 237 = .ok (.aload_n 0, 1) := by decide +kernel
theorem dX10_bound_238 : decode cX10_bound 238 = .ok (.getfield 52, 3) := by decide +kernel
theorem dX10_bound_241 : decode cX10_bound 241 = .ok (.iload_n 2, 1) := by decide +kernel
theorem dX10_bound_242 : decode cX10_bound 242 = .ok (.iaload, 1) := by decide +kernel
theorem dX10_bound_243 : decode cX10_bound 243 = .ok (.ldc 200, 2) := by decide +kernel
theorem dX10_bound_245 : decode cX10_bound 245 = .ok (.if_icmp .ne 8, 3) := by decide +kernel
theorem dX10_bound_248 : decode cX10_bound 248 = .ok (.ldc 86, 2) := by decide +kernel
theorem dX10_bound_250 : decode cX10_bound 250 = .ok (.goto 9, 3) := by decide +kernel
theorem dX10_bound_253 : decode cX10_bound 253 = .ok (.aload_n 0, 1) := by decide +kernel
theorem dX10_bound_254 : decode cX10_bound 254 = .ok (.getfield 52, 3) := by decide +kernel
theorem dX10_bound_257 : decode cX10_bound 257 = .ok (.iload_n 2, 1) := by decide +kernel
theorem dX10_bound_258 : decode cX10_bound 258 = .ok (.iaload, 1) := by decide +kernel
theorem dX10_bound_259 : decode cX10_bound 259 = .ok (.ireturn, 1) := by decide +kernel
theorem dX10_comesTo_0 : decode cX10_comesTo 0 = .ok (.iconst 0, 1) := by decide +kernel
theorem dX10_comesTo_1 : decode cX10_comesTo 1 = .ok (.istore 4, 2) := by decide +kernel
theorem dX10_comesTo_3 : decode cX10_comesTo 3 = .ok (.iload 4, 2) := by decide +kernel
theorem dX10_comesTo_5 : decode cX10_comesTo 5 = .ok (.bipush 30, 2) := by decide +kernel
theorem dX10_comesTo_7 : decode cX10_comesTo 7 = .ok (.if_icmp .ge 27, 3) := by decide +kernel
theorem dX10_comesTo_10 : decode cX10_comesTo 10 = .ok (.aload_n 0, 1) := by decide +kernel
theorem dX10_comesTo_11 : decode cX10_comesTo 11 = .ok (.getfield 64, 3) := by decide +kernel
theorem dX10_comesTo_14 : decode cX10_comesTo 14 = .ok (.iload 4, 2) := by decide +kernel
theorem dX10_comesTo_16 : decode cX10_comesTo 16 = .ok (.iload 4, 2) := by decide +kernel
theorem dX10_comesTo_18 : decode cX10_comesTo 18 = .ok (.iload_n 1, 1) := by decide +kernel
theorem dX10_comesTo_19 : decode cX10_comesTo 19 = .ok (.if_icmp .ne 7, 3) := by decide +kernel
theorem dX10_comesTo_22 : decode cX10_comesTo 22 = .ok (.iconst 1, 1) := by decide +kernel
theorem dX10_comesTo_23 : decode cX10_comesTo 23 = .ok (.goto 4, 3) := by decide +kernel
theorem dX10_comesTo_26 : decode cX10_comesTo 26 = .ok (.iconst 0, 1) := by decide +kernel
theorem dX10_comesTo_27 : decode cX10_comesTo 27 = .ok (.bastore, 1) := by decide +kernel
theorem dX10_comesTo_28 : decode cX10_comesTo 28 = .ok (.iinc 4 1, 3) := by decide +kernel
theorem dX10_comesTo_31 : decode cX10_comesTo 31 = .ok (.goto (-28), 3) := by decide +kernel
theorem dX10_comesTo_34 : decode cX10_comesTo 34 = .ok (.iconst 1, 1) := by decide +kernel
theorem dX10_comesTo_35 : decode cX10_comesTo 35 = .ok (.istore 4, 2) := by decide +kernel
theorem dX10_comesTo_37 : decode cX10_comesTo 37 = .ok (.iconst 1, 1) := by decide +kernel
theorem dX10_comesTo_38 : decode cX10_comesTo 38 = .ok (.istore 5, 2) := by decide +kernel
theorem dX10_comesTo_40 : decode cX10_comesTo 40 = .ok (.iload 5, 2) := by decide +kernel
theorem dX10_comesTo_42 : decode cX10_comesTo 42 = .ok (.ifCond .eq 125, 3) := by decide +kernel
theorem dX10_comesTo_45 : decode cX10_comesTo 45 = .ok (.iconst 0, 1) := by decide +kernel
theorem dX10_comesTo_46 : decode cX10_comesTo 46 = .ok (.istore 5, 2) := by decide +kernel
theorem dX10_comesTo_48 : decode cX10_comesTo 48 = .ok (.iconst 0, 1) := by decide +kernel
theorem dX10_comesTo_49 : decode cX10_comesTo 49 = .ok (.istore 6, 2) := by decide +kernel
theorem dX10_comesTo_51 : decode cX10_comesTo 51 = .ok (.iload 6, 2) := by decide +kernel
theorem dX10_comesTo_53 : decode cX10_comesTo 53 = .ok (.bipush 30, 2) := by decide +kernel
theorem dX10_comesTo_55 : decode cX10_comesTo 55 = .ok (.if_icmp .ge 109, 3) := by decide +kernel
theorem dX10_comesTo_58 : decode cX10_comesTo 58 = .ok (.iconst 0, 1) := by decide +kernel
theorem dX10_comesTo_59 : decode cX10_comesTo 59 = .ok (.istore 7, 2) := by decide +kernel
theorem dX10_comesTo_61 : decode cX10_comesTo 61 = .ok (.iload 7, 2) := by decide +kernel
theorem dX10_comesTo_63 : decode cX10_comesTo 63 = .ok (.iconst 4, 1) := by decide +kernel
theorem dX10_comesTo_64 : decode cX10_comesTo 64 = .ok (.if_icmp .ge 94, 3) := by decide +kernel
theorem dX10_comesTo_67 : decode cX10_comesTo 67 = .ok (.iload 6, 2) := by decide +kernel
theorem dX10_comesTo_69 : decode cX10_comesTo 69 = .ok (.iload 7, 2) := by decide +kernel
theorem dX10_comesTo_71 : decode cX10_comesTo 71 = .ok (.invokestatic 179, 3) := by decide +kernel
theorem dX10_comesTo_74 : decode cX10_comesTo 74 = .ok (.istore 8, 2) := by decide +kernel
theorem dX10_comesTo_76 : decode cX10_comesTo 76 = .ok (.aload_n 0, 1) := by decide +kernel
theorem dX10_comesTo_77 : decode cX10_comesTo 77 = .ok (.getfield 64, 3) := by decide +kernel
theorem dX10_comesTo_80 : decode cX10_comesTo 80 = .ok (.iload 6, 2) := by decide +kernel
theorem dX10_comesTo_82 : decode cX10_comesTo 82 = .ok (.baload, 1) := by decide +kernel
theorem dX10_comesTo_83 : decode cX10_comesTo 83 = .ok (.ifCond .ne 47, 3) := by decide +kernel
theorem dX10_comesTo_86 : decode cX10_comesTo 86 = .ok (.iload 8, 2) := by decide +kernel
theorem dX10_comesTo_88 : decode cX10_comesTo 88 = .ok (.ifCond .lt 42, 3) := by decide +kernel
theorem dX10_comesTo_91 : decode cX10_comesTo 91 = .ok (.aload_n 0, 1) := by decide +kernel
theorem dX10_comesTo_92 : decode cX10_comesTo 92 = .ok (.getfield 64, 3) := by decide +kernel
theorem dX10_comesTo_95 : decode cX10_comesTo 95 = .ok (.iload 8, 2) := by decide +kernel
theorem dX10_comesTo_97 : decode cX10_comesTo 97 = .ok (.baload, 1) := by decide +kernel
theorem dX10_comesTo_98 : decode cX10_comesTo 98 = .ok (.ifCond .eq 32, 3) := by decide +kernel
theorem dX10_comesTo_101 : decode cX10_comesTo 101 = .ok (.iload_n 2, 1) := by decide +kernel
theorem dX10_comesTo_102 : decode cX10_comesTo 102 = .ok (.ifCond .eq 13, 3) := by decide +kernel
theorem dX10_comesTo_105 : decode cX10_comesTo 105 = .ok (.aload_n 0, 1) := by decide +kernel
theorem dX10_comesTo_106 : decode cX10_comesTo 106 = .ok (.iload 6, 2) := by decide +kernel
theorem dX10_comesTo_108 : decode cX10_comesTo 108 = .ok (.iconst 1, 1) := by decide +kernel
theorem dX10_comesTo_109 : decode cX10_comesTo 109 = .ok (.invokevirtual 92, 3) := by decide +kernel
theorem dX10_comesTo_112 : decode cX10_comesTo 112 = .ok (.goto 10, 3) := by decide +kernel
theorem dX10_comesTo_115 : decode cX10_comesTo 115 = .ok (.aload_n 0, 1) := by decide +kernel
theorem dX10_comesTo_116 : decode cX10_comesTo 116 = .ok (.getfield 49, 3) := by decide +kernel
theorem dX10_comesTo_119 : decode cX10_comesTo 119 = .ok (.iload 6, 2) := by decide +kernel
theorem dX10_comesTo_121 : decode cX10_comesTo 121 = .ok (.iaload, 1) := by decide +kernel
theorem dX10_comesTo_122 : decode cX10_comesTo 122 = .ok (.iload_n 3, 1) := by decide +kernel
theorem dX10_comesTo_123 : decode cX10_comesTo 123 = .ok (.if_icmp .gt 7, 3) := by decide +kernel
theorem dX10_comesTo_126 : decode cX10_comesTo 126 = .ok (.iconst 1, 1) := by decide +kernel
theorem dX10_comesTo_127 : decode cX10_comesTo 127 = .ok (.goto 4, 3) := by decide +kernel
theorem dX10_comesTo_130 : decode cX10_comesTo 130 = .ok (.iconst 0, 1) := by decide +kernel
theorem dX10_comesTo_131 : decode cX10_comesTo 131 = .ok (.istore 9, 2) := by decide +kernel
theorem dX10_comesTo_133 : decode cX10_comesTo 133 = .ok (.iload 9, 2) := by decide +kernel
theorem dX10_comesTo_135 : decode cX10_comesTo 135 = .ok (.ifCond .eq 17, 3) := by decide +kernel
theorem dX10_comesTo_138 : decode cX10_comesTo 138 = .ok (.aload_n 0, 1) := by decide +kernel
theorem dX10_comesTo_139 : decode cX10_comesTo 139 = .ok (.getfield 64, 3) := by decide +kernel
theorem dX10_comesTo_142 : decode cX10_comesTo 142 = .ok (.iload 6, 2) := by decide +kernel
theorem dX10_comesTo_144 : decode cX10_comesTo 144 = .ok (.iconst 1, 1) := by decide +kernel
theorem dX10_comesTo_145 : decode cX10_comesTo 145 = .ok (.bastore, 1) := by decide +kernel
theorem dX10_comesTo_146 : decode cX10_comesTo 146 = .ok (.iinc 4 1, 3) := by decide +kernel
theorem dX10_comesTo_149 : decode cX10_comesTo 149 = .ok (.iconst 1, 1) := by decide +kernel
theorem dX10_comesTo_150 : decode cX10_comesTo 150 = .ok (.istore 5, 2) := by decide +kernel
theorem dX10_comesTo_152 : decode cX10_comesTo 152 = .ok (.iinc 7 1, 3) := by decide +kernel
theorem dX10_comesTo_155 : decode cX10_comesTo 155 = .ok (.goto (-94), 3) := by decide +kernel
theorem dX10_comesTo_158 : decode cX10_comesTo 158 = .ok (.iinc 6 1, 3) := by decide +kernel
theorem dX10_comesTo_161 : decode cX10_comesTo 161 = .ok (.goto (-110), 3) := by decide +kernel
theorem dX10_comesTo_164 : decode cX10_comesTo 164 = .ok (.goto (-124), 3) := by decide +kernel
theorem dX10_comesTo_167 : decode cX10_comesTo 167 = .ok (.iload 4, 2) := by decide +kernel
theorem dX10_comesTo_169 : decode cX10_comesTo 169 = .ok (.ireturn, 1) := by decide +kernel
theorem dX10_wall_0 : decode cX10_wall 0 = .ok (.iload_n 1, 1) := by decide +kernel
theorem dX10_wall_1 : decode cX10_wall 1 = .ok (.invokestatic 116, 3) := by decide +kernel
theorem dX10_wall_4 : decode cX10_wall 4 = .ok (.ifCond .eq 10, 3) := by decide +kernel
theorem dX10_wall_7 : decode cX10_wall 7 = .ok (.iload_n 2, 1) := by decide +kernel
theorem dX10_wall_8 : decode cX10_wall 8 = .ok (.invokestatic 116, 3) := by decide +kernel
theorem dX10_wall_11 : decode cX10_wall 11 = .ok (.ifCond .ne 6, 3) := by decide +kernel
theorem dX10_wall_14 : decode cX10_wall 14 = .ok (.ldc 126, 2) := by decide +kernel
theorem dX10_wall_16 : decode cX10_wall 16 = .ok (.ireturn, 1) := by decide +kernel
theorem dX10_wall_17 : decode cX10_wall 17 = .ok (.aload_n 0, 1) := by decide +kernel
theorem dX10_wall_18 : decode cX10_wall 18 = .ok (.iload_n 1, 1) := by decide +kernel
theorem dX10_wall_19 : decode cX10_wall 19 = .ok (.iconst 1, 1) := by decide +kernel
theorem dX10_wall_20 : decode cX10_wall 20 = .ok (.invokevirtual 92, 3) := by decide +kernel
theorem dX10_wall_23 : decode cX10_wall 23 = .ok (.aload_n 0, 1) := by decide +kernel
theorem dX10_wall_24 : decode cX10_wall 24 = .ok (.iload_n 2, 1) := by decide +kernel
theorem dX10_wall_25 : decode cX10_wall 25 = .ok (.iconst 1, 1) := by decide +kernel
theorem dX10_wall_26 : decode cX10_wall 26 = .ok (.invokevirtual 92, 3) := by decide +kernel
theorem dX10_wall_29 : decode cX10_wall 29 = .ok (.if_icmp .le 12, 3) := by decide +kernel
theorem dX10_wall_32 : decode cX10_wall 32 = .ok (.aload_n 0, 1) := by decide +kernel
theorem dX10_wall_33 : decode cX10_wall 33 = .ok (.iload_n 1, 1) := by decide +kernel
theorem dX10_wall_34 : decode cX10_wall 34 = .ok (.iconst 1, 1) := by decide +kernel
theorem dX10_wall_35 : decode cX10_wall 35 = .ok (.invokevirtual 92, 3) := by decide +kernel
theorem dX10_wall_38 : decode cX10_wall 38 = .ok (.goto 9, 3) := by decide +kernel
theorem dX10_wall_41 : decode cX10_wall 41 = .ok (.aload_n 0, 1) := by decide +kernel
theorem dX10_wall_42 : decode cX10_wall 42 = .ok (.iload_n 2, 1) := by decide +kernel
theorem dX10_wall_43 : decode cX10_wall 43 = .ok (.iconst 1, 1) := by decide +kernel
theorem dX10_wall_44 : decode cX10_wall 44 = .ok (.invokevirtual 92, 3) := by decide +kernel
theorem dX10_wall_47 : decode cX10_wall 47 = .ok (.istore_n 3, 1) := by decide +kernel
theorem dX10_wall_48 : decode cX10_wall 48 = .ok (.aload_n 0, 1) := by decide +kernel
theorem dX10_wall_49 : decode cX10_wall 49 = .ok (.iload_n 1, 1) := by decide +kernel
theorem dX10_wall_50 : decode cX10_wall 50 = .ok (.iconst 1, 1) := by decide +kernel
theorem dX10_wall_51 : decode cX10_wall 51 = .ok (.iload_n 3, 1) := by decide +kernel
theorem dX10_wall_52 : decode cX10_wall 52 = .ok (.invokevirtual 213, 3) := by decide +kernel
theorem dX10_wall_55 : decode cX10_wall 55 = .ok (.istore 4, 2) := by decide +kernel
theorem dX10_wall_57 : decode cX10_wall 57 = .ok (.aload_n 0, 1) := by decide +kernel
theorem dX10_wall_58 : decode cX10_wall 58 = .ok (.getfield 64, 3) := by decide +kernel
theorem dX10_wall_61 : decode cX10_wall 61 = .ok (.iload_n 2, 1) := by decide +kernel
theorem dX10_wall_62 : decode cX10_wall 62 = .ok (.baload, 1) := by decide +kernel
theorem dX10_wall_63 : decode cX10_wall 63 = .ok (.ifCond .ne 18, 3) := by decide +kernel
theorem dX10_wall_66 : decode cX10_wall 66 = .ok (.iinc 3 1, 3) := by decide +kernel
theorem dX10_wall_69 : decode cX10_wall 69 = .ok (.aload_n 0, 1) := by decide +kernel
theorem dX10_wall_70 : decode cX10_wall 70 = .ok (.iload_n 1, 1) := by decide +kernel
theorem dX10_wall_71 : decode cX10_wall 71 = .ok (.iconst 1, 1) := by decide +kernel
theorem dX10_wall_72 : decode cX10_wall 72 = .ok (.iload_n 3, 1) := by decide +kernel
theorem dX10_wall_73 : decode cX10_wall 73 = .ok (.invokevirtual 213, 3) := by decide +kernel
theorem dX10_wall_76 : decode cX10_wall 76 = .ok (.istore 4, 2) := by decide +kernel
theorem dX10_wall_78 : decode cX10_wall 78 = .ok (.goto (-21), 3) := by decide +kernel
theorem dX10_wall_81 : decode cX10_wall 81 = .ok (.iload_n 3, 1) := by decide +kernel
theorem dX10_wall_82 : decode cX10_wall 82 = .ok (.ireturn, 1) := by decide +kernel
theorem dX10_reach_0 : decode cX10_reach 0 = .ok (.iload_n 1, 1) := by decide +kernel
theorem dX10_reach_1 : decode cX10_reach 1 = .ok (.invokestatic 116, 3) := by decide +kernel
theorem dX10_reach_4 : decode cX10_reach 4 = .ok (.ifCond .eq 10, 3) := by decide +kernel
theorem dX10_reach_7 : decode cX10_reach 7 = .ok (.iload_n 2, 1) := by decide +kernel
theorem dX10_reach_8 : decode cX10_reach 8 = .ok (.invokestatic 197, 3) := by decide +kernel
theorem dX10_reach_11 : decode cX10_reach 11 = .ok (.ifCond .ne 6, 3) := by decide +kernel
theorem dX10_reach_14 : decode cX10_reach 14 = .ok (.ldc 126, 2) := by decide +kernel
theorem dX10_reach_16 : decode cX10_reach 16 = .ok (.ireturn, 1) := by decide +kernel
theorem dX10_reach_17 : decode cX10_reach 17 = .ok (.aload_n 0, 1) := by decide +kernel
theorem dX10_reach_18 : decode cX10_reach 18 = .ok (.invokevirtual 201, 3) := by decide +kernel
theorem dX10_reach_21 : decode cX10_reach 21 = .ok (.aload_n 0, 1) := by decide +kernel
theorem dX10_reach_22 : decode cX10_reach 22 = .ok (.iload_n 1, 1) := by decide +kernel
theorem dX10_reach_23 : decode cX10_reach 23 = .ok (.iconst 0, 1) := by decide +kernel
theorem dX10_reach_24 : decode cX10_reach 24 = .ok (.iload_n 2, 1) := by decide +kernel
theorem dX10_reach_25 : decode cX10_reach 25 = .ok (.invokevirtual 213, 3) := by decide +kernel
theorem dX10_reach_28 : decode cX10_reach 28 = .ok (.ireturn, 1) := by decide +kernel
theorem dX10_odds_0 : decode cX10_odds 0 = .ok (.iload_n 1, 1) := by decide +kernel
theorem dX10_odds_1 : decode cX10_odds 1 = .ok (.i2l, 1) := by decide +kernel
theorem dX10_odds_2 : decode cX10_odds 2 = .ok (.lconst 0, 1) := by decide +kernel
theorem dX10_odds_3 : decode cX10_odds 3 = .ok (.ldc2_w 217, 3) := by decide +kernel
theorem dX10_odds_6 : decode cX10_odds 6 = .ok (.invokestatic 87, 3) := by decide +kernel
theorem dX10_odds_9 : decode cX10_odds 9 = .ok (.ifCond .eq 25, 3) := by decide +kernel
theorem dX10_odds_12 : decode cX10_odds 12 = .ok (.iload_n 2, 1) := by decide +kernel
theorem dX10_odds_13 : decode cX10_odds 13 = .ok (.i2l, 1) := by decide +kernel
theorem dX10_odds_14 : decode cX10_odds 14 = .ok (.lconst 0, 1) := by decide +kernel
theorem dX10_odds_15 : decode cX10_odds 15 = .ok (.ldc2_w 219, 3) := by decide +kernel
theorem dX10_odds_18 : decode cX10_odds 18 = .ok (.invokestatic 87, 3) := by decide +kernel
theorem dX10_odds_21 : decode cX10_odds 21 = .ok (.ifCond .eq 13, 3) := by decide +kernel
theorem dX10_odds_24 : decode cX10_odds 24 = .ok (.iload_n 3, 1) := by decide +kernel
theorem dX10_odds_25 : decode cX10_odds 25 = .ok (.i2l, 1) := by decide +kernel
theorem dX10_odds_26 : decode cX10_odds 26 = .ok (.lconst 0, 1) := by decide +kernel
theorem dX10_odds_27 : decode cX10_odds 27 = .ok (.lconst 1, 1) := by decide +kernel
theorem dX10_odds_28 : decode cX10_odds 28 = .ok (.invokestatic 87, 3) := by decide +kernel
theorem dX10_odds_31 : decode cX10_odds 31 = .ok (.ifCond .ne 7, 3) := by decide +kernel
theorem dX10_odds_34 : decode cX10_odds 34 = .ok (.ldc2_w 221, 3) := by decide +kernel
theorem dX10_odds_37 : decode cX10_odds 37 = .ok (.lreturn, 1) := by decide +kernel
theorem dX10_odds_38 : decode cX10_odds 38 = .ok (.iload_n 1, 1) := by decide +kernel
theorem dX10_odds_39 : decode cX10_odds 39 = .ok (.ifCond .ne 6, 3) := by decide +kernel
theorem dX10_odds_42 : decode cX10_odds 42 = .ok (.iload_n 3, 1) := by decide +kernel
theorem dX10_odds_43 : decode cX10_odds 43 = .ok (.i2l, 1) := by decide +kernel
theorem dX10_odds_44 : decode cX10_odds 44 = .ok (.lreturn, 1) := by decide +kernel
theorem dX10_odds_45 : decode cX10_odds 45 = .ok (.iload_n 1, 1) := by decide +kernel
theorem dX10_odds_46 : decode cX10_odds 46 = .ok (.i2l, 1) := by decide +kernel
theorem dX10_odds_47 : decode cX10_odds 47 = .ok (.lstore 4, 2) := by decide +kernel
theorem dX10_odds_49 : decode cX10_odds 49 = .ok (.iconst 0, 1) := by decide +kernel
theorem dX10_odds_50 : decode cX10_odds 50 = .ok (.istore 6, 2) := by decide +kernel
theorem dX10_odds_52 : decode cX10_odds 52 = .ok (.iload 6, 2) := by decide +kernel
theorem dX10_odds_54 : decode cX10_odds 54 = .ok (.iload_n 2, 1) := by decide +kernel
theorem dX10_odds_55 : decode cX10_odds 55 = .ok (.if_icmp .ge 17, 3) := by decide +kernel
theorem dX10_odds_58 : decode cX10_odds 58 = .ok (.lload 4, 2) := by decide +kernel
theorem dX10_odds_60 : decode cX10_odds 60 = .ok (.ldc2_w 171, 3) := by decide +kernel
theorem dX10_odds_63 : decode cX10_odds 63 = .ok (.lmul, 1) := by decide +kernel
theorem dX10_odds_64 : decode cX10_odds 64 = .ok (.lstore 4, 2) := by decide +kernel
theorem dX10_odds_66 : decode cX10_odds 66 = .ok (.iinc 6 1, 3) := by decide +kernel
theorem dX10_odds_69 : decode cX10_odds 69 = .ok (.goto (-17), 3) := by decide +kernel
theorem dX10_odds_72 : decode cX10_odds 72 = .ok (.lload 4, 2) := by decide +kernel
theorem dX10_odds_74 : decode cX10_odds 74 = .ok (.ldc2_w 217, 3) := by decide +kernel
theorem dX10_odds_77 : decode cX10_odds 77 = .ok (.ladd, 1) := by decide +kernel
theorem dX10_odds_78 : decode cX10_odds 78 = .ok (.iload_n 1, 1) := by decide +kernel
theorem dX10_odds_79 : decode cX10_odds 79 = .ok (.i2l, 1) := by decide +kernel
theorem dX10_odds_80 : decode cX10_odds 80 = .ok (.lsub, 1) := by decide +kernel
theorem dX10_odds_81 : decode cX10_odds 81 = .ok (.lstore 6, 2) := by decide +kernel
theorem dX10_odds_83 : decode cX10_odds 83 = .ok (.lload 4, 2) := by decide +kernel
theorem dX10_odds_85 : decode cX10_odds 85 = .ok (.lstore 8, 2) := by decide +kernel
theorem dX10_odds_87 : decode cX10_odds 87 = .ok (.lload 6, 2) := by decide +kernel
theorem dX10_odds_89 : decode cX10_odds 89 = .ok (.lstore 10, 2) := by decide +kernel
theorem dX10_odds_91 : decode cX10_odds 91 = .ok (.lload 10, 2) := by decide +kernel
theorem dX10_odds_93 : decode cX10_odds 93 = .ok (.lconst 0, 1) := by decide +kernel
theorem dX10_odds_94 : decode cX10_odds 94 = .ok (.lcmp, 1) := by decide +kernel
theorem dX10_odds_95 : decode cX10_odds 95 = .ok (.ifCond .le 21, 3) := by decide +kernel
theorem dX10_odds_98 : decode cX10_odds 98 = .ok (.lload 8, 2) := by decide +kernel
theorem dX10_odds_100 : decode cX10_odds 100 = .ok (.lload 10, 2) := by decide +kernel
theorem dX10_odds_102 : decode cX10_odds 102 = .ok (.lrem, 1) := by decide +kernel
theorem dX10_odds_103 : decode cX10_odds 103 = .ok (.lstore 12, 2) := by decide +kernel
theorem dX10_odds_105 : decode cX10_odds 105 = .ok (.lload 10, 2) := by decide +kernel
theorem dX10_odds_107 : decode cX10_odds 107 = .ok (.lstore 8, 2) := by decide +kernel
theorem dX10_odds_109 : decode cX10_odds 109 = .ok (.lload 12, 2) := by decide +kernel
theorem dX10_odds_111 : decode cX10_odds 111 = .ok (.lstore 10, 2) := by decide +kernel
theorem dX10_odds_113 : decode cX10_odds 113 = .ok (.goto (-22), 3) := by decide +kernel
theorem dX10_odds_116 : decode cX10_odds 116 = .ok (.iload_n 3, 1) := by decide +kernel
theorem dX10_odds_117 : decode cX10_odds 117 = .ok (.ifCond .ne 11, 3) := by decide +kernel
theorem dX10_odds_120 : decode cX10_odds 120 = .ok (.lload 4, 2) := by decide +kernel
theorem dX10_odds_122 : decode cX10_odds 122 = .ok (.lload 8, 2) := by decide +kernel
theorem dX10_odds_124 : decode cX10_odds 124 = .ok (.ldiv, 1) := by decide +kernel
theorem dX10_odds_125 : decode cX10_odds 125 = .ok (.goto 8, 3) := by decide +kernel
theorem dX10_odds_128 : decode cX10_odds 128 = .ok (.lload 6, 2) := by decide +kernel
theorem dX10_odds_130 : decode cX10_odds 130 = .ok (.lload 8, 2) := by decide +kernel
theorem dX10_odds_132 : decode cX10_odds 132 = .ok (.ldiv, 1) := by decide +kernel
theorem dX10_odds_133 : decode cX10_odds 133 = .ok (.lreturn, 1) := by decide +kernel
theorem dX10_feed_0 : decode cX10_feed 0 = .ok (.aload_n 0, 1) := by decide +kernel
theorem dX10_feed_1 : decode cX10_feed 1 = .ok (.getfield 223, 3) := by decide +kernel
theorem dX10_feed_4 : decode cX10_feed 4 = .ok (.bipush 12, 2) := by decide +kernel
theorem dX10_feed_6 : decode cX10_feed 6 = .ok (.iadd, 1) := by decide +kernel
theorem dX10_feed_7 : decode cX10_feed 7 = .ok (.bipush 96, 2) := by decide +kernel
theorem dX10_feed_9 : decode cX10_feed 9 = .ok (.if_icmp .le 6, 3) := by decide +kernel
theorem dX10_feed_12 : decode cX10_feed 12 = .ok (.ldc 189, 2) := by decide +kernel
theorem dX10_feed_14 : decode cX10_feed 14 = .ok (.ireturn, 1) := by decide +kernel
theorem dX10_feed_15 : decode cX10_feed 15 = .ok (.iconst 0, 1) := by decide +kernel
theorem dX10_feed_16 : decode cX10_feed 16 = .ok (.istore 4, 2) := by decide +kernel
theorem dX10_feed_18 : decode cX10_feed 18 = .ok (.iload 4, 2) := by decide +kernel
theorem dX10_feed_20 : decode cX10_feed 20 = .ok (.bipush 12, 2) := by decide +kernel
theorem dX10_feed_22 : decode cX10_feed 22 = .ok (.if_icmp .ge 69, 3) := by decide +kernel
theorem dX10_feed_25 : decode cX10_feed 25 = .ok (.iload 4, 2) := by decide +kernel
theorem dX10_feed_27 : decode cX10_feed 27 = .ok (.iconst 4, 1) := by decide +kernel
theorem dX10_feed_28 : decode cX10_feed 28 = .ok (.if_icmp .ge 7, 3) := by decide +kernel
theorem dX10_feed_31 : decode cX10_feed 31 = .ok (.iload_n 1, 1) := by decide +kernel
theorem dX10_feed_32 : decode cX10_feed 32 = .ok (.goto 15, 3) := by decide +kernel
theorem dX10_feed_35 : decode cX10_feed 35 = .ok (.iload 4, 2) := by decide +kernel
theorem dX10_feed_37 : decode cX10_feed 37 = .ok (.bipush 8, 2) := by decide +kernel
theorem dX10_feed_39 : decode cX10_feed 39 = .ok (.if_icmp .ge 7, 3) := by decide +kernel
theorem dX10_feed_42 : decode cX10_feed 42 = .ok (.iload_n 2, 1) := by decide +kernel
theorem dX10_feed_43 : decode cX10_feed 43 = .ok (.goto 4, 3) := by decide +kernel
theorem dX10_feed_46 : decode cX10_feed 46 = .ok (.iload_n 3, 1) := by decide +kernel
theorem dX10_feed_47 : decode cX10_feed 47 = .ok (.istore 5, 2) := by decide +kernel
theorem dX10_feed_49 : decode cX10_feed 49 = .ok (.aload_n 0, 1) := by decide +kernel
theorem dX10_feed_50 : decode cX10_feed 50 = .ok (.getfield 68, 3) := by decide +kernel
theorem dX10_feed_53 : decode cX10_feed 53 = .ok (.aload_n 0, 1) := by decide +kernel
theorem dX10_feed_54 : decode cX10_feed 54 = .ok (.getfield 223, 3) := by decide +kernel
theorem dX10_feed_57 : decode cX10_feed 57 = .ok (.iload 5, 2) := by decide +kernel
theorem dX10_feed_59 : decode cX10_feed 59 = .ok (.bipush 24, 2) := by decide +kernel
theorem dX10_feed_61 : decode cX10_feed 61 = .ok (.bipush 8, 2) := by decide +kernel
theorem dX10_feed_63 : decode cX10_feed 63 = .ok (.iload 4, 2) := by decide +kernel
theorem dX10_feed_65 : decode cX10_feed 65 = .ok (.iconst 4, 1) := by decide +kernel
theorem dX10_feed_66 : decode cX10_feed 66 = .ok (.irem, 1) := by decide +kernel
theorem dX10_feed_67 : decode cX10_feed 67 = .ok (.imul, 1) := by decide +kernel
theorem dX10_feed_68 : decode cX10_feed 68 = .ok (.isub, 1) := by decide +kernel
theorem dX10_feed_69 : decode cX10_feed 69 = .ok (.ishr, 1) := by decide +kernel
theorem dX10_feed_70 : decode cX10_feed 70 = .ok (.sipush 255, 3) := by decide +kernel
theorem dX10_feed_73 : decode cX10_feed 73 = .ok (.iand, 1) := by decide +kernel
theorem dX10_feed_74 : decode cX10_feed 74 = .ok (.iastore, 1) := by decide +kernel
theorem dX10_feed_75 : decode cX10_feed 75 = .ok (.aload_n 0, 1) := by decide +kernel
theorem dX10_feed_76 : decode cX10_feed 76 = .ok (.dup, 1) := by decide +kernel
theorem dX10_feed_77 : decode cX10_feed 77 = .ok (.getfield 223, 3) := by decide +kernel
theorem dX10_feed_80 : decode cX10_feed 80 = .ok (.iconst 1, 1) := by decide +kernel
theorem dX10_feed_81 : decode cX10_feed 81 = .ok (.iadd, 1) := by decide +kernel
theorem dX10_feed_82 : decode cX10_feed 82 = .ok (.putfield 223, 3) := by decide +kernel
theorem dX10_feed_85 : decode cX10_feed 85 = .ok (.iinc 4 1, 3) := by decide +kernel
theorem dX10_feed_88 : decode cX10_feed 88 = .ok (.goto (-70), 3) := by decide +kernel
theorem dX10_feed_91 : decode cX10_feed 91 = .ok (.aload_n 0, 1) := by decide +kernel
theorem dX10_feed_92 : decode cX10_feed 92 = .ok (.getfield 223, 3) := by decide +kernel
theorem dX10_feed_95 : decode cX10_feed 95 = .ok (.ireturn, 1) := by decide +kernel
theorem dX10_trim_0 : decode cX10_trim 0 = .ok (.iload_n 1, 1) := by decide +kernel
theorem dX10_trim_1 : decode cX10_trim 1 = .ok (.i2l, 1) := by decide +kernel
theorem dX10_trim_2 : decode cX10_trim 2 = .ok (.lconst 0, 1) := by decide +kernel
theorem dX10_trim_3 : decode cX10_trim 3 = .ok (.aload_n 0, 1) := by decide +kernel
theorem dX10_trim_4 : decode cX10_trim 4 = .ok (.getfield 223, 3) := by decide +kernel
theorem dX10_trim_7 : decode cX10_trim 7 = .ok (.i2l, 1) := by decide +kernel
theorem dX10_trim_8 : decode cX10_trim 8 = .ok (.invokestatic 87, 3) := by decide +kernel
theorem dX10_trim_11 : decode cX10_trim 11 = .ok (.ifCond .ne 6, 3) := by decide +kernel
theorem dX10_trim_14 : decode cX10_trim 14 = .ok (.ldc 126, 2) := by decide +kernel
theorem dX10_trim_16 : decode cX10_trim 16 = .ok (.ireturn, 1) := by decide +kernel
theorem dX10_trim_17 : decode cX10_trim 17 = .ok (.aload_n 0, 1) := by decide +kernel
theorem dX10_trim_18 : decode cX10_trim 18 = .ok (.iload_n 1, 1) := by decide +kernel
theorem dX10_trim_19 : decode cX10_trim 19 = .ok (.putfield 223, 3) := by decide +kernel
theorem dX10_trim_22 : decode cX10_trim 22 = .ok (.iload_n 1, 1) := by decide +kernel
theorem dX10_trim_23 : decode cX10_trim 23 = .ok (.ireturn, 1) := by decide +kernel
theorem dX10_isLetter_0 : decode cX10_isLetter 0 = .ok (.iload_n 1, 1) := by decide +kernel
theorem dX10_isLetter_1 : decode cX10_isLetter 1 = .ok (.aload_n 0, 1) := by decide +kernel
theorem dX10_isLetter_2 : decode cX10_isLetter 2 = .ok (.getfield 223, 3) := by decide +kernel
theorem dX10_isLetter_5 : decode cX10_isLetter 5 = .ok (.if_icmp .ge 26, 3) := by decide +kernel
theorem dX10_isLetter_8 : decode cX10_isLetter 8 = .ok (.aload_n 0, 1) := by decide +kernel
theorem dX10_isLetter_9 : decode cX10_isLetter 9 = .ok (.getfield 68, 3) := by decide +kernel
theorem dX10_isLetter_12 : decode cX10_isLetter 12 = .ok (.iload_n 1, 1) := by decide +kernel
theorem dX10_isLetter_13 : decode cX10_isLetter 13 = .ok (.iaload, 1) := by decide +kernel
theorem dX10_isLetter_14 : decode cX10_isLetter 14 = .ok (.i2l, 1) := by decide +kernel
theorem dX10_isLetter_15 : decode cX10_isLetter 15 = .ok (.ldc2_w 227, 3) := by decide +kernel
theorem dX10_isLetter_18 : decode cX10_isLetter 18 = .ok (.ldc2_w 229, 3) := by decide +kernel
theorem dX10_isLetter_21 : decode cX10_isLetter 21 = .ok (.invokestatic 87, 3) := by decide +kernel
theorem dX10_isLetter_24 : decode cX10_isLetter 24 = .ok (.ifCond .eq 7, 3) := by decide +kernel
theorem dX10_isLetter_27 : decode cX10_isLetter 27 = .ok (.iconst 1, 1) := by decide +kernel
theorem dX10_isLetter_28 : decode cX10_isLetter 28 = .ok (.goto 4, 3) := by decide +kernel
theorem dX10_isLetter_31 : decode cX10_isLetter 31 = .ok (.iconst 0, 1) := by decide +kernel
theorem dX10_isLetter_32 : decode cX10_isLetter 32 = .ok (.ireturn, 1) := by decide +kernel
theorem dX10_isDigit_0 : decode cX10_isDigit 0 = .ok (.iload_n 1, 1) := by decide +kernel
theorem dX10_isDigit_1 : decode cX10_isDigit 1 = .ok (.aload_n 0, 1) := by decide +kernel
theorem dX10_isDigit_2 : decode cX10_isDigit 2 = .ok (.getfield 223, 3) := by decide +kernel
theorem dX10_isDigit_5 : decode cX10_isDigit 5 = .ok (.if_icmp .ge 26, 3) := by decide +kernel
theorem dX10_isDigit_8 : decode cX10_isDigit 8 = .ok (.aload_n 0, 1) := by decide +kernel
theorem dX10_isDigit_9 : decode cX10_isDigit 9 = .ok (.getfield 68, 3) := by decide +kernel
theorem dX10_isDigit_12 : decode cX10_isDigit 12 = .ok (.iload_n 1, 1) := by decide +kernel
theorem dX10_isDigit_13 : decode cX10_isDigit 13 = .ok (.iaload, 1) := by decide +kernel
theorem dX10_isDigit_14 : decode cX10_isDigit 14 = .ok (.i2l, 1) := by decide +kernel
theorem dX10_isDigit_15 : decode cX10_isDigit 15 = .ok (.ldc2_w 166, 3) := by decide +kernel
theorem dX10_isDigit_18 : decode cX10_isDigit 18 = .ok (.ldc2_w 231, 3) := by decide +kernel
theorem dX10_isDigit_21 : decode cX10_isDigit 21 = .ok (.invokestatic 87, 3) := by decide +kernel
theorem dX10_isDigit_24 : decode cX10_isDigit 24 = .ok (.ifCond .eq 7, 3) := by decide +kernel
theorem dX10_isDigit_27 : decode cX10_isDigit 27 = .ok (.iconst 1, 1) := by decide +kernel
theorem dX10_isDigit_28 : decode cX10_isDigit 28 = .ok (.goto 4, 3) := by decide +kernel
theorem dX10_isDigit_31 : decode cX10_isDigit 31 = .ok (.iconst 0, 1) := by decide +kernel
theorem dX10_isDigit_32 : decode cX10_isDigit 32 = .ok (.ireturn, 1) := by decide +kernel
theorem dX10_nextToken_0 : decode cX10_nextToken 0 = .ok (.aload_n 0, 1) := by decide +kernel
theorem dX10_nextToken_1 : decode cX10_nextToken 1 = .ok (.getfield 233, 3) := by decide +kernel
theorem dX10_nextToken_4 : decode cX10_nextToken 4 = .ok (.ifCond .le 23, 3) := by decide +kernel
theorem dX10_nextToken_7 : decode cX10_nextToken 7 = .ok (.aload_n 0, 1) := by decide +kernel
theorem dX10_nextToken_8 : decode cX10_nextToken 8 = .ok (.getfield 236, 3) := by decide +kernel
theorem dX10_nextToken_11 : decode cX10_nextToken 11 = .ok (.iconst 1, 1) := by decide +kernel
theorem dX10_nextToken_12 : decode cX10_nextToken 12 = .ok (.if_icmp .eq 11, 3) := by decide +kernel
theorem dX10_nextToken_15 : decode cX10_nextToken 15 = .ok (.aload_n 0, 1) := by decide +kernel
theorem dX10_nextToken_16 : decode cX10_nextToken 16 = .ok (.getfield 236, 3) := by decide +kernel
theorem dX10_nextToken_19 : decode cX10_nextToken 19 = .ok (.iconst 2, 1) := by decide +kernel
theorem dX10_nextToken_20 : decode cX10_nextToken 20 = .ok (.if_icmp .ne 7, 3) := by decide +kernel
theorem dX10_nextToken_23 : decode cX10_nextToken 23 = .ok (.iconst 1, 1) := by decide +kernel
theorem dX10_nextToken_24 : decode cX10_nextToken 24 = .ok (.goto 4, 3) := by decide +kernel
theorem dX10_nextToken_27 : decode cX10_nextToken 27 = .ok (.iconst 0, 1) := by decide +kernel
theorem dX10_nextToken_28 : decode cX10_nextToken 28 = .ok (.istore_n 1, 1) := by decide +kernel
theorem dX10_nextToken_29 : decode cX10_nextToken 29 = .ok (.aload_n 0, 1) := by decide +kernel
theorem dX10_nextToken_30 : decode cX10_nextToken 30 = .ok (.getfield 233, 3) := by decide +kernel
theorem dX10_nextToken_33 : decode cX10_nextToken 33 = .ok (.istore_n 2, 1) := by decide +kernel
theorem dX10_nextToken_34 : decode cX10_nextToken 34 = .ok (.aload_n 0, 1) := by decide +kernel
theorem dX10_nextToken_35 : decode cX10_nextToken 35 = .ok (.getfield 233, 3) := by decide +kernel
theorem dX10_nextToken_38 : decode cX10_nextToken 38 = .ok (.aload_n 0, 1) := by decide +kernel
theorem dX10_nextToken_39 : decode cX10_nextToken 39 = .ok (.getfield 223, 3) := by decide +kernel
theorem dX10_nextToken_42 : decode cX10_nextToken 42 = .ok (.if_icmp .ge 30, 3) := by decide +kernel
theorem dX10_nextToken_45 : decode cX10_nextToken 45 = .ok (.aload_n 0, 1) := by decide +kernel
theorem dX10_nextToken_46 : decode cX10_nextToken 46 = .ok (.getfield 68, 3) := by decide +kernel
theorem dX10_nextToken_49 : decode cX10_nextToken 49 = .ok (.aload_n 0, 1) := by decide +kernel
theorem dX10_nextToken_50 : decode cX10_nextToken 50 = .ok (.getfield 233, 3) := by decide +kernel
theorem dX10_nextToken_53 : decode cX10_nextToken 53 = .ok (.iaload, 1) := by decide +kernel
theorem dX10_nextToken_54 : decode cX10_nextToken 54 = .ok (.bipush 32, 2) := by decide +kernel
theorem dX10_nextToken_56 : decode cX10_nextToken 56 = .ok (.if_icmp .ne 16, 3) := by decide +kernel
theorem dX10_nextToken_59 : decode cX10_nextToken 59 = .ok (.aload_n 0, 1) := by decide +kernel
theorem dX10_nextToken_60 : decode cX10_nextToken 60 = .ok (.dup, 1) := by decide +kernel
theorem dX10_nextToken_61 : decode cX10_nextToken 61 = .ok (.getfield 233, 3) := by decide +kernel
theorem dX10_nextToken_64 : decode cX10_nextToken 64 = .ok (.iconst 1, 1) := by decide +kernel
theorem dX10_nextToken_65 : decode cX10_nextToken 65 = .ok (.iadd, 1) := by decide +kernel
theorem dX10_nextToken_66 : decode cX10_nextToken 66 = .ok (.putfield 233, 3) := by decide +kernel
theorem dX10_nextToken_69 : decode cX10_nextToken 69 = .ok (.goto (-35), 3) := by decide +kernel
theorem dX10_nextToken_72 : decode cX10_nextToken 72 = .ok (.iload_n 1, 1) := by decide +kernel
theorem dX10_nextToken_73 : decode cX10_nextToken 73 = .ok (.ifCond .eq 15, 3) := by decide +kernel
theorem dX10_nextToken_76 : decode cX10_nextToken 76 = .ok (.iload_n 2, 1) := by decide +kernel
theorem dX10_nextToken_77 : decode cX10_nextToken 77 = .ok (.aload_n 0, 1) := by decide +kernel
theorem dX10_nextToken_78 : decode cX10_nextToken 78 = .ok (.getfield 233, 3) := by decide +kernel
theorem dX10_nextToken_81 : decode cX10_nextToken 81 = .ok (.if_icmp .ne 7, 3) := by decide +kernel
theorem dX10_nextToken_84 : decode cX10_nextToken 84 = .ok (.iconst 1, 1) := by decide +kernel
theorem dX10_nextToken_85 : decode cX10_nextToken 85 = .ok (.goto 4, 3) := by decide +kernel
theorem dX10_nextToken_88 : decode cX10_nextToken 88 = .ok (.iconst 0, 1) := by decide +kernel
theorem dX10_nextToken_89 : decode cX10_nextToken 89 = .ok (.istore_n 1, 1) := by decide +kernel
theorem dX10_nextToken_90 : decode cX10_nextToken 90 = .ok (.aload_n 0, 1) := by decide +kernel
theorem dX10_nextToken_91 : decode cX10_nextToken 91 = .ok (.aload_n 0, 1) := by decide +kernel
theorem dX10_nextToken_92 : decode cX10_nextToken 92 = .ok (.getfield 233, 3) := by decide +kernel
theorem dX10_nextToken_95 : decode cX10_nextToken 95 = .ok (.putfield 239, 3) := by decide +kernel
theorem dX10_nextToken_98 : decode cX10_nextToken 98 = .ok (.aload_n 0, 1) := by decide +kernel
theorem dX10_nextToken_99 : decode cX10_nextToken 99 = .ok (.getfield 239, 3) := by decide +kernel
theorem dX10_nextToken_102 : decode cX10_nextToken 102 = .ok (.aload_n 0, 1) := by decide +kernel
theorem dX10_nextToken_103 : decode cX10_nextToken 103 = .ok (.getfield 223, 3) := by decide +kernel
theorem dX10_nextToken_106 : decode cX10_nextToken 106 = .ok (.if_icmp .ne 11, 3) := by decide +kernel
theorem dX10_nextToken_109 : decode cX10_nextToken 109 = .ok (.aload_n 0, 1) := by decide +kernel
theorem dX10_nextToken_110 : decode cX10_nextToken 110 = .ok (.iconst 0, 1) := by decide +kernel
theorem dX10_nextToken_111 : decode cX10_nextToken 111 = .ok (.putfield 236, 3) := by decide +kernel
theorem dX10_nextToken_114 : decode cX10_nextToken 114 = .ok (.goto 225, 3) := by decide +kernel
theorem dX10_nextToken_117 : decode cX10_nextToken 117 = .ok (.aload_n 0, 1) := by decide +kernel
theorem dX10_nextToken_118 : decode cX10_nextToken 118 = .ok (.aload_n 0, 1) := by decide +kernel
theorem dX10_nextToken_119 : decode cX10_nextToken 119 = .ok (.getfield 239, 3) := by decide +kernel
theorem dX10_nextToken_122 : decode cX10_nextToken 122 = .ok (.invokevirtual 242, 3) := by decide +kernel
theorem dX10_nextToken_125 : decode cX10_nextToken 125 = .ok (.ifCond .eq 73, 3) := by decide +kernel
theorem dX10_nextToken_128 : decode cX10_nextToken 128 = .ok (.aload_n 0, 1) := by decide +kernel
theorem dX10_nextToken_129 : decode cX10_nextToken 129 = .ok (.aload_n 0, 1) := by decide +kernel
theorem dX10_nextToken_130 : decode cX10_nextToken 130 = .ok (.getfield 233, 3) := by decide +kernel
theorem dX10_nextToken_133 : decode cX10_nextToken 133 = .ok (.invokevirtual 242, 3) := by decide +kernel
theorem dX10_nextToken_136 : decode cX10_nextToken 136 = .ok (.ifCond .eq 16, 3) := by decide +kernel
theorem dX10_nextToken_139 : decode cX10_nextToken 139 = .ok (.aload_n 0, 1) := by decide +kernel
theorem dX10_nextToken_140 : decode cX10_nextToken 140 = .ok (.dup, 1) := by decide +kernel
theorem dX10_nextToken_141 : decode cX10_nextToken 141 = .ok (.getfield 233, 3) := by decide +kernel
theorem dX10_nextToken_144 : decode cX10_nextToken 144 = .ok (.iconst 1, 1) := by decide +kernel
theorem dX10_nextToken_145 : decode cX10_nextToken 145 = .ok (.iadd, 1) := by decide +kernel
theorem dX10_nextToken_146 : decode cX10_nextToken 146 = .ok (.putfield 233, 3) := by decide +kernel
theorem dX10_nextToken_149 : decode cX10_nextToken 149 = .ok (.goto (-21), 3) := by decide +kernel
theorem dX10_nextToken_152 : decode cX10_nextToken 152 = .ok (.aload_n 0, 1) := by decide +kernel
theorem dX10_nextToken_153 : decode cX10_nextToken 153 = .ok (.iload_n 1, 1) := by decide +kernel
theorem dX10_nextToken_154 : decode cX10_nextToken 154 = .ok (.ifCond .eq 7, 3) := by decide +kernel
theorem dX10_nextToken_157 : decode cX10_nextToken 157 = .ok (.iconst 4, 1) := by decide +kernel
theorem dX10_nextToken_158 : decode cX10_nextToken 158 = .ok (.goto 4, 3) := by decide +kernel
theorem dX10_nextToken_161 : decode cX10_nextToken 161 = .ok (.iconst 1, 1) := by decide +kernel
theorem dX10_nextToken_162 : decode cX10_nextToken 162 = .ok (.putfield 236, 3) := by decide +kernel
theorem dX10_nextToken_165 : decode cX10_nextToken 165 = .ok (.aload_n 0, 1) := by decide +kernel
theorem dX10_nextToken_166 : decode cX10_nextToken 166 = .ok (.aload_n 0, 1) := by decide +kernel
theorem dX10_nextToken_167 : decode cX10_nextToken 167 = .ok (.getfield 233, 3) := by decide +kernel
theorem dX10_nextToken_170 : decode cX10_nextToken 170 = .ok (.aload_n 0, 1) := by decide +kernel
theorem dX10_nextToken_171 : decode cX10_nextToken 171 = .ok (.getfield 239, 3) := by decide +kernel
theorem dX10_nextToken_174 : decode cX10_nextToken 174 = .ok (.isub, 1) := by decide +kernel
theorem dX10_nextToken_175 : decode cX10_nextToken 175 = .ok (.iconst 1, 1) := by decide +kernel
theorem dX10_nextToken_176 : decode cX10_nextToken 176 = .ok (.if_icmp .ne 15, 3) := by decide +kernel
theorem dX10_nextToken_179 : decode cX10_nextToken 179 = .ok (.aload_n 0, 1) := by decide +kernel
theorem dX10_nextToken_180 : decode cX10_nextToken 180 = .ok (.getfield 68, 3) := by decide +kernel
theorem dX10_nextToken_183 : decode cX10_nextToken 183 = .ok (.aload_n 0, 1) := by decide +kernel
theorem dX10_nextToken_184 : decode cX10_nextToken 184 = .ok (.getfield 239, 3) := by decide +kernel
theorem dX10_nextToken_187 : decode cX10_nextToken 187 = .ok (.iaload, 1) := by decide +kernel
theorem dX10_nextToken_188 : decode cX10_nextToken 188 = .ok (.goto 4, 3) := by decide +kernel
theorem dX10_nextToken_191 : decode cX10_nextToken 191 = .ok (.iconst 0, 1) := by decide +kernel
theorem dX10_nextToken_192 : decode cX10_nextToken 192 = .ok (.putfield 245, 3) := by decide +kernel
theorem dX10_nextToken_195 : decode cX10_nextToken 195 = .ok (.goto 144, 3) := by decide +kernel
theorem dX10_nextToken_198 : decode cX10_nextToken 198 = .ok (.aload_n 0, 1) := by decide +kernel
theorem dX10_nextToken_199 : decode cX10_nextToken 199 = .ok (.aload_n 0, 1) := by decide +kernel
theorem dX10_nextToken_200 : decode cX10_nextToken 200 = .ok (.getfield 239, 3) := by decide +kernel
theorem dX10_nextToken_203 : decode cX10_nextToken 203 = .ok (.invokevirtual 248, 3) := by decide +kernel
theorem dX10_nextToken_206 : decode cX10_nextToken 206 = .ok (.ifCond .eq 105, 3) := by decide +kernel
theorem dX10_nextToken_209 : decode cX10_nextToken 209 = .ok (.aload_n 0, 1) := by decide +kernel
theorem dX10_nextToken_210 : decode cX10_nextToken 210 = .ok (.iconst 0, 1) := by decide +kernel
theorem dX10_nextToken_211 : decode cX10_nextToken 211 = .ok (.putfield 251, 3) := by decide +kernel
theorem dX10_nextToken_214 : decode cX10_nextToken 214 = .ok (.aload_n 0, 1) := by decide +kernel
theorem dX10_nextToken_215 : decode cX10_nextToken 215 = .ok (.aload_n 0, 1) := by decide +kernel
theorem dX10_nextToken_216 : decode cX10_nextToken 216 = .ok (.getfield 233, 3) := by decide +kernel
theorem dX10_nextToken_219 : decode cX10_nextToken 219 = .ok (.invokevirtual 248, 3) := by decide +kernel
theorem dX10_nextToken_222 : decode cX10_nextToken 222 = .ok (.ifCond .eq 60, 3) := by decide +kernel
theorem dX10_nextToken_225 : decode cX10_nextToken 225 = .ok (.aload_n 0, 1) := by decide +kernel
theorem dX10_nextToken_226 : decode cX10_nextToken 226 = .ok (.aload_n 0, 1) := by decide +kernel
theorem dX10_nextToken_227 : decode cX10_nextToken 227 = .ok (.getfield 233, 3) := by decide +kernel
theorem dX10_nextToken_230 : decode cX10_nextToken 230 = .ok (.aload_n 0, 1) := by decide +kernel
theorem dX10_nextToken_231 : decode cX10_nextToken 231 = .ok (.getfield 239, 3) := by decide +kernel
theorem dX10_nextToken_234 : decode cX10_nextToken 234 = .ok (.isub, 1) := by decide +kernel
theorem dX10_nextToken_235 : decode cX10_nextToken 235 = .ok (.iconst 4, 1) := by decide +kernel
theorem dX10_nextToken_236 : decode cX10_nextToken 236 = .ok (.if_icmp .ge 26, 3) := by decide +kernel
theorem dX10_nextToken_239 : decode cX10_nextToken 239 = .ok (.bipush 10, 2) := by decide +kernel
theorem dX10_nextToken_241 : decode cX10_nextToken 241 = .ok (.aload_n 0, 1) := by decide +kernel
theorem dX10_nextToken_242 : decode cX10_nextToken 242 = .ok (.getfield 251, 3) := by decide +kernel
theorem dX10_nextToken_245 : decode cX10_nextToken 245 = .ok (.imul, 1) := by decide +kernel
theorem dX10_nextToken_246 : decode cX10_nextToken 246 = .ok (.aload_n 0, 1) := by decide +kernel
theorem dX10_nextToken_247 : decode cX10_nextToken 247 = .ok (.getfield 68, 3) := by decide +kernel
theorem dX10_nextToken_250 : decode cX10_nextToken 250 = .ok (.aload_n 0, 1) := by decide +kernel
theorem dX10_nextToken_251 : decode cX10_nextToken 251 = .ok (.getfield 233, 3) := by decide +kernel
theorem dX10_nextToken_254 : decode cX10_nextToken 254 = .ok (.iaload, 1) := by decide +kernel
theorem dX10_nextToken_255 : decode cX10_nextToken 255 = .ok (.iadd, 1) := by decide +kernel
theorem dX10_nextToken_256 : decode cX10_nextToken 256 = .ok (.bipush 48, 2) := by decide +kernel
theorem dX10_nextToken_258 : decode cX10_nextToken 258 = .ok (.isub, 1) := by decide +kernel
theorem dX10_nextToken_259 : decode cX10_nextToken 259 = .ok (.goto 7, 3) := by decide +kernel
theorem dX10_nextToken_262 : decode cX10_nextToken 262 = .ok (.aload_n 0, 1) := by decide +kernel
theorem dX10_nextToken_263 : decode cX10_nextToken 263 = .ok (.getfield 251, 3) := by decide +kernel
theorem dX10_nextToken_266 : decode cX10_nextToken 266 = .ok (.putfield 251, 3) := by decide +kernel
theorem dX10_nextToken_269 : decode cX10_nextToken 269 = .ok (.aload_n 0, 1) := by decide +kernel
theorem dX10_nextToken_270 : decode cX10_nextToken 270 = .ok (.dup, 1) := by decide +kernel
theorem dX10_nextToken_271 : decode cX10_nextToken 271 = .ok (.getfield 233, 3) := by decide +kernel
theorem dX10_nextToken_274 : decode cX10_nextToken 274 = .ok (.iconst 1, 1) := by decide +kernel
theorem dX10_nextToken_275 : decode cX10_nextToken 275 = .ok (.iadd, 1) := by decide +kernel
theorem dX10_nextToken_276 : decode cX10_nextToken 276 = .ok (.putfield 233, 3) := by decide +kernel
theorem dX10_nextToken_279 : decode cX10_nextToken 279 = .ok (.goto (-65), 3) := by decide +kernel
theorem dX10_nextToken_282 : decode cX10_nextToken 282 = .ok (.aload_n 0, 1) := by decide +kernel
theorem dX10_nextToken_283 : decode cX10_nextToken 283 = .ok (.iload_n 1, 1) := by decide +kernel
theorem dX10_nextToken_284 : decode cX10_nextToken 284 = .ok (.ifCond .ne 16, 3) := by decide +kernel
theorem dX10_nextToken_287 : decode cX10_nextToken 287 = .ok (.aload_n 0, 1) := by decide +kernel
theorem dX10_nextToken_288 : decode cX10_nextToken 288 = .ok (.getfield 233, 3) := by decide +kernel
theorem dX10_nextToken_291 : decode cX10_nextToken 291 = .ok (.aload_n 0, 1) := by decide +kernel
theorem dX10_nextToken_292 : decode cX10_nextToken 292 = .ok (.getfield 239, 3) := by decide +kernel
theorem dX10_nextToken_295 : decode cX10_nextToken 295 = .ok (.isub, 1) := by decide +kernel
theorem dX10_nextToken_296 : decode cX10_nextToken 296 = .ok (.iconst 4, 1) := by decide +kernel
theorem dX10_nextToken_297 : decode cX10_nextToken 297 = .ok (.if_icmp .le 7, 3) := by decide +kernel
theorem dX10_nextToken_300 : decode cX10_nextToken 300 = .ok (.iconst 4, 1) := by decide +kernel
theorem dX10_nextToken_301 : decode cX10_nextToken 301 = .ok (.goto 4, 3) := by decide +kernel
theorem dX10_nextToken_304 : decode cX10_nextToken 304 = .ok (.iconst 2, 1) := by decide +kernel
theorem dX10_nextToken_305 : decode cX10_nextToken 305 = .ok (.putfield 236, 3) := by decide +kernel
theorem dX10_nextToken_308 : decode cX10_nextToken 308 = .ok (.goto 31, 3) := by decide +kernel
theorem dX10_nextToken_311 : decode cX10_nextToken 311 = .ok (.aload_n 0, 1) := by decide +kernel
theorem dX10_nextToken_312 : decode cX10_nextToken 312 = .ok (.iconst 3, 1) := by decide +kernel
theorem dX10_nextToken_313 : decode cX10_nextToken 313 = .ok (.putfield 236, 3) := by decide +kernel
theorem dX10_nextToken_316 : decode cX10_nextToken 316 = .ok (.aload_n 0, 1) := by decide +kernel
theorem dX10_nextToken_317 : decode cX10_nextToken 317 = .ok (.aload_n 0, 1) := by decide +kernel
theorem dX10_nextToken_318 : decode cX10_nextToken 318 = .ok (.getfield 68, 3) := by decide +kernel
theorem dX10_nextToken_321 : decode cX10_nextToken 321 = .ok (.aload_n 0, 1) := by decide +kernel
theorem dX10_nextToken_322 : decode cX10_nextToken 322 = .ok (.getfield 239, 3) := by decide +kernel
theorem dX10_nextToken_325 : decode cX10_nextToken 325 = .ok (.iaload, 1) := by decide +kernel
theorem dX10_nextToken_326 : decode cX10_nextToken 326 = .ok (.putfield 245, 3) := by decide +kernel
theorem dX10_nextToken_329 : decode cX10_nextToken 329 = .ok (.aload_n 0, 1) := by decide +kernel
theorem dX10_nextToken_330 : decode cX10_nextToken 330 = .ok (.dup, 1) := by decide +kernel
theorem dX10_nextToken_331 : decode cX10_nextToken 331 = .ok (.getfield 233, 3) := by decide +kernel
theorem dX10_nextToken_334 : decode cX10_nextToken 334 = .ok (.iconst 1, 1) := by decide +kernel
theorem dX10_nextToken_335 : decode cX10_nextToken 335 = .ok (.iadd, 1) := by decide +kernel
theorem dX10_nextToken_336 : decode cX10_nextToken 336 = .ok (.putfield 233, 3) := by decide +kernel
theorem dX10_nextToken_339 : decode cX10_nextToken 339 = .ok (.return_, 1) := by decide +kernel
theorem dX10_isSign_0 : decode cX10_isSign 0 = .ok (.aload_n 0, 1) := by decide +kernel
theorem dX10_isSign_1 : decode cX10_isSign 1 = .ok (.getfield 236, 3) := by decide +kernel
theorem dX10_isSign_4 : decode cX10_isSign 4 = .ok (.iconst 3, 1) := by decide +kernel
theorem dX10_isSign_5 : decode cX10_isSign 5 = .ok (.if_icmp .ne 15, 3) := by decide +kernel
theorem dX10_isSign_8 : decode cX10_isSign 8 = .ok (.aload_n 0, 1) := by decide +kernel
theorem dX10_isSign_9 : decode cX10_isSign 9 = .ok (.getfield 245, 3) := by decide +kernel
theorem dX10_isSign_12 : decode cX10_isSign 12 = .ok (.iload_n 1, 1) := by decide +kernel
theorem dX10_isSign_13 : decode cX10_isSign 13 = .ok (.if_icmp .ne 7, 3) := by decide +kernel
theorem dX10_isSign_16 : decode cX10_isSign 16 = .ok (.iconst 1, 1) := by decide +kernel
theorem dX10_isSign_17 : decode cX10_isSign 17 = .ok (.goto 4, 3) := by decide +kernel
theorem dX10_isSign_20 : decode cX10_isSign 20 = .ok (.iconst 0, 1) := by decide +kernel
theorem dX10_isSign_21 : decode cX10_isSign 21 = .ok (.ireturn, 1) := by decide +kernel
theorem dX10_isWordAt_0 : decode cX10_isWordAt 0 = .ok (.iload 4, 2) := by decide +kernel
theorem dX10_isWordAt_2 : decode cX10_isWordAt 2 = .ok (.ifCond .ne 7, 3) := by decide +kernel
theorem dX10_isWordAt_5 : decode cX10_isWordAt 5 = .ok (.iconst 3, 1) := by decide +kernel
theorem dX10_isWordAt_6 : decode cX10_isWordAt 6 = .ok (.goto 4, 3) := by decide +kernel
theorem dX10_isWordAt_9 : decode cX10_isWordAt 9 = .ok (.iconst 4, 1) := by decide +kernel
theorem dX10_isWordAt_10 : decode cX10_isWordAt 10 = .ok (.istore 5, 2) := by decide +kernel
theorem dX10_isWordAt_12 : decode cX10_isWordAt 12 = .ok (.aload_n 0, 1) := by decide +kernel
theorem dX10_isWordAt_13 : decode cX10_isWordAt 13 = .ok (.getfield 236, 3) := by decide +kernel
theorem dX10_isWordAt_16 : decode cX10_isWordAt 16 = .ok (.iconst 1, 1) := by decide +kernel
theorem dX10_isWordAt_17 : decode cX10_isWordAt 17 = .ok (.if_icmp .ne 85, 3) := by decide +kernel
theorem dX10_isWordAt_20 : decode cX10_isWordAt 20 = .ok (.aload_n 0, 1) := by decide +kernel
theorem dX10_isWordAt_21 : decode cX10_isWordAt 21 = .ok (.getfield 233, 3) := by decide +kernel
theorem dX10_isWordAt_24 : decode cX10_isWordAt 24 = .ok (.aload_n 0, 1) := by decide +kernel
theorem dX10_isWordAt_25 : decode cX10_isWordAt 25 = .ok (.getfield 239, 3) := by decide +kernel
theorem dX10_isWordAt_28 : decode cX10_isWordAt 28 = .ok (.isub, 1) := by decide +kernel
theorem dX10_isWordAt_29 : decode cX10_isWordAt 29 = .ok (.iload 5, 2) := by decide +kernel
theorem dX10_isWordAt_31 : decode cX10_isWordAt 31 = .ok (.if_icmp .ne 71, 3) := by decide +kernel
theorem dX10_isWordAt_34 : decode cX10_isWordAt 34 = .ok (.aload_n 0, 1) := by decide +kernel
theorem dX10_isWordAt_35 : decode cX10_isWordAt 35 = .ok (.getfield 68, 3) := by decide +kernel
theorem dX10_isWordAt_38 : decode cX10_isWordAt 38 = .ok (.aload_n 0, 1) := by decide +kernel
theorem dX10_isWordAt_39 : decode cX10_isWordAt 39 = .ok (.getfield 239, 3) := by decide +kernel
theorem dX10_isWordAt_42 : decode cX10_isWordAt 42 = .ok (.iaload, 1) := by decide +kernel
theorem dX10_isWordAt_43 : decode cX10_isWordAt 43 = .ok (.iload_n 1, 1) := by decide +kernel
theorem dX10_isWordAt_44 : decode cX10_isWordAt 44 = .ok (.if_icmp .ne 58, 3) := by decide +kernel
theorem dX10_isWordAt_47 : decode cX10_isWordAt 47 = .ok (.aload_n 0, 1) := by decide +kernel
theorem dX10_isWordAt_48 : decode cX10_isWordAt 48 = .ok (.getfield 68, 3) := by decide +kernel
theorem dX10_isWordAt_51 : decode cX10_isWordAt 51 = .ok (.aload_n 0, 1) := by decide +kernel
theorem dX10_isWordAt_52 : decode cX10_isWordAt 52 = .ok (.getfield 239, 3) := by decide +kernel
theorem dX10_isWordAt_55 : decode cX10_isWordAt 55 = .ok (.iconst 1, 1) := by decide +kernel
theorem dX10_isWordAt_56 : decode cX10_isWordAt 56 = .ok (.iadd, 1) := by decide +kernel
theorem dX10_isWordAt_57 : decode cX10_isWordAt 57 = .ok (.iaload, 1) := by decide +kernel
theorem dX10_isWordAt_58 : decode cX10_isWordAt 58 = .ok (.iload_n 2, 1) := by decide +kernel
theorem dX10_isWordAt_59 : decode cX10_isWordAt 59 = .ok (.if_icmp .ne 43, 3) := by decide +kernel
theorem dX10_isWordAt_62 : decode cX10_isWordAt 62 = .ok (.aload_n 0, 1) := by decide +kernel
theorem dX10_isWordAt_63 : decode cX10_isWordAt 63 = .ok (.getfield 68, 3) := by decide +kernel
theorem dX10_isWordAt_66 : decode cX10_isWordAt 66 = .ok (.aload_n 0, 1) := by decide +kernel
theorem dX10_isWordAt_67 : decode cX10_isWordAt 67 = .ok (.getfield 239, 3) := by decide +kernel
theorem dX10_isWordAt_70 : decode cX10_isWordAt 70 = .ok (.iconst 2, 1) := by decide +kernel
theorem dX10_isWordAt_71 : decode cX10_isWordAt 71 = .ok (.iadd, 1) := by decide +kernel
theorem dX10_isWordAt_72 : decode cX10_isWordAt 72 = .ok (.iaload, 1) := by decide +kernel
theorem dX10_isWordAt_73 : decode cX10_isWordAt 73 = .ok (.iload_n 3, 1) := by decide +kernel
theorem dX10_isWordAt_74 : decode cX10_isWordAt 74 = .ok (.if_icmp .ne 28, 3) := by decide +kernel
theorem dX10_isWordAt_77 : decode cX10_isWordAt 77 = .ok (.iload 4, 2) := by decide +kernel
theorem dX10_isWordAt_79 : decode cX10_isWordAt 79 = .ok (.ifCond .eq 19, 3) := by decide +kernel
theorem dX10_isWordAt_82 : decode cX10_isWordAt 82 = .ok (.aload_n 0, 1) := by decide +kernel
theorem dX10_isWordAt_83 : decode cX10_isWordAt 83 = .ok (.getfield 68, 3) := by decide +kernel
theorem dX10_isWordAt_86 : decode cX10_isWordAt 86 = .ok (.aload_n 0, 1) := by decide +kernel
theorem dX10_isWordAt_87 : decode cX10_isWordAt 87 = .ok (.getfield 239, 3) := by decide +kernel
theorem dX10_isWordAt_90 : decode cX10_isWordAt 90 = .ok (.iconst 3, 1) := by decide +kernel
theorem dX10_isWordAt_91 : decode cX10_isWordAt 91 = .ok (.iadd, 1) := by decide +kernel
theorem dX10_isWordAt_92 : decode cX10_isWordAt 92 = .ok (.iaload, 1) := by decide +kernel
theorem dX10_isWordAt_93 : decode cX10_isWordAt 93 = .ok (.iload 4, 2) := by decide +kernel
theorem dX10_isWordAt_95 : decode cX10_isWordAt 95 = .ok (.if_icmp .ne 7, 3) := by decide +kernel
theorem dX10_isWordAt_98 : decode cX10_isWordAt 98 = .ok (.iconst 1, 1) := by decide +kernel
theorem dX10_isWordAt_99 : decode cX10_isWordAt 99 = .ok (.goto 4, 3) := by decide +kernel
theorem dX10_isWordAt_102 : decode cX10_isWordAt 102 = .ok (.iconst 0, 1) := by decide +kernel
theorem dX10_isWordAt_103 : decode cX10_isWordAt 103 = .ok (.ireturn, 1) := by decide +kernel
theorem dX10_key_0 : decode cX10_key 0 = .ok (.aload_n 0, 1) := by decide +kernel
theorem dX10_key_1 : decode cX10_key 1 = .ok (.bipush 114, 2) := by decide +kernel
theorem dX10_key_3 : decode cX10_key 3 = .ok (.bipush 105, 2) := by decide +kernel
theorem dX10_key_5 : decode cX10_key 5 = .ok (.bipush 115, 2) := by decide +kernel
theorem dX10_key_7 : decode cX10_key 7 = .ok (.bipush 107, 2) := by decide +kernel
theorem dX10_key_9 : decode cX10_key 9 = .ok (.invokevirtual 254, 3) := by decide +kernel
theorem dX10_key_12 : decode cX10_key 12 = .ok (.ifCond .eq 5, 3) := by decide +kernel
theorem dX10_key_15 : decode cX10_key 15 = .ok (.iconst 0, 1) := by decide +kernel
theorem dX10_key_16 : decode cX10_key 16 = .ok (.ireturn, 1) := by decide +kernel
theorem dX10_key_17 : decode cX10_key 17 = .ok (.aload_n 0, 1) := by decide +kernel
theorem dX10_key_18 : decode cX10_key 18 = .ok (.bipush 104, 2) := by decide +kernel
theorem dX10_key_20 : decode cX10_key 20 = .ok (.bipush 111, 2) := by decide +kernel
theorem dX10_key_22 : decode cX10_key 22 = .ok (.bipush 108, 2) := by decide +kernel
theorem dX10_key_24 : decode cX10_key 24 = .ok (.bipush 100, 2) := by decide +kernel
theorem dX10_key_26 : decode cX10_key 26 = .ok (.invokevirtual 254, 3) := by decide +kernel
theorem dX10_key_29 : decode cX10_key 29 = .ok (.ifCond .eq 5, 3) := by decide +kernel
theorem dX10_key_32 : decode cX10_key 32 = .ok (.iconst 1, 1) := by decide +kernel
theorem dX10_key_33 : decode cX10_key 33 = .ok (.ireturn, 1) := by decide +kernel
theorem dX10_key_34 : decode cX10_key 34 = .ok (.aload_n 0, 1) := by decide +kernel
theorem dX10_key_35 : decode cX10_key 35 = .ok (.bipush 115, 2) := by decide +kernel
theorem dX10_key_37 : decode cX10_key 37 = .ok (.bipush 116, 2) := by decide +kernel
theorem dX10_key_39 : decode cX10_key 39 = .ok (.bipush 101, 2) := by decide +kernel
theorem dX10_key_41 : decode cX10_key 41 = .ok (.bipush 112, 2) := by decide +kernel
theorem dX10_key_43 : decode cX10_key 43 = .ok (.invokevirtual 254, 3) := by decide +kernel
theorem dX10_key_46 : decode cX10_key 46 = .ok (.ifCond .eq 7, 3) := by decide +kernel
theorem dX10_key_49 : decode cX10_key 49 = .ok (.iconst 2, 1) := by decide +kernel
theorem dX10_key_50 : decode cX10_key 50 = .ok (.goto 4, 3) := by decide +kernel
theorem dX10_key_53 : decode cX10_key 53 = .ok (.iconst (-1), 1) := by decide +kernel
theorem dX10_key_54 : decode cX10_key 54 = .ok (.ireturn, 1) := by decide +kernel
theorem dX10_isName_0 : decode cX10_isName 0 = .ok (.iload_n 0, 1) := by decide +kernel
theorem dX10_isName_1 : decode cX10_isName 1 = .ok (.lookupswitch 69 #[(0, 27), (1, 51)], 27) := by decide +kernel
theorem dX10_isName_28 : decode cX10_isName 28 = .ok (.iload_n 1, 1) := by decide +kernel
theorem dX10_isName_29 : decode cX10_isName 29 = .ok (.bipush 115, 2) := by decide +kernel
theorem dX10_isName_31 : decode cX10_isName 31 = .ok (.if_icmp .eq 15, 3) := by decide +kernel
theorem dX10_isName_34 : decode cX10_isName 34 = .ok (.iload_n 1, 1) := by decide +kernel
theorem dX10_isName_35 : decode cX10_isName 35 = .ok (.bipush 108, 2) := by decide +kernel
theorem dX10_isName_37 : decode cX10_isName 37 = .ok (.if_icmp .eq 9, 3) := by decide +kernel
theorem dX10_isName_40 : decode cX10_isName 40 = .ok (.iload_n 1, 1) := by decide +kernel
theorem dX10_isName_41 : decode cX10_isName 41 = .ok (.bipush 100, 2) := by decide +kernel
theorem dX10_isName_43 : decode cX10_isName 43 = .ok (.if_icmp .ne 7, 3) := by decide +kernel
theorem dX10_isName_46 : decode cX10_isName 46 = .ok (.iconst 1, 1) := by decide +kernel
theorem dX10_isName_47 : decode cX10_isName 47 = .ok (.goto 4, 3) := by decide +kernel
theorem dX10_isName_50 : decode cX10_isName 50 = .ok (.iconst 0, 1) := by decide +kernel
theorem dX10_isName_51 : decode cX10_isName 51 = .ok (.ireturn, 1) := by decide +kernel
theorem dX10_isName_52 : decode cX10_isName 52 = .ok (.iload_n 1, 1) := by decide +kernel
theorem dX10_isName_53 : decode cX10_isName 53 = .ok (.bipush 115, 2) := by decide +kernel
theorem dX10_isName_55 : decode cX10_isName 55 = .ok (.if_icmp .eq 9, 3) := by decide +kernel
theorem dX10_isName_58 : decode cX10_isName 58 = .ok (.iload_n 1, 1) := by decide +kernel
theorem dX10_isName_59 : decode cX10_isName 59 = .ok (.bipush 114, 2) := by decide +kernel
theorem dX10_isName_61 : decode cX10_isName 61 = .ok (.if_icmp .ne 7, 3) := by decide +kernel
theorem dX10_isName_64 : decode cX10_isName 64 = .ok (.iconst 1, 1) := by decide +kernel
theorem dX10_isName_65 : decode cX10_isName 65 = .ok (.goto 4, 3) := by decide +kernel
theorem dX10_isName_68 : decode cX10_isName 68 = .ok (.iconst 0, 1) := by decide +kernel
theorem dX10_isName_69 : decode cX10_isName 69 = .ok (.ireturn, 1) := by decide +kernel
theorem dX10_isName_70 : decode cX10_isName 70 = .ok (.iload_n 1, 1) := by decide +kernel
theorem dX10_isName_71 : decode cX10_isName 71 = .ok (.bipush 115, 2) := by decide +kernel
theorem dX10_isName_73 : decode cX10_isName 73 = .ok (.if_icmp .eq 9, 3) := by decide +kernel
theorem dX10_isName_76 : decode cX10_isName 76 = .ok (.iload_n 1, 1) := by decide +kernel
theorem dX10_isName_77 : decode cX10_isName 77 = .ok (.bipush 117, 2) := by decide +kernel
theorem dX10_isName_79 : decode cX10_isName 79 = .ok (.if_icmp .ne 7, 3) := by decide +kernel
theorem dX10_isName_82 : decode cX10_isName 82 = .ok (.iconst 1, 1) := by decide +kernel
theorem dX10_isName_83 : decode cX10_isName 83 = .ok (.goto 4, 3) := by decide +kernel
theorem dX10_isName_86 : decode cX10_isName 86 = .ok (.iconst 0, 1) := by decide +kernel
theorem dX10_isName_87 : decode cX10_isName 87 = .ok (.ireturn, 1) := by decide +kernel
theorem dX10_step_0 : decode cX10_step 0 = .ok (.aload_n 0, 1) := by decide +kernel
theorem dX10_step_1 : decode cX10_step 1 = .ok (.getfield 7, 3) := by decide +kernel
theorem dX10_step_4 : decode cX10_step 4 = .ok (.aload_n 0, 1) := by decide +kernel
theorem dX10_step_5 : decode cX10_step 5 = .ok (.getfield 258, 3) := by decide +kernel
theorem dX10_step_8 : decode cX10_step 8 = .ok (.iconst 2, 1) := by decide +kernel
theorem dX10_step_9 : decode cX10_step 9 = .ok (.aload_n 0, 1) := by decide +kernel
theorem dX10_step_10 : decode cX10_step 10 = .ok (.getfield 261, 3) := by decide +kernel
theorem dX10_step_13 : decode cX10_step 13 = .ok (.imul, 1) := by decide +kernel
theorem dX10_step_14 : decode cX10_step 14 = .ok (.iadd, 1) := by decide +kernel
theorem dX10_step_15 : decode cX10_step 15 = .ok (.iload_n 1, 1) := by decide +kernel
theorem dX10_step_16 : decode cX10_step 16 = .ok (.iastore, 1) := by decide +kernel
theorem dX10_step_17 : decode cX10_step 17 = .ok (.aload_n 0, 1) := by decide +kernel
theorem dX10_step_18 : decode cX10_step 18 = .ok (.getfield 7, 3) := by decide +kernel
theorem dX10_step_21 : decode cX10_step 21 = .ok (.aload_n 0, 1) := by decide +kernel
theorem dX10_step_22 : decode cX10_step 22 = .ok (.getfield 258, 3) := by decide +kernel
theorem dX10_step_25 : decode cX10_step 25 = .ok (.iconst 2, 1) := by decide +kernel
theorem dX10_step_26 : decode cX10_step 26 = .ok (.aload_n 0, 1) := by decide +kernel
theorem dX10_step_27 : decode cX10_step 27 = .ok (.getfield 261, 3) := by decide +kernel
theorem dX10_step_30 : decode cX10_step 30 = .ok (.imul, 1) := by decide +kernel
theorem dX10_step_31 : decode cX10_step 31 = .ok (.iadd, 1) := by decide +kernel
theorem dX10_step_32 : decode cX10_step 32 = .ok (.iconst 1, 1) := by decide +kernel
theorem dX10_step_33 : decode cX10_step 33 = .ok (.iadd, 1) := by decide +kernel
theorem dX10_step_34 : decode cX10_step 34 = .ok (.iload_n 2, 1) := by decide +kernel
theorem dX10_step_35 : decode cX10_step 35 = .ok (.iastore, 1) := by decide +kernel
theorem dX10_step_36 : decode cX10_step 36 = .ok (.aload_n 0, 1) := by decide +kernel
theorem dX10_step_37 : decode cX10_step 37 = .ok (.dup, 1) := by decide +kernel
theorem dX10_step_38 : decode cX10_step 38 = .ok (.getfield 261, 3) := by decide +kernel
theorem dX10_step_41 : decode cX10_step 41 = .ok (.iconst 1, 1) := by decide +kernel
theorem dX10_step_42 : decode cX10_step 42 = .ok (.iadd, 1) := by decide +kernel
theorem dX10_step_43 : decode cX10_step 43 = .ok (.putfield 261, 3) := by decide +kernel
theorem dX10_step_46 : decode cX10_step 46 = .ok (.return_, 1) := by decide +kernel
theorem dX10_either_0 : decode cX10_either 0 = .ok (.aload_n 0, 1) := by decide +kernel
theorem dX10_either_1 : decode cX10_either 1 = .ok (.iload_n 1, 1) := by decide +kernel
theorem dX10_either_2 : decode cX10_either 2 = .ok (.invokevirtual 264, 3) := by decide +kernel
theorem dX10_either_5 : decode cX10_either 5 = .ok (.ifCond .ne 5, 3) := by decide +kernel
theorem dX10_either_8 : decode cX10_either 8 = .ok (.iconst 0, 1) := by decide +kernel
theorem dX10_either_9 : decode cX10_either 9 = .ok (.ireturn, 1) := by decide +kernel
theorem dX10_either_10 : decode cX10_either 10 = .ok (.aload_n 0, 1) := by decide +kernel
theorem dX10_either_11 : decode cX10_either 11 = .ok (.bipush 124, 2) := by decide +kernel
theorem dX10_either_13 : decode cX10_either 13 = .ok (.invokevirtual 267, 3) := by decide +kernel
theorem dX10_either_16 : decode cX10_either 16 = .ok (.ifCond .eq 27, 3) := by decide +kernel
theorem dX10_either_19 : decode cX10_either 19 = .ok (.aload_n 0, 1) := by decide +kernel
theorem dX10_either_20 : decode cX10_either 20 = .ok (.invokevirtual 270, 3) := by decide +kernel
theorem dX10_either_23 : decode cX10_either 23 = .ok (.aload_n 0, 1) := by decide +kernel
theorem dX10_either_24 : decode cX10_either 24 = .ok (.iload_n 1, 1) := by decide +kernel
theorem dX10_either_25 : decode cX10_either 25 = .ok (.invokevirtual 264, 3) := by decide +kernel
theorem dX10_either_28 : decode cX10_either 28 = .ok (.ifCond .ne 5, 3) := by decide +kernel
theorem dX10_either_31 : decode cX10_either 31 = .ok (.iconst 0, 1) := by decide +kernel
theorem dX10_either_32 : decode cX10_either 32 = .ok (.ireturn, 1) := by decide +kernel
theorem dX10_either_33 : decode cX10_either 33 = .ok (.aload_n 0, 1) := by decide +kernel
theorem dX10_either_34 : decode cX10_either 34 = .ok (.iconst 2, 1) := by decide +kernel
theorem dX10_either_35 : decode cX10_either 35 = .ok (.bipush 124, 2) := by decide +kernel
theorem dX10_either_37 : decode cX10_either 37 = .ok (.invokevirtual 273, 3) := by decide +kernel
theorem dX10_either_40 : decode cX10_either 40 = .ok (.goto (-30), 3) := by decide +kernel
theorem dX10_either_43 : decode cX10_either 43 = .ok (.iconst 1, 1) := by decide +kernel
theorem dX10_either_44 : decode cX10_either 44 = .ok (.ireturn, 1) := by decide +kernel
theorem dX10_both_0 : decode cX10_both 0 = .ok (.aload_n 0, 1) := by decide +kernel
theorem dX10_both_1 : decode cX10_both 1 = .ok (.iload_n 1, 1) := by decide +kernel
theorem dX10_both_2 : decode cX10_both 2 = .ok (.invokevirtual 277, 3) := by decide +kernel
theorem dX10_both_5 : decode cX10_both 5 = .ok (.ifCond .ne 5, 3) := by decide +kernel
theorem dX10_both_8 : decode cX10_both 8 = .ok (.iconst 0, 1) := by decide +kernel
theorem dX10_both_9 : decode cX10_both 9 = .ok (.ireturn, 1) := by decide +kernel
theorem dX10_both_10 : decode cX10_both 10 = .ok (.aload_n 0, 1) := by decide +kernel
theorem dX10_both_11 : decode cX10_both 11 = .ok (.bipush 38, 2) := by decide +kernel
theorem dX10_both_13 : decode cX10_both 13 = .ok (.invokevirtual 267, 3) := by decide +kernel
theorem dX10_both_16 : decode cX10_both 16 = .ok (.ifCond .eq 27, 3) := by decide +kernel
theorem dX10_both_19 : decode cX10_both 19 = .ok (.aload_n 0, 1) := by decide +kernel
theorem dX10_both_20 : decode cX10_both 20 = .ok (.invokevirtual 270, 3) := by decide +kernel
theorem dX10_both_23 : decode cX10_both 23 = .ok (.aload_n 0, 1) := by decide +kernel
theorem dX10_both_24 : decode cX10_both 24 = .ok (.iload_n 1, 1) := by decide +kernel
theorem dX10_both_25 : decode cX10_both 25 = .ok (.invokevirtual 277, 3) := by decide +kernel
theorem dX10_both_28 : decode cX10_both 28 = .ok (.ifCond .ne 5, 3) := by decide +kernel
theorem dX10_both_31 : decode cX10_both 31 = .ok (.iconst 0, 1) := by decide +kernel
theorem dX10_both_32 : decode cX10_both 32 = .ok (.ireturn, 1) := by decide +kernel
theorem dX10_both_33 : decode cX10_both 33 = .ok (.aload_n 0, 1) := by decide +kernel
theorem dX10_both_34 : decode cX10_both 34 = .ok (.iconst 2, 1) := by decide +kernel
theorem dX10_both_35 : decode cX10_both 35 = .ok (.bipush 38, 2) := by decide +kernel
theorem dX10_both_37 : decode cX10_both 37 = .ok (.invokevirtual 273, 3) := by decide +kernel
theorem dX10_both_40 : decode cX10_both 40 = .ok (.goto (-30), 3) := by decide +kernel
theorem dX10_both_43 : decode cX10_both 43 = .ok (.iconst 1, 1) := by decide +kernel
theorem dX10_both_44 : decode cX10_both 44 = .ok (.ireturn, 1) := by decide +kernel
theorem dX10_test_0 : decode cX10_test 0 = .ok (.aload_n 0, 1) := by decide +kernel
theorem dX10_test_1 : decode cX10_test 1 = .ok (.iload_n 1, 1) := by decide +kernel
theorem dX10_test_2 : decode cX10_test 2 = .ok (.invokevirtual 280, 3) := by decide +kernel
theorem dX10_test_5 : decode cX10_test 5 = .ok (.ifCond .ne 5, 3) := by decide +kernel
theorem dX10_test_8 : decode cX10_test 8 = .ok (.iconst 0, 1) := by decide +kernel
theorem dX10_test_9 : decode cX10_test 9 = .ok (.ireturn, 1) := by decide +kernel
theorem dX10_test_10 : decode cX10_test 10 = .ok (.aload_n 0, 1) := by decide +kernel
theorem dX10_test_11 : decode cX10_test 11 = .ok (.bipush 60, 2) := by decide +kernel
theorem dX10_test_13 : decode cX10_test 13 = .ok (.invokevirtual 267, 3) := by decide +kernel
theorem dX10_test_16 : decode cX10_test 16 = .ok (.ifCond .ne 21, 3) := by decide +kernel
theorem dX10_test_19 : decode cX10_test 19 = .ok (.aload_n 0, 1) := by decide +kernel
theorem dX10_test_20 : decode cX10_test 20 = .ok (.bipush 61, 2) := by decide +kernel
theorem dX10_test_22 : decode cX10_test 22 = .ok (.invokevirtual 267, 3) := by decide +kernel
theorem dX10_test_25 : decode cX10_test 25 = .ok (.ifCond .ne 12, 3) := by decide +kernel
theorem dX10_test_28 : decode cX10_test 28 = .ok (.aload_n 0, 1) := by decide +kernel
theorem dX10_test_29 : decode cX10_test 29 = .ok (.bipush 62, 2) := by decide +kernel
theorem dX10_test_31 : decode cX10_test 31 = .ok (.invokevirtual 267, 3) := by decide +kernel
theorem dX10_test_34 : decode cX10_test 34 = .ok (.ifCond .eq 28, 3) := by decide +kernel
theorem dX10_test_37 : decode cX10_test 37 = .ok (.aload_n 0, 1) := by decide +kernel
theorem dX10_test_38 : decode cX10_test 38 = .ok (.getfield 245, 3) := by decide +kernel
theorem dX10_test_41 : decode cX10_test 41 = .ok (.istore_n 2, 1) := by decide +kernel
theorem dX10_test_42 : decode cX10_test 42 = .ok (.aload_n 0, 1) := by decide +kernel
theorem dX10_test_43 : decode cX10_test 43 = .ok (.invokevirtual 270, 3) := by decide +kernel
theorem dX10_test_46 : decode cX10_test 46 = .ok (.aload_n 0, 1) := by decide +kernel
theorem dX10_test_47 : decode cX10_test 47 = .ok (.iload_n 1, 1) := by decide +kernel
theorem dX10_test_48 : decode cX10_test 48 = .ok (.invokevirtual 280, 3) := by decide +kernel
theorem dX10_test_51 : decode cX10_test 51 = .ok (.ifCond .ne 5, 3) := by decide +kernel
theorem dX10_test_54 : decode cX10_test 54 = .ok (.iconst 0, 1) := by decide +kernel
theorem dX10_test_55 : decode cX10_test 55 = .ok (.ireturn, 1) := by decide +kernel
theorem dX10_test_56 : decode cX10_test 56 = .ok (.aload_n 0, 1) := by decide +kernel
theorem dX10_test_57 : decode cX10_test 57 = .ok (.iconst 2, 1) := by decide +kernel
theorem dX10_test_58 : decode cX10_test 58 = .ok (.iload_n 2, 1) := by decide +kernel
theorem dX10_test_59 : decode cX10_test 59 = .ok (.invokevirtual 273, 3) := by decide +kernel
theorem dX10_test_62 : decode cX10_test 62 = .ok (.iconst 1, 1) := by decide +kernel
theorem dX10_test_63 : decode cX10_test 63 = .ok (.ireturn, 1) := by decide +kernel
theorem dX10_sum_0 : decode cX10_sum 0 = .ok (.aload_n 0, 1) := by decide +kernel
theorem dX10_sum_1 : decode cX10_sum 1 = .ok (.iload_n 1, 1) := by decide +kernel
theorem dX10_sum_2 : decode cX10_sum 2 = .ok (.invokevirtual 283, 3) := by decide +kernel
theorem dX10_sum_5 : decode cX10_sum 5 = .ok (.ifCond .ne 5, 3) := by decide +kernel
theorem dX10_sum_8 : decode cX10_sum 8 = .ok (.iconst 0, 1) := by decide +kernel
theorem dX10_sum_9 : decode cX10_sum 9 = .ok (.ireturn, 1) := by decide +kernel
theorem dX10_sum_10 : decode cX10_sum 10 = .ok (.aload_n 0, 1) := by decide +kernel
theorem dX10_sum_11 : decode cX10_sum 11 = .ok (.bipush 43, 2) := by decide +kernel
theorem dX10_sum_13 : decode cX10_sum 13 = .ok (.invokevirtual 267, 3) := by decide +kernel
theorem dX10_sum_16 : decode cX10_sum 16 = .ok (.ifCond .ne 12, 3) := by decide +kernel
theorem dX10_sum_19 : decode cX10_sum 19 = .ok (.aload_n 0, 1) := by decide +kernel
theorem dX10_sum_20 : decode cX10_sum 20 = .ok (.bipush 45, 2) := by decide +kernel
theorem dX10_sum_22 : decode cX10_sum 22 = .ok (.invokevirtual 267, 3) := by decide +kernel
theorem dX10_sum_25 : decode cX10_sum 25 = .ok (.ifCond .eq 31, 3) := by decide +kernel
theorem dX10_sum_28 : decode cX10_sum 28 = .ok (.aload_n 0, 1) := by decide +kernel
theorem dX10_sum_29 : decode cX10_sum 29 = .ok (.getfield 245, 3) := by decide +kernel
theorem dX10_sum_32 : decode cX10_sum 32 = .ok (.istore_n 2, 1) := by decide +kernel
theorem dX10_sum_33 : decode cX10_sum 33 = .ok (.aload_n 0, 1) := by decide +kernel
theorem dX10_sum_34 : decode cX10_sum 34 = .ok (.invokevirtual 270, 3) := by decide +kernel
theorem dX10_sum_37 : decode cX10_sum 37 = .ok (.aload_n 0, 1) := by decide +kernel
theorem dX10_sum_38 : decode cX10_sum 38 = .ok (.iload_n 1, 1) := by decide +kernel
theorem dX10_sum_39 : decode cX10_sum 39 = .ok (.invokevirtual 283, 3) := by decide +kernel
theorem dX10_sum_42 : decode cX10_sum 42 = .ok (.ifCond .ne 5, 3) := by decide +kernel
theorem dX10_sum_45 : decode cX10_sum 45 = .ok (.iconst 0, 1) := by decide +kernel
theorem dX10_sum_46 : decode cX10_sum 46 = .ok (.ireturn, 1) := by decide +kernel
theorem dX10_sum_47 : decode cX10_sum 47 = .ok (.aload_n 0, 1) := by decide +kernel
theorem dX10_sum_48 : decode cX10_sum 48 = .ok (.iconst 2, 1) := by decide +kernel
theorem dX10_sum_49 : decode cX10_sum 49 = .ok (.iload_n 2, 1) := by decide +kernel
theorem dX10_sum_50 : decode cX10_sum 50 = .ok (.invokevirtual 273, 3) := by decide +kernel
theorem dX10_sum_53 : decode cX10_sum 53 = .ok (.goto (-43), 3) := by decide +kernel
theorem dX10_sum_56 : decode cX10_sum 56 = .ok (.iconst 1, 1) := by decide +kernel
theorem dX10_sum_57 : decode cX10_sum 57 = .ok (.ireturn, 1) := by decide +kernel
theorem dX10_term_0 : decode cX10_term 0 = .ok (.aload_n 0, 1) := by decide +kernel
theorem dX10_term_1 : decode cX10_term 1 = .ok (.iload_n 1, 1) := by decide +kernel
theorem dX10_term_2 : decode cX10_term 2 = .ok (.invokevirtual 286, 3) := by decide +kernel
theorem dX10_term_5 : decode cX10_term 5 = .ok (.ifCond .ne 5, 3) := by decide +kernel
theorem dX10_term_8 : decode cX10_term 8 = .ok (.iconst 0, 1) := by decide +kernel
theorem dX10_term_9 : decode cX10_term 9 = .ok (.ireturn, 1) := by decide +kernel
theorem dX10_term_10 : decode cX10_term 10 = .ok (.aload_n 0, 1) := by decide +kernel
theorem dX10_term_11 : decode cX10_term 11 = .ok (.bipush 42, 2) := by decide +kernel
theorem dX10_term_13 : decode cX10_term 13 = .ok (.invokevirtual 267, 3) := by decide +kernel
theorem dX10_term_16 : decode cX10_term 16 = .ok (.ifCond .ne 12, 3) := by decide +kernel
theorem dX10_term_19 : decode cX10_term 19 = .ok (.aload_n 0, 1) := by decide +kernel
theorem dX10_term_20 : decode cX10_term 20 = .ok (.bipush 47, 2) := by decide +kernel
theorem dX10_term_22 : decode cX10_term 22 = .ok (.invokevirtual 267, 3) := by decide +kernel
theorem dX10_term_25 : decode cX10_term 25 = .ok (.ifCond .eq 31, 3) := by decide +kernel
theorem dX10_term_28 : decode cX10_term 28 = .ok (.aload_n 0, 1) := by decide +kernel
theorem dX10_term_29 : decode cX10_term 29 = .ok (.getfield 245, 3) := by decide +kernel
theorem dX10_term_32 : decode cX10_term 32 = .ok (.istore_n 2, 1) := by decide +kernel
theorem dX10_term_33 : decode cX10_term 33 = .ok (.aload_n 0, 1) := by decide +kernel
theorem dX10_term_34 : decode cX10_term 34 = .ok (.invokevirtual 270, 3) := by decide +kernel
theorem dX10_term_37 : decode cX10_term 37 = .ok (.aload_n 0, 1) := by decide +kernel
theorem dX10_term_38 : decode cX10_term 38 = .ok (.iload_n 1, 1) := by decide +kernel
theorem dX10_term_39 : decode cX10_term 39 = .ok (.invokevirtual 286, 3) := by decide +kernel
theorem dX10_term_42 : decode cX10_term 42 = .ok (.ifCond .ne 5, 3) := by decide +kernel
theorem dX10_term_45 : decode cX10_term 45 = .ok (.iconst 0, 1) := by decide +kernel
theorem dX10_term_46 : decode cX10_term 46 = .ok (.ireturn, 1) := by decide +kernel
theorem dX10_term_47 : decode cX10_term 47 = .ok (.aload_n 0, 1) := by decide +kernel
theorem dX10_term_48 : decode cX10_term 48 = .ok (.iconst 2, 1) := by decide +kernel
theorem dX10_term_49 : decode cX10_term 49 = .ok (.iload_n 2, 1) := by decide +kernel
theorem dX10_term_50 : decode cX10_term 50 = .ok (.invokevirtual 273, 3) := by decide +kernel
theorem dX10_term_53 : decode cX10_term 53 = .ok (.goto (-43), 3) := by decide +kernel
theorem dX10_term_56 : decode cX10_term 56 = .ok (.iconst 1, 1) := by decide +kernel
theorem dX10_term_57 : decode cX10_term 57 = .ok (.ireturn, 1) := by decide +kernel
theorem dX10_part0_0 : decode cX10_part0 0 = .ok (.aload_n 0, 1) := by decide +kernel
theorem dX10_part0_1 : decode cX10_part0 1 = .ok (.getfield 236, 3) := by decide +kernel
theorem dX10_part0_4 : decode cX10_part0 4 = .ok (.iconst 2, 1) := by decide +kernel
theorem dX10_part0_5 : decode cX10_part0 5 = .ok (.if_icmp .ne 28, 3) := by decide +kernel
theorem dX10_part0_8 : decode cX10_part0 8 = .ok (.aload_n 0, 1) := by decide +kernel
theorem dX10_part0_9 : decode cX10_part0 9 = .ok (.iconst 0, 1) := by decide +kernel
theorem dX10_part0_10 : decode cX10_part0 10 = .ok (.aload_n 0, 1) := by decide +kernel
theorem dX10_part0_11 : decode cX10_part0 11 = .ok (.getfield 251, 3) := by decide +kernel
theorem dX10_part0_14 : decode cX10_part0 14 = .ok (.invokevirtual 273, 3) := by decide +kernel
theorem dX10_part0_17 : decode cX10_part0 17 = .ok (.aload_n 0, 1) := by decide +kernel
theorem dX10_part0_18 : decode cX10_part0 18 = .ok (.dup, 1) := by decide +kernel
theorem dX10_part0_19 : decode cX10_part0 19 = .ok (.getfield 289, 3) := by decide +kernel
theorem dX10_part0_22 : decode cX10_part0 22 = .ok (.iconst 1, 1) := by decide +kernel
theorem dX10_part0_23 : decode cX10_part0 23 = .ok (.iadd, 1) := by decide +kernel
theorem dX10_part0_24 : decode cX10_part0 24 = .ok (.putfield 289, 3) := by decide +kernel
theorem dX10_part0_27 : decode cX10_part0 27 = .ok (.aload_n 0, 1) := by decide +kernel
theorem dX10_part0_28 : decode cX10_part0 28 = .ok (.invokevirtual 270, 3) := by decide +kernel
theorem dX10_part0_31 : decode cX10_part0 31 = .ok (.iconst 1, 1) := by decide +kernel
theorem dX10_part0_32 : decode cX10_part0 32 = .ok (.ireturn, 1) := by decide +kernel
theorem dX10_part0_33 : decode cX10_part0 33 = .ok (.aload_n 0, 1) := by decide +kernel
theorem dX10_part0_34 : decode cX10_part0 34 = .ok (.getfield 236, 3) := by decide +kernel
theorem dX10_part0_37 : decode cX10_part0 37 = .ok (.iconst 1, 1) := by decide +kernel
theorem dX10_part0_38 : decode cX10_part0 38 = .ok (.if_icmp .ne 46, 3) := by decide +kernel
theorem dX10_part0_41 : decode cX10_part0 41 = .ok (.aload_n 0, 1) := by decide +kernel
theorem dX10_part0_42 : decode cX10_part0 42 = .ok (.getfield 245, 3) := by decide +kernel
theorem dX10_part0_45 : decode cX10_part0 45 = .ok (.ifCond .eq 39, 3) := by decide +kernel
theorem dX10_part0_48 : decode cX10_part0 48 = .ok (.iload_n 1, 1) := by decide +kernel
theorem dX10_part0_49 : decode cX10_part0 49 = .ok (.aload_n 0, 1) := by decide +kernel
theorem dX10_part0_50 : decode cX10_part0 50 = .ok (.getfield 245, 3) := by decide +kernel
theorem dX10_part0_53 : decode cX10_part0 53 = .ok (.invokestatic 292, 3) := by decide +kernel
theorem dX10_part0_56 : decode cX10_part0 56 = .ok (.ifCond .eq 28, 3) := by decide +kernel
theorem dX10_part0_59 : decode cX10_part0 59 = .ok (.aload_n 0, 1) := by decide +kernel
theorem dX10_part0_60 : decode cX10_part0 60 = .ok (.iconst 1, 1) := by decide +kernel
theorem dX10_part0_61 : decode cX10_part0 61 = .ok (.aload_n 0, 1) := by decide +kernel
theorem dX10_part0_62 : decode cX10_part0 62 = .ok (.getfield 245, 3) := by decide +kernel
theorem dX10_part0_65 : decode cX10_part0 65 = .ok (.invokevirtual 273, 3) := by decide +kernel
theorem dX10_part0_68 : decode cX10_part0 68 = .ok (.aload_n 0, 1) := by decide +kernel
theorem dX10_part0_69 : decode cX10_part0 69 = .ok (.dup, 1) := by decide +kernel
theorem dX10_part0_70 : decode cX10_part0 70 = .ok (.getfield 289, 3) := by decide +kernel
theorem dX10_part0_73 : decode cX10_part0 73 = .ok (.iconst 1, 1) := by decide +kernel
theorem dX10_part0_74 : decode cX10_part0 74 = .ok (.iadd, 1) := by decide +kernel
theorem dX10_part0_75 : decode cX10_part0 75 = .ok (.putfield 289, 3) := by decide +kernel
theorem dX10_part0_78 : decode cX10_part0 78 = .ok (.aload_n 0, 1) := by decide +kernel
theorem dX10_part0_79 : decode cX10_part0 79 = .ok (.invokevirtual 270, 3) := by decide +kernel
theorem dX10_part0_82 : decode cX10_part0 82 = .ok (.iconst 1, 1) := by decide +kernel
theorem dX10_part0_83 : decode cX10_part0 83 = .ok (.ireturn, 1) := by decide +kernel
theorem dX10_part0_84 : decode cX10_part0 84 = .ok (.aload_n 0, 1) := by decide +kernel
theorem dX10_part0_85 : decode cX10_part0 85 = .ok (.bipush 33, 2) := by decide +kernel
theorem dX10_part0_87 : decode cX10_part0 87 = .ok (.invokevirtual 267, 3) := by decide +kernel
theorem dX10_part0_90 : decode cX10_part0 90 = .ok (.ifCond .eq 55, 3) := by decide +kernel
theorem dX10_part0_93 : decode cX10_part0 93 = .ok (.aload_n 0, 1) := by decide +kernel
theorem dX10_part0_94 : decode cX10_part0 94 = .ok (.getfield 295, 3) := by decide +kernel
theorem dX10_part0_97 : decode cX10_part0 97 = .ok (.bipush 8, 2) := by decide +kernel
theorem dX10_part0_99 : decode cX10_part0 99 = .ok (.if_icmp .ge 46, 3) := by decide +kernel
theorem dX10_part0_102 : decode cX10_part0 102 = .ok (.aload_n 0, 1) := by decide +kernel
theorem dX10_part0_103 : decode cX10_part0 103 = .ok (.dup, 1) := by decide +kernel
theorem dX10_part0_104 : decode cX10_part0 104 = .ok (.getfield 295, 3) := by decide +kernel
theorem dX10_part0_107 : decode cX10_part0 107 = .ok (.iconst 1, 1) := by decide +kernel
theorem dX10_part0_108 : decode cX10_part0 108 = .ok (.iadd, 1) := by decide +kernel
theorem dX10_part0_109 : decode cX10_part0 109 = .ok (.putfield 295, 3) := by decide +kernel
theorem dX10_part0_112 : decode cX10_part0 112 = .ok (.aload_n 0, 1) := by decide +kernel
theorem dX10_part0_113 : decode cX10_part0 113 = .ok (.invokevirtual 270, 3) := by decide +kernel
theorem dX10_part0_116 : decode cX10_part0 116 = .ok (.aload_n 0, 1) := by decide +kernel
theorem dX10_part0_117 : decode cX10_part0 117 = .ok (.iload_n 1, 1) := by decide +kernel
theorem dX10_part0_118 : decode cX10_part0 118 = .ok (.invokevirtual 286, 3) := by decide +kernel
theorem dX10_part0_121 : decode cX10_part0 121 = .ok (.ifCond .ne 5, 3) := by decide +kernel
theorem dX10_part0_124 : decode cX10_part0 124 = .ok (.iconst 0, 1) := by decide +kernel
theorem dX10_part0_125 : decode cX10_part0 125 = .ok (.ireturn, 1) := by decide +kernel
theorem dX10_part0_126 : decode cX10_part0 126 = .ok (.aload_n 0, 1) := by decide +kernel
theorem dX10_part0_127 : decode cX10_part0 127 = .ok (.dup, 1) := by decide +kernel
theorem dX10_part0_128 : decode cX10_part0 128 = .ok (.getfield 295, 3) := by decide +kernel
theorem dX10_part0_131 : decode cX10_part0 131 = .ok (.iconst 1, 1) := by decide +kernel
theorem dX10_part0_132 : decode cX10_part0 132 = .ok (.isub, 1) := by decide +kernel
theorem dX10_part0_133 : decode cX10_part0 133 = .ok (.putfield 295, 3) := by decide +kernel
theorem dX10_part0_136 : decode cX10_part0 136 = .ok (.aload_n 0, 1) := by decide +kernel
theorem dX10_part0_137 : decode cX10_part0 137 = .ok (.iconst 2, 1) := by decide +kernel
theorem dX10_part0_138 : decode cX10_part0 138 = .ok (.bipush 33, 2) := by decide +kernel
theorem dX10_part0_140 : decode cX10_part0 140 = .ok (.invokevirtual 273, 3) := by decide +kernel
theorem dX10_part0_143 : decode cX10_part0 143 = .ok (.iconst 1, 1) := by decide +kernel
theorem dX10_part0_144 : decode cX10_part0 144 = .ok (.ireturn, 1) := by decide +kernel
theorem dX10_part0_145 : decode cX10_part0 145 = .ok (.aload_n 0, 1) := by decide +kernel
theorem dX10_part0_146 : decode cX10_part0 146 = .ok (.bipush 40, 2) := by decide +kernel
theorem dX10_part0_148 : decode cX10_part0 148 = .ok (.invokevirtual 267, 3) := by decide +kernel
theorem dX10_part0_151 : decode cX10_part0 151 = .ok (.ifCond .eq 12, 3) := by decide +kernel
theorem dX10_part0_154 : decode cX10_part0 154 = .ok (.aload_n 0, 1) := by decide +kernel
theorem dX10_part0_155 : decode cX10_part0 155 = .ok (.getfield 298, 3) := by decide +kernel
theorem dX10_part0_158 : decode cX10_part0 158 = .ok (.bipush 8, 2) := by decide +kernel
theorem dX10_part0_160 : decode cX10_part0 160 = .ok (.if_icmp .ne 5, 3) := by decide +kernel
theorem dX10_part0_163 : decode cX10_part0 163 = .ok (.iconst 0, 1) := by decide +kernel
theorem dX10_part0_164 : decode cX10_part0 164 = .ok (.ireturn, 1) := by decide +kernel
theorem dX10_part0_165 : decode cX10_part0 165 = .ok (.aload_n 0, 1) := by decide +kernel
theorem dX10_part0_166 : decode cX10_part0 166 = .ok (.dup, 1) := by decide +kernel
theorem dX10_part0_167 : decode cX10_part0 167 = .ok (.getfield 298, 3) := by decide +kernel
theorem dX10_part0_170 : decode cX10_part0 170 = .ok (.iconst 1, 1) := by decide +kernel
theorem dX10_part0_171 : decode cX10_part0 171 = .ok (.iadd, 1) := by decide +kernel
theorem dX10_part0_172 : decode cX10_part0 172 = .ok (.putfield 298, 3) := by decide +kernel
theorem dX10_part0_175 : decode cX10_part0 175 = .ok (.aload_n 0, 1) := by decide +kernel
theorem dX10_part0_176 : decode cX10_part0 176 = .ok (.invokevirtual 270, 3) := by decide +kernel
theorem dX10_part0_179 : decode cX10_part0 179 = .ok (.aload_n 0, 1) := by decide +kernel
theorem dX10_part0_180 : decode cX10_part0 180 = .ok (.iload_n 1, 1) := by decide +kernel
theorem dX10_part0_181 : decode cX10_part0 181 = .ok (.invokevirtual 301, 3) := by decide +kernel
theorem dX10_part0_184 : decode cX10_part0 184 = .ok (.ifCond .eq 12, 3) := by decide +kernel
theorem dX10_part0_187 : decode cX10_part0 187 = .ok (.aload_n 0, 1) := by decide +kernel
theorem dX10_part0_188 : decode cX10_part0 188 = .ok (.bipush 41, 2) := by decide +kernel
theorem dX10_part0_190 : decode cX10_part0 190 = .ok (.invokevirtual 267, 3) := by decide +kernel
theorem dX10_part0_193 : decode cX10_part0 193 = .ok (.ifCond .ne 5, 3) := by decide +kernel
theorem dX10_part0_196 : decode cX10_part0 196 = .ok (.iconst 0, 1) := by decide +kernel
theorem dX10_part0_197 : decode cX10_part0 197 = .ok (.ireturn, 1) := by decide +kernel
theorem dX10_part0_198 : decode cX10_part0 198 = .ok (.aload_n 0, 1) := by decide +kernel
theorem dX10_part0_199 : decode cX10_part0 199 = .ok (.dup, 1) := by decide +kernel
theorem dX10_part0_200 : decode cX10_part0 200 = .ok (.getfield 298, 3) := by decide +kernel
theorem dX10_part0_203 : decode cX10_part0 203 = .ok (.iconst 1, 1) := by decide +kernel
theorem dX10_part0_204 : decode cX10_part0 204 = .ok (.isub, 1) := by decide +kernel
theorem dX10_part0_205 : decode cX10_part0 205 = .ok (.putfield 298, 3) := by decide +kernel
theorem dX10_part0_208 : decode cX10_part0 208 = .ok (.aload_n 0, 1) := by decide +kernel
theorem dX10_part0_209 : decode cX10_part0 209 = .ok (.invokevirtual 270, 3) := by decide +kernel
theorem dX10_part0_212 : decode cX10_part0 212 = .ok (.iconst 1, 1) := by decide +kernel
theorem dX10_part0_213 : decode cX10_part0 213 = .ok (.ireturn, 1) := by decide +kernel
theorem dX10_parse_0 : decode cX10_parse 0 = .ok (.aload_n 0, 1) := by decide +kernel
theorem dX10_parse_1 : decode cX10_parse 1 = .ok (.iconst 0, 1) := by decide +kernel
theorem dX10_parse_2 : decode cX10_parse 2 = .ok (.putfield 233, 3) := by decide +kernel
theorem dX10_parse_5 : decode cX10_parse 5 = .ok (.aload_n 0, 1) := by decide +kernel
theorem dX10_parse_6 : decode cX10_parse 6 = .ok (.iconst 3, 1) := by decide +kernel
theorem dX10_parse_7 : decode cX10_parse 7 = .ok (.putfield 236, 3) := by decide +kernel
theorem dX10_parse_10 : decode cX10_parse 10 = .ok (.aload_n 0, 1) := by decide +kernel
theorem dX10_parse_11 : decode cX10_parse 11 = .ok (.iconst 0, 1) := by decide +kernel
theorem dX10_parse_12 : decode cX10_parse 12 = .ok (.putfield 298, 3) := by decide +kernel
theorem dX10_parse_15 : decode cX10_parse 15 = .ok (.aload_n 0, 1) := by decide +kernel
theorem dX10_parse_16 : decode cX10_parse 16 = .ok (.iconst 0, 1) := by decide +kernel
theorem dX10_parse_17 : decode cX10_parse 17 = .ok (.putfield 295, 3) := by decide +kernel
theorem dX10_parse_20 : decode cX10_parse 20 = .ok (.aload_n 0, 1) := by decide +kernel
theorem dX10_parse_21 : decode cX10_parse 21 = .ok (.iconst 0, 1) := by decide +kernel
theorem dX10_parse_22 : decode cX10_parse 22 = .ok (.putfield 261, 3) := by decide +kernel
theorem dX10_parse_25 : decode cX10_parse 25 = .ok (.aload_n 0, 1) := by decide +kernel
theorem dX10_parse_26 : decode cX10_parse 26 = .ok (.iconst 0, 1) := by decide +kernel
theorem dX10_parse_27 : decode cX10_parse 27 = .ok (.putfield 289, 3) := by decide +kernel
theorem dX10_parse_30 : decode cX10_parse 30 = .ok (.aload_n 0, 1) := by decide +kernel
theorem dX10_parse_31 : decode cX10_parse 31 = .ok (.aload_n 0, 1) := by decide +kernel
theorem dX10_parse_32 : decode cX10_parse 32 = .ok (.getfield 7, 3) := by decide +kernel
theorem dX10_parse_35 : decode cX10_parse 35 = .ok (.iconst 1, 1) := by decide +kernel
theorem dX10_parse_36 : decode cX10_parse 36 = .ok (.iaload, 1) := by decide +kernel
theorem dX10_parse_37 : decode cX10_parse 37 = .ok (.bipush 14, 2) := by decide +kernel
theorem dX10_parse_39 : decode cX10_parse 39 = .ok (.if_icmp .ge 18, 3) := by decide +kernel
theorem dX10_parse_42 : decode cX10_parse 42 = .ok (.aload_n 0, 1) := by decide +kernel
theorem dX10_parse_43 : decode cX10_parse 43 = .ok (.aload_n 0, 1) := by decide +kernel
theorem dX10_parse_44 : decode cX10_parse 44 = .ok (.getfield 7, 3) := by decide +kernel
theorem dX10_parse_47 : decode cX10_parse 47 = .ok (.iconst 1, 1) := by decide +kernel
theorem dX10_parse_48 : decode cX10_parse 48 = .ok (.iaload, 1) := by decide +kernel
theorem dX10_parse_49 : decode cX10_parse 49 = .ok (.invokevirtual 304, 3) := by decide +kernel
theorem dX10_parse_52 : decode cX10_parse 52 = .ok (.iconst 4, 1) := by decide +kernel
theorem dX10_parse_53 : decode cX10_parse 53 = .ok (.iadd, 1) := by decide +kernel
theorem dX10_parse_54 : decode cX10_parse 54 = .ok (.goto 6, 3) := by decide +kernel
theorem dX10_parse_57 : decode cX10_parse 57 = .ok (.sipush 2922, 3) := by decide +kernel
theorem dX10_parse_60 : decode cX10_parse 60 = .ok (.putfield 258, 3) := by decide +kernel
theorem dX10_parse_63 : decode cX10_parse 63 = .ok (.aload_n 0, 1) := by decide +kernel
theorem dX10_parse_64 : decode cX10_parse 64 = .ok (.invokevirtual 270, 3) := by decide +kernel
theorem dX10_parse_67 : decode cX10_parse 67 = .ok (.aload_n 0, 1) := by decide +kernel
theorem dX10_parse_68 : decode cX10_parse 68 = .ok (.invokevirtual 307, 3) := by decide +kernel
theorem dX10_parse_71 : decode cX10_parse 71 = .ok (.istore_n 1, 1) := by decide +kernel
theorem dX10_parse_72 : decode cX10_parse 72 = .ok (.iload_n 1, 1) := by decide +kernel
theorem dX10_parse_73 : decode cX10_parse 73 = .ok (.ifCond .lt 7, 3) := by decide +kernel
theorem dX10_parse_76 : decode cX10_parse 76 = .ok (.iconst 1, 1) := by decide +kernel
theorem dX10_parse_77 : decode cX10_parse 77 = .ok (.goto 4, 3) := by decide +kernel
theorem dX10_parse_80 : decode cX10_parse 80 = .ok (.iconst 0, 1) := by decide +kernel
theorem dX10_parse_81 : decode cX10_parse 81 = .ok (.istore_n 2, 1) := by decide +kernel
theorem dX10_parse_82 : decode cX10_parse 82 = .ok (.iload_n 2, 1) := by decide +kernel
theorem dX10_parse_83 : decode cX10_parse 83 = .ok (.ifCond .eq 28, 3) := by decide +kernel
theorem dX10_parse_86 : decode cX10_parse 86 = .ok (.aload_n 0, 1) := by decide +kernel
theorem dX10_parse_87 : decode cX10_parse 87 = .ok (.invokevirtual 270, 3) := by decide +kernel
theorem dX10_parse_90 : decode cX10_parse 90 = .ok (.aload_n 0, 1) := by decide +kernel
theorem dX10_parse_91 : decode cX10_parse 91 = .ok (.iload_n 1, 1) := by decide +kernel
theorem dX10_parse_92 : decode cX10_parse 92 = .ok (.invokevirtual 301, 3) := by decide +kernel
theorem dX10_parse_95 : decode cX10_parse 95 = .ok (.ifCond .eq 14, 3) := by decide +kernel
theorem dX10_parse_98 : decode cX10_parse 98 = .ok (.aload_n 0, 1) := by decide +kernel
theorem dX10_parse_99 : decode cX10_parse 99 = .ok (.getfield 236, 3) := by decide +kernel
theorem dX10_parse_102 : decode cX10_parse 102 = .ok (.ifCond .ne 7, 3) := by decide +kernel
theorem dX10_parse_105 : decode cX10_parse 105 = .ok (.iconst 1, 1) := by decide +kernel
theorem dX10_parse_106 : decode cX10_parse 106 = .ok (.goto 4, 3) := by decide +kernel
theorem dX10_parse_109 : decode cX10_parse 109 = .ok (.iconst 0, 1) := by decide +kernel
theorem dX10_parse_110 : decode cX10_parse 110 = .ok (.istore_n 2, 1) := by decide +kernel
theorem dX10_parse_111 : decode cX10_parse 111 = .ok (.aload_n 0, 1) := by decide +kernel
theorem dX10_parse_112 : decode cX10_parse 112 = .ok (.iconst 0, 1) := by decide +kernel
theorem dX10_parse_113 : decode cX10_parse 113 = .ok (.putfield 223, 3) := by decide +kernel
theorem dX10_parse_116 : decode cX10_parse 116 = .ok (.iload_n 2, 1) := by decide +kernel
theorem dX10_parse_117 : decode cX10_parse 117 = .ok (.ifCond .eq 7, 3) := by decide +kernel
theorem dX10_parse_120 : decode cX10_parse 120 = .ok (.iload_n 1, 1) := by decide +kernel
theorem dX10_parse_121 : decode cX10_parse 121 = .ok (.goto 4, 3) := by decide +kernel
theorem dX10_parse_124 : decode cX10_parse 124 = .ok (.iconst (-1), 1) := by decide +kernel
theorem dX10_parse_125 : decode cX10_parse 125 = .ok (.ireturn, 1) := by decide +kernel
theorem dX10_text_0 : decode cX10_text 0 = .ok (.aload_n 0, 1) := by decide +kernel
theorem dX10_text_1 : decode cX10_text 1 = .ok (.invokevirtual 310, 3) := by decide +kernel
theorem dX10_text_4 : decode cX10_text 4 = .ok (.istore_n 1, 1) := by decide +kernel
theorem dX10_text_5 : decode cX10_text 5 = .ok (.iload_n 1, 1) := by decide +kernel
theorem dX10_text_6 : decode cX10_text 6 = .ok (.ifCond .ge 11, 3) := by decide +kernel
theorem dX10_text_9 : decode cX10_text 9 = .ok (.bipush (-100), 2) := by decide +kernel
theorem dX10_text_11 : decode cX10_text 11 = .ok (.aload_n 0, 1) := by decide +kernel
theorem dX10_text_12 : decode cX10_text 12 = .ok (.getfield 239, 3) := by decide +kernel
theorem dX10_text_15 : decode cX10_text 15 = .ok (.isub, 1) := by decide +kernel
theorem dX10_text_16 : decode cX10_text 16 = .ok (.ireturn, 1) := by decide +kernel
theorem dX10_text_17 : decode cX10_text 17 = .ok (.aload_n 0, 1) := by decide +kernel
theorem dX10_text_18 : decode cX10_text 18 = .ok (.getfield 7, 3) := by decide +kernel
theorem dX10_text_21 : decode cX10_text 21 = .ok (.iconst 1, 1) := by decide +kernel
theorem dX10_text_22 : decode cX10_text 22 = .ok (.iaload, 1) := by decide +kernel
theorem dX10_text_23 : decode cX10_text 23 = .ok (.bipush 14, 2) := by decide +kernel
theorem dX10_text_25 : decode cX10_text 25 = .ok (.if_icmp .ne 6, 3) := by decide +kernel
theorem dX10_text_28 : decode cX10_text 28 = .ok (.ldc 189, 2) := by decide +kernel
theorem dX10_text_30 : decode cX10_text 30 = .ok (.ireturn, 1) := by decide +kernel
theorem dX10_text_31 : decode cX10_text 31 = .ok (.aload_n 0, 1) := by decide +kernel
theorem dX10_text_32 : decode cX10_text 32 = .ok (.aload_n 0, 1) := by decide +kernel
theorem dX10_text_33 : decode cX10_text 33 = .ok (.getfield 7, 3) := by decide +kernel
theorem dX10_text_36 : decode cX10_text 36 = .ok (.iconst 1, 1) := by decide +kernel
theorem dX10_text_37 : decode cX10_text 37 = .ok (.iaload, 1) := by decide +kernel
theorem dX10_text_38 : decode cX10_text 38 = .ok (.invokevirtual 304, 3) := by decide +kernel
theorem dX10_text_41 : decode cX10_text 41 = .ok (.istore_n 2, 1) := by decide +kernel
theorem dX10_text_42 : decode cX10_text 42 = .ok (.aload_n 0, 1) := by decide +kernel
theorem dX10_text_43 : decode cX10_text 43 = .ok (.getfield 7, 3) := by decide +kernel
theorem dX10_text_46 : decode cX10_text 46 = .ok (.iload_n 2, 1) := by decide +kernel
theorem dX10_text_47 : decode cX10_text 47 = .ok (.iconst 0, 1) := by decide +kernel
theorem dX10_text_48 : decode cX10_text 48 = .ok (.iadd, 1) := by decide +kernel
theorem dX10_text_49 : decode cX10_text 49 = .ok (.iload_n 1, 1) := by decide +kernel
theorem dX10_text_50 : decode cX10_text 50 = .ok (.iastore, 1) := by decide +kernel
theorem dX10_text_51 : decode cX10_text 51 = .ok (.aload_n 0, 1) := by decide +kernel
theorem dX10_text_52 : decode cX10_text 52 = .ok (.getfield 7, 3) := by decide +kernel
theorem dX10_text_55 : decode cX10_text 55 = .ok (.iload_n 2, 1) := by decide +kernel
theorem dX10_text_56 : decode cX10_text 56 = .ok (.iconst 1, 1) := by decide +kernel
theorem dX10_text_57 : decode cX10_text 57 = .ok (.iadd, 1) := by decide +kernel
theorem dX10_text_58 : decode cX10_text 58 = .ok (.aload_n 0, 1) := by decide +kernel
theorem dX10_text_59 : decode cX10_text 59 = .ok (.getfield 289, 3) := by decide +kernel
theorem dX10_text_62 : decode cX10_text 62 = .ok (.iastore, 1) := by decide +kernel
theorem dX10_text_63 : decode cX10_text 63 = .ok (.aload_n 0, 1) := by decide +kernel
theorem dX10_text_64 : decode cX10_text 64 = .ok (.getfield 7, 3) := by decide +kernel
theorem dX10_text_67 : decode cX10_text 67 = .ok (.iload_n 2, 1) := by decide +kernel
theorem dX10_text_68 : decode cX10_text 68 = .ok (.iconst 2, 1) := by decide +kernel
theorem dX10_text_69 : decode cX10_text 69 = .ok (.iadd, 1) := by decide +kernel
theorem dX10_text_70 : decode cX10_text 70 = .ok (.aload_n 0, 1) := by decide +kernel
theorem dX10_text_71 : decode cX10_text 71 = .ok (.getfield 261, 3) := by decide +kernel
theorem dX10_text_74 : decode cX10_text 74 = .ok (.iastore, 1) := by decide +kernel
theorem dX10_text_75 : decode cX10_text 75 = .ok (.aload_n 0, 1) := by decide +kernel
theorem dX10_text_76 : decode cX10_text 76 = .ok (.getfield 7, 3) := by decide +kernel
theorem dX10_text_79 : decode cX10_text 79 = .ok (.iconst 1, 1) := by decide +kernel
theorem dX10_text_80 : decode cX10_text 80 = .ok (.dup2, 1) := by decide +kernel
theorem dX10_text_81 : decode cX10_text 81 = .ok (.iaload, 1) := by decide +kernel
theorem dX10_text_82 : decode cX10_text 82 = .ok (.iconst 1, 1) := by decide +kernel
theorem dX10_text_83 : decode cX10_text 83 = .ok (.iadd, 1) := by decide +kernel
theorem dX10_text_84 : decode cX10_text 84 = .ok (.iastore, 1) := by decide +kernel
theorem dX10_text_85 : decode cX10_text 85 = .ok (.aload_n 0, 1) := by decide +kernel
theorem dX10_text_86 : decode cX10_text 86 = .ok (.getfield 7, 3) := by decide +kernel
theorem dX10_text_89 : decode cX10_text 89 = .ok (.iconst 1, 1) := by decide +kernel
theorem dX10_text_90 : decode cX10_text 90 = .ok (.iaload, 1) := by decide +kernel
theorem dX10_text_91 : decode cX10_text 91 = .ok (.iconst 1, 1) := by decide +kernel
theorem dX10_text_92 : decode cX10_text 92 = .ok (.isub, 1) := by decide +kernel
theorem dX10_text_93 : decode cX10_text 93 = .ok (.ireturn, 1) := by decide +kernel
theorem dX10_textTold_0 : decode cX10_textTold 0 = .ok (.aload_n 0, 1) := by decide +kernel
theorem dX10_textTold_1 : decode cX10_textTold 1 = .ok (.iload_n 1, 1) := by decide +kernel
theorem dX10_textTold_2 : decode cX10_textTold 2 = .ok (.invokevirtual 313, 3) := by decide +kernel
theorem dX10_textTold_5 : decode cX10_textTold 5 = .ok (.ifCond .eq 13, 3) := by decide +kernel
theorem dX10_textTold_8 : decode cX10_textTold 8 = .ok (.iload_n 2, 1) := by decide +kernel
theorem dX10_textTold_9 : decode cX10_textTold 9 = .ok (.i2l, 1) := by decide +kernel
theorem dX10_textTold_10 : decode cX10_textTold 10 = .ok (.lconst 0, 1) := by decide +kernel
theorem dX10_textTold_11 : decode cX10_textTold 11 = .ok (.lconst 1, 1) := by decide +kernel
theorem dX10_textTold_12 : decode cX10_textTold 12 = .ok (.invokestatic 87, 3) := by decide +kernel
theorem dX10_textTold_15 : decode cX10_textTold 15 = .ok (.ifCond .ne 6, 3) := by decide +kernel
theorem dX10_textTold_18 : decode cX10_textTold 18 = .ok (.ldc 126, 2) := by decide +kernel
theorem dX10_textTold_20 : decode cX10_textTold 20 = .ok (.ireturn, 1) := by decide +kernel
theorem dX10_textTold_21 : decode cX10_textTold 21 = .ok (.aload_n 0, 1) := by decide +kernel
theorem dX10_textTold_22 : decode cX10_textTold 22 = .ok (.getfield 7, 3) := by decide +kernel
theorem dX10_textTold_25 : decode cX10_textTold 25 = .ok (.aload_n 0, 1) := by decide +kernel
theorem dX10_textTold_26 : decode cX10_textTold 26 = .ok (.iload_n 1, 1) := by decide +kernel
theorem dX10_textTold_27 : decode cX10_textTold 27 = .ok (.invokevirtual 304, 3) := by decide +kernel
theorem dX10_textTold_30 : decode cX10_textTold 30 = .ok (.iload_n 2, 1) := by decide +kernel
theorem dX10_textTold_31 : decode cX10_textTold 31 = .ok (.iadd, 1) := by decide +kernel
theorem dX10_textTold_32 : decode cX10_textTold 32 = .ok (.iaload, 1) := by decide +kernel
theorem dX10_textTold_33 : decode cX10_textTold 33 = .ok (.ireturn, 1) := by decide +kernel
theorem dX10_counts_0 : decode cX10_counts 0 = .ok (.iconst (-1), 1) := by decide +kernel
theorem dX10_counts_1 : decode cX10_counts 1 = .ok (.istore_n 2, 1) := by decide +kernel
theorem dX10_counts_2 : decode cX10_counts 2 = .ok (.iconst 0, 1) := by decide +kernel
theorem dX10_counts_3 : decode cX10_counts 3 = .ok (.istore_n 3, 1) := by decide +kernel
theorem dX10_counts_4 : decode cX10_counts 4 = .ok (.iload_n 3, 1) := by decide +kernel
theorem dX10_counts_5 : decode cX10_counts 5 = .ok (.aload_n 0, 1) := by decide +kernel
theorem dX10_counts_6 : decode cX10_counts 6 = .ok (.getfield 7, 3) := by decide +kernel
theorem dX10_counts_9 : decode cX10_counts 9 = .ok (.iconst 1, 1) := by decide +kernel
theorem dX10_counts_10 : decode cX10_counts 10 = .ok (.iaload, 1) := by decide +kernel
theorem dX10_counts_11 : decode cX10_counts 11 = .ok (.if_icmp .ge 29, 3) := by decide +kernel
theorem dX10_counts_14 : decode cX10_counts 14 = .ok (.aload_n 0, 1) := by decide +kernel
theorem dX10_counts_15 : decode cX10_counts 15 = .ok (.getfield 7, 3) := by decide +kernel
theorem dX10_counts_18 : decode cX10_counts 18 = .ok (.aload_n 0, 1) := by decide +kernel
theorem dX10_counts_19 : decode cX10_counts 19 = .ok (.iload_n 3, 1) := by decide +kernel
theorem dX10_counts_20 : decode cX10_counts 20 = .ok (.invokevirtual 304, 3) := by decide +kernel
theorem dX10_counts_23 : decode cX10_counts 23 = .ok (.iaload, 1) := by decide +kernel
theorem dX10_counts_24 : decode cX10_counts 24 = .ok (.iload_n 1, 1) := by decide +kernel
theorem dX10_counts_25 : decode cX10_counts 25 = .ok (.if_icmp .ne 7, 3) := by decide +kernel
theorem dX10_counts_28 : decode cX10_counts 28 = .ok (.iload_n 3, 1) := by decide +kernel
theorem dX10_counts_29 : decode cX10_counts 29 = .ok (.goto 4, 3) := by decide +kernel
theorem dX10_counts_32 : decode cX10_counts 32 = .ok (.iload_n 2, 1) := by decide +kernel
theorem dX10_counts_33 : decode cX10_counts 33 = .ok (.istore_n 2, 1) := by decide +kernel
theorem dX10_counts_34 : decode cX10_counts 34 = .ok (.iinc 3 1, 3) := by decide +kernel
theorem dX10_counts_37 : decode cX10_counts 37 = .ok (.goto (-33), 3) := by decide +kernel
theorem dX10_counts_40 : decode cX10_counts 40 = .ok (.iload_n 2, 1) := by decide +kernel
theorem dX10_counts_41 : decode cX10_counts 41 = .ok (.ireturn, 1) := by decide +kernel
theorem dX10_why_0 : decode cX10_why 0 = .ok (.iload_n 1, 1) := by decide +kernel
theorem dX10_why_1 : decode cX10_why 1 = .ok (.i2l, 1) := by decide +kernel
theorem dX10_why_2 : decode cX10_why 2 = .ok (.lconst 0, 1) := by decide +kernel
theorem dX10_why_3 : decode cX10_why 3 = .ok (.ldc2_w 148, 3) := by decide +kernel
theorem dX10_why_6 : decode cX10_why 6 = .ok (.invokestatic 87, 3) := by decide +kernel
theorem dX10_why_9 : decode cX10_why 9 = .ok (.ifCond .eq 14, 3) := by decide +kernel
theorem dX10_why_12 : decode cX10_why 12 = .ok (.aload_n 0, 1) := by decide +kernel
theorem dX10_why_13 : decode cX10_why 13 = .ok (.iload_n 1, 1) := by decide +kernel
theorem dX10_why_14 : decode cX10_why 14 = .ok (.invokevirtual 96, 3) := by decide +kernel
theorem dX10_why_17 : decode cX10_why 17 = .ok (.invokestatic 316, 3) := by decide +kernel
theorem dX10_why_20 : decode cX10_why 20 = .ok (.goto 5, 3) := by decide +kernel
theorem dX10_why_23 : decode cX10_why 23 = .ok (.ldc 126, 2) := by decide +kernel
theorem dX10_why_25 : decode cX10_why 25 = .ok (.ireturn, 1) := by decide +kernel
theorem dX10_joined_0 : decode cX10_joined 0 = .ok (.iload_n 0, 1) := by decide +kernel
theorem dX10_joined_1 : decode cX10_joined 1 = .ok (.tableswitch 196 38 62 #[182, 196, 196, 196, 123, 115, 196, 119, 196, 127, 196, 196, 196, 196, 196, 196, 196, 196, 196, 196, 196, 196, 149, 171, 160], 115) := by decide +kernel
theorem dX10_joined_116 : decode cX10_joined 116 = .ok (.iload_n 1, 1) := by decide +kernel
theorem dX10_joined_117 : decode cX10_joined 117 = .ok (.iload_n 2, 1) := by decide +kernel
theorem dX10_joined_118 : decode cX10_joined 118 = .ok (.iadd, 1) := by decide +kernel
theorem dX10_joined_119 : decode cX10_joined 119 = .ok (.ireturn, 1) := by decide +kernel
theorem dX10_joined_120 : decode cX10_joined 120 = .ok (.iload_n 1, 1) := by decide +kernel
theorem dX10_joined_121 : decode cX10_joined 121 = .ok (.iload_n 2, 1) := by decide +kernel
theorem dX10_joined_122 : decode cX10_joined 122 = .ok (.isub, 1) := by decide +kernel
theorem dX10_joined_123 : decode cX10_joined 123 = .ok (.ireturn, 1) := by decide +kernel
theorem dX10_joined_124 : decode cX10_joined 124 = .ok (.iload_n 1, 1) := by decide +kernel
theorem dX10_joined_125 : decode cX10_joined 125 = .ok (.iload_n 2, 1) := by decide +kernel
theorem dX10_joined_126 : decode cX10_joined 126 = .ok (.imul, 1) := by decide +kernel
theorem dX10_joined_127 : decode cX10_joined 127 = .ok (.ireturn, 1) := by decide +kernel
theorem dX10_joined_128 : decode cX10_joined 128 = .ok (.iload_n 2, 1) := by decide +kernel
theorem dX10_joined_129 : decode cX10_joined 129 = .ok (.ifCond .ne 7, 3) := by decide +kernel
theorem dX10_joined_132 : decode cX10_joined 132 = .ok (.iconst 0, 1) := by decide +kernel
theorem dX10_joined_133 : decode cX10_joined 133 = .ok (.goto 16, 3) := by decide +kernel
theorem dX10_joined_136 : decode cX10_joined 136 = .ok (.iload_n 2, 1) := by decide +kernel
theorem dX10_joined_137 : decode cX10_joined 137 = .ok (.iconst (-1), 1) := by decide +kernel
theorem dX10_joined_138 : decode cX10_joined 138 = .ok (.if_icmp .ne 8, 3) := by decide +kernel
theorem dX10_joined_141 : decode cX10_joined 141 = .ok (.iload_n 1, 1) := by decide +kernel
theorem dX10_joined_142 : decode cX10_joined 142 = .ok (.ineg, 1) := by decide +kernel
theorem dX10_joined_143 : decode cX10_joined 143 = .ok (.goto 6, 3) := by decide +kernel
theorem dX10_joined_146 : decode cX10_joined 146 = .ok (.iload_n 1, 1) := by decide +kernel
theorem dX10_joined_147 : decode cX10_joined 147 = .ok (.iload_n 2, 1) := by decide +kernel
theorem dX10_joined_148 : decode cX10_joined 148 = .ok (.idiv, 1) := by decide +kernel
theorem dX10_joined_149 : decode cX10_joined 149 = .ok (.ireturn, 1) := by decide +kernel
theorem dX10_joined_150 : decode cX10_joined 150 = .ok (.iload_n 1, 1) := by decide +kernel
theorem dX10_joined_151 : decode cX10_joined 151 = .ok (.iload_n 2, 1) := by decide +kernel
theorem dX10_joined_152 : decode cX10_joined 152 = .ok (.if_icmp .ge 7, 3) := by decide +kernel
theorem dX10_joined_155 : decode cX10_joined 155 = .ok (.iconst 1, 1) := by decide +kernel
theorem dX10_joined_156 : decode cX10_joined 156 = .ok (.goto 4, 3) := by decide +kernel
theorem dX10_joined_159 : decode cX10_joined 159 = .ok (.iconst 0, 1) := by decide +kernel
theorem dX10_joined_160 : decode cX10_joined 160 = .ok (.ireturn, 1) := by decide +kernel
theorem dX10_joined_161 : decode cX10_joined 161 = .ok (.iload_n 1, 1) := by decide +kernel
theorem dX10_joined_162 : decode cX10_joined 162 = .ok (.iload_n 2, 1) := by decide +kernel
theorem dX10_joined_163 : decode cX10_joined 163 = .ok (.if_icmp .le 7, 3) := by decide +kernel
theorem dX10_joined_166 : decode cX10_joined 166 = .ok (.iconst 1, 1) := by decide +kernel
theorem dX10_joined_167 : decode cX10_joined 167 = .ok (.goto 4, 3) := by decide +kernel
theorem dX10_joined_170 : decode cX10_joined 170 = .ok (.iconst 0, 1) := by decide +kernel
theorem dX10_joined_171 : decode cX10_joined 171 = .ok (.ireturn, 1) := by decide +kernel
theorem dX10_joined_172 : decode cX10_joined 172 = .ok (.iload_n 1, 1) := by decide +kernel
theorem dX10_joined_173 : decode cX10_joined 173 = .ok (.iload_n 2, 1) := by decide +kernel
theorem dX10_joined_174 : decode cX10_joined 174 = .ok (.if_icmp .ne 7, 3) := by decide +kernel
theorem dX10_joined_177 : decode cX10_joined 177 = .ok (.iconst 1, 1) := by decide +kernel
theorem dX10_joined_178 : decode cX10_joined 178 = .ok (.goto 4, 3) := by decide +kernel
theorem dX10_joined_181 : decode cX10_joined 181 = .ok (.iconst 0, 1) := by decide +kernel
theorem dX10_joined_182 : decode cX10_joined 182 = .ok (.ireturn, 1) := by decide +kernel
theorem dX10_joined_183 : decode cX10_joined 183 = .ok (.iload_n 1, 1) := by decide +kernel
theorem dX10_joined_184 : decode cX10_joined 184 = .ok (.ifCond .eq 11, 3) := by decide +kernel
end
section
theorem dX10_joined_187 : decode cX10_joined 187 = .ok (.iload_n 2, 1) := by decide +kernel
theorem dX10_joined_188 : decode cX10_joined 188 = .ok (.ifCond .eq 7, 3) := by decide +kernel
theorem dX10_joined_191 : decode cX10_joined 191 = .ok (.iconst 1, 1) := by decide +kernel
theorem dX10_joined_192 : decode cX10_joined 192 = .ok (.goto 4, 3) := by decide +kernel
theorem dX10_joined_195 : decode cX10_joined 195 = .ok (.iconst 0, 1) := by decide +kernel
theorem dX10_joined_196 : decode cX10_joined 196 = .ok (.ireturn, 1) := by decide +kernel
theorem dX10_joined_197 : decode cX10_joined 197 = .ok (.iload_n 1, 1) := by decide +kernel
theorem dX10_joined_198 : decode cX10_joined 198 = .ok (.ifCond .ne 7, 3) := by decide +kernel
theorem dX10_joined_201 : decode cX10_joined 201 = .ok (.iload_n 2, 1) := by decide +kernel
theorem dX10_joined_202 : decode cX10_joined 202 = .ok (.ifCond .eq 7, 3) := by decide +kernel
theorem dX10_joined_205 : decode cX10_joined 205 = .ok (.iconst 1, 1) := by decide +kernel
theorem dX10_joined_206 : decode cX10_joined 206 = .ok (.goto 4, 3) := by decide +kernel
theorem dX10_joined_209 : decode cX10_joined 209 = .ok (.iconst 0, 1) := by decide +kernel
theorem dX10_joined_210 : decode cX10_joined 210 = .ok (.ireturn, 1) := by decide +kernel
theorem dX10_worked_0 : decode cX10_worked 0 = .ok (.iconst 0, 1) := by decide +kernel
theorem dX10_worked_1 : decode cX10_worked 1 = .ok (.istore_n 2, 1) := by decide +kernel
theorem dX10_worked_2 : decode cX10_worked 2 = .ok (.iconst 0, 1) := by decide +kernel
theorem dX10_worked_3 : decode cX10_worked 3 = .ok (.istore_n 3, 1) := by decide +kernel
theorem dX10_worked_4 : decode cX10_worked 4 = .ok (.iload_n 3, 1) := by decide +kernel
theorem dX10_worked_5 : decode cX10_worked 5 = .ok (.aload_n 0, 1) := by decide +kernel
theorem dX10_worked_6 : decode cX10_worked 6 = .ok (.getfield 7, 3) := by decide +kernel
theorem dX10_worked_9 : decode cX10_worked 9 = .ok (.aload_n 0, 1) := by decide +kernel
theorem dX10_worked_10 : decode cX10_worked 10 = .ok (.iload_n 1, 1) := by decide +kernel
theorem dX10_worked_11 : decode cX10_worked 11 = .ok (.invokevirtual 304, 3) := by decide +kernel
theorem dX10_worked_14 : decode cX10_worked 14 = .ok (.iconst 2, 1) := by decide +kernel
theorem dX10_worked_15 : decode cX10_worked 15 = .ok (.iadd, 1) := by decide +kernel
theorem dX10_worked_16 : decode cX10_worked 16 = .ok (.iaload, 1) := by decide +kernel
theorem dX10_worked_17 : decode cX10_worked 17 = .ok (.if_icmp .ge 146, 3) := by decide +kernel
theorem dX10_worked_20 : decode cX10_worked 20 = .ok (.aload_n 0, 1) := by decide +kernel
theorem dX10_worked_21 : decode cX10_worked 21 = .ok (.getfield 7, 3) := by decide +kernel
theorem dX10_worked_24 : decode cX10_worked 24 = .ok (.aload_n 0, 1) := by decide +kernel
theorem dX10_worked_25 : decode cX10_worked 25 = .ok (.iload_n 1, 1) := by decide +kernel
theorem dX10_worked_26 : decode cX10_worked 26 = .ok (.invokevirtual 304, 3) := by decide +kernel
theorem dX10_worked_29 : decode cX10_worked 29 = .ok (.iconst 4, 1) := by decide +kernel
theorem dX10_worked_30 : decode cX10_worked 30 = .ok (.iadd, 1) := by decide +kernel
theorem dX10_worked_31 : decode cX10_worked 31 = .ok (.iconst 2, 1) := by decide +kernel
theorem dX10_worked_32 : decode cX10_worked 32 = .ok (.iload_n 3, 1) := by decide +kernel
theorem dX10_worked_33 : decode cX10_worked 33 = .ok (.imul, 1) := by decide +kernel
theorem dX10_worked_34 : decode cX10_worked 34 = .ok (.iadd, 1) := by decide +kernel
theorem dX10_worked_35 : decode cX10_worked 35 = .ok (.iaload, 1) := by decide +kernel
theorem dX10_worked_36 : decode cX10_worked 36 = .ok (.istore 4, 2) := by decide +kernel
theorem dX10_worked_38 : decode cX10_worked 38 = .ok (.aload_n 0, 1) := by decide +kernel
theorem dX10_worked_39 : decode cX10_worked 39 = .ok (.getfield 7, 3) := by decide +kernel
theorem dX10_worked_42 : decode cX10_worked 42 = .ok (.aload_n 0, 1) := by decide +kernel
theorem dX10_worked_43 : decode cX10_worked 43 = .ok (.iload_n 1, 1) := by decide +kernel
theorem dX10_worked_44 : decode cX10_worked 44 = .ok (.invokevirtual 304, 3) := by decide +kernel
theorem dX10_worked_47 : decode cX10_worked 47 = .ok (.iconst 4, 1) := by decide +kernel
theorem dX10_worked_48 : decode cX10_worked 48 = .ok (.iadd, 1) := by decide +kernel
theorem dX10_worked_49 : decode cX10_worked 49 = .ok (.iconst 2, 1) := by decide +kernel
theorem dX10_worked_50 : decode cX10_worked 50 = .ok (.iload_n 3, 1) := by decide +kernel
theorem dX10_worked_51 : decode cX10_worked 51 = .ok (.imul, 1) := by decide +kernel
theorem dX10_worked_52 : decode cX10_worked 52 = .ok (.iadd, 1) := by decide +kernel
theorem dX10_worked_53 : decode cX10_worked 53 = .ok (.iconst 1, 1) := by decide +kernel
theorem dX10_worked_54 : decode cX10_worked 54 = .ok (.iadd, 1) := by decide +kernel
theorem dX10_worked_55 : decode cX10_worked 55 = .ok (.iaload, 1) := by decide +kernel
theorem dX10_worked_56 : decode cX10_worked 56 = .ok (.istore 5, 2) := by decide +kernel
theorem dX10_worked_58 : decode cX10_worked 58 = .ok (.iload 4, 2) := by decide +kernel
theorem dX10_worked_60 : decode cX10_worked 60 = .ok (.iconst 2, 1) := by decide +kernel
theorem dX10_worked_61 : decode cX10_worked 61 = .ok (.if_icmp .eq 32, 3) := by decide +kernel
theorem dX10_worked_64 : decode cX10_worked 64 = .ok (.aload_n 0, 1) := by decide +kernel
theorem dX10_worked_65 : decode cX10_worked 65 = .ok (.getfield 74, 3) := by decide +kernel
theorem dX10_worked_68 : decode cX10_worked 68 = .ok (.iload_n 2, 1) := by decide +kernel
theorem dX10_worked_69 : decode cX10_worked 69 = .ok (.iload 4, 2) := by decide +kernel
theorem dX10_worked_71 : decode cX10_worked 71 = .ok (.ifCond .ne 8, 3) := by decide +kernel
theorem dX10_worked_74 : decode cX10_worked 74 = .ok (.iload 5, 2) := by decide +kernel
theorem dX10_worked_76 : decode cX10_worked 76 = .ok (.goto 10, 3) := by decide +kernel
theorem dX10_worked_79 : decode cX10_worked 79 = .ok (.aload_n 0, 1) := by decide +kernel
theorem dX10_worked_80 : decode cX10_worked 80 = .ok (.getfield 71, 3) := by decide +kernel
theorem dX10_worked_83 : decode cX10_worked 83 = .ok (.iload 5, 2) := by decide +kernel
theorem dX10_worked_85 : decode cX10_worked 85 = .ok (.iaload, 1) := by decide +kernel
theorem dX10_worked_86 : decode cX10_worked 86 = .ok (.iastore, 1) := by decide +kernel
theorem dX10_worked_87 : decode cX10_worked 87 = .ok (.iinc 2 1, 3) := by decide +kernel
theorem dX10_worked_90 : decode cX10_worked 90 = .ok (.goto 67, 3) := by decide +kernel
theorem dX10_worked_93 : decode cX10_worked 93 = .ok (.iload 5, 2) := by decide +kernel
theorem dX10_worked_95 : decode cX10_worked 95 = .ok (.bipush 33, 2) := by decide +kernel
theorem dX10_worked_97 : decode cX10_worked 97 = .ok (.if_icmp .ne 30, 3) := by decide +kernel
theorem dX10_worked_100 : decode cX10_worked 100 = .ok (.aload_n 0, 1) := by decide +kernel
theorem dX10_worked_101 : decode cX10_worked 101 = .ok (.getfield 74, 3) := by decide +kernel
theorem dX10_worked_104 : decode cX10_worked 104 = .ok (.iload_n 2, 1) := by decide +kernel
theorem dX10_worked_105 : decode cX10_worked 105 = .ok (.iconst 1, 1) := by decide +kernel
theorem dX10_worked_106 : decode cX10_worked 106 = .ok (.isub, 1) := by decide +kernel
theorem dX10_worked_107 : decode cX10_worked 107 = .ok (.aload_n 0, 1) := by decide +kernel
theorem dX10_worked_108 : decode cX10_worked 108 = .ok (.getfield 74, 3) := by decide +kernel
theorem dX10_worked_111 : decode cX10_worked 111 = .ok (.iload_n 2, 1) := by decide +kernel
theorem dX10_worked_112 : decode cX10_worked 112 = .ok (.iconst 1, 1) := by decide +kernel
theorem dX10_worked_113 : decode cX10_worked 113 = .ok (.isub, 1) := by decide +kernel
theorem dX10_worked_114 : decode cX10_worked 114 = .ok (.iaload, 1) := by decide +kernel
theorem dX10_worked_115 : decode cX10_worked 115 = .ok (.ifCond .ne 7, 3) := by decide +kernel
theorem dX10_worked_118 : decode cX10_worked 118 = .ok (.iconst 1, 1) := by decide +kernel
theorem dX10_worked_119 : decode cX10_worked 119 = .ok (.goto 4, 3) := by decide +kernel
theorem dX10_worked_122 : decode cX10_worked 122 = .ok (.iconst 0, 1) := by decide +kernel
theorem dX10_worked_123 : decode cX10_worked 123 = .ok (.iastore, 1) := by decide +kernel
theorem dX10_worked_124 : decode cX10_worked 124 = .ok (.goto 33, 3) := by decide +kernel
theorem dX10_worked_127 : decode cX10_worked 127 = .ok (.iinc 2 (-1), 3) := by decide +kernel
theorem dX10_worked_130 : decode cX10_worked 130 = .ok (.aload_n 0, 1) := by decide +kernel
theorem dX10_worked_131 : decode cX10_worked 131 = .ok (.getfield 74, 3) := by decide +kernel
theorem dX10_worked_134 : decode cX10_worked 134 = .ok (.iload_n 2, 1) := by decide +kernel
theorem dX10_worked_135 : decode cX10_worked 135 = .ok (.iconst 1, 1) := by decide +kernel
theorem dX10_worked_136 : decode cX10_worked 136 = .ok (.isub, 1) := by decide +kernel
theorem dX10_worked_137 : decode cX10_worked 137 = .ok (.iload 5, 2) := by decide +kernel
theorem dX10_worked_139 : decode cX10_worked 139 = .ok (.aload_n 0, 1) := by decide +kernel
theorem dX10_worked_140 : decode cX10_worked 140 = .ok (.getfield 74, 3) := by decide +kernel
theorem dX10_worked_143 : decode cX10_worked 143 = .ok (.iload_n 2, 1) := by decide +kernel
theorem dX10_worked_144 : decode cX10_worked 144 = .ok (.iconst 1, 1) := by decide +kernel
theorem dX10_worked_145 : decode cX10_worked 145 = .ok (.isub, 1) := by decide +kernel
theorem dX10_worked_146 : decode cX10_worked 146 = .ok (.iaload, 1) := by decide +kernel
theorem dX10_worked_147 : decode cX10_worked 147 = .ok (.aload_n 0, 1) := by decide +kernel
theorem dX10_worked_148 : decode cX10_worked 148 = .ok (.getfield 74, 3) := by decide +kernel
theorem dX10_worked_151 : decode cX10_worked 151 = .ok (.iload_n 2, 1) := by decide +kernel
theorem dX10_worked_152 : decode cX10_worked 152 = .ok (.iaload, 1) := by decide +kernel
theorem dX10_worked_153 : decode cX10_worked 153 = .ok (.invokestatic 319, 3) := by decide +kernel
theorem dX10_worked_156 : decode cX10_worked 156 = .ok (.iastore, 1) := by decide +kernel
theorem dX10_worked_157 : decode cX10_worked 157 = .ok (.iinc 3 1, 3) := by decide +kernel
theorem dX10_worked_160 : decode cX10_worked 160 = .ok (.goto (-156), 3) := by decide +kernel
theorem dX10_worked_163 : decode cX10_worked 163 = .ok (.aload_n 0, 1) := by decide +kernel
theorem dX10_worked_164 : decode cX10_worked 164 = .ok (.getfield 74, 3) := by decide +kernel
theorem dX10_worked_167 : decode cX10_worked 167 = .ok (.iconst 0, 1) := by decide +kernel
theorem dX10_worked_168 : decode cX10_worked 168 = .ok (.iaload, 1) := by decide +kernel
theorem dX10_worked_169 : decode cX10_worked 169 = .ok (.ireturn, 1) := by decide +kernel
theorem dX10_isSheet_0 : decode cX10_isSheet 0 = .ok (.iload_n 0, 1) := by decide +kernel
theorem dX10_isSheet_1 : decode cX10_isSheet 1 = .ok (.i2l, 1) := by decide +kernel
theorem dX10_isSheet_2 : decode cX10_isSheet 2 = .ok (.lconst 0, 1) := by decide +kernel
theorem dX10_isSheet_3 : decode cX10_isSheet 3 = .ok (.ldc2_w 171, 3) := by decide +kernel
theorem dX10_isSheet_6 : decode cX10_isSheet 6 = .ok (.invokestatic 87, 3) := by decide +kernel
theorem dX10_isSheet_9 : decode cX10_isSheet 9 = .ok (.ireturn, 1) := by decide +kernel
theorem dX10_sheet_0 : decode cX10_sheet 0 = .ok (.iload_n 1, 1) := by decide +kernel
theorem dX10_sheet_1 : decode cX10_sheet 1 = .ok (.invokestatic 323, 3) := by decide +kernel
theorem dX10_sheet_4 : decode cX10_sheet 4 = .ok (.ifCond .eq 25, 3) := by decide +kernel
theorem dX10_sheet_7 : decode cX10_sheet 7 = .ok (.iload_n 2, 1) := by decide +kernel
theorem dX10_sheet_8 : decode cX10_sheet 8 = .ok (.i2l, 1) := by decide +kernel
theorem dX10_sheet_9 : decode cX10_sheet 9 = .ok (.ldc2_w 326, 3) := by decide +kernel
theorem dX10_sheet_12 : decode cX10_sheet 12 = .ok (.lconst 1, 1) := by decide +kernel
theorem dX10_sheet_13 : decode cX10_sheet 13 = .ok (.invokestatic 87, 3) := by decide +kernel
theorem dX10_sheet_16 : decode cX10_sheet 16 = .ok (.ifCond .eq 13, 3) := by decide +kernel
theorem dX10_sheet_19 : decode cX10_sheet 19 = .ok (.iload_n 2, 1) := by decide +kernel
theorem dX10_sheet_20 : decode cX10_sheet 20 = .ok (.ifCond .lt 12, 3) := by decide +kernel
theorem dX10_sheet_23 : decode cX10_sheet 23 = .ok (.iload_n 3, 1) := by decide +kernel
theorem dX10_sheet_24 : decode cX10_sheet 24 = .ok (.bipush 24, 2) := by decide +kernel
theorem dX10_sheet_26 : decode cX10_sheet 26 = .ok (.if_icmp .le 6, 3) := by decide +kernel
theorem dX10_sheet_29 : decode cX10_sheet 29 = .ok (.ldc 126, 2) := by decide +kernel
theorem dX10_sheet_31 : decode cX10_sheet 31 = .ok (.ireturn, 1) := by decide +kernel
theorem dX10_sheet_32 : decode cX10_sheet 32 = .ok (.iload_n 2, 1) := by decide +kernel
theorem dX10_sheet_33 : decode cX10_sheet 33 = .ok (.ifCond .lt 11, 3) := by decide +kernel
theorem dX10_sheet_36 : decode cX10_sheet 36 = .ok (.iload_n 3, 1) := by decide +kernel
theorem dX10_sheet_37 : decode cX10_sheet 37 = .ok (.ifCond .ge 7, 3) := by decide +kernel
theorem dX10_sheet_40 : decode cX10_sheet 40 = .ok (.ldc_w 328, 3) := by decide +kernel
theorem dX10_sheet_43 : decode cX10_sheet 43 = .ok (.ireturn, 1) := by decide +kernel
theorem dX10_sheet_44 : decode cX10_sheet 44 = .ok (.aload_n 0, 1) := by decide +kernel
theorem dX10_sheet_45 : decode cX10_sheet 45 = .ok (.getfield 19, 3) := by decide +kernel
theorem dX10_sheet_48 : decode cX10_sheet 48 = .ok (.iload_n 1, 1) := by decide +kernel
theorem dX10_sheet_49 : decode cX10_sheet 49 = .ok (.iload_n 2, 1) := by decide +kernel
theorem dX10_sheet_50 : decode cX10_sheet 50 = .ok (.iastore, 1) := by decide +kernel
theorem dX10_sheet_51 : decode cX10_sheet 51 = .ok (.aload_n 0, 1) := by decide +kernel
theorem dX10_sheet_52 : decode cX10_sheet 52 = .ok (.getfield 22, 3) := by decide +kernel
theorem dX10_sheet_55 : decode cX10_sheet 55 = .ok (.iload_n 1, 1) := by decide +kernel
theorem dX10_sheet_56 : decode cX10_sheet 56 = .ok (.iload_n 2, 1) := by decide +kernel
theorem dX10_sheet_57 : decode cX10_sheet 57 = .ok (.ifCond .ge 7, 3) := by decide +kernel
theorem dX10_sheet_60 : decode cX10_sheet 60 = .ok (.iconst 0, 1) := by decide +kernel
theorem dX10_sheet_61 : decode cX10_sheet 61 = .ok (.goto 4, 3) := by decide +kernel
theorem dX10_sheet_64 : decode cX10_sheet 64 = .ok (.iload_n 3, 1) := by decide +kernel
theorem dX10_sheet_65 : decode cX10_sheet 65 = .ok (.iastore, 1) := by decide +kernel
theorem dX10_sheet_66 : decode cX10_sheet 66 = .ok (.iconst 0, 1) := by decide +kernel
theorem dX10_sheet_67 : decode cX10_sheet 67 = .ok (.istore 4, 2) := by decide +kernel
theorem dX10_sheet_69 : decode cX10_sheet 69 = .ok (.iload 4, 2) := by decide +kernel
theorem dX10_sheet_71 : decode cX10_sheet 71 = .ok (.bipush 24, 2) := by decide +kernel
theorem dX10_sheet_73 : decode cX10_sheet 73 = .ok (.if_icmp .ge 22, 3) := by decide +kernel
theorem dX10_sheet_76 : decode cX10_sheet 76 = .ok (.aload_n 0, 1) := by decide +kernel
theorem dX10_sheet_77 : decode cX10_sheet 77 = .ok (.getfield 25, 3) := by decide +kernel
theorem dX10_sheet_80 : decode cX10_sheet 80 = .ok (.bipush 24, 2) := by decide +kernel
theorem dX10_sheet_82 : decode cX10_sheet 82 = .ok (.iload_n 1, 1) := by decide +kernel
theorem dX10_sheet_83 : decode cX10_sheet 83 = .ok (.imul, 1) := by decide +kernel
theorem dX10_sheet_84 : decode cX10_sheet 84 = .ok (.iload 4, 2) := by decide +kernel
theorem dX10_sheet_86 : decode cX10_sheet 86 = .ok (.iadd, 1) := by decide +kernel
theorem dX10_sheet_87 : decode cX10_sheet 87 = .ok (.iconst 0, 1) := by decide +kernel
theorem dX10_sheet_88 : decode cX10_sheet 88 = .ok (.iastore, 1) := by decide +kernel
theorem dX10_sheet_89 : decode cX10_sheet 89 = .ok (.iinc 4 1, 3) := by decide +kernel
theorem dX10_sheet_92 : decode cX10_sheet 92 = .ok (.goto (-23), 3) := by decide +kernel
theorem dX10_sheet_95 : decode cX10_sheet 95 = .ok (.aload_n 0, 1) := by decide +kernel
theorem dX10_sheet_96 : decode cX10_sheet 96 = .ok (.getfield 22, 3) := by decide +kernel
theorem dX10_sheet_99 : decode cX10_sheet 99 = .ok (.iload_n 1, 1) := by decide +kernel
theorem dX10_sheet_100 : decode cX10_sheet 100 = .ok (.iaload, 1) := by decide +kernel
theorem dX10_sheet_101 : decode cX10_sheet 101 = .ok (.ireturn, 1) := by decide +kernel
theorem dX10_mark_0 : decode cX10_mark 0 = .ok (.iload_n 1, 1) := by decide +kernel
theorem dX10_mark_1 : decode cX10_mark 1 = .ok (.invokestatic 323, 3) := by decide +kernel
theorem dX10_mark_4 : decode cX10_mark 4 = .ok (.ifCond .ne 6, 3) := by decide +kernel
theorem dX10_mark_7 : decode cX10_mark 7 = .ok (.ldc 126, 2) := by decide +kernel
theorem dX10_mark_9 : decode cX10_mark 9 = .ok (.ireturn, 1) := by decide +kernel
theorem dX10_mark_10 : decode cX10_mark 10 = .ok (.aload_n 0, 1) := by decide +kernel
theorem dX10_mark_11 : decode cX10_mark 11 = .ok (.getfield 19, 3) := by decide +kernel
theorem dX10_mark_14 : decode cX10_mark 14 = .ok (.iload_n 1, 1) := by decide +kernel
theorem dX10_mark_15 : decode cX10_mark 15 = .ok (.iaload, 1) := by decide +kernel
theorem dX10_mark_16 : decode cX10_mark 16 = .ok (.ifCond .ge 7, 3) := by decide +kernel
theorem dX10_mark_19 : decode cX10_mark 19 = .ok (.ldc_w 329, 3) := by decide +kernel
theorem dX10_mark_22 : decode cX10_mark 22 = .ok (.ireturn, 1) := by decide +kernel
theorem dX10_mark_23 : decode cX10_mark 23 = .ok (.iload_n 2, 1) := by decide +kernel
theorem dX10_mark_24 : decode cX10_mark 24 = .ok (.i2l, 1) := by decide +kernel
theorem dX10_mark_25 : decode cX10_mark 25 = .ok (.lconst 0, 1) := by decide +kernel
theorem dX10_mark_26 : decode cX10_mark 26 = .ok (.aload_n 0, 1) := by decide +kernel
theorem dX10_mark_27 : decode cX10_mark 27 = .ok (.getfield 22, 3) := by decide +kernel
theorem dX10_mark_30 : decode cX10_mark 30 = .ok (.iload_n 1, 1) := by decide +kernel
theorem dX10_mark_31 : decode cX10_mark 31 = .ok (.iaload, 1) := by decide +kernel
theorem dX10_mark_32 : decode cX10_mark 32 = .ok (.iconst 1, 1) := by decide +kernel
theorem dX10_mark_33 : decode cX10_mark 33 = .ok (.isub, 1) := by decide +kernel
theorem dX10_mark_34 : decode cX10_mark 34 = .ok (.i2l, 1) := by decide +kernel
theorem dX10_mark_35 : decode cX10_mark 35 = .ok (.invokestatic 87, 3) := by decide +kernel
theorem dX10_mark_38 : decode cX10_mark 38 = .ok (.ifCond .ne 7, 3) := by decide +kernel
theorem dX10_mark_41 : decode cX10_mark 41 = .ok (.ldc_w 330, 3) := by decide +kernel
theorem dX10_mark_44 : decode cX10_mark 44 = .ok (.ireturn, 1) := by decide +kernel
theorem dX10_mark_45 : decode cX10_mark 45 = .ok (.aload_n 0, 1) := by decide +kernel
theorem dX10_mark_46 : decode cX10_mark 46 = .ok (.getfield 19, 3) := by decide +kernel
theorem dX10_mark_49 : decode cX10_mark 49 = .ok (.iload_n 1, 1) := by decide +kernel
theorem dX10_mark_50 : decode cX10_mark 50 = .ok (.iaload, 1) := by decide +kernel
theorem dX10_mark_51 : decode cX10_mark 51 = .ok (.ifCond .ne 12, 3) := by decide +kernel
theorem dX10_mark_54 : decode cX10_mark 54 = .ok (.iload_n 3, 1) := by decide +kernel
theorem dX10_mark_55 : decode cX10_mark 55 = .ok (.ldc 86, 2) := by decide +kernel
theorem dX10_mark_57 : decode cX10_mark 57 = .ok (.if_icmp .ne 6, 3) := by decide +kernel
theorem dX10_mark_60 : decode cX10_mark 60 = .ok (.ldc 144, 2) := by decide +kernel
theorem dX10_mark_62 : decode cX10_mark 62 = .ok (.ireturn, 1) := by decide +kernel
theorem dX10_mark_63 : decode cX10_mark 63 = .ok (.aload_n 0, 1) := by decide +kernel
theorem dX10_mark_64 : decode cX10_mark 64 = .ok (.getfield 19, 3) := by decide +kernel
theorem dX10_mark_67 : decode cX10_mark 67 = .ok (.iload_n 1, 1) := by decide +kernel
theorem dX10_mark_68 : decode cX10_mark 68 = .ok (.iaload, 1) := by decide +kernel
theorem dX10_mark_69 : decode cX10_mark 69 = .ok (.iconst 1, 1) := by decide +kernel
theorem dX10_mark_70 : decode cX10_mark 70 = .ok (.if_icmp .ne 26, 3) := by decide +kernel
theorem dX10_mark_73 : decode cX10_mark 73 = .ok (.iload_n 3, 1) := by decide +kernel
theorem dX10_mark_74 : decode cX10_mark 74 = .ok (.ldc 86, 2) := by decide +kernel
theorem dX10_mark_76 : decode cX10_mark 76 = .ok (.if_icmp .eq 20, 3) := by decide +kernel
theorem dX10_mark_79 : decode cX10_mark 79 = .ok (.iload_n 3, 1) := by decide +kernel
theorem dX10_mark_80 : decode cX10_mark 80 = .ok (.i2l, 1) := by decide +kernel
theorem dX10_mark_81 : decode cX10_mark 81 = .ok (.ldc2_w 331, 3) := by decide +kernel
theorem dX10_mark_84 : decode cX10_mark 84 = .ok (.ldc2_w 195, 3) := by decide +kernel
theorem dX10_mark_87 : decode cX10_mark 87 = .ok (.invokestatic 87, 3) := by decide +kernel
theorem dX10_mark_90 : decode cX10_mark 90 = .ok (.ifCond .ne 6, 3) := by decide +kernel
theorem dX10_mark_93 : decode cX10_mark 93 = .ok (.ldc 126, 2) := by decide +kernel
theorem dX10_mark_95 : decode cX10_mark 95 = .ok (.ireturn, 1) := by decide +kernel
theorem dX10_mark_96 : decode cX10_mark 96 = .ok (.aload_n 0, 1) := by decide +kernel
theorem dX10_mark_97 : decode cX10_mark 97 = .ok (.getfield 25, 3) := by decide +kernel
theorem dX10_mark_100 : decode cX10_mark 100 = .ok (.bipush 24, 2) := by decide +kernel
theorem dX10_mark_102 : decode cX10_mark 102 = .ok (.iload_n 1, 1) := by decide +kernel
theorem dX10_mark_103 : decode cX10_mark 103 = .ok (.imul, 1) := by decide +kernel
theorem dX10_mark_104 : decode cX10_mark 104 = .ok (.iload_n 2, 1) := by decide +kernel
theorem dX10_mark_105 : decode cX10_mark 105 = .ok (.iadd, 1) := by decide +kernel
theorem dX10_mark_106 : decode cX10_mark 106 = .ok (.aload_n 0, 1) := by decide +kernel
theorem dX10_mark_107 : decode cX10_mark 107 = .ok (.getfield 19, 3) := by decide +kernel
theorem dX10_mark_110 : decode cX10_mark 110 = .ok (.iload_n 1, 1) := by decide +kernel
theorem dX10_mark_111 : decode cX10_mark 111 = .ok (.iaload, 1) := by decide +kernel
theorem dX10_mark_112 : decode cX10_mark 112 = .ok (.ifCond .ne 13, 3) := by decide +kernel
theorem dX10_mark_115 : decode cX10_mark 115 = .ok (.iload_n 3, 1) := by decide +kernel
theorem dX10_mark_116 : decode cX10_mark 116 = .ok (.bipush 16, 2) := by decide +kernel
theorem dX10_mark_118 : decode cX10_mark 118 = .ok (.ishl, 1) := by decide +kernel
theorem dX10_mark_119 : decode cX10_mark 119 = .ok (.bipush 16, 2) := by decide +kernel
theorem dX10_mark_121 : decode cX10_mark 121 = .ok (.ishr, 1) := by decide +kernel
theorem dX10_mark_122 : decode cX10_mark 122 = .ok (.goto 4, 3) := by decide +kernel
theorem dX10_mark_125 : decode cX10_mark 125 = .ok (.iload_n 3, 1) := by decide +kernel
theorem dX10_mark_126 : decode cX10_mark 126 = .ok (.iastore, 1) := by decide +kernel
theorem dX10_mark_127 : decode cX10_mark 127 = .ok (.iconst 1, 1) := by decide +kernel
theorem dX10_mark_128 : decode cX10_mark 128 = .ok (.ireturn, 1) := by decide +kernel
theorem dX10_pour_0 : decode cX10_pour 0 = .ok (.iload_n 1, 1) := by decide +kernel
theorem dX10_pour_1 : decode cX10_pour 1 = .ok (.invokestatic 323, 3) := by decide +kernel
theorem dX10_pour_4 : decode cX10_pour 4 = .ok (.ifCond .eq 15, 3) := by decide +kernel
theorem dX10_pour_7 : decode cX10_pour 7 = .ok (.iload_n 2, 1) := by decide +kernel
theorem dX10_pour_8 : decode cX10_pour 8 = .ok (.i2l, 1) := by decide +kernel
theorem dX10_pour_9 : decode cX10_pour 9 = .ok (.lconst 0, 1) := by decide +kernel
theorem dX10_pour_10 : decode cX10_pour 10 = .ok (.ldc2_w 190, 3) := by decide +kernel
theorem dX10_pour_13 : decode cX10_pour 13 = .ok (.invokestatic 87, 3) := by decide +kernel
theorem dX10_pour_16 : decode cX10_pour 16 = .ok (.ifCond .ne 6, 3) := by decide +kernel
theorem dX10_pour_19 : decode cX10_pour 19 = .ok (.ldc 126, 2) := by decide +kernel
theorem dX10_pour_21 : decode cX10_pour 21 = .ok (.ireturn, 1) := by decide +kernel
theorem dX10_pour_22 : decode cX10_pour 22 = .ok (.aload_n 0, 1) := by decide +kernel
theorem dX10_pour_23 : decode cX10_pour 23 = .ok (.getfield 19, 3) := by decide +kernel
theorem dX10_pour_26 : decode cX10_pour 26 = .ok (.iload_n 1, 1) := by decide +kernel
theorem dX10_pour_27 : decode cX10_pour 27 = .ok (.iaload, 1) := by decide +kernel
theorem dX10_pour_28 : decode cX10_pour 28 = .ok (.ifCond .ge 7, 3) := by decide +kernel
theorem dX10_pour_31 : decode cX10_pour 31 = .ok (.ldc_w 329, 3) := by decide +kernel
theorem dX10_pour_34 : decode cX10_pour 34 = .ok (.ireturn, 1) := by decide +kernel
theorem dX10_pour_35 : decode cX10_pour 35 = .ok (.iconst 0, 1) := by decide +kernel
theorem dX10_pour_36 : decode cX10_pour 36 = .ok (.istore_n 3, 1) := by decide +kernel
theorem dX10_pour_37 : decode cX10_pour 37 = .ok (.iconst 0, 1) := by decide +kernel
theorem dX10_pour_38 : decode cX10_pour 38 = .ok (.istore 4, 2) := by decide +kernel
theorem dX10_pour_40 : decode cX10_pour 40 = .ok (.iload 4, 2) := by decide +kernel
theorem dX10_pour_42 : decode cX10_pour 42 = .ok (.aload_n 0, 1) := by decide +kernel
theorem dX10_pour_43 : decode cX10_pour 43 = .ok (.getfield 22, 3) := by decide +kernel
theorem dX10_pour_46 : decode cX10_pour 46 = .ok (.iload_n 1, 1) := by decide +kernel
theorem dX10_pour_47 : decode cX10_pour 47 = .ok (.iaload, 1) := by decide +kernel
theorem dX10_pour_48 : decode cX10_pour 48 = .ok (.if_icmp .ge 95, 3) := by decide +kernel
theorem dX10_pour_51 : decode cX10_pour 51 = .ok (.iload 4, 2) := by decide +kernel
theorem dX10_pour_53 : decode cX10_pour 53 = .ok (.bipush 6, 2) := by decide +kernel
theorem dX10_pour_55 : decode cX10_pour 55 = .ok (.if_icmp .ge 88, 3) := by decide +kernel
theorem dX10_pour_58 : decode cX10_pour 58 = .ok (.aload_n 0, 1) := by decide +kernel
theorem dX10_pour_59 : decode cX10_pour 59 = .ok (.getfield 25, 3) := by decide +kernel
theorem dX10_pour_62 : decode cX10_pour 62 = .ok (.bipush 24, 2) := by decide +kernel
theorem dX10_pour_64 : decode cX10_pour 64 = .ok (.iload_n 1, 1) := by decide +kernel
theorem dX10_pour_65 : decode cX10_pour 65 = .ok (.imul, 1) := by decide +kernel
theorem dX10_pour_66 : decode cX10_pour 66 = .ok (.iload 4, 2) := by decide +kernel
theorem dX10_pour_68 : decode cX10_pour 68 = .ok (.iadd, 1) := by decide +kernel
theorem dX10_pour_69 : decode cX10_pour 69 = .ok (.iaload, 1) := by decide +kernel
theorem dX10_pour_70 : decode cX10_pour 70 = .ok (.istore 5, 2) := by decide +kernel
theorem dX10_pour_72 : decode cX10_pour 72 = .ok (.aload_n 0, 1) := by decide +kernel
theorem dX10_pour_73 : decode cX10_pour 73 = .ok (.bipush 6, 2) := by decide +kernel
theorem dX10_pour_75 : decode cX10_pour 75 = .ok (.iload_n 2, 1) := by decide +kernel
theorem dX10_pour_76 : decode cX10_pour 76 = .ok (.imul, 1) := by decide +kernel
theorem dX10_pour_77 : decode cX10_pour 77 = .ok (.iload 4, 2) := by decide +kernel
theorem dX10_pour_79 : decode cX10_pour 79 = .ok (.iadd, 1) := by decide +kernel
theorem dX10_pour_80 : decode cX10_pour 80 = .ok (.iconst 2, 1) := by decide +kernel
theorem dX10_pour_81 : decode cX10_pour 81 = .ok (.invokevirtual 92, 3) := by decide +kernel
theorem dX10_pour_84 : decode cX10_pour 84 = .ok (.istore 6, 2) := by decide +kernel
theorem dX10_pour_86 : decode cX10_pour 86 = .ok (.iload 5, 2) := by decide +kernel
theorem dX10_pour_88 : decode cX10_pour 88 = .ok (.ldc 86, 2) := by decide +kernel
theorem dX10_pour_90 : decode cX10_pour 90 = .ok (.if_icmp .ne 8, 3) := by decide +kernel
theorem dX10_pour_93 : decode cX10_pour 93 = .ok (.iload 6, 2) := by decide +kernel
theorem dX10_pour_95 : decode cX10_pour 95 = .ok (.goto 11, 3) := by decide +kernel
theorem dX10_pour_98 : decode cX10_pour 98 = .ok (.iload 5, 2) := by decide +kernel
theorem dX10_pour_100 : decode cX10_pour 100 = .ok (.sipush 999, 3) := by decide +kernel
theorem dX10_pour_103 : decode cX10_pour 103 = .ok (.invokestatic 103, 3) := by decide +kernel
theorem dX10_pour_106 : decode cX10_pour 106 = .ok (.istore 7, 2) := by decide +kernel
theorem dX10_pour_108 : decode cX10_pour 108 = .ok (.aload_n 0, 1) := by decide +kernel
theorem dX10_pour_109 : decode cX10_pour 109 = .ok (.bipush 6, 2) := by decide +kernel
theorem dX10_pour_111 : decode cX10_pour 111 = .ok (.iload_n 2, 1) := by decide +kernel
theorem dX10_pour_112 : decode cX10_pour 112 = .ok (.imul, 1) := by decide +kernel
theorem dX10_pour_113 : decode cX10_pour 113 = .ok (.iload 4, 2) := by decide +kernel
theorem dX10_pour_115 : decode cX10_pour 115 = .ok (.iadd, 1) := by decide +kernel
theorem dX10_pour_116 : decode cX10_pour 116 = .ok (.iconst 2, 1) := by decide +kernel
theorem dX10_pour_117 : decode cX10_pour 117 = .ok (.iload 7, 2) := by decide +kernel
theorem dX10_pour_119 : decode cX10_pour 119 = .ok (.invokevirtual 127, 3) := by decide +kernel
theorem dX10_pour_122 : decode cX10_pour 122 = .ok (.iload_n 3, 1) := by decide +kernel
theorem dX10_pour_123 : decode cX10_pour 123 = .ok (.iload 7, 2) := by decide +kernel
theorem dX10_pour_125 : decode cX10_pour 125 = .ok (.iload 6, 2) := by decide +kernel
theorem dX10_pour_127 : decode cX10_pour 127 = .ok (.if_icmp .ne 7, 3) := by decide +kernel
theorem dX10_pour_130 : decode cX10_pour 130 = .ok (.iconst 0, 1) := by decide +kernel
theorem dX10_pour_131 : decode cX10_pour 131 = .ok (.goto 4, 3) := by decide +kernel
theorem dX10_pour_134 : decode cX10_pour 134 = .ok (.iconst 1, 1) := by decide +kernel
theorem dX10_pour_135 : decode cX10_pour 135 = .ok (.iadd, 1) := by decide +kernel
theorem dX10_pour_136 : decode cX10_pour 136 = .ok (.istore_n 3, 1) := by decide +kernel
theorem dX10_pour_137 : decode cX10_pour 137 = .ok (.iinc 4 1, 3) := by decide +kernel
theorem dX10_pour_140 : decode cX10_pour 140 = .ok (.goto (-100), 3) := by decide +kernel
theorem dX10_pour_143 : decode cX10_pour 143 = .ok (.iload_n 3, 1) := by decide +kernel
theorem dX10_pour_144 : decode cX10_pour 144 = .ok (.ireturn, 1) := by decide +kernel
theorem dX10_reads_0 : decode cX10_reads 0 = .ok (.iload_n 1, 1) := by decide +kernel
theorem dX10_reads_1 : decode cX10_reads 1 = .ok (.invokestatic 323, 3) := by decide +kernel
theorem dX10_reads_4 : decode cX10_reads 4 = .ok (.ifCond .ne 6, 3) := by decide +kernel
theorem dX10_reads_7 : decode cX10_reads 7 = .ok (.ldc 126, 2) := by decide +kernel
theorem dX10_reads_9 : decode cX10_reads 9 = .ok (.ireturn, 1) := by decide +kernel
theorem dX10_reads_10 : decode cX10_reads 10 = .ok (.aload_n 0, 1) := by decide +kernel
theorem dX10_reads_11 : decode cX10_reads 11 = .ok (.getfield 19, 3) := by decide +kernel
theorem dX10_reads_14 : decode cX10_reads 14 = .ok (.iload_n 1, 1) := by decide +kernel
theorem dX10_reads_15 : decode cX10_reads 15 = .ok (.iaload, 1) := by decide +kernel
theorem dX10_reads_16 : decode cX10_reads 16 = .ok (.ifCond .ge 7, 3) := by decide +kernel
theorem dX10_reads_19 : decode cX10_reads 19 = .ok (.ldc_w 329, 3) := by decide +kernel
theorem dX10_reads_22 : decode cX10_reads 22 = .ok (.ireturn, 1) := by decide +kernel
theorem dX10_reads_23 : decode cX10_reads 23 = .ok (.iconst 0, 1) := by decide +kernel
theorem dX10_reads_24 : decode cX10_reads 24 = .ok (.istore_n 2, 1) := by decide +kernel
theorem dX10_reads_25 : decode cX10_reads 25 = .ok (.iload_n 2, 1) := by decide +kernel
theorem dX10_reads_26 : decode cX10_reads 26 = .ok (.aload_n 0, 1) := by decide +kernel
theorem dX10_reads_27 : decode cX10_reads 27 = .ok (.getfield 22, 3) := by decide +kernel
theorem dX10_reads_30 : decode cX10_reads 30 = .ok (.iload_n 1, 1) := by decide +kernel
theorem dX10_reads_31 : decode cX10_reads 31 = .ok (.iaload, 1) := by decide +kernel
theorem dX10_reads_32 : decode cX10_reads 32 = .ok (.if_icmp .ge 38, 3) := by decide +kernel
theorem dX10_reads_35 : decode cX10_reads 35 = .ok (.aload_n 0, 1) := by decide +kernel
theorem dX10_reads_36 : decode cX10_reads 36 = .ok (.getfield 25, 3) := by decide +kernel
theorem dX10_reads_39 : decode cX10_reads 39 = .ok (.bipush 24, 2) := by decide +kernel
theorem dX10_reads_41 : decode cX10_reads 41 = .ok (.iload_n 1, 1) := by decide +kernel
theorem dX10_reads_42 : decode cX10_reads 42 = .ok (.imul, 1) := by decide +kernel
theorem dX10_reads_43 : decode cX10_reads 43 = .ok (.iload_n 2, 1) := by decide +kernel
theorem dX10_reads_44 : decode cX10_reads 44 = .ok (.iadd, 1) := by decide +kernel
theorem dX10_reads_45 : decode cX10_reads 45 = .ok (.iaload, 1) := by decide +kernel
theorem dX10_reads_46 : decode cX10_reads 46 = .ok (.istore_n 3, 1) := by decide +kernel
theorem dX10_reads_47 : decode cX10_reads 47 = .ok (.iload_n 3, 1) := by decide +kernel
theorem dX10_reads_48 : decode cX10_reads 48 = .ok (.ldc 86, 2) := by decide +kernel
theorem dX10_reads_50 : decode cX10_reads 50 = .ok (.if_icmp .eq 14, 3) := by decide +kernel
theorem dX10_reads_53 : decode cX10_reads 53 = .ok (.iload_n 3, 1) := by decide +kernel
theorem dX10_reads_54 : decode cX10_reads 54 = .ok (.aload_n 0, 1) := by decide +kernel
theorem dX10_reads_55 : decode cX10_reads 55 = .ok (.iload_n 2, 1) := by decide +kernel
theorem dX10_reads_56 : decode cX10_reads 56 = .ok (.invokevirtual 131, 3) := by decide +kernel
theorem dX10_reads_59 : decode cX10_reads 59 = .ok (.if_icmp .eq 5, 3) := by decide +kernel
theorem dX10_reads_62 : decode cX10_reads 62 = .ok (.iload_n 2, 1) := by decide +kernel
theorem dX10_reads_63 : decode cX10_reads 63 = .ok (.ireturn, 1) := by decide +kernel
theorem dX10_reads_64 : decode cX10_reads 64 = .ok (.iinc 2 1, 3) := by decide +kernel
theorem dX10_reads_67 : decode cX10_reads 67 = .ok (.goto (-42), 3) := by decide +kernel
theorem dX10_reads_70 : decode cX10_reads 70 = .ok (.ldc 86, 2) := by decide +kernel
theorem dX10_reads_72 : decode cX10_reads 72 = .ok (.ireturn, 1) := by decide +kernel
theorem dX10_copy_0 : decode cX10_copy 0 = .ok (.iload_n 1, 1) := by decide +kernel
theorem dX10_copy_1 : decode cX10_copy 1 = .ok (.invokestatic 323, 3) := by decide +kernel
theorem dX10_copy_4 : decode cX10_copy 4 = .ok (.ifCond .eq 10, 3) := by decide +kernel
theorem dX10_copy_7 : decode cX10_copy 7 = .ok (.iload_n 3, 1) := by decide +kernel
theorem dX10_copy_8 : decode cX10_copy 8 = .ok (.invokestatic 323, 3) := by decide +kernel
theorem dX10_copy_11 : decode cX10_copy 11 = .ok (.ifCond .ne 6, 3) := by decide +kernel
theorem dX10_copy_14 : decode cX10_copy 14 = .ok (.ldc 126, 2) := by decide +kernel
theorem dX10_copy_16 : decode cX10_copy 16 = .ok (.ireturn, 1) := by decide +kernel
theorem dX10_copy_17 : decode cX10_copy 17 = .ok (.aload_n 0, 1) := by decide +kernel
theorem dX10_copy_18 : decode cX10_copy 18 = .ok (.getfield 19, 3) := by decide +kernel
theorem dX10_copy_21 : decode cX10_copy 21 = .ok (.iload_n 1, 1) := by decide +kernel
theorem dX10_copy_22 : decode cX10_copy 22 = .ok (.iaload, 1) := by decide +kernel
theorem dX10_copy_23 : decode cX10_copy 23 = .ok (.ifCond .lt 12, 3) := by decide +kernel
theorem dX10_copy_26 : decode cX10_copy 26 = .ok (.aload_n 0, 1) := by decide +kernel
theorem dX10_copy_27 : decode cX10_copy 27 = .ok (.getfield 19, 3) := by decide +kernel
theorem dX10_copy_30 : decode cX10_copy 30 = .ok (.iload_n 3, 1) := by decide +kernel
theorem dX10_copy_31 : decode cX10_copy 31 = .ok (.iaload, 1) := by decide +kernel
theorem dX10_copy_32 : decode cX10_copy 32 = .ok (.ifCond .ge 7, 3) := by decide +kernel
theorem dX10_copy_35 : decode cX10_copy 35 = .ok (.ldc_w 329, 3) := by decide +kernel
theorem dX10_copy_38 : decode cX10_copy 38 = .ok (.ireturn, 1) := by decide +kernel
theorem dX10_copy_39 : decode cX10_copy 39 = .ok (.aload_n 0, 1) := by decide +kernel
theorem dX10_copy_40 : decode cX10_copy 40 = .ok (.getfield 19, 3) := by decide +kernel
theorem dX10_copy_43 : decode cX10_copy 43 = .ok (.iload_n 1, 1) := by decide +kernel
theorem dX10_copy_44 : decode cX10_copy 44 = .ok (.iaload, 1) := by decide +kernel
theorem dX10_copy_45 : decode cX10_copy 45 = .ok (.aload_n 0, 1) := by decide +kernel
theorem dX10_copy_46 : decode cX10_copy 46 = .ok (.getfield 19, 3) := by decide +kernel
theorem dX10_copy_49 : decode cX10_copy 49 = .ok (.iload_n 3, 1) := by decide +kernel
theorem dX10_copy_50 : decode cX10_copy 50 = .ok (.iaload, 1) := by decide +kernel
theorem dX10_copy_51 : decode cX10_copy 51 = .ok (.if_icmp .eq 6, 3) := by decide +kernel
theorem dX10_copy_54 : decode cX10_copy 54 = .ok (.ldc 144, 2) := by decide +kernel
theorem dX10_copy_56 : decode cX10_copy 56 = .ok (.ireturn, 1) := by decide +kernel
theorem dX10_copy_57 : decode cX10_copy 57 = .ok (.iload_n 2, 1) := by decide +kernel
theorem dX10_copy_58 : decode cX10_copy 58 = .ok (.ifCond .lt 48, 3) := by decide +kernel
theorem dX10_copy_61 : decode cX10_copy 61 = .ok (.iload 4, 2) := by decide +kernel
theorem dX10_copy_63 : decode cX10_copy 63 = .ok (.ifCond .lt 43, 3) := by decide +kernel
theorem dX10_copy_66 : decode cX10_copy 66 = .ok (.iload 5, 2) := by decide +kernel
theorem dX10_copy_68 : decode cX10_copy 68 = .ok (.ifCond .lt 38, 3) := by decide +kernel
theorem dX10_copy_71 : decode cX10_copy 71 = .ok (.iload_n 2, 1) := by decide +kernel
theorem dX10_copy_72 : decode cX10_copy 72 = .ok (.i2l, 1) := by decide +kernel
theorem dX10_copy_73 : decode cX10_copy 73 = .ok (.iload 5, 2) := by decide +kernel
theorem dX10_copy_75 : decode cX10_copy 75 = .ok (.i2l, 1) := by decide +kernel
theorem dX10_copy_76 : decode cX10_copy 76 = .ok (.ladd, 1) := by decide +kernel
theorem dX10_copy_77 : decode cX10_copy 77 = .ok (.aload_n 0, 1) := by decide +kernel
theorem dX10_copy_78 : decode cX10_copy 78 = .ok (.getfield 22, 3) := by decide +kernel
theorem dX10_copy_81 : decode cX10_copy 81 = .ok (.iload_n 1, 1) := by decide +kernel
theorem dX10_copy_82 : decode cX10_copy 82 = .ok (.iaload, 1) := by decide +kernel
theorem dX10_copy_83 : decode cX10_copy 83 = .ok (.i2l, 1) := by decide +kernel
theorem dX10_copy_84 : decode cX10_copy 84 = .ok (.lcmp, 1) := by decide +kernel
theorem dX10_copy_85 : decode cX10_copy 85 = .ok (.ifCond .gt 21, 3) := by decide +kernel
theorem dX10_copy_88 : decode cX10_copy 88 = .ok (.iload 4, 2) := by decide +kernel
theorem dX10_copy_90 : decode cX10_copy 90 = .ok (.i2l, 1) := by decide +kernel
theorem dX10_copy_91 : decode cX10_copy 91 = .ok (.iload 5, 2) := by decide +kernel
theorem dX10_copy_93 : decode cX10_copy 93 = .ok (.i2l, 1) := by decide +kernel
theorem dX10_copy_94 : decode cX10_copy 94 = .ok (.ladd, 1) := by decide +kernel
theorem dX10_copy_95 : decode cX10_copy 95 = .ok (.aload_n 0, 1) := by decide +kernel
theorem dX10_copy_96 : decode cX10_copy 96 = .ok (.getfield 22, 3) := by decide +kernel
theorem dX10_copy_99 : decode cX10_copy 99 = .ok (.iload_n 3, 1) := by decide +kernel
theorem dX10_copy_100 : decode cX10_copy 100 = .ok (.iaload, 1) := by decide +kernel
theorem dX10_copy_101 : decode cX10_copy 101 = .ok (.i2l, 1) := by decide +kernel
theorem dX10_copy_102 : decode cX10_copy 102 = .ok (.lcmp, 1) := by decide +kernel
theorem dX10_copy_103 : decode cX10_copy 103 = .ok (.ifCond .le 7, 3) := by decide +kernel
theorem dX10_copy_106 : decode cX10_copy 106 = .ok (.ldc_w 330, 3) := by decide +kernel
theorem dX10_copy_109 : decode cX10_copy 109 = .ok (.ireturn, 1) := by decide +kernel
theorem dX10_copy_110 : decode cX10_copy 110 = .ok (.iconst 0, 1) := by decide +kernel
theorem dX10_copy_111 : decode cX10_copy 111 = .ok (.istore 6, 2) := by decide +kernel
theorem dX10_copy_113 : decode cX10_copy 113 = .ok (.iload 6, 2) := by decide +kernel
theorem dX10_copy_115 : decode cX10_copy 115 = .ok (.iload 5, 2) := by decide +kernel
theorem dX10_copy_117 : decode cX10_copy 117 = .ok (.if_icmp .ge 30, 3) := by decide +kernel
theorem dX10_copy_120 : decode cX10_copy 120 = .ok (.aload_n 0, 1) := by decide +kernel
theorem dX10_copy_121 : decode cX10_copy 121 = .ok (.getfield 77, 3) := by decide +kernel
theorem dX10_copy_124 : decode cX10_copy 124 = .ok (.iload 6, 2) := by decide +kernel
theorem dX10_copy_126 : decode cX10_copy 126 = .ok (.aload_n 0, 1) := by decide +kernel
theorem dX10_copy_127 : decode cX10_copy 127 = .ok (.getfield 25, 3) := by decide +kernel
theorem dX10_copy_130 : decode cX10_copy 130 = .ok (.bipush 24, 2) := by decide +kernel
theorem dX10_copy_132 : decode cX10_copy 132 = .ok (.iload_n 1, 1) := by decide +kernel
theorem dX10_copy_133 : decode cX10_copy 133 = .ok (.imul, 1) := by decide +kernel
theorem dX10_copy_134 : decode cX10_copy 134 = .ok (.iload_n 2, 1) := by decide +kernel
theorem dX10_copy_135 : decode cX10_copy 135 = .ok (.iadd, 1) := by decide +kernel
theorem dX10_copy_136 : decode cX10_copy 136 = .ok (.iload 6, 2) := by decide +kernel
theorem dX10_copy_138 : decode cX10_copy 138 = .ok (.iadd, 1) := by decide +kernel
theorem dX10_copy_139 : decode cX10_copy 139 = .ok (.iaload, 1) := by decide +kernel
theorem dX10_copy_140 : decode cX10_copy 140 = .ok (.iastore, 1) := by decide +kernel
theorem dX10_copy_141 : decode cX10_copy 141 = .ok (.iinc 6 1, 3) := by decide +kernel
theorem dX10_copy_144 : decode cX10_copy 144 = .ok (.goto (-31), 3) := by decide +kernel
theorem dX10_copy_147 : decode cX10_copy 147 = .ok (.iconst 0, 1) := by decide +kernel
theorem dX10_copy_148 : decode cX10_copy 148 = .ok (.istore 6, 2) := by decide +kernel
theorem dX10_copy_150 : decode cX10_copy 150 = .ok (.iload 6, 2) := by decide +kernel
theorem dX10_copy_152 : decode cX10_copy 152 = .ok (.iload 5, 2) := by decide +kernel
theorem dX10_copy_154 : decode cX10_copy 154 = .ok (.if_icmp .ge 31, 3) := by decide +kernel
theorem dX10_copy_157 : decode cX10_copy 157 = .ok (.aload_n 0, 1) := by decide +kernel
theorem dX10_copy_158 : decode cX10_copy 158 = .ok (.getfield 25, 3) := by decide +kernel
theorem dX10_copy_161 : decode cX10_copy 161 = .ok (.bipush 24, 2) := by decide +kernel
theorem dX10_copy_163 : decode cX10_copy 163 = .ok (.iload_n 3, 1) := by decide +kernel
theorem dX10_copy_164 : decode cX10_copy 164 = .ok (.imul, 1) := by decide +kernel
theorem dX10_copy_165 : decode cX10_copy 165 = .ok (.iload 4, 2) := by decide +kernel
theorem dX10_copy_167 : decode cX10_copy 167 = .ok (.iadd, 1) := by decide +kernel
theorem dX10_copy_168 : decode cX10_copy 168 = .ok (.iload 6, 2) := by decide +kernel
theorem dX10_copy_170 : decode cX10_copy 170 = .ok (.iadd, 1) := by decide +kernel
theorem dX10_copy_171 : decode cX10_copy 171 = .ok (.aload_n 0, 1) := by decide +kernel
theorem dX10_copy_172 : decode cX10_copy 172 = .ok (.getfield 77, 3) := by decide +kernel
theorem dX10_copy_175 : decode cX10_copy 175 = .ok (.iload 6, 2) := by decide +kernel
theorem dX10_copy_177 : decode cX10_copy 177 = .ok (.iaload, 1) := by decide +kernel
theorem dX10_copy_178 : decode cX10_copy 178 = .ok (.iastore, 1) := by decide +kernel
theorem dX10_copy_179 : decode cX10_copy 179 = .ok (.iinc 6 1, 3) := by decide +kernel
theorem dX10_copy_182 : decode cX10_copy 182 = .ok (.goto (-32), 3) := by decide +kernel
theorem dX10_copy_185 : decode cX10_copy 185 = .ok (.iload 5, 2) := by decide +kernel
theorem dX10_copy_187 : decode cX10_copy 187 = .ok (.ireturn, 1) := by decide +kernel
theorem dX10_isSlot_0 : decode cX10_isSlot 0 = .ok (.iload_n 0, 1) := by decide +kernel
theorem dX10_isSlot_1 : decode cX10_isSlot 1 = .ok (.i2l, 1) := by decide +kernel
theorem dX10_isSlot_2 : decode cX10_isSlot 2 = .ok (.lconst 0, 1) := by decide +kernel
theorem dX10_isSlot_3 : decode cX10_isSlot 3 = .ok (.ldc2_w 190, 3) := by decide +kernel
theorem dX10_isSlot_6 : decode cX10_isSlot 6 = .ok (.invokestatic 87, 3) := by decide +kernel
theorem dX10_isSlot_9 : decode cX10_isSlot 9 = .ok (.ireturn, 1) := by decide +kernel
theorem dX10_lay_0 : decode cX10_lay 0 = .ok (.iload_n 2, 1) := by decide +kernel
theorem dX10_lay_1 : decode cX10_lay 1 = .ok (.ifCond .eq 32, 3) := by decide +kernel
theorem dX10_lay_4 : decode cX10_lay 4 = .ok (.iload_n 2, 1) := by decide +kernel
theorem dX10_lay_5 : decode cX10_lay 5 = .ok (.iconst 3, 1) := by decide +kernel
theorem dX10_lay_6 : decode cX10_lay 6 = .ok (.if_icmp .eq 27, 3) := by decide +kernel
theorem dX10_lay_9 : decode cX10_lay 9 = .ok (.iload_n 2, 1) := by decide +kernel
theorem dX10_lay_10 : decode cX10_lay 10 = .ok (.iconst 1, 1) := by decide +kernel
theorem dX10_lay_11 : decode cX10_lay 11 = .ok (.if_icmp .ne 10, 3) := by decide +kernel
theorem dX10_lay_14 : decode cX10_lay 14 = .ok (.iload_n 3, 1) := by decide +kernel
theorem dX10_lay_15 : decode cX10_lay 15 = .ok (.invokestatic 116, 3) := by decide +kernel
theorem dX10_lay_18 : decode cX10_lay 18 = .ok (.ifCond .ne 15, 3) := by decide +kernel
theorem dX10_lay_21 : decode cX10_lay 21 = .ok (.iload_n 2, 1) := by decide +kernel
theorem dX10_lay_22 : decode cX10_lay 22 = .ok (.iconst 2, 1) := by decide +kernel
theorem dX10_lay_23 : decode cX10_lay 23 = .ok (.if_icmp .ne 14, 3) := by decide +kernel
theorem dX10_lay_26 : decode cX10_lay 26 = .ok (.iload_n 3, 1) := by decide +kernel
theorem dX10_lay_27 : decode cX10_lay 27 = .ok (.invokestatic 323, 3) := by decide +kernel
theorem dX10_lay_30 : decode cX10_lay 30 = .ok (.ifCond .eq 7, 3) := by decide +kernel
theorem dX10_lay_33 : decode cX10_lay 33 = .ok (.iconst 1, 1) := by decide +kernel
theorem dX10_lay_34 : decode cX10_lay 34 = .ok (.goto 4, 3) := by decide +kernel
theorem dX10_lay_37 : decode cX10_lay 37 = .ok (.iconst 0, 1) := by decide +kernel
theorem dX10_lay_38 : decode cX10_lay 38 = .ok (.istore 4, 2) := by decide +kernel
theorem dX10_lay_40 : decode cX10_lay 40 = .ok (.iload_n 1, 1) := by decide +kernel
theorem dX10_lay_41 : decode cX10_lay 41 = .ok (.invokestatic 333, 3) := by decide +kernel
theorem dX10_lay_44 : decode cX10_lay 44 = .ok (.ifCond .eq 8, 3) := by decide +kernel
theorem dX10_lay_47 : decode cX10_lay 47 = .ok (.iload 4, 2) := by decide +kernel
theorem dX10_lay_49 : decode cX10_lay 49 = .ok (.ifCond .ne 6, 3) := by decide +kernel
theorem dX10_lay_52 : decode cX10_lay 52 = .ok (.ldc 126, 2) := by decide +kernel
theorem dX10_lay_54 : decode cX10_lay 54 = .ok (.ireturn, 1) := by decide +kernel
theorem dX10_lay_55 : decode cX10_lay 55 = .ok (.iload_n 2, 1) := by decide +kernel
theorem dX10_lay_56 : decode cX10_lay 56 = .ok (.iconst 2, 1) := by decide +kernel
theorem dX10_lay_57 : decode cX10_lay 57 = .ok (.if_icmp .ne 16, 3) := by decide +kernel
theorem dX10_lay_60 : decode cX10_lay 60 = .ok (.aload_n 0, 1) := by decide +kernel
theorem dX10_lay_61 : decode cX10_lay 61 = .ok (.getfield 19, 3) := by decide +kernel
theorem dX10_lay_64 : decode cX10_lay 64 = .ok (.iload_n 3, 1) := by decide +kernel
theorem dX10_lay_65 : decode cX10_lay 65 = .ok (.iaload, 1) := by decide +kernel
theorem dX10_lay_66 : decode cX10_lay 66 = .ok (.ifCond .ge 7, 3) := by decide +kernel
theorem dX10_lay_69 : decode cX10_lay 69 = .ok (.ldc_w 329, 3) := by decide +kernel
theorem dX10_lay_72 : decode cX10_lay 72 = .ok (.ireturn, 1) := by decide +kernel
theorem dX10_lay_73 : decode cX10_lay 73 = .ok (.aload_n 0, 1) := by decide +kernel
theorem dX10_lay_74 : decode cX10_lay 74 = .ok (.getfield 28, 3) := by decide +kernel
theorem dX10_lay_77 : decode cX10_lay 77 = .ok (.iload_n 1, 1) := by decide +kernel
theorem dX10_lay_78 : decode cX10_lay 78 = .ok (.iaload, 1) := by decide +kernel
theorem dX10_lay_79 : decode cX10_lay 79 = .ok (.istore 5, 2) := by decide +kernel
theorem dX10_lay_81 : decode cX10_lay 81 = .ok (.aload_n 0, 1) := by decide +kernel
theorem dX10_lay_82 : decode cX10_lay 82 = .ok (.getfield 28, 3) := by decide +kernel
theorem dX10_lay_85 : decode cX10_lay 85 = .ok (.iload_n 1, 1) := by decide +kernel
theorem dX10_lay_86 : decode cX10_lay 86 = .ok (.iload_n 2, 1) := by decide +kernel
theorem dX10_lay_87 : decode cX10_lay 87 = .ok (.iastore, 1) := by decide +kernel
theorem dX10_lay_88 : decode cX10_lay 88 = .ok (.aload_n 0, 1) := by decide +kernel
theorem dX10_lay_89 : decode cX10_lay 89 = .ok (.getfield 31, 3) := by decide +kernel
theorem dX10_lay_92 : decode cX10_lay 92 = .ok (.iload_n 1, 1) := by decide +kernel
theorem dX10_lay_93 : decode cX10_lay 93 = .ok (.iload_n 2, 1) := by decide +kernel
theorem dX10_lay_94 : decode cX10_lay 94 = .ok (.iconst 1, 1) := by decide +kernel
theorem dX10_lay_95 : decode cX10_lay 95 = .ok (.if_icmp .ne 12, 3) := by decide +kernel
theorem dX10_lay_98 : decode cX10_lay 98 = .ok (.aload_n 0, 1) := by decide +kernel
theorem dX10_lay_99 : decode cX10_lay 99 = .ok (.iload_n 3, 1) := by decide +kernel
theorem dX10_lay_100 : decode cX10_lay 100 = .ok (.iconst 0, 1) := by decide +kernel
theorem dX10_lay_101 : decode cX10_lay 101 = .ok (.invokevirtual 92, 3) := by decide +kernel
theorem dX10_lay_104 : decode cX10_lay 104 = .ok (.goto 4, 3) := by decide +kernel
theorem dX10_lay_107 : decode cX10_lay 107 = .ok (.iload_n 3, 1) := by decide +kernel
theorem dX10_lay_108 : decode cX10_lay 108 = .ok (.iastore, 1) := by decide +kernel
theorem dX10_lay_109 : decode cX10_lay 109 = .ok (.aload_n 0, 1) := by decide +kernel
theorem dX10_lay_110 : decode cX10_lay 110 = .ok (.getfield 34, 3) := by decide +kernel
theorem dX10_lay_113 : decode cX10_lay 113 = .ok (.iload_n 1, 1) := by decide +kernel
theorem dX10_lay_114 : decode cX10_lay 114 = .ok (.iload_n 2, 1) := by decide +kernel
theorem dX10_lay_115 : decode cX10_lay 115 = .ok (.iconst 1, 1) := by decide +kernel
theorem dX10_lay_116 : decode cX10_lay 116 = .ok (.if_icmp .ne 11, 3) := by decide +kernel
theorem dX10_lay_119 : decode cX10_lay 119 = .ok (.aload_n 0, 1) := by decide +kernel
theorem dX10_lay_120 : decode cX10_lay 120 = .ok (.iload_n 3, 1) := by decide +kernel
theorem dX10_lay_121 : decode cX10_lay 121 = .ok (.invokevirtual 137, 3) := by decide +kernel
theorem dX10_lay_124 : decode cX10_lay 124 = .ok (.goto 4, 3) := by decide +kernel
theorem dX10_lay_127 : decode cX10_lay 127 = .ok (.iconst 0, 1) := by decide +kernel
theorem dX10_lay_128 : decode cX10_lay 128 = .ok (.iastore, 1) := by decide +kernel
theorem dX10_lay_129 : decode cX10_lay 129 = .ok (.iload_n 2, 1) := by decide +kernel
theorem dX10_lay_130 : decode cX10_lay 130 = .ok (.iconst 2, 1) := by decide +kernel
theorem dX10_lay_131 : decode cX10_lay 131 = .ok (.if_icmp .ne 55, 3) := by decide +kernel
theorem dX10_lay_134 : decode cX10_lay 134 = .ok (.aload_n 0, 1) := by decide +kernel
theorem dX10_lay_135 : decode cX10_lay 135 = .ok (.getfield 37, 3) := by decide +kernel
theorem dX10_lay_138 : decode cX10_lay 138 = .ok (.iload_n 1, 1) := by decide +kernel
theorem dX10_lay_139 : decode cX10_lay 139 = .ok (.aload_n 0, 1) := by decide +kernel
theorem dX10_lay_140 : decode cX10_lay 140 = .ok (.getfield 22, 3) := by decide +kernel
theorem dX10_lay_143 : decode cX10_lay 143 = .ok (.iload_n 3, 1) := by decide +kernel
theorem dX10_lay_144 : decode cX10_lay 144 = .ok (.iaload, 1) := by decide +kernel
theorem dX10_lay_145 : decode cX10_lay 145 = .ok (.iastore, 1) := by decide +kernel
theorem dX10_lay_146 : decode cX10_lay 146 = .ok (.iconst 0, 1) := by decide +kernel
theorem dX10_lay_147 : decode cX10_lay 147 = .ok (.istore 6, 2) := by decide +kernel
theorem dX10_lay_149 : decode cX10_lay 149 = .ok (.iload 6, 2) := by decide +kernel
theorem dX10_lay_151 : decode cX10_lay 151 = .ok (.bipush 24, 2) := by decide +kernel
theorem dX10_lay_153 : decode cX10_lay 153 = .ok (.if_icmp .ge 33, 3) := by decide +kernel
theorem dX10_lay_156 : decode cX10_lay 156 = .ok (.aload_n 0, 1) := by decide +kernel
theorem dX10_lay_157 : decode cX10_lay 157 = .ok (.getfield 40, 3) := by decide +kernel
theorem dX10_lay_160 : decode cX10_lay 160 = .ok (.bipush 24, 2) := by decide +kernel
theorem dX10_lay_162 : decode cX10_lay 162 = .ok (.iload_n 1, 1) := by decide +kernel
theorem dX10_lay_163 : decode cX10_lay 163 = .ok (.imul, 1) := by decide +kernel
theorem dX10_lay_164 : decode cX10_lay 164 = .ok (.iload 6, 2) := by decide +kernel
theorem dX10_lay_166 : decode cX10_lay 166 = .ok (.iadd, 1) := by decide +kernel
theorem dX10_lay_167 : decode cX10_lay 167 = .ok (.aload_n 0, 1) := by decide +kernel
theorem dX10_lay_168 : decode cX10_lay 168 = .ok (.getfield 25, 3) := by decide +kernel
theorem dX10_lay_171 : decode cX10_lay 171 = .ok (.bipush 24, 2) := by decide +kernel
theorem dX10_lay_173 : decode cX10_lay 173 = .ok (.iload_n 3, 1) := by decide +kernel
theorem dX10_lay_174 : decode cX10_lay 174 = .ok (.imul, 1) := by decide +kernel
theorem dX10_lay_175 : decode cX10_lay 175 = .ok (.iload 6, 2) := by decide +kernel
theorem dX10_lay_177 : decode cX10_lay 177 = .ok (.iadd, 1) := by decide +kernel
theorem dX10_lay_178 : decode cX10_lay 178 = .ok (.iaload, 1) := by decide +kernel
theorem dX10_lay_179 : decode cX10_lay 179 = .ok (.iastore, 1) := by decide +kernel
theorem dX10_lay_180 : decode cX10_lay 180 = .ok (.iinc 6 1, 3) := by decide +kernel
theorem dX10_lay_183 : decode cX10_lay 183 = .ok (.goto (-34), 3) := by decide +kernel
theorem dX10_lay_186 : decode cX10_lay 186 = .ok (.iload 5, 2) := by decide +kernel
theorem dX10_lay_188 : decode cX10_lay 188 = .ok (.ireturn, 1) := by decide +kernel
theorem dX10_ask_0 : decode cX10_ask 0 = .ok (.iload_n 1, 1) := by decide +kernel
theorem dX10_ask_1 : decode cX10_ask 1 = .ok (.invokestatic 333, 3) := by decide +kernel
theorem dX10_ask_4 : decode cX10_ask 4 = .ok (.ifCond .eq 15, 3) := by decide +kernel
theorem dX10_ask_7 : decode cX10_ask 7 = .ok (.iload_n 2, 1) := by decide +kernel
theorem dX10_ask_8 : decode cX10_ask 8 = .ok (.i2l, 1) := by decide +kernel
theorem dX10_ask_9 : decode cX10_ask 9 = .ok (.lconst 0, 1) := by decide +kernel
theorem dX10_ask_10 : decode cX10_ask 10 = .ok (.ldc2_w 120, 3) := by decide +kernel
theorem dX10_ask_13 : decode cX10_ask 13 = .ok (.invokestatic 87, 3) := by decide +kernel
theorem dX10_ask_16 : decode cX10_ask 16 = .ok (.ifCond .ne 6, 3) := by decide +kernel
theorem dX10_ask_19 : decode cX10_ask 19 = .ok (.ldc 126, 2) := by decide +kernel
theorem dX10_ask_21 : decode cX10_ask 21 = .ok (.ireturn, 1) := by decide +kernel
theorem dX10_ask_22 : decode cX10_ask 22 = .ok (.aload_n 0, 1) := by decide +kernel
theorem dX10_ask_23 : decode cX10_ask 23 = .ok (.getfield 28, 3) := by decide +kernel
theorem dX10_ask_26 : decode cX10_ask 26 = .ok (.iload_n 1, 1) := by decide +kernel
theorem dX10_ask_27 : decode cX10_ask 27 = .ok (.iaload, 1) := by decide +kernel
theorem dX10_ask_28 : decode cX10_ask 28 = .ok (.ifCond .ne 7, 3) := by decide +kernel
theorem dX10_ask_31 : decode cX10_ask 31 = .ok (.ldc_w 329, 3) := by decide +kernel
theorem dX10_ask_34 : decode cX10_ask 34 = .ok (.ireturn, 1) := by decide +kernel
theorem dX10_ask_35 : decode cX10_ask 35 = .ok (.aload_n 0, 1) := by decide +kernel
theorem dX10_ask_36 : decode cX10_ask 36 = .ok (.getfield 28, 3) := by decide +kernel
theorem dX10_ask_39 : decode cX10_ask 39 = .ok (.iload_n 1, 1) := by decide +kernel
theorem dX10_ask_40 : decode cX10_ask 40 = .ok (.iaload, 1) := by decide +kernel
theorem dX10_ask_41 : decode cX10_ask 41 = .ok (.iconst 1, 1) := by decide +kernel
theorem dX10_ask_42 : decode cX10_ask 42 = .ok (.if_icmp .ne 25, 3) := by decide +kernel
theorem dX10_ask_45 : decode cX10_ask 45 = .ok (.aload_n 0, 1) := by decide +kernel
theorem dX10_ask_46 : decode cX10_ask 46 = .ok (.getfield 31, 3) := by decide +kernel
theorem dX10_ask_49 : decode cX10_ask 49 = .ok (.iload_n 1, 1) := by decide +kernel
theorem dX10_ask_50 : decode cX10_ask 50 = .ok (.iaload, 1) := by decide +kernel
theorem dX10_ask_51 : decode cX10_ask 51 = .ok (.iload_n 2, 1) := by decide +kernel
theorem dX10_ask_52 : decode cX10_ask 52 = .ok (.invokestatic 140, 3) := by decide +kernel
theorem dX10_ask_55 : decode cX10_ask 55 = .ok (.ifCond .eq 12, 3) := by decide +kernel
theorem dX10_ask_58 : decode cX10_ask 58 = .ok (.aload_n 0, 1) := by decide +kernel
theorem dX10_ask_59 : decode cX10_ask 59 = .ok (.getfield 34, 3) := by decide +kernel
theorem dX10_ask_62 : decode cX10_ask 62 = .ok (.iload_n 1, 1) := by decide +kernel
theorem dX10_ask_63 : decode cX10_ask 63 = .ok (.iaload, 1) := by decide +kernel
theorem dX10_ask_64 : decode cX10_ask 64 = .ok (.goto 5, 3) := by decide +kernel
theorem dX10_ask_67 : decode cX10_ask 67 = .ok (.ldc 144, 2) := by decide +kernel
theorem dX10_ask_69 : decode cX10_ask 69 = .ok (.ireturn, 1) := by decide +kernel
theorem dX10_item_0 : decode cX10_item 0 = .ok (.iload_n 1, 1) := by decide +kernel
theorem dX10_item_1 : decode cX10_item 1 = .ok (.invokestatic 333, 3) := by decide +kernel
theorem dX10_item_4 : decode cX10_item 4 = .ok (.ifCond .ne 6, 3) := by decide +kernel
theorem dX10_item_7 : decode cX10_item 7 = .ok (.ldc 126, 2) := by decide +kernel
theorem dX10_item_9 : decode cX10_item 9 = .ok (.ireturn, 1) := by decide +kernel
theorem dX10_item_10 : decode cX10_item 10 = .ok (.aload_n 0, 1) := by decide +kernel
theorem dX10_item_11 : decode cX10_item 11 = .ok (.getfield 28, 3) := by decide +kernel
theorem dX10_item_14 : decode cX10_item 14 = .ok (.iload_n 1, 1) := by decide +kernel
theorem dX10_item_15 : decode cX10_item 15 = .ok (.iaload, 1) := by decide +kernel
theorem dX10_item_16 : decode cX10_item 16 = .ok (.iconst 2, 1) := by decide +kernel
theorem dX10_item_17 : decode cX10_item 17 = .ok (.if_icmp .eq 21, 3) := by decide +kernel
theorem dX10_item_20 : decode cX10_item 20 = .ok (.aload_n 0, 1) := by decide +kernel
theorem dX10_item_21 : decode cX10_item 21 = .ok (.getfield 28, 3) := by decide +kernel
theorem dX10_item_24 : decode cX10_item 24 = .ok (.iload_n 1, 1) := by decide +kernel
theorem dX10_item_25 : decode cX10_item 25 = .ok (.iaload, 1) := by decide +kernel
theorem dX10_item_26 : decode cX10_item 26 = .ok (.ifCond .ne 9, 3) := by decide +kernel
theorem dX10_item_29 : decode cX10_item 29 = .ok (.ldc_w 329, 3) := by decide +kernel
theorem dX10_item_32 : decode cX10_item 32 = .ok (.goto 5, 3) := by decide +kernel
theorem dX10_item_35 : decode cX10_item 35 = .ok (.ldc 144, 2) := by decide +kernel
theorem dX10_item_37 : decode cX10_item 37 = .ok (.ireturn, 1) := by decide +kernel
theorem dX10_item_38 : decode cX10_item 38 = .ok (.iload_n 2, 1) := by decide +kernel
theorem dX10_item_39 : decode cX10_item 39 = .ok (.i2l, 1) := by decide +kernel
theorem dX10_item_40 : decode cX10_item 40 = .ok (.lconst 0, 1) := by decide +kernel
theorem dX10_item_41 : decode cX10_item 41 = .ok (.aload_n 0, 1) := by decide +kernel
theorem dX10_item_42 : decode cX10_item 42 = .ok (.getfield 37, 3) := by decide +kernel
theorem dX10_item_45 : decode cX10_item 45 = .ok (.iload_n 1, 1) := by decide +kernel
theorem dX10_item_46 : decode cX10_item 46 = .ok (.iaload, 1) := by decide +kernel
theorem dX10_item_47 : decode cX10_item 47 = .ok (.iconst 1, 1) := by decide +kernel
theorem dX10_item_48 : decode cX10_item 48 = .ok (.isub, 1) := by decide +kernel
theorem dX10_item_49 : decode cX10_item 49 = .ok (.i2l, 1) := by decide +kernel
theorem dX10_item_50 : decode cX10_item 50 = .ok (.invokestatic 87, 3) := by decide +kernel
theorem dX10_item_53 : decode cX10_item 53 = .ok (.ifCond .ne 7, 3) := by decide +kernel
theorem dX10_item_56 : decode cX10_item 56 = .ok (.ldc_w 330, 3) := by decide +kernel
theorem dX10_item_59 : decode cX10_item 59 = .ok (.ireturn, 1) := by decide +kernel
theorem dX10_item_60 : decode cX10_item 60 = .ok (.aload_n 0, 1) := by decide +kernel
theorem dX10_item_61 : decode cX10_item 61 = .ok (.getfield 40, 3) := by decide +kernel
theorem dX10_item_64 : decode cX10_item 64 = .ok (.bipush 24, 2) := by decide +kernel
theorem dX10_item_66 : decode cX10_item 66 = .ok (.iload_n 1, 1) := by decide +kernel
theorem dX10_item_67 : decode cX10_item 67 = .ok (.imul, 1) := by decide +kernel
theorem dX10_item_68 : decode cX10_item 68 = .ok (.iload_n 2, 1) := by decide +kernel
theorem dX10_item_69 : decode cX10_item 69 = .ok (.iadd, 1) := by decide +kernel
theorem dX10_item_70 : decode cX10_item 70 = .ok (.iaload, 1) := by decide +kernel
theorem dX10_item_71 : decode cX10_item 71 = .ok (.istore_n 3, 1) := by decide +kernel
theorem dX10_item_72 : decode cX10_item 72 = .ok (.iload_n 3, 1) := by decide +kernel
theorem dX10_item_73 : decode cX10_item 73 = .ok (.ldc 86, 2) := by decide +kernel
theorem dX10_item_75 : decode cX10_item 75 = .ok (.if_icmp .ne 8, 3) := by decide +kernel
theorem dX10_item_78 : decode cX10_item 78 = .ok (.ldc 144, 2) := by decide +kernel
theorem dX10_item_80 : decode cX10_item 80 = .ok (.goto 4, 3) := by decide +kernel
theorem dX10_item_83 : decode cX10_item 83 = .ok (.iload_n 3, 1) := by decide +kernel
theorem dX10_item_84 : decode cX10_item 84 = .ok (.ireturn, 1) := by decide +kernel
theorem dX10_rest_0 : decode cX10_rest 0 = .ok (.iload_n 1, 1) := by decide +kernel
theorem dX10_rest_1 : decode cX10_rest 1 = .ok (.invokestatic 333, 3) := by decide +kernel
theorem dX10_rest_4 : decode cX10_rest 4 = .ok (.ifCond .ne 6, 3) := by decide +kernel
theorem dX10_rest_7 : decode cX10_rest 7 = .ok (.ldc 126, 2) := by decide +kernel
theorem dX10_rest_9 : decode cX10_rest 9 = .ok (.ireturn, 1) := by decide +kernel
theorem dX10_rest_10 : decode cX10_rest 10 = .ok (.aload_n 0, 1) := by decide +kernel
theorem dX10_rest_11 : decode cX10_rest 11 = .ok (.getfield 28, 3) := by decide +kernel
theorem dX10_rest_14 : decode cX10_rest 14 = .ok (.iload_n 1, 1) := by decide +kernel
theorem dX10_rest_15 : decode cX10_rest 15 = .ok (.iaload, 1) := by decide +kernel
theorem dX10_rest_16 : decode cX10_rest 16 = .ok (.iconst 3, 1) := by decide +kernel
theorem dX10_rest_17 : decode cX10_rest 17 = .ok (.if_icmp .eq 21, 3) := by decide +kernel
theorem dX10_rest_20 : decode cX10_rest 20 = .ok (.aload_n 0, 1) := by decide +kernel
theorem dX10_rest_21 : decode cX10_rest 21 = .ok (.getfield 28, 3) := by decide +kernel
theorem dX10_rest_24 : decode cX10_rest 24 = .ok (.iload_n 1, 1) := by decide +kernel
theorem dX10_rest_25 : decode cX10_rest 25 = .ok (.iaload, 1) := by decide +kernel
theorem dX10_rest_26 : decode cX10_rest 26 = .ok (.ifCond .ne 9, 3) := by decide +kernel
theorem dX10_rest_29 : decode cX10_rest 29 = .ok (.ldc_w 329, 3) := by decide +kernel
theorem dX10_rest_32 : decode cX10_rest 32 = .ok (.goto 5, 3) := by decide +kernel
theorem dX10_rest_35 : decode cX10_rest 35 = .ok (.ldc 144, 2) := by decide +kernel
theorem dX10_rest_37 : decode cX10_rest 37 = .ok (.ireturn, 1) := by decide +kernel
theorem dX10_rest_38 : decode cX10_rest 38 = .ok (.iload_n 2, 1) := by decide +kernel
theorem dX10_rest_39 : decode cX10_rest 39 = .ok (.ifCond .ne 8, 3) := by decide +kernel
theorem dX10_rest_42 : decode cX10_rest 42 = .ok (.ldc 188, 2) := by decide +kernel
theorem dX10_rest_44 : decode cX10_rest 44 = .ok (.goto 11, 3) := by decide +kernel
theorem dX10_rest_47 : decode cX10_rest 47 = .ok (.aload_n 0, 1) := by decide +kernel
theorem dX10_rest_48 : decode cX10_rest 48 = .ok (.getfield 31, 3) := by decide +kernel
theorem dX10_rest_51 : decode cX10_rest 51 = .ok (.iload_n 1, 1) := by decide +kernel
theorem dX10_rest_52 : decode cX10_rest 52 = .ok (.iaload, 1) := by decide +kernel
theorem dX10_rest_53 : decode cX10_rest 53 = .ok (.iload_n 2, 1) := by decide +kernel
theorem dX10_rest_54 : decode cX10_rest 54 = .ok (.irem, 1) := by decide +kernel
theorem dX10_rest_55 : decode cX10_rest 55 = .ok (.ireturn, 1) := by decide +kernel
theorem dX10_tell_0 : decode cX10_tell 0 = .ok (.aload_n 0, 1) := by decide +kernel
theorem dX10_tell_1 : decode cX10_tell 1 = .ok (.getfield 336, 3) := by decide +kernel
theorem dX10_tell_4 : decode cX10_tell 4 = .ok (.bipush 60, 2) := by decide +kernel
theorem dX10_tell_6 : decode cX10_tell 6 = .ok (.if_icmp .ne 6, 3) := by decide +kernel
theorem dX10_tell_9 : decode cX10_tell 9 = .ok (.ldc 189, 2) := by decide +kernel
theorem dX10_tell_11 : decode cX10_tell 11 = .ok (.ireturn, 1) := by decide +kernel
theorem dX10_tell_12 : decode cX10_tell 12 = .ok (.aload_n 0, 1) := by decide +kernel
theorem dX10_tell_13 : decode cX10_tell 13 = .ok (.getfield 80, 3) := by decide +kernel
theorem dX10_tell_16 : decode cX10_tell 16 = .ok (.aload_n 0, 1) := by decide +kernel
theorem dX10_tell_17 : decode cX10_tell 17 = .ok (.getfield 336, 3) := by decide +kernel
theorem dX10_tell_20 : decode cX10_tell 20 = .ok (.iload_n 1, 1) := by decide +kernel
theorem dX10_tell_21 : decode cX10_tell 21 = .ok (.iastore, 1) := by decide +kernel
theorem dX10_tell_22 : decode cX10_tell 22 = .ok (.aload_n 0, 1) := by decide +kernel
theorem dX10_tell_23 : decode cX10_tell 23 = .ok (.dup, 1) := by decide +kernel
theorem dX10_tell_24 : decode cX10_tell 24 = .ok (.getfield 336, 3) := by decide +kernel
theorem dX10_tell_27 : decode cX10_tell 27 = .ok (.iconst 1, 1) := by decide +kernel
theorem dX10_tell_28 : decode cX10_tell 28 = .ok (.iadd, 1) := by decide +kernel
theorem dX10_tell_29 : decode cX10_tell 29 = .ok (.putfield 336, 3) := by decide +kernel
theorem dX10_tell_32 : decode cX10_tell 32 = .ok (.aload_n 0, 1) := by decide +kernel
theorem dX10_tell_33 : decode cX10_tell 33 = .ok (.getfield 336, 3) := by decide +kernel
theorem dX10_tell_36 : decode cX10_tell 36 = .ok (.ireturn, 1) := by decide +kernel
theorem dX10_setAside_0 : decode cX10_setAside 0 = .ok (.iconst 0, 1) := by decide +kernel
theorem dX10_setAside_1 : decode cX10_setAside 1 = .ok (.istore_n 3, 1) := by decide +kernel
theorem dX10_setAside_2 : decode cX10_setAside 2 = .ok (.iload_n 3, 1) := by decide +kernel
theorem dX10_setAside_3 : decode cX10_setAside 3 = .ok (.sipush 2922, 3) := by decide +kernel
theorem dX10_setAside_6 : decode cX10_setAside 6 = .ok (.if_icmp .ge 15, 3) := by decide +kernel
theorem dX10_setAside_9 : decode cX10_setAside 9 = .ok (.aload_n 2, 1) := by decide +kernel
theorem dX10_setAside_10 : decode cX10_setAside 10 = .ok (.iload_n 3, 1) := by decide +kernel
theorem dX10_setAside_11 : decode cX10_setAside 11 = .ok (.aload_n 1, 1) := by decide +kernel
theorem dX10_setAside_12 : decode cX10_setAside 12 = .ok (.iload_n 3, 1) := by decide +kernel
theorem dX10_setAside_13 : decode cX10_setAside 13 = .ok (.iaload, 1) := by decide +kernel
theorem dX10_setAside_14 : decode cX10_setAside 14 = .ok (.iastore, 1) := by decide +kernel
theorem dX10_setAside_15 : decode cX10_setAside 15 = .ok (.iinc 3 1, 3) := by decide +kernel
theorem dX10_setAside_18 : decode cX10_setAside 18 = .ok (.goto (-16), 3) := by decide +kernel
theorem dX10_setAside_21 : decode cX10_setAside 21 = .ok (.return_, 1) := by decide +kernel
theorem dX10_check_0 : decode cX10_check 0 = .ok (.aload_n 0, 1) := by decide +kernel
theorem dX10_check_1 : decode cX10_check 1 = .ok (.getfield 336, 3) := by decide +kernel
theorem dX10_check_4 : decode cX10_check 4 = .ok (.istore_n 2, 1) := by decide +kernel
theorem dX10_check_5 : decode cX10_check 5 = .ok (.aload_n 0, 1) := by decide +kernel
theorem dX10_check_6 : decode cX10_check 6 = .ok (.iconst 0, 1) := by decide +kernel
theorem dX10_check_7 : decode cX10_check 7 = .ok (.putfield 336, 3) := by decide +kernel
theorem dX10_check_10 : decode cX10_check 10 = .ok (.iload_n 1, 1) := by decide +kernel
theorem dX10_check_11 : decode cX10_check 11 = .ok (.i2l, 1) := by decide +kernel
theorem dX10_check_12 : decode cX10_check 12 = .ok (.lconst 1, 1) := by decide +kernel
theorem dX10_check_13 : decode cX10_check 13 = .ok (.ldc2_w 339, 3) := by decide +kernel
theorem dX10_check_16 : decode cX10_check 16 = .ok (.invokestatic 87, 3) := by decide +kernel
theorem dX10_check_19 : decode cX10_check 19 = .ok (.ifCond .ne 6, 3) := by decide +kernel
theorem dX10_check_22 : decode cX10_check 22 = .ok (.ldc 126, 2) := by decide +kernel
theorem dX10_check_24 : decode cX10_check 24 = .ok (.ireturn, 1) := by decide +kernel
theorem dX10_check_25 : decode cX10_check 25 = .ok (.aload_n 0, 1) := by decide +kernel
theorem dX10_check_26 : decode cX10_check 26 = .ok (.getfield 341, 3) := by decide +kernel
theorem dX10_check_29 : decode cX10_check 29 = .ok (.ifCond .ne 6, 3) := by decide +kernel
theorem dX10_check_32 : decode cX10_check 32 = .ok (.ldc 188, 2) := by decide +kernel
theorem dX10_check_34 : decode cX10_check 34 = .ok (.ireturn, 1) := by decide +kernel
theorem dX10_check_35 : decode cX10_check 35 = .ok (.aload_n 0, 1) := by decide +kernel
theorem dX10_check_36 : decode cX10_check 36 = .ok (.aload_n 0, 1) := by decide +kernel
theorem dX10_check_37 : decode cX10_check 37 = .ok (.getfield 7, 3) := by decide +kernel
theorem dX10_check_40 : decode cX10_check 40 = .ok (.aload_n 0, 1) := by decide +kernel
theorem dX10_check_41 : decode cX10_check 41 = .ok (.getfield 16, 3) := by decide +kernel
theorem dX10_check_44 : decode cX10_check 44 = .ok (.invokevirtual 345, 3) := by decide +kernel
theorem dX10_check_47 : decode cX10_check 47 = .ok (.aload_n 0, 1) := by decide +kernel
theorem dX10_check_48 : decode cX10_check 48 = .ok (.aload_n 0, 1) := by decide +kernel
theorem dX10_check_49 : decode cX10_check 49 = .ok (.getfield 13, 3) := by decide +kernel
theorem dX10_check_52 : decode cX10_check 52 = .ok (.aload_n 0, 1) := by decide +kernel
theorem dX10_check_53 : decode cX10_check 53 = .ok (.getfield 7, 3) := by decide +kernel
theorem dX10_check_56 : decode cX10_check 56 = .ok (.invokevirtual 345, 3) := by decide +kernel
theorem dX10_check_59 : decode cX10_check 59 = .ok (.iconst 0, 1) := by decide +kernel
theorem dX10_check_60 : decode cX10_check 60 = .ok (.istore_n 3, 1) := by decide +kernel
theorem dX10_check_61 : decode cX10_check 61 = .ok (.iload_n 3, 1) := by decide +kernel
theorem dX10_check_62 : decode cX10_check 62 = .ok (.iload_n 1, 1) := by decide +kernel
theorem dX10_check_63 : decode cX10_check 63 = .ok (.if_icmp .ge 35, 3) := by decide +kernel
theorem dX10_check_66 : decode cX10_check 66 = .ok (.aload_n 0, 1) := by decide +kernel
theorem dX10_check_67 : decode cX10_check 67 = .ok (.getfield 83, 3) := by decide +kernel
theorem dX10_check_70 : decode cX10_check 70 = .ok (.iconst 2, 1) := by decide +kernel
theorem dX10_check_71 : decode cX10_check 71 = .ok (.iload_n 3, 1) := by decide +kernel
theorem dX10_check_72 : decode cX10_check 72 = .ok (.imul, 1) := by decide +kernel
theorem dX10_check_73 : decode cX10_check 73 = .ok (.aload_n 0, 1) := by decide +kernel
theorem dX10_check_74 : decode cX10_check 74 = .ok (.invokevirtual 163, 3) := by decide +kernel
theorem dX10_check_77 : decode cX10_check 77 = .ok (.iastore, 1) := by decide +kernel
theorem dX10_check_78 : decode cX10_check 78 = .ok (.aload_n 0, 1) := by decide +kernel
theorem dX10_check_79 : decode cX10_check 79 = .ok (.getfield 83, 3) := by decide +kernel
theorem dX10_check_82 : decode cX10_check 82 = .ok (.iconst 2, 1) := by decide +kernel
theorem dX10_check_83 : decode cX10_check 83 = .ok (.iload_n 3, 1) := by decide +kernel
theorem dX10_check_84 : decode cX10_check 84 = .ok (.imul, 1) := by decide +kernel
theorem dX10_check_85 : decode cX10_check 85 = .ok (.iconst 1, 1) := by decide +kernel
theorem dX10_check_86 : decode cX10_check 86 = .ok (.iadd, 1) := by decide +kernel
theorem dX10_check_87 : decode cX10_check 87 = .ok (.aload_n 0, 1) := by decide +kernel
theorem dX10_check_88 : decode cX10_check 88 = .ok (.invokevirtual 157, 3) := by decide +kernel
theorem dX10_check_91 : decode cX10_check 91 = .ok (.iastore, 1) := by decide +kernel
theorem dX10_check_92 : decode cX10_check 92 = .ok (.iinc 3 1, 3) := by decide +kernel
theorem dX10_check_95 : decode cX10_check 95 = .ok (.goto (-34), 3) := by decide +kernel
theorem dX10_check_98 : decode cX10_check 98 = .ok (.aload_n 0, 1) := by decide +kernel
theorem dX10_check_99 : decode cX10_check 99 = .ok (.aload_n 0, 1) := by decide +kernel
theorem dX10_check_100 : decode cX10_check 100 = .ok (.getfield 16, 3) := by decide +kernel
theorem dX10_check_103 : decode cX10_check 103 = .ok (.aload_n 0, 1) := by decide +kernel
theorem dX10_check_104 : decode cX10_check 104 = .ok (.getfield 7, 3) := by decide +kernel
theorem dX10_check_107 : decode cX10_check 107 = .ok (.invokevirtual 345, 3) := by decide +kernel
theorem dX10_check_110 : decode cX10_check 110 = .ok (.iconst 0, 1) := by decide +kernel
theorem dX10_check_111 : decode cX10_check 111 = .ok (.istore_n 3, 1) := by decide +kernel
theorem dX10_check_112 : decode cX10_check 112 = .ok (.iload_n 3, 1) := by decide +kernel
theorem dX10_check_113 : decode cX10_check 113 = .ok (.iload_n 2, 1) := by decide +kernel
theorem dX10_check_114 : decode cX10_check 114 = .ok (.if_icmp .ge 31, 3) := by decide +kernel
theorem dX10_check_117 : decode cX10_check 117 = .ok (.iload_n 3, 1) := by decide +kernel
theorem dX10_check_118 : decode cX10_check 118 = .ok (.iconst 2, 1) := by decide +kernel
theorem dX10_check_119 : decode cX10_check 119 = .ok (.iload_n 1, 1) := by decide +kernel
theorem dX10_check_120 : decode cX10_check 120 = .ok (.imul, 1) := by decide +kernel
theorem dX10_check_121 : decode cX10_check 121 = .ok (.if_icmp .ge 24, 3) := by decide +kernel
theorem dX10_check_124 : decode cX10_check 124 = .ok (.aload_n 0, 1) := by decide +kernel
theorem dX10_check_125 : decode cX10_check 125 = .ok (.getfield 80, 3) := by decide +kernel
theorem dX10_check_128 : decode cX10_check 128 = .ok (.iload_n 3, 1) := by decide +kernel
theorem dX10_check_129 : decode cX10_check 129 = .ok (.iaload, 1) := by decide +kernel
theorem dX10_check_130 : decode cX10_check 130 = .ok (.aload_n 0, 1) := by decide +kernel
theorem dX10_check_131 : decode cX10_check 131 = .ok (.getfield 83, 3) := by decide +kernel
theorem dX10_check_134 : decode cX10_check 134 = .ok (.iload_n 3, 1) := by decide +kernel
theorem dX10_check_135 : decode cX10_check 135 = .ok (.iaload, 1) := by decide +kernel
theorem dX10_check_136 : decode cX10_check 136 = .ok (.if_icmp .ne 9, 3) := by decide +kernel
theorem dX10_check_139 : decode cX10_check 139 = .ok (.iinc 3 1, 3) := by decide +kernel
theorem dX10_check_142 : decode cX10_check 142 = .ok (.goto (-30), 3) := by decide +kernel
theorem dX10_check_145 : decode cX10_check 145 = .ok (.iload_n 3, 1) := by decide +kernel
theorem dX10_check_146 : decode cX10_check 146 = .ok (.iload_n 2, 1) := by decide +kernel
theorem dX10_check_147 : decode cX10_check 147 = .ok (.if_icmp .ne 14, 3) := by decide +kernel
theorem dX10_check_150 : decode cX10_check 150 = .ok (.iload_n 3, 1) := by decide +kernel
theorem dX10_check_151 : decode cX10_check 151 = .ok (.iconst 2, 1) := by decide +kernel
theorem dX10_check_152 : decode cX10_check 152 = .ok (.iload_n 1, 1) := by decide +kernel
theorem dX10_check_153 : decode cX10_check 153 = .ok (.imul, 1) := by decide +kernel
theorem dX10_check_154 : decode cX10_check 154 = .ok (.if_icmp .ne 7, 3) := by decide +kernel
theorem dX10_check_157 : decode cX10_check 157 = .ok (.iconst 0, 1) := by decide +kernel
theorem dX10_check_158 : decode cX10_check 158 = .ok (.goto 6, 3) := by decide +kernel
theorem dX10_check_161 : decode cX10_check 161 = .ok (.iconst 1, 1) := by decide +kernel
theorem dX10_check_162 : decode cX10_check 162 = .ok (.iload_n 3, 1) := by decide +kernel
theorem dX10_check_163 : decode cX10_check 163 = .ok (.iadd, 1) := by decide +kernel
theorem dX10_check_164 : decode cX10_check 164 = .ok (.ireturn, 1) := by decide +kernel
theorem dX10_keep_0 : decode cX10_keep 0 = .ok (.aload_n 0, 1) := by decide +kernel
theorem dX10_keep_1 : decode cX10_keep 1 = .ok (.iconst 1, 1) := by decide +kernel
theorem dX10_keep_2 : decode cX10_keep 2 = .ok (.putfield 341, 3) := by decide +kernel
theorem dX10_keep_5 : decode cX10_keep 5 = .ok (.aload_n 0, 1) := by decide +kernel
theorem dX10_keep_6 : decode cX10_keep 6 = .ok (.aload_n 0, 1) := by decide +kernel
theorem dX10_keep_7 : decode cX10_keep 7 = .ok (.getfield 7, 3) := by decide +kernel
theorem dX10_keep_10 : decode cX10_keep 10 = .ok (.aload_n 0, 1) := by decide +kernel
theorem dX10_keep_11 : decode cX10_keep 11 = .ok (.getfield 13, 3) := by decide +kernel
theorem dX10_keep_14 : decode cX10_keep 14 = .ok (.invokevirtual 345, 3) := by decide +kernel
theorem dX10_keep_17 : decode cX10_keep 17 = .ok (.aload_n 0, 1) := by decide +kernel
theorem dX10_keep_18 : decode cX10_keep 18 = .ok (.invokevirtual 157, 3) := by decide +kernel
theorem dX10_keep_21 : decode cX10_keep 21 = .ok (.ireturn, 1) := by decide +kernel
theorem dX10_back_0 : decode cX10_back 0 = .ok (.aload_n 0, 1) := by decide +kernel
theorem dX10_back_1 : decode cX10_back 1 = .ok (.getfield 341, 3) := by decide +kernel
theorem dX10_back_4 : decode cX10_back 4 = .ok (.ifCond .ne 6, 3) := by decide +kernel
theorem dX10_back_7 : decode cX10_back 7 = .ok (.ldc 188, 2) := by decide +kernel
theorem dX10_back_9 : decode cX10_back 9 = .ok (.ireturn, 1) := by decide +kernel
theorem dX10_back_10 : decode cX10_back 10 = .ok (.aload_n 0, 1) := by decide +kernel
theorem dX10_back_11 : decode cX10_back 11 = .ok (.aload_n 0, 1) := by decide +kernel
theorem dX10_back_12 : decode cX10_back 12 = .ok (.getfield 13, 3) := by decide +kernel
theorem dX10_back_15 : decode cX10_back 15 = .ok (.aload_n 0, 1) := by decide +kernel
theorem dX10_back_16 : decode cX10_back 16 = .ok (.getfield 7, 3) := by decide +kernel
theorem dX10_back_19 : decode cX10_back 19 = .ok (.invokevirtual 345, 3) := by decide +kernel
theorem dX10_back_22 : decode cX10_back 22 = .ok (.aload_n 0, 1) := by decide +kernel
theorem dX10_back_23 : decode cX10_back 23 = .ok (.invokevirtual 157, 3) := by decide +kernel
theorem dX10_back_26 : decode cX10_back 26 = .ok (.ireturn, 1) := by decide +kernel
theorem dX10_count_0 : decode cX10_count 0 = .ok (.iload_n 1, 1) := by decide +kernel
theorem dX10_count_1 : decode cX10_count 1 = .ok (.tableswitch 120 0 9 #[55, 60, 67, 74, 81, 88, 95, 102, 107, 112], 55) := by decide +kernel
theorem dX10_count_56 : decode cX10_count 56 = .ok (.aload_n 0, 1) := by decide +kernel
theorem dX10_count_57 : decode cX10_count 57 = .ok (.invokevirtual 157, 3) := by decide +kernel
theorem dX10_count_60 : decode cX10_count 60 = .ok (.ireturn, 1) := by decide +kernel
theorem dX10_count_61 : decode cX10_count 61 = .ok (.aload_n 0, 1) := by decide +kernel
theorem dX10_count_62 : decode cX10_count 62 = .ok (.getfield 7, 3) := by decide +kernel
theorem dX10_count_65 : decode cX10_count 65 = .ok (.iconst 5, 1) := by decide +kernel
theorem dX10_count_66 : decode cX10_count 66 = .ok (.iaload, 1) := by decide +kernel
theorem dX10_count_67 : decode cX10_count 67 = .ok (.ireturn, 1) := by decide +kernel
theorem dX10_count_68 : decode cX10_count 68 = .ok (.aload_n 0, 1) := by decide +kernel
theorem dX10_count_69 : decode cX10_count 69 = .ok (.getfield 7, 3) := by decide +kernel
theorem dX10_count_72 : decode cX10_count 72 = .ok (.iconst 2, 1) := by decide +kernel
theorem dX10_count_73 : decode cX10_count 73 = .ok (.iaload, 1) := by decide +kernel
theorem dX10_count_74 : decode cX10_count 74 = .ok (.ireturn, 1) := by decide +kernel
theorem dX10_count_75 : decode cX10_count 75 = .ok (.aload_n 0, 1) := by decide +kernel
theorem dX10_count_76 : decode cX10_count 76 = .ok (.getfield 7, 3) := by decide +kernel
theorem dX10_count_79 : decode cX10_count 79 = .ok (.iconst 3, 1) := by decide +kernel
theorem dX10_count_80 : decode cX10_count 80 = .ok (.iaload, 1) := by decide +kernel
theorem dX10_count_81 : decode cX10_count 81 = .ok (.ireturn, 1) := by decide +kernel
theorem dX10_count_82 : decode cX10_count 82 = .ok (.aload_n 0, 1) := by decide +kernel
theorem dX10_count_83 : decode cX10_count 83 = .ok (.getfield 7, 3) := by decide +kernel
theorem dX10_count_86 : decode cX10_count 86 = .ok (.iconst 4, 1) := by decide +kernel
theorem dX10_count_87 : decode cX10_count 87 = .ok (.iaload, 1) := by decide +kernel
theorem dX10_count_88 : decode cX10_count 88 = .ok (.ireturn, 1) := by decide +kernel
theorem dX10_count_89 : decode cX10_count 89 = .ok (.aload_n 0, 1) := by decide +kernel
theorem dX10_count_90 : decode cX10_count 90 = .ok (.getfield 7, 3) := by decide +kernel
theorem dX10_count_93 : decode cX10_count 93 = .ok (.iconst 0, 1) := by decide +kernel
theorem dX10_count_94 : decode cX10_count 94 = .ok (.iaload, 1) := by decide +kernel
theorem dX10_count_95 : decode cX10_count 95 = .ok (.ireturn, 1) := by decide +kernel
theorem dX10_count_96 : decode cX10_count 96 = .ok (.aload_n 0, 1) := by decide +kernel
theorem dX10_count_97 : decode cX10_count 97 = .ok (.getfield 7, 3) := by decide +kernel
theorem dX10_count_100 : decode cX10_count 100 = .ok (.iconst 1, 1) := by decide +kernel
theorem dX10_count_101 : decode cX10_count 101 = .ok (.iaload, 1) := by decide +kernel
theorem dX10_count_102 : decode cX10_count 102 = .ok (.ireturn, 1) := by decide +kernel
theorem dX10_count_103 : decode cX10_count 103 = .ok (.aload_n 0, 1) := by decide +kernel
theorem dX10_count_104 : decode cX10_count 104 = .ok (.getfield 336, 3) := by decide +kernel
theorem dX10_count_107 : decode cX10_count 107 = .ok (.ireturn, 1) := by decide +kernel
theorem dX10_count_108 : decode cX10_count 108 = .ok (.aload_n 0, 1) := by decide +kernel
theorem dX10_count_109 : decode cX10_count 109 = .ok (.getfield 223, 3) := by decide +kernel
theorem dX10_count_112 : decode cX10_count 112 = .ok (.ireturn, 1) := by decide +kernel
theorem dX10_count_113 : decode cX10_count 113 = .ok (.aload_n 0, 1) := by decide +kernel
theorem dX10_count_114 : decode cX10_count 114 = .ok (.getfield 7, 3) := by decide +kernel
theorem dX10_count_117 : decode cX10_count 117 = .ok (.bipush 6, 2) := by decide +kernel
theorem dX10_count_119 : decode cX10_count 119 = .ok (.iaload, 1) := by decide +kernel
theorem dX10_count_120 : decode cX10_count 120 = .ok (.ireturn, 1) := by decide +kernel
theorem dX10_count_121 : decode cX10_count 121 = .ok (.ldc 126, 2) := by decide +kernel
theorem dX10_count_123 : decode cX10_count 123 = .ok (.ireturn, 1) := by decide +kernel
theorem dJ9_max_7cf53_0 : decode cJ9_max_7cf53 0 = .ok (.iload_n 0, 1) := by decide +kernel
theorem dJ9_max_7cf53_1 : decode cJ9_max_7cf53 1 = .ok (.iload_n 1, 1) := by decide +kernel
theorem dJ9_max_7cf53_2 : decode cJ9_max_7cf53 2 = .ok (.if_icmp .lt 7, 3) := by decide +kernel
theorem dJ9_max_7cf53_5 : decode cJ9_max_7cf53 5 = .ok (.iload_n 0, 1) := by decide +kernel
theorem dJ9_max_7cf53_6 : decode cJ9_max_7cf53 6 = .ok (.goto 4, 3) := by decide +kernel
theorem dJ9_max_7cf53_9 : decode cJ9_max_7cf53 9 = .ok (.iload_n 1, 1) := by decide +kernel
theorem dJ9_max_7cf53_10 : decode cJ9_max_7cf53 10 = .ok (.ireturn, 1) := by decide +kernel
theorem dJ9_min_7cf53_0 : decode cJ9_min_7cf53 0 = .ok (.iload_n 0, 1) := by decide +kernel
theorem dJ9_min_7cf53_1 : decode cJ9_min_7cf53 1 = .ok (.iload_n 1, 1) := by decide +kernel
theorem dJ9_min_7cf53_2 : decode cJ9_min_7cf53 2 = .ok (.if_icmp .gt 7, 3) := by decide +kernel
theorem dJ9_min_7cf53_5 : decode cJ9_min_7cf53 5 = .ok (.iload_n 0, 1) := by decide +kernel
theorem dJ9_min_7cf53_6 : decode cJ9_min_7cf53 6 = .ok (.goto 4, 3) := by decide +kernel
theorem dJ9_min_7cf53_9 : decode cJ9_min_7cf53 9 = .ok (.iload_n 1, 1) := by decide +kernel
theorem dJ9_min_7cf53_10 : decode cJ9_min_7cf53 10 = .ok (.ireturn, 1) := by decide +kernel
theorem dJ0_length_8abf5_0 : decode cJ0_length_8abf5 0 = .ok (.aload_n 0, 1) := by decide +kernel
theorem dJ0_length_8abf5_1 : decode cJ0_length_8abf5 1 = .ok (.getfield 9, 3) := by decide +kernel
theorem dJ0_length_8abf5_4 : decode cJ0_length_8abf5 4 = .ok (.arraylength, 1) := by decide +kernel
theorem dJ0_length_8abf5_5 : decode cJ0_length_8abf5 5 = .ok (.aload_n 0, 1) := by decide +kernel
theorem dJ0_length_8abf5_6 : decode cJ0_length_8abf5 6 = .ok (.invokevirtual 335, 3) := by decide +kernel
theorem dJ0_length_8abf5_9 : decode cJ0_length_8abf5 9 = .ok (.ishr, 1) := by decide +kernel
theorem dJ0_length_8abf5_10 : decode cJ0_length_8abf5 10 = .ok (.ireturn, 1) := by decide +kernel
theorem dJ0_charAt_5068e_0 : decode cJ0_charAt_5068e 0 = .ok (.aload_n 0, 1) := by decide +kernel
theorem dJ0_charAt_5068e_1 : decode cJ0_charAt_5068e 1 = .ok (.invokevirtual 492, 3) := by decide +kernel
theorem dJ0_charAt_5068e_4 : decode cJ0_charAt_5068e 4 = .ok (.ifCond .eq 12, 3) := by decide +kernel
theorem dJ0_charAt_5068e_7 : decode cJ0_charAt_5068e 7 = .ok (.aload_n 0, 1) := by decide +kernel
theorem dJ0_charAt_5068e_8 : decode cJ0_charAt_5068e 8 = .ok (.getfield 9, 3) := by decide +kernel
theorem dJ0_charAt_5068e_11 : decode cJ0_charAt_5068e 11 = .ok (.iload_n 1, 1) := by decide +kernel
theorem dJ0_charAt_5068e_12 : decode cJ0_charAt_5068e 12 = .ok (.invokestatic 495, 3) := by decide +kernel
theorem dJ0_charAt_5068e_15 : decode cJ0_charAt_5068e 15 = .ok (.ireturn, 1) := by decide +kernel
theorem dJ0_charAt_5068e_16 : decode cJ0_charAt_5068e 16 = .ok (.aload_n 0, 1) := by decide +kernel
theorem dJ0_charAt_5068e_17 : decode cJ0_charAt_5068e 17 = .ok (.getfield 9, 3) := by decide +kernel
theorem dJ0_charAt_5068e_20 : decode cJ0_charAt_5068e 20 = .ok (.iload_n 1, 1) := by decide +kernel
theorem dJ0_charAt_5068e_21 : decode cJ0_charAt_5068e 21 = .ok (.invokestatic 498, 3) := by decide +kernel
theorem dJ0_charAt_5068e_24 : decode cJ0_charAt_5068e 24 = .ok (.ireturn, 1) := by decide +kernel
theorem dJ0_coder_7d493_0 : decode cJ0_coder_7d493 0 = .ok (.getstatic 38, 3) := by decide +kernel
theorem dJ0_coder_7d493_3 : decode cJ0_coder_7d493 3 = .ok (.ifCond .eq 10, 3) := by decide +kernel
theorem dJ0_coder_7d493_6 : decode cJ0_coder_7d493 6 = .ok (.aload_n 0, 1) := by decide +kernel
theorem dJ0_coder_7d493_7 : decode cJ0_coder_7d493 7 = .ok (.getfield 15, 3) := by decide +kernel
theorem dJ0_coder_7d493_10 : decode cJ0_coder_7d493 10 = .ok (.goto 4, 3) := by decide +kernel
theorem dJ0_coder_7d493_13 : decode cJ0_coder_7d493 13 = .ok (.iconst 1, 1) := by decide +kernel
theorem dJ0_coder_7d493_14 : decode cJ0_coder_7d493 14 = .ok (.ireturn, 1) := by decide +kernel
theorem dJ0_isLatin1_aae02_0 : decode cJ0_isLatin1_aae02 0 = .ok (.getstatic 38, 3) := by decide +kernel
theorem dJ0_isLatin1_aae02_3 : decode cJ0_isLatin1_aae02 3 = .ok (.ifCond .eq 14, 3) := by decide +kernel
theorem dJ0_isLatin1_aae02_6 : decode cJ0_isLatin1_aae02 6 = .ok (.aload_n 0, 1) := by decide +kernel
theorem dJ0_isLatin1_aae02_7 : decode cJ0_isLatin1_aae02 7 = .ok (.getfield 15, 3) := by decide +kernel
theorem dJ0_isLatin1_aae02_10 : decode cJ0_isLatin1_aae02 10 = .ok (.ifCond .ne 7, 3) := by decide +kernel
theorem dJ0_isLatin1_aae02_13 : decode cJ0_isLatin1_aae02 13 = .ok (.iconst 1, 1) := by decide +kernel
theorem dJ0_isLatin1_aae02_14 : decode cJ0_isLatin1_aae02 14 = .ok (.goto 4, 3) := by decide +kernel
theorem dJ0_isLatin1_aae02_17 : decode cJ0_isLatin1_aae02 17 = .ok (.iconst 0, 1) := by decide +kernel
theorem dJ0_isLatin1_aae02_18 : decode cJ0_isLatin1_aae02 18 = .ok (.ireturn, 1) := by decide +kernel
theorem dJ0_checkIndex_df160_0 : decode cJ0_checkIndex_df160 0 = .ok (.iload_n 0, 1) := by decide +kernel
theorem dJ0_checkIndex_df160_1 : decode cJ0_checkIndex_df160 1 = .ok (.iload_n 1, 1) := by decide +kernel
theorem dJ0_checkIndex_df160_2 : decode cJ0_checkIndex_df160 2 = .ok (.getstatic 1053, 3) := by decide +kernel
theorem dJ0_checkIndex_df160_5 : decode cJ0_checkIndex_df160 5 = .ok (.invokestatic 1059, 3) := by decide +kernel
theorem dJ0_checkIndex_df160_8 : decode cJ0_checkIndex_df160 8 = .ok (.pop, 1) := by decide +kernel
theorem dJ0_checkIndex_df160_9 : decode cJ0_checkIndex_df160 9 = .ok (.return_, 1) := by decide +kernel
theorem dJ1_charAt_3b067_0 : decode cJ1_charAt_3b067 0 = .ok (.iload_n 1, 1) := by decide +kernel
theorem dJ1_charAt_3b067_1 : decode cJ1_charAt_3b067 1 = .ok (.aload_n 0, 1) := by decide +kernel
theorem dJ1_charAt_3b067_2 : decode cJ1_charAt_3b067 2 = .ok (.arraylength, 1) := by decide +kernel
theorem dJ1_charAt_3b067_3 : decode cJ1_charAt_3b067 3 = .ok (.invokestatic 9, 3) := by decide +kernel
theorem dJ1_charAt_3b067_6 : decode cJ1_charAt_3b067 6 = .ok (.aload_n 0, 1) := by decide +kernel
theorem dJ1_charAt_3b067_7 : decode cJ1_charAt_3b067 7 = .ok (.iload_n 1, 1) := by decide +kernel
theorem dJ1_charAt_3b067_8 : decode cJ1_charAt_3b067 8 = .ok (.baload, 1) := by decide +kernel
theorem dJ1_charAt_3b067_9 : decode cJ1_charAt_3b067 9 = .ok (.sipush 255, 3) := by decide +kernel
theorem dJ1_charAt_3b067_12 : decode cJ1_charAt_3b067 12 = .ok (.iand, 1) := by decide +kernel
theorem dJ1_charAt_3b067_13 : decode cJ1_charAt_3b067 13 = .ok (.i2c, 1) := by decide +kernel
theorem dJ1_charAt_3b067_14 : decode cJ1_charAt_3b067 14 = .ok (.ireturn, 1) := by decide +kernel
theorem dJ2_getChar_3b067_0 : decode cJ2_getChar_3b067 0 = .ok (.getstatic 44, 3) := by decide +kernel
theorem dJ2_getChar_3b067_3 : decode cJ2_getChar_3b067 3 = .ok (.ifCond .ne 25, 3) := by decide +kernel
theorem dJ2_getChar_3b067_6 : decode cJ2_getChar_3b067 6 = .ok (.iload_n 1, 1) := by decide +kernel
theorem dJ2_getChar_3b067_7 : decode cJ2_getChar_3b067 7 = .ok (.ifCond .lt 11, 3) := by decide +kernel
theorem dJ2_getChar_3b067_10 : decode cJ2_getChar_3b067 10 = .ok (.iload_n 1, 1) := by decide +kernel
theorem dJ2_getChar_3b067_11 : decode cJ2_getChar_3b067 11 = .ok (.aload_n 0, 1) := by decide +kernel
theorem dJ2_getChar_3b067_12 : decode cJ2_getChar_3b067 12 = .ok (.invokestatic 48, 3) := by decide +kernel
theorem dJ2_getChar_3b067_15 : decode cJ2_getChar_3b067 15 = .ok (.if_icmp .lt 13, 3) := by decide +kernel
theorem dJ2_getChar_3b067_18 : decode cJ2_getChar_3b067 18 = .ok (.new 52, 3) := by decide +kernel
theorem dJ2_getChar_3b067_21 : decode cJ2_getChar_3b067 21 = .ok (.dup, 1) := by decide +kernel
theorem dJ2_getChar_3b067_22 : decode cJ2_getChar_3b067 22 = .ok (.ldc 54, 2) := by decide +kernel
theorem dJ2_getChar_3b067_24 : decode cJ2_getChar_3b067 24 = .ok (.invokespecial 56, 3) := by decide +kernel
theorem dJ2_getChar_3b067_27 : decode cJ2_getChar_3b067 27 = .ok (.athrow, 1) := by decide +kernel
theorem dJ2_getChar_3b067_28 : decode cJ2_getChar_3b067 28 = .ok (.iload_n 1, 1) := by decide +kernel
theorem dJ2_getChar_3b067_29 : decode cJ2_getChar_3b067 29 = .ok (.iconst 1, 1) := by decide +kernel
theorem dJ2_getChar_3b067_30 : decode cJ2_getChar_3b067 30 = .ok (.ishl, 1) := by decide +kernel
theorem dJ2_getChar_3b067_31 : decode cJ2_getChar_3b067 31 = .ok (.istore_n 1, 1) := by decide +kernel
theorem dJ2_getChar_3b067_32 : decode cJ2_getChar_3b067 32 = .ok (.aload_n 0, 1) := by decide +kernel
theorem dJ2_getChar_3b067_33 : decode cJ2_getChar_3b067 33 = .ok (.iload_n 1, 1) := by decide +kernel
theorem dJ2_getChar_3b067_34 : decode cJ2_getChar_3b067 34 = .ok (.iinc 1 1, 3) := by decide +kernel
theorem dJ2_getChar_3b067_37 : decode cJ2_getChar_3b067 37 = .ok (.baload, 1) := by decide +kernel
theorem dJ2_getChar_3b067_38 : decode cJ2_getChar_3b067 38 = .ok (.sipush 255, 3) := by decide +kernel
theorem dJ2_getChar_3b067_41 : decode cJ2_getChar_3b067 41 = .ok (.iand, 1) := by decide +kernel
theorem dJ2_getChar_3b067_42 : decode cJ2_getChar_3b067 42 = .ok (.getstatic 59, 3) := by decide +kernel
theorem dJ2_getChar_3b067_45 : decode cJ2_getChar_3b067 45 = .ok (.ishl, 1) := by decide +kernel
theorem dJ2_getChar_3b067_46 : decode cJ2_getChar_3b067 46 = .ok (.aload_n 0, 1) := by decide +kernel
theorem dJ2_getChar_3b067_47 : decode cJ2_getChar_3b067 47 = .ok (.iload_n 1, 1) := by decide +kernel
theorem dJ2_getChar_3b067_48 : decode cJ2_getChar_3b067 48 = .ok (.baload, 1) := by decide +kernel
theorem dJ2_getChar_3b067_49 : decode cJ2_getChar_3b067 49 = .ok (.sipush 255, 3) := by decide +kernel
theorem dJ2_getChar_3b067_52 : decode cJ2_getChar_3b067 52 = .ok (.iand, 1) := by decide +kernel
theorem dJ2_getChar_3b067_53 : decode cJ2_getChar_3b067 53 = .ok (.getstatic 63, 3) := by decide +kernel
theorem dJ2_getChar_3b067_56 : decode cJ2_getChar_3b067 56 = .ok (.ishl, 1) := by decide +kernel
theorem dJ2_getChar_3b067_57 : decode cJ2_getChar_3b067 57 = .ok (.ior, 1) := by decide +kernel
theorem dJ2_getChar_3b067_58 : decode cJ2_getChar_3b067 58 = .ok (.i2c, 1) := by decide +kernel
theorem dJ2_getChar_3b067_59 : decode cJ2_getChar_3b067 59 = .ok (.ireturn, 1) := by decide +kernel
theorem dJ2_length_9d52b_0 : decode cJ2_length_9d52b 0 = .ok (.aload_n 0, 1) := by decide +kernel
theorem dJ2_length_9d52b_1 : decode cJ2_length_9d52b 1 = .ok (.arraylength, 1) := by decide +kernel
theorem dJ2_length_9d52b_2 : decode cJ2_length_9d52b 2 = .ok (.iconst 1, 1) := by decide +kernel
theorem dJ2_length_9d52b_3 : decode cJ2_length_9d52b 3 = .ok (.ishr, 1) := by decide +kernel
theorem dJ2_length_9d52b_4 : decode cJ2_length_9d52b 4 = .ok (.ireturn, 1) := by decide +kernel
theorem dJ2_charAt_3b067_0 : decode cJ2_charAt_3b067 0 = .ok (.iload_n 1, 1) := by decide +kernel
theorem dJ2_charAt_3b067_1 : decode cJ2_charAt_3b067 1 = .ok (.aload_n 0, 1) := by decide +kernel
theorem dJ2_charAt_3b067_2 : decode cJ2_charAt_3b067 2 = .ok (.invokestatic 67, 3) := by decide +kernel
theorem dJ2_charAt_3b067_5 : decode cJ2_charAt_3b067 5 = .ok (.aload_n 0, 1) := by decide +kernel
theorem dJ2_charAt_3b067_6 : decode cJ2_charAt_3b067 6 = .ok (.iload_n 1, 1) := by decide +kernel
theorem dJ2_charAt_3b067_7 : decode cJ2_charAt_3b067 7 = .ok (.invokestatic 71, 3) := by decide +kernel
theorem dJ2_charAt_3b067_10 : decode cJ2_charAt_3b067 10 = .ok (.ireturn, 1) := by decide +kernel
theorem dJ2_checkIndex_2214a_0 : decode cJ2_checkIndex_2214a 0 = .ok (.iload_n 0, 1) := by decide +kernel
theorem dJ2_checkIndex_2214a_1 : decode cJ2_checkIndex_2214a 1 = .ok (.aload_n 1, 1) := by decide +kernel
theorem dJ2_checkIndex_2214a_2 : decode cJ2_checkIndex_2214a 2 = .ok (.invokestatic 48, 3) := by decide +kernel
theorem dJ2_checkIndex_2214a_5 : decode cJ2_checkIndex_2214a 5 = .ok (.invokestatic 414, 3) := by decide +kernel
theorem dJ2_checkIndex_2214a_8 : decode cJ2_checkIndex_2214a 8 = .ok (.return_, 1) := by decide +kernel
theorem dJ3_checkIndex_8e157_0 : decode cJ3_checkIndex_8e157 0 = .ok (.iload_n 0, 1) := by decide +kernel
theorem dJ3_checkIndex_8e157_1 : decode cJ3_checkIndex_8e157 1 = .ok (.ifCond .lt 8, 3) := by decide +kernel
theorem dJ3_checkIndex_8e157_4 : decode cJ3_checkIndex_8e157 4 = .ok (.iload_n 0, 1) := by decide +kernel
theorem dJ3_checkIndex_8e157_5 : decode cJ3_checkIndex_8e157 5 = .ok (.iload_n 1, 1) := by decide +kernel
theorem dJ3_checkIndex_8e157_6 : decode cJ3_checkIndex_8e157 6 = .ok (.if_icmp .lt 10, 3) := by decide +kernel
theorem dJ3_checkIndex_8e157_9 : decode cJ3_checkIndex_8e157 9 = .ok (.aload_n 2, 1) := by decide +kernel
theorem dJ3_checkIndex_8e157_10 : decode cJ3_checkIndex_8e157 10 = .ok (.iload_n 0, 1) := by decide +kernel
theorem dJ3_checkIndex_8e157_11 : decode cJ3_checkIndex_8e157 11 = .ok (.iload_n 1, 1) := by decide +kernel
theorem dJ3_checkIndex_8e157_12 : decode cJ3_checkIndex_8e157 12 = .ok (.invokestatic 95, 3) := by decide +kernel
theorem dJ3_checkIndex_8e157_15 : decode cJ3_checkIndex_8e157 15 = .ok (.athrow, 1) := by decide +kernel
theorem dJ3_checkIndex_8e157_16 : decode cJ3_checkIndex_8e157 16 = .ok (.iload_n 0, 1) := by decide +kernel
theorem dJ3_checkIndex_8e157_17 : decode cJ3_checkIndex_8e157 17 = .ok (.ireturn, 1) := by decide +kernel
theorem dL_law_0 : decode cL_law 0 = .ok (.new 7, 3) := by decide +kernel
theorem dL_law_3 : decode cL_law 3 = .ok (.dup, 1) := by decide +kernel
theorem dL_law_4 : decode cL_law 4 = .ok (.invokespecial 9, 3) := by decide +kernel
theorem dL_law_7 : decode cL_law 7 = .ok (.astore_n 1, 1) := by decide +kernel
theorem dL_law_8 : decode cL_law 8 = .ok (.new 10, 3) := by decide +kernel
theorem dL_law_11 : decode cL_law 11 = .ok (.dup, 1) := by decide +kernel
theorem dL_law_12 : decode cL_law 12 = .ok (.invokespecial 12, 3) := by decide +kernel
theorem dL_law_15 : decode cL_law 15 = .ok (.astore_n 2, 1) := by decide +kernel
theorem dL_law_16 : decode cL_law 16 = .ok (.iconst 0, 1) := by decide +kernel
theorem dL_law_17 : decode cL_law 17 = .ok (.istore_n 3, 1) := by decide +kernel
theorem dL_law_18 : decode cL_law 18 = .ok (.iload_n 3, 1) := by decide +kernel
theorem dL_law_19 : decode cL_law 19 = .ok (.aload_n 0, 1) := by decide +kernel
theorem dL_law_20 : decode cL_law 20 = .ok (.arraylength, 1) := by decide +kernel
theorem dL_law_21 : decode cL_law 21 = .ok (.bipush 6, 2) := by decide +kernel
theorem dL_law_23 : decode cL_law 23 = .ok (.isub, 1) := by decide +kernel
theorem dL_law_24 : decode cL_law 24 = .ok (.if_icmp .gt 1401, 3) := by decide +kernel
theorem dL_law_27 : decode cL_law 27 = .ok (.aload_n 0, 1) := by decide +kernel
theorem dL_law_28 : decode cL_law 28 = .ok (.iload_n 3, 1) := by decide +kernel
theorem dL_law_29 : decode cL_law 29 = .ok (.iaload, 1) := by decide +kernel
theorem dL_law_30 : decode cL_law 30 = .ok (.bipush 63, 2) := by decide +kernel
theorem dL_law_32 : decode cL_law 32 = .ok (.iand, 1) := by decide +kernel
theorem dL_law_33 : decode cL_law 33 = .ok (.tableswitch 1386 0 39 #[175, 228, 261, 294, 327, 370, 403, 416, 439, 462, 495, 508, 531, 544, 567, 590, 613, 656, 699, 732, 765, 809, 852, 875, 888, 921, 944, 987, 1030, 1063, 1086, 1149, 1192, 1225, 1258, 1291, 1314, 1337, 1350, 1363], 175) := by decide +kernel
theorem dL_law_208 : decode cL_law 208 = .ok (.aload_n 1, 1) := by decide +kernel
theorem dL_law_209 : decode cL_law 209 = .ok (.aload_n 0, 1) := by decide +kernel
theorem dL_law_210 : decode cL_law 210 = .ok (.iload_n 3, 1) := by decide +kernel
theorem dL_law_211 : decode cL_law 211 = .ok (.iconst 1, 1) := by decide +kernel
theorem dL_law_212 : decode cL_law 212 = .ok (.iadd, 1) := by decide +kernel
theorem dL_law_213 : decode cL_law 213 = .ok (.iaload, 1) := by decide +kernel
theorem dL_law_214 : decode cL_law 214 = .ok (.aload_n 0, 1) := by decide +kernel
theorem dL_law_215 : decode cL_law 215 = .ok (.iload_n 3, 1) := by decide +kernel
theorem dL_law_216 : decode cL_law 216 = .ok (.iconst 2, 1) := by decide +kernel
theorem dL_law_217 : decode cL_law 217 = .ok (.iadd, 1) := by decide +kernel
theorem dL_law_218 : decode cL_law 218 = .ok (.iaload, 1) := by decide +kernel
theorem dL_law_219 : decode cL_law 219 = .ok (.aload_n 0, 1) := by decide +kernel
theorem dL_law_220 : decode cL_law 220 = .ok (.iload_n 3, 1) := by decide +kernel
theorem dL_law_221 : decode cL_law 221 = .ok (.iconst 3, 1) := by decide +kernel
theorem dL_law_222 : decode cL_law 222 = .ok (.iadd, 1) := by decide +kernel
theorem dL_law_223 : decode cL_law 223 = .ok (.iaload, 1) := by decide +kernel
theorem dL_law_224 : decode cL_law 224 = .ok (.aload_n 0, 1) := by decide +kernel
theorem dL_law_225 : decode cL_law 225 = .ok (.iload_n 3, 1) := by decide +kernel
theorem dL_law_226 : decode cL_law 226 = .ok (.iconst 4, 1) := by decide +kernel
theorem dL_law_227 : decode cL_law 227 = .ok (.iadd, 1) := by decide +kernel
theorem dL_law_228 : decode cL_law 228 = .ok (.iaload, 1) := by decide +kernel
theorem dL_law_229 : decode cL_law 229 = .ok (.invokevirtual 13, 3) := by decide +kernel
theorem dL_law_232 : decode cL_law 232 = .ok (.aload_n 2, 1) := by decide +kernel
theorem dL_law_233 : decode cL_law 233 = .ok (.aload_n 0, 1) := by decide +kernel
theorem dL_law_234 : decode cL_law 234 = .ok (.iload_n 3, 1) := by decide +kernel
theorem dL_law_235 : decode cL_law 235 = .ok (.iconst 1, 1) := by decide +kernel
theorem dL_law_236 : decode cL_law 236 = .ok (.iadd, 1) := by decide +kernel
theorem dL_law_237 : decode cL_law 237 = .ok (.iaload, 1) := by decide +kernel
theorem dL_law_238 : decode cL_law 238 = .ok (.aload_n 0, 1) := by decide +kernel
theorem dL_law_239 : decode cL_law 239 = .ok (.iload_n 3, 1) := by decide +kernel
theorem dL_law_240 : decode cL_law 240 = .ok (.iconst 2, 1) := by decide +kernel
theorem dL_law_241 : decode cL_law 241 = .ok (.iadd, 1) := by decide +kernel
theorem dL_law_242 : decode cL_law 242 = .ok (.iaload, 1) := by decide +kernel
theorem dL_law_243 : decode cL_law 243 = .ok (.aload_n 0, 1) := by decide +kernel
theorem dL_law_244 : decode cL_law 244 = .ok (.iload_n 3, 1) := by decide +kernel
theorem dL_law_245 : decode cL_law 245 = .ok (.iconst 3, 1) := by decide +kernel
theorem dL_law_246 : decode cL_law 246 = .ok (.iadd, 1) := by decide +kernel
theorem dL_law_247 : decode cL_law 247 = .ok (.iaload, 1) := by decide +kernel
theorem dL_law_248 : decode cL_law 248 = .ok (.aload_n 0, 1) := by decide +kernel
theorem dL_law_249 : decode cL_law 249 = .ok (.iload_n 3, 1) := by decide +kernel
theorem dL_law_250 : decode cL_law 250 = .ok (.iconst 4, 1) := by decide +kernel
theorem dL_law_251 : decode cL_law 251 = .ok (.iadd, 1) := by decide +kernel
theorem dL_law_252 : decode cL_law 252 = .ok (.iaload, 1) := by decide +kernel
theorem dL_law_253 : decode cL_law 253 = .ok (.invokevirtual 17, 3) := by decide +kernel
theorem dL_law_256 : decode cL_law 256 = .ok (.if_icmp .eq 1163, 3) := by decide +kernel
theorem dL_law_259 : decode cL_law 259 = .ok (.iconst 0, 1) := by decide +kernel
theorem dL_law_260 : decode cL_law 260 = .ok (.ireturn, 1) := by decide +kernel
theorem dL_law_261 : decode cL_law 261 = .ok (.aload_n 1, 1) := by decide +kernel
theorem dL_law_262 : decode cL_law 262 = .ok (.aload_n 0, 1) := by decide +kernel
theorem dL_law_263 : decode cL_law 263 = .ok (.iload_n 3, 1) := by decide +kernel
theorem dL_law_264 : decode cL_law 264 = .ok (.iconst 1, 1) := by decide +kernel
theorem dL_law_265 : decode cL_law 265 = .ok (.iadd, 1) := by decide +kernel
theorem dL_law_266 : decode cL_law 266 = .ok (.iaload, 1) := by decide +kernel
theorem dL_law_267 : decode cL_law 267 = .ok (.aload_n 0, 1) := by decide +kernel
theorem dL_law_268 : decode cL_law 268 = .ok (.iload_n 3, 1) := by decide +kernel
theorem dL_law_269 : decode cL_law 269 = .ok (.iconst 2, 1) := by decide +kernel
theorem dL_law_270 : decode cL_law 270 = .ok (.iadd, 1) := by decide +kernel
theorem dL_law_271 : decode cL_law 271 = .ok (.iaload, 1) := by decide +kernel
theorem dL_law_272 : decode cL_law 272 = .ok (.invokevirtual 18, 3) := by decide +kernel
theorem dL_law_275 : decode cL_law 275 = .ok (.aload_n 2, 1) := by decide +kernel
theorem dL_law_276 : decode cL_law 276 = .ok (.aload_n 0, 1) := by decide +kernel
theorem dL_law_277 : decode cL_law 277 = .ok (.iload_n 3, 1) := by decide +kernel
theorem dL_law_278 : decode cL_law 278 = .ok (.iconst 1, 1) := by decide +kernel
theorem dL_law_279 : decode cL_law 279 = .ok (.iadd, 1) := by decide +kernel
theorem dL_law_280 : decode cL_law 280 = .ok (.iaload, 1) := by decide +kernel
theorem dL_law_281 : decode cL_law 281 = .ok (.aload_n 0, 1) := by decide +kernel
theorem dL_law_282 : decode cL_law 282 = .ok (.iload_n 3, 1) := by decide +kernel
theorem dL_law_283 : decode cL_law 283 = .ok (.iconst 2, 1) := by decide +kernel
theorem dL_law_284 : decode cL_law 284 = .ok (.iadd, 1) := by decide +kernel
theorem dL_law_285 : decode cL_law 285 = .ok (.iaload, 1) := by decide +kernel
theorem dL_law_286 : decode cL_law 286 = .ok (.invokevirtual 22, 3) := by decide +kernel
theorem dL_law_289 : decode cL_law 289 = .ok (.if_icmp .eq 1130, 3) := by decide +kernel
theorem dL_law_292 : decode cL_law 292 = .ok (.iconst 0, 1) := by decide +kernel
theorem dL_law_293 : decode cL_law 293 = .ok (.ireturn, 1) := by decide +kernel
theorem dL_law_294 : decode cL_law 294 = .ok (.aload_n 1, 1) := by decide +kernel
theorem dL_law_295 : decode cL_law 295 = .ok (.aload_n 0, 1) := by decide +kernel
theorem dL_law_296 : decode cL_law 296 = .ok (.iload_n 3, 1) := by decide +kernel
theorem dL_law_297 : decode cL_law 297 = .ok (.iconst 1, 1) := by decide +kernel
theorem dL_law_298 : decode cL_law 298 = .ok (.iadd, 1) := by decide +kernel
theorem dL_law_299 : decode cL_law 299 = .ok (.iaload, 1) := by decide +kernel
theorem dL_law_300 : decode cL_law 300 = .ok (.aload_n 0, 1) := by decide +kernel
theorem dL_law_301 : decode cL_law 301 = .ok (.iload_n 3, 1) := by decide +kernel
theorem dL_law_302 : decode cL_law 302 = .ok (.iconst 2, 1) := by decide +kernel
theorem dL_law_303 : decode cL_law 303 = .ok (.iadd, 1) := by decide +kernel
theorem dL_law_304 : decode cL_law 304 = .ok (.iaload, 1) := by decide +kernel
theorem dL_law_305 : decode cL_law 305 = .ok (.invokevirtual 23, 3) := by decide +kernel
theorem dL_law_308 : decode cL_law 308 = .ok (.aload_n 2, 1) := by decide +kernel
theorem dL_law_309 : decode cL_law 309 = .ok (.aload_n 0, 1) := by decide +kernel
theorem dL_law_310 : decode cL_law 310 = .ok (.iload_n 3, 1) := by decide +kernel
theorem dL_law_311 : decode cL_law 311 = .ok (.iconst 1, 1) := by decide +kernel
theorem dL_law_312 : decode cL_law 312 = .ok (.iadd, 1) := by decide +kernel
theorem dL_law_313 : decode cL_law 313 = .ok (.iaload, 1) := by decide +kernel
theorem dL_law_314 : decode cL_law 314 = .ok (.aload_n 0, 1) := by decide +kernel
theorem dL_law_315 : decode cL_law 315 = .ok (.iload_n 3, 1) := by decide +kernel
theorem dL_law_316 : decode cL_law 316 = .ok (.iconst 2, 1) := by decide +kernel
theorem dL_law_317 : decode cL_law 317 = .ok (.iadd, 1) := by decide +kernel
theorem dL_law_318 : decode cL_law 318 = .ok (.iaload, 1) := by decide +kernel
theorem dL_law_319 : decode cL_law 319 = .ok (.invokevirtual 26, 3) := by decide +kernel
theorem dL_law_322 : decode cL_law 322 = .ok (.if_icmp .eq 1097, 3) := by decide +kernel
theorem dL_law_325 : decode cL_law 325 = .ok (.iconst 0, 1) := by decide +kernel
theorem dL_law_326 : decode cL_law 326 = .ok (.ireturn, 1) := by decide +kernel
theorem dL_law_327 : decode cL_law 327 = .ok (.aload_n 1, 1) := by decide +kernel
theorem dL_law_328 : decode cL_law 328 = .ok (.aload_n 0, 1) := by decide +kernel
theorem dL_law_329 : decode cL_law 329 = .ok (.iload_n 3, 1) := by decide +kernel
theorem dL_law_330 : decode cL_law 330 = .ok (.iconst 1, 1) := by decide +kernel
theorem dL_law_331 : decode cL_law 331 = .ok (.iadd, 1) := by decide +kernel
theorem dL_law_332 : decode cL_law 332 = .ok (.iaload, 1) := by decide +kernel
theorem dL_law_333 : decode cL_law 333 = .ok (.aload_n 0, 1) := by decide +kernel
theorem dL_law_334 : decode cL_law 334 = .ok (.iload_n 3, 1) := by decide +kernel
theorem dL_law_335 : decode cL_law 335 = .ok (.iconst 2, 1) := by decide +kernel
theorem dL_law_336 : decode cL_law 336 = .ok (.iadd, 1) := by decide +kernel
theorem dL_law_337 : decode cL_law 337 = .ok (.iaload, 1) := by decide +kernel
theorem dL_law_338 : decode cL_law 338 = .ok (.invokevirtual 27, 3) := by decide +kernel
theorem dL_law_341 : decode cL_law 341 = .ok (.aload_n 2, 1) := by decide +kernel
theorem dL_law_342 : decode cL_law 342 = .ok (.aload_n 0, 1) := by decide +kernel
theorem dL_law_343 : decode cL_law 343 = .ok (.iload_n 3, 1) := by decide +kernel
theorem dL_law_344 : decode cL_law 344 = .ok (.iconst 1, 1) := by decide +kernel
theorem dL_law_345 : decode cL_law 345 = .ok (.iadd, 1) := by decide +kernel
theorem dL_law_346 : decode cL_law 346 = .ok (.iaload, 1) := by decide +kernel
theorem dL_law_347 : decode cL_law 347 = .ok (.aload_n 0, 1) := by decide +kernel
theorem dL_law_348 : decode cL_law 348 = .ok (.iload_n 3, 1) := by decide +kernel
theorem dL_law_349 : decode cL_law 349 = .ok (.iconst 2, 1) := by decide +kernel
theorem dL_law_350 : decode cL_law 350 = .ok (.iadd, 1) := by decide +kernel
theorem dL_law_351 : decode cL_law 351 = .ok (.iaload, 1) := by decide +kernel
theorem dL_law_352 : decode cL_law 352 = .ok (.invokevirtual 30, 3) := by decide +kernel
theorem dL_law_355 : decode cL_law 355 = .ok (.if_icmp .eq 1064, 3) := by decide +kernel
theorem dL_law_358 : decode cL_law 358 = .ok (.iconst 0, 1) := by decide +kernel
theorem dL_law_359 : decode cL_law 359 = .ok (.ireturn, 1) := by decide +kernel
theorem dL_law_360 : decode cL_law 360 = .ok (.aload_n 1, 1) := by decide +kernel
theorem dL_law_361 : decode cL_law 361 = .ok (.aload_n 0, 1) := by decide +kernel
theorem dL_law_362 : decode cL_law 362 = .ok (.iload_n 3, 1) := by decide +kernel
theorem dL_law_363 : decode cL_law 363 = .ok (.iconst 1, 1) := by decide +kernel
theorem dL_law_364 : decode cL_law 364 = .ok (.iadd, 1) := by decide +kernel
theorem dL_law_365 : decode cL_law 365 = .ok (.iaload, 1) := by decide +kernel
theorem dL_law_366 : decode cL_law 366 = .ok (.aload_n 0, 1) := by decide +kernel
theorem dL_law_367 : decode cL_law 367 = .ok (.iload_n 3, 1) := by decide +kernel
theorem dL_law_368 : decode cL_law 368 = .ok (.iconst 2, 1) := by decide +kernel
theorem dL_law_369 : decode cL_law 369 = .ok (.iadd, 1) := by decide +kernel
theorem dL_law_370 : decode cL_law 370 = .ok (.iaload, 1) := by decide +kernel
theorem dL_law_371 : decode cL_law 371 = .ok (.aload_n 0, 1) := by decide +kernel
theorem dL_law_372 : decode cL_law 372 = .ok (.iload_n 3, 1) := by decide +kernel
theorem dL_law_373 : decode cL_law 373 = .ok (.iconst 3, 1) := by decide +kernel
theorem dL_law_374 : decode cL_law 374 = .ok (.iadd, 1) := by decide +kernel
theorem dL_law_375 : decode cL_law 375 = .ok (.iaload, 1) := by decide +kernel
theorem dL_law_376 : decode cL_law 376 = .ok (.invokevirtual 31, 3) := by decide +kernel
theorem dL_law_379 : decode cL_law 379 = .ok (.aload_n 2, 1) := by decide +kernel
theorem dL_law_380 : decode cL_law 380 = .ok (.aload_n 0, 1) := by decide +kernel
theorem dL_law_381 : decode cL_law 381 = .ok (.iload_n 3, 1) := by decide +kernel
theorem dL_law_382 : decode cL_law 382 = .ok (.iconst 1, 1) := by decide +kernel
theorem dL_law_383 : decode cL_law 383 = .ok (.iadd, 1) := by decide +kernel
theorem dL_law_384 : decode cL_law 384 = .ok (.iaload, 1) := by decide +kernel
theorem dL_law_385 : decode cL_law 385 = .ok (.aload_n 0, 1) := by decide +kernel
theorem dL_law_386 : decode cL_law 386 = .ok (.iload_n 3, 1) := by decide +kernel
theorem dL_law_387 : decode cL_law 387 = .ok (.iconst 2, 1) := by decide +kernel
theorem dL_law_388 : decode cL_law 388 = .ok (.iadd, 1) := by decide +kernel
theorem dL_law_389 : decode cL_law 389 = .ok (.iaload, 1) := by decide +kernel
theorem dL_law_390 : decode cL_law 390 = .ok (.aload_n 0, 1) := by decide +kernel
theorem dL_law_391 : decode cL_law 391 = .ok (.iload_n 3, 1) := by decide +kernel
theorem dL_law_392 : decode cL_law 392 = .ok (.iconst 3, 1) := by decide +kernel
theorem dL_law_393 : decode cL_law 393 = .ok (.iadd, 1) := by decide +kernel
theorem dL_law_394 : decode cL_law 394 = .ok (.iaload, 1) := by decide +kernel
theorem dL_law_395 : decode cL_law 395 = .ok (.invokevirtual 35, 3) := by decide +kernel
theorem dL_law_398 : decode cL_law 398 = .ok (.if_icmp .eq 1021, 3) := by decide +kernel
theorem dL_law_401 : decode cL_law 401 = .ok (.iconst 0, 1) := by decide +kernel
theorem dL_law_402 : decode cL_law 402 = .ok (.ireturn, 1) := by decide +kernel
theorem dL_law_403 : decode cL_law 403 = .ok (.aload_n 1, 1) := by decide +kernel
theorem dL_law_404 : decode cL_law 404 = .ok (.aload_n 0, 1) := by decide +kernel
theorem dL_law_405 : decode cL_law 405 = .ok (.iload_n 3, 1) := by decide +kernel
theorem dL_law_406 : decode cL_law 406 = .ok (.iconst 1, 1) := by decide +kernel
theorem dL_law_407 : decode cL_law 407 = .ok (.iadd, 1) := by decide +kernel
theorem dL_law_408 : decode cL_law 408 = .ok (.iaload, 1) := by decide +kernel
theorem dL_law_409 : decode cL_law 409 = .ok (.aload_n 0, 1) := by decide +kernel
theorem dL_law_410 : decode cL_law 410 = .ok (.iload_n 3, 1) := by decide +kernel
theorem dL_law_411 : decode cL_law 411 = .ok (.iconst 2, 1) := by decide +kernel
theorem dL_law_412 : decode cL_law 412 = .ok (.iadd, 1) := by decide +kernel
theorem dL_law_413 : decode cL_law 413 = .ok (.iaload, 1) := by decide +kernel
theorem dL_law_414 : decode cL_law 414 = .ok (.invokevirtual 36, 3) := by decide +kernel
theorem dL_law_417 : decode cL_law 417 = .ok (.aload_n 2, 1) := by decide +kernel
theorem dL_law_418 : decode cL_law 418 = .ok (.aload_n 0, 1) := by decide +kernel
theorem dL_law_419 : decode cL_law 419 = .ok (.iload_n 3, 1) := by decide +kernel
theorem dL_law_420 : decode cL_law 420 = .ok (.iconst 1, 1) := by decide +kernel
theorem dL_law_421 : decode cL_law 421 = .ok (.iadd, 1) := by decide +kernel
theorem dL_law_422 : decode cL_law 422 = .ok (.iaload, 1) := by decide +kernel
theorem dL_law_423 : decode cL_law 423 = .ok (.aload_n 0, 1) := by decide +kernel
theorem dL_law_424 : decode cL_law 424 = .ok (.iload_n 3, 1) := by decide +kernel
theorem dL_law_425 : decode cL_law 425 = .ok (.iconst 2, 1) := by decide +kernel
theorem dL_law_426 : decode cL_law 426 = .ok (.iadd, 1) := by decide +kernel
theorem dL_law_427 : decode cL_law 427 = .ok (.iaload, 1) := by decide +kernel
theorem dL_law_428 : decode cL_law 428 = .ok (.invokevirtual 39, 3) := by decide +kernel
theorem dL_law_431 : decode cL_law 431 = .ok (.if_icmp .eq 988, 3) := by decide +kernel
theorem dL_law_434 : decode cL_law 434 = .ok (.iconst 0, 1) := by decide +kernel
theorem dL_law_435 : decode cL_law 435 = .ok (.ireturn, 1) := by decide +kernel
theorem dL_law_436 : decode cL_law 436 = .ok (.aload_n 1, 1) := by decide +kernel
theorem dL_law_437 : decode cL_law 437 = .ok (.invokevirtual 40, 3) := by decide +kernel
theorem dL_law_440 : decode cL_law 440 = .ok (.aload_n 2, 1) := by decide +kernel
theorem dL_law_441 : decode cL_law 441 = .ok (.invokevirtual 44, 3) := by decide +kernel
theorem dL_law_444 : decode cL_law 444 = .ok (.if_icmp .eq 975, 3) := by decide +kernel
theorem dL_law_447 : decode cL_law 447 = .ok (.iconst 0, 1) := by decide +kernel
theorem dL_law_448 : decode cL_law 448 = .ok (.ireturn, 1) := by decide +kernel
theorem dL_law_449 : decode cL_law 449 = .ok (.aload_n 1, 1) := by decide +kernel
theorem dL_law_450 : decode cL_law 450 = .ok (.aload_n 0, 1) := by decide +kernel
theorem dL_law_451 : decode cL_law 451 = .ok (.iload_n 3, 1) := by decide +kernel
theorem dL_law_452 : decode cL_law 452 = .ok (.iconst 1, 1) := by decide +kernel
theorem dL_law_453 : decode cL_law 453 = .ok (.iadd, 1) := by decide +kernel
theorem dL_law_454 : decode cL_law 454 = .ok (.iaload, 1) := by decide +kernel
theorem dL_law_455 : decode cL_law 455 = .ok (.invokevirtual 45, 3) := by decide +kernel
theorem dL_law_458 : decode cL_law 458 = .ok (.aload_n 2, 1) := by decide +kernel
theorem dL_law_459 : decode cL_law 459 = .ok (.aload_n 0, 1) := by decide +kernel
theorem dL_law_460 : decode cL_law 460 = .ok (.iload_n 3, 1) := by decide +kernel
theorem dL_law_461 : decode cL_law 461 = .ok (.iconst 1, 1) := by decide +kernel
theorem dL_law_462 : decode cL_law 462 = .ok (.iadd, 1) := by decide +kernel
theorem dL_law_463 : decode cL_law 463 = .ok (.iaload, 1) := by decide +kernel
theorem dL_law_464 : decode cL_law 464 = .ok (.invokevirtual 49, 3) := by decide +kernel
theorem dL_law_467 : decode cL_law 467 = .ok (.if_icmp .eq 952, 3) := by decide +kernel
theorem dL_law_470 : decode cL_law 470 = .ok (.iconst 0, 1) := by decide +kernel
theorem dL_law_471 : decode cL_law 471 = .ok (.ireturn, 1) := by decide +kernel
theorem dL_law_472 : decode cL_law 472 = .ok (.aload_n 1, 1) := by decide +kernel
theorem dL_law_473 : decode cL_law 473 = .ok (.aload_n 0, 1) := by decide +kernel
theorem dL_law_474 : decode cL_law 474 = .ok (.iload_n 3, 1) := by decide +kernel
theorem dL_law_475 : decode cL_law 475 = .ok (.iconst 1, 1) := by decide +kernel
theorem dL_law_476 : decode cL_law 476 = .ok (.iadd, 1) := by decide +kernel
theorem dL_law_477 : decode cL_law 477 = .ok (.iaload, 1) := by decide +kernel
theorem dL_law_478 : decode cL_law 478 = .ok (.invokevirtual 50, 3) := by decide +kernel
theorem dL_law_481 : decode cL_law 481 = .ok (.aload_n 2, 1) := by decide +kernel
theorem dL_law_482 : decode cL_law 482 = .ok (.aload_n 0, 1) := by decide +kernel
theorem dL_law_483 : decode cL_law 483 = .ok (.iload_n 3, 1) := by decide +kernel
theorem dL_law_484 : decode cL_law 484 = .ok (.iconst 1, 1) := by decide +kernel
theorem dL_law_485 : decode cL_law 485 = .ok (.iadd, 1) := by decide +kernel
theorem dL_law_486 : decode cL_law 486 = .ok (.iaload, 1) := by decide +kernel
theorem dL_law_487 : decode cL_law 487 = .ok (.invokevirtual 53, 3) := by decide +kernel
theorem dL_law_490 : decode cL_law 490 = .ok (.if_icmp .eq 929, 3) := by decide +kernel
theorem dL_law_493 : decode cL_law 493 = .ok (.iconst 0, 1) := by decide +kernel
theorem dL_law_494 : decode cL_law 494 = .ok (.ireturn, 1) := by decide +kernel
theorem dL_law_495 : decode cL_law 495 = .ok (.aload_n 1, 1) := by decide +kernel
theorem dL_law_496 : decode cL_law 496 = .ok (.aload_n 0, 1) := by decide +kernel
theorem dL_law_497 : decode cL_law 497 = .ok (.iload_n 3, 1) := by decide +kernel
theorem dL_law_498 : decode cL_law 498 = .ok (.iconst 1, 1) := by decide +kernel
theorem dL_law_499 : decode cL_law 499 = .ok (.iadd, 1) := by decide +kernel
theorem dL_law_500 : decode cL_law 500 = .ok (.iaload, 1) := by decide +kernel
theorem dL_law_501 : decode cL_law 501 = .ok (.aload_n 0, 1) := by decide +kernel
theorem dL_law_502 : decode cL_law 502 = .ok (.iload_n 3, 1) := by decide +kernel
theorem dL_law_503 : decode cL_law 503 = .ok (.iconst 2, 1) := by decide +kernel
theorem dL_law_504 : decode cL_law 504 = .ok (.iadd, 1) := by decide +kernel
theorem dL_law_505 : decode cL_law 505 = .ok (.iaload, 1) := by decide +kernel
theorem dL_law_506 : decode cL_law 506 = .ok (.invokevirtual 54, 3) := by decide +kernel
theorem dL_law_509 : decode cL_law 509 = .ok (.aload_n 2, 1) := by decide +kernel
theorem dL_law_510 : decode cL_law 510 = .ok (.aload_n 0, 1) := by decide +kernel
theorem dL_law_511 : decode cL_law 511 = .ok (.iload_n 3, 1) := by decide +kernel
theorem dL_law_512 : decode cL_law 512 = .ok (.iconst 1, 1) := by decide +kernel
theorem dL_law_513 : decode cL_law 513 = .ok (.iadd, 1) := by decide +kernel
theorem dL_law_514 : decode cL_law 514 = .ok (.iaload, 1) := by decide +kernel
theorem dL_law_515 : decode cL_law 515 = .ok (.aload_n 0, 1) := by decide +kernel
theorem dL_law_516 : decode cL_law 516 = .ok (.iload_n 3, 1) := by decide +kernel
theorem dL_law_517 : decode cL_law 517 = .ok (.iconst 2, 1) := by decide +kernel
theorem dL_law_518 : decode cL_law 518 = .ok (.iadd, 1) := by decide +kernel
theorem dL_law_519 : decode cL_law 519 = .ok (.iaload, 1) := by decide +kernel
theorem dL_law_520 : decode cL_law 520 = .ok (.invokevirtual 57, 3) := by decide +kernel
theorem dL_law_523 : decode cL_law 523 = .ok (.if_icmp .eq 896, 3) := by decide +kernel
theorem dL_law_526 : decode cL_law 526 = .ok (.iconst 0, 1) := by decide +kernel
theorem dL_law_527 : decode cL_law 527 = .ok (.ireturn, 1) := by decide +kernel
theorem dL_law_528 : decode cL_law 528 = .ok (.aload_n 1, 1) := by decide +kernel
theorem dL_law_529 : decode cL_law 529 = .ok (.invokevirtual 58, 3) := by decide +kernel
theorem dL_law_532 : decode cL_law 532 = .ok (.aload_n 2, 1) := by decide +kernel
theorem dL_law_533 : decode cL_law 533 = .ok (.invokevirtual 61, 3) := by decide +kernel
theorem dL_law_536 : decode cL_law 536 = .ok (.if_icmp .eq 883, 3) := by decide +kernel
theorem dL_law_539 : decode cL_law 539 = .ok (.iconst 0, 1) := by decide +kernel
theorem dL_law_540 : decode cL_law 540 = .ok (.ireturn, 1) := by decide +kernel
theorem dL_law_541 : decode cL_law 541 = .ok (.aload_n 1, 1) := by decide +kernel
theorem dL_law_542 : decode cL_law 542 = .ok (.aload_n 0, 1) := by decide +kernel
theorem dL_law_543 : decode cL_law 543 = .ok (.iload_n 3, 1) := by decide +kernel
theorem dL_law_544 : decode cL_law 544 = .ok (.iconst 1, 1) := by decide +kernel
theorem dL_law_545 : decode cL_law 545 = .ok (.iadd, 1) := by decide +kernel
theorem dL_law_546 : decode cL_law 546 = .ok (.iaload, 1) := by decide +kernel
theorem dL_law_547 : decode cL_law 547 = .ok (.invokevirtual 62, 3) := by decide +kernel
theorem dL_law_550 : decode cL_law 550 = .ok (.aload_n 2, 1) := by decide +kernel
theorem dL_law_551 : decode cL_law 551 = .ok (.aload_n 0, 1) := by decide +kernel
theorem dL_law_552 : decode cL_law 552 = .ok (.iload_n 3, 1) := by decide +kernel
theorem dL_law_553 : decode cL_law 553 = .ok (.iconst 1, 1) := by decide +kernel
theorem dL_law_554 : decode cL_law 554 = .ok (.iadd, 1) := by decide +kernel
theorem dL_law_555 : decode cL_law 555 = .ok (.iaload, 1) := by decide +kernel
theorem dL_law_556 : decode cL_law 556 = .ok (.invokevirtual 65, 3) := by decide +kernel
theorem dL_law_559 : decode cL_law 559 = .ok (.if_icmp .eq 860, 3) := by decide +kernel
theorem dL_law_562 : decode cL_law 562 = .ok (.iconst 0, 1) := by decide +kernel
theorem dL_law_563 : decode cL_law 563 = .ok (.ireturn, 1) := by decide +kernel
theorem dL_law_564 : decode cL_law 564 = .ok (.aload_n 1, 1) := by decide +kernel
theorem dL_law_565 : decode cL_law 565 = .ok (.invokevirtual 66, 3) := by decide +kernel
theorem dL_law_568 : decode cL_law 568 = .ok (.aload_n 2, 1) := by decide +kernel
theorem dL_law_569 : decode cL_law 569 = .ok (.invokevirtual 69, 3) := by decide +kernel
theorem dL_law_572 : decode cL_law 572 = .ok (.if_icmp .eq 847, 3) := by decide +kernel
theorem dL_law_575 : decode cL_law 575 = .ok (.iconst 0, 1) := by decide +kernel
theorem dL_law_576 : decode cL_law 576 = .ok (.ireturn, 1) := by decide +kernel
theorem dL_law_577 : decode cL_law 577 = .ok (.aload_n 1, 1) := by decide +kernel
theorem dL_law_578 : decode cL_law 578 = .ok (.aload_n 0, 1) := by decide +kernel
theorem dL_law_579 : decode cL_law 579 = .ok (.iload_n 3, 1) := by decide +kernel
theorem dL_law_580 : decode cL_law 580 = .ok (.iconst 1, 1) := by decide +kernel
theorem dL_law_581 : decode cL_law 581 = .ok (.iadd, 1) := by decide +kernel
theorem dL_law_582 : decode cL_law 582 = .ok (.iaload, 1) := by decide +kernel
theorem dL_law_583 : decode cL_law 583 = .ok (.invokevirtual 70, 3) := by decide +kernel
theorem dL_law_586 : decode cL_law 586 = .ok (.aload_n 2, 1) := by decide +kernel
theorem dL_law_587 : decode cL_law 587 = .ok (.aload_n 0, 1) := by decide +kernel
theorem dL_law_588 : decode cL_law 588 = .ok (.iload_n 3, 1) := by decide +kernel
theorem dL_law_589 : decode cL_law 589 = .ok (.iconst 1, 1) := by decide +kernel
theorem dL_law_590 : decode cL_law 590 = .ok (.iadd, 1) := by decide +kernel
theorem dL_law_591 : decode cL_law 591 = .ok (.iaload, 1) := by decide +kernel
theorem dL_law_592 : decode cL_law 592 = .ok (.invokevirtual 73, 3) := by decide +kernel
theorem dL_law_595 : decode cL_law 595 = .ok (.if_icmp .eq 824, 3) := by decide +kernel
theorem dL_law_598 : decode cL_law 598 = .ok (.iconst 0, 1) := by decide +kernel
theorem dL_law_599 : decode cL_law 599 = .ok (.ireturn, 1) := by decide +kernel
theorem dL_law_600 : decode cL_law 600 = .ok (.aload_n 1, 1) := by decide +kernel
theorem dL_law_601 : decode cL_law 601 = .ok (.aload_n 0, 1) := by decide +kernel
theorem dL_law_602 : decode cL_law 602 = .ok (.iload_n 3, 1) := by decide +kernel
theorem dL_law_603 : decode cL_law 603 = .ok (.iconst 1, 1) := by decide +kernel
theorem dL_law_604 : decode cL_law 604 = .ok (.iadd, 1) := by decide +kernel
theorem dL_law_605 : decode cL_law 605 = .ok (.iaload, 1) := by decide +kernel
theorem dL_law_606 : decode cL_law 606 = .ok (.invokevirtual 74, 3) := by decide +kernel
theorem dL_law_609 : decode cL_law 609 = .ok (.aload_n 2, 1) := by decide +kernel
theorem dL_law_610 : decode cL_law 610 = .ok (.aload_n 0, 1) := by decide +kernel
theorem dL_law_611 : decode cL_law 611 = .ok (.iload_n 3, 1) := by decide +kernel
theorem dL_law_612 : decode cL_law 612 = .ok (.iconst 1, 1) := by decide +kernel
theorem dL_law_613 : decode cL_law 613 = .ok (.iadd, 1) := by decide +kernel
theorem dL_law_614 : decode cL_law 614 = .ok (.iaload, 1) := by decide +kernel
theorem dL_law_615 : decode cL_law 615 = .ok (.invokevirtual 77, 3) := by decide +kernel
theorem dL_law_618 : decode cL_law 618 = .ok (.if_icmp .eq 801, 3) := by decide +kernel
theorem dL_law_621 : decode cL_law 621 = .ok (.iconst 0, 1) := by decide +kernel
theorem dL_law_622 : decode cL_law 622 = .ok (.ireturn, 1) := by decide +kernel
theorem dL_law_623 : decode cL_law 623 = .ok (.aload_n 1, 1) := by decide +kernel
theorem dL_law_624 : decode cL_law 624 = .ok (.aload_n 0, 1) := by decide +kernel
theorem dL_law_625 : decode cL_law 625 = .ok (.iload_n 3, 1) := by decide +kernel
theorem dL_law_626 : decode cL_law 626 = .ok (.iconst 1, 1) := by decide +kernel
theorem dL_law_627 : decode cL_law 627 = .ok (.iadd, 1) := by decide +kernel
theorem dL_law_628 : decode cL_law 628 = .ok (.iaload, 1) := by decide +kernel
theorem dL_law_629 : decode cL_law 629 = .ok (.invokevirtual 78, 3) := by decide +kernel
theorem dL_law_632 : decode cL_law 632 = .ok (.aload_n 2, 1) := by decide +kernel
theorem dL_law_633 : decode cL_law 633 = .ok (.aload_n 0, 1) := by decide +kernel
theorem dL_law_634 : decode cL_law 634 = .ok (.iload_n 3, 1) := by decide +kernel
theorem dL_law_635 : decode cL_law 635 = .ok (.iconst 1, 1) := by decide +kernel
theorem dL_law_636 : decode cL_law 636 = .ok (.iadd, 1) := by decide +kernel
theorem dL_law_637 : decode cL_law 637 = .ok (.iaload, 1) := by decide +kernel
theorem dL_law_638 : decode cL_law 638 = .ok (.invokevirtual 81, 3) := by decide +kernel
theorem dL_law_641 : decode cL_law 641 = .ok (.if_icmp .eq 778, 3) := by decide +kernel
theorem dL_law_644 : decode cL_law 644 = .ok (.iconst 0, 1) := by decide +kernel
theorem dL_law_645 : decode cL_law 645 = .ok (.ireturn, 1) := by decide +kernel
theorem dL_law_646 : decode cL_law 646 = .ok (.aload_n 1, 1) := by decide +kernel
theorem dL_law_647 : decode cL_law 647 = .ok (.aload_n 0, 1) := by decide +kernel
theorem dL_law_648 : decode cL_law 648 = .ok (.iload_n 3, 1) := by decide +kernel
theorem dL_law_649 : decode cL_law 649 = .ok (.iconst 1, 1) := by decide +kernel
theorem dL_law_650 : decode cL_law 650 = .ok (.iadd, 1) := by decide +kernel
theorem dL_law_651 : decode cL_law 651 = .ok (.iaload, 1) := by decide +kernel
theorem dL_law_652 : decode cL_law 652 = .ok (.aload_n 0, 1) := by decide +kernel
theorem dL_law_653 : decode cL_law 653 = .ok (.iload_n 3, 1) := by decide +kernel
theorem dL_law_654 : decode cL_law 654 = .ok (.iconst 2, 1) := by decide +kernel
theorem dL_law_655 : decode cL_law 655 = .ok (.iadd, 1) := by decide +kernel
theorem dL_law_656 : decode cL_law 656 = .ok (.iaload, 1) := by decide +kernel
theorem dL_law_657 : decode cL_law 657 = .ok (.aload_n 0, 1) := by decide +kernel
theorem dL_law_658 : decode cL_law 658 = .ok (.iload_n 3, 1) := by decide +kernel
theorem dL_law_659 : decode cL_law 659 = .ok (.iconst 3, 1) := by decide +kernel
theorem dL_law_660 : decode cL_law 660 = .ok (.iadd, 1) := by decide +kernel
theorem dL_law_661 : decode cL_law 661 = .ok (.iaload, 1) := by decide +kernel
theorem dL_law_662 : decode cL_law 662 = .ok (.invokevirtual 82, 3) := by decide +kernel
theorem dL_law_665 : decode cL_law 665 = .ok (.aload_n 2, 1) := by decide +kernel
theorem dL_law_666 : decode cL_law 666 = .ok (.aload_n 0, 1) := by decide +kernel
theorem dL_law_667 : decode cL_law 667 = .ok (.iload_n 3, 1) := by decide +kernel
theorem dL_law_668 : decode cL_law 668 = .ok (.iconst 1, 1) := by decide +kernel
theorem dL_law_669 : decode cL_law 669 = .ok (.iadd, 1) := by decide +kernel
theorem dL_law_670 : decode cL_law 670 = .ok (.iaload, 1) := by decide +kernel
theorem dL_law_671 : decode cL_law 671 = .ok (.aload_n 0, 1) := by decide +kernel
theorem dL_law_672 : decode cL_law 672 = .ok (.iload_n 3, 1) := by decide +kernel
theorem dL_law_673 : decode cL_law 673 = .ok (.iconst 2, 1) := by decide +kernel
theorem dL_law_674 : decode cL_law 674 = .ok (.iadd, 1) := by decide +kernel
theorem dL_law_675 : decode cL_law 675 = .ok (.iaload, 1) := by decide +kernel
theorem dL_law_676 : decode cL_law 676 = .ok (.aload_n 0, 1) := by decide +kernel
theorem dL_law_677 : decode cL_law 677 = .ok (.iload_n 3, 1) := by decide +kernel
theorem dL_law_678 : decode cL_law 678 = .ok (.iconst 3, 1) := by decide +kernel
theorem dL_law_679 : decode cL_law 679 = .ok (.iadd, 1) := by decide +kernel
theorem dL_law_680 : decode cL_law 680 = .ok (.iaload, 1) := by decide +kernel
theorem dL_law_681 : decode cL_law 681 = .ok (.invokevirtual 85, 3) := by decide +kernel
theorem dL_law_684 : decode cL_law 684 = .ok (.if_icmp .eq 735, 3) := by decide +kernel
theorem dL_law_687 : decode cL_law 687 = .ok (.iconst 0, 1) := by decide +kernel
theorem dL_law_688 : decode cL_law 688 = .ok (.ireturn, 1) := by decide +kernel
theorem dL_law_689 : decode cL_law 689 = .ok (.aload_n 1, 1) := by decide +kernel
theorem dL_law_690 : decode cL_law 690 = .ok (.aload_n 0, 1) := by decide +kernel
theorem dL_law_691 : decode cL_law 691 = .ok (.iload_n 3, 1) := by decide +kernel
theorem dL_law_692 : decode cL_law 692 = .ok (.iconst 1, 1) := by decide +kernel
theorem dL_law_693 : decode cL_law 693 = .ok (.iadd, 1) := by decide +kernel
theorem dL_law_694 : decode cL_law 694 = .ok (.iaload, 1) := by decide +kernel
theorem dL_law_695 : decode cL_law 695 = .ok (.aload_n 0, 1) := by decide +kernel
theorem dL_law_696 : decode cL_law 696 = .ok (.iload_n 3, 1) := by decide +kernel
theorem dL_law_697 : decode cL_law 697 = .ok (.iconst 2, 1) := by decide +kernel
theorem dL_law_698 : decode cL_law 698 = .ok (.iadd, 1) := by decide +kernel
theorem dL_law_699 : decode cL_law 699 = .ok (.iaload, 1) := by decide +kernel
theorem dL_law_700 : decode cL_law 700 = .ok (.aload_n 0, 1) := by decide +kernel
theorem dL_law_701 : decode cL_law 701 = .ok (.iload_n 3, 1) := by decide +kernel
theorem dL_law_702 : decode cL_law 702 = .ok (.iconst 3, 1) := by decide +kernel
theorem dL_law_703 : decode cL_law 703 = .ok (.iadd, 1) := by decide +kernel
theorem dL_law_704 : decode cL_law 704 = .ok (.iaload, 1) := by decide +kernel
theorem dL_law_705 : decode cL_law 705 = .ok (.invokevirtual 86, 3) := by decide +kernel
theorem dL_law_708 : decode cL_law 708 = .ok (.aload_n 2, 1) := by decide +kernel
theorem dL_law_709 : decode cL_law 709 = .ok (.aload_n 0, 1) := by decide +kernel
theorem dL_law_710 : decode cL_law 710 = .ok (.iload_n 3, 1) := by decide +kernel
theorem dL_law_711 : decode cL_law 711 = .ok (.iconst 1, 1) := by decide +kernel
theorem dL_law_712 : decode cL_law 712 = .ok (.iadd, 1) := by decide +kernel
theorem dL_law_713 : decode cL_law 713 = .ok (.iaload, 1) := by decide +kernel
theorem dL_law_714 : decode cL_law 714 = .ok (.aload_n 0, 1) := by decide +kernel
theorem dL_law_715 : decode cL_law 715 = .ok (.iload_n 3, 1) := by decide +kernel
theorem dL_law_716 : decode cL_law 716 = .ok (.iconst 2, 1) := by decide +kernel
theorem dL_law_717 : decode cL_law 717 = .ok (.iadd, 1) := by decide +kernel
theorem dL_law_718 : decode cL_law 718 = .ok (.iaload, 1) := by decide +kernel
theorem dL_law_719 : decode cL_law 719 = .ok (.aload_n 0, 1) := by decide +kernel
theorem dL_law_720 : decode cL_law 720 = .ok (.iload_n 3, 1) := by decide +kernel
theorem dL_law_721 : decode cL_law 721 = .ok (.iconst 3, 1) := by decide +kernel
theorem dL_law_722 : decode cL_law 722 = .ok (.iadd, 1) := by decide +kernel
theorem dL_law_723 : decode cL_law 723 = .ok (.iaload, 1) := by decide +kernel
theorem dL_law_724 : decode cL_law 724 = .ok (.invokevirtual 89, 3) := by decide +kernel
theorem dL_law_727 : decode cL_law 727 = .ok (.if_icmp .eq 692, 3) := by decide +kernel
theorem dL_law_730 : decode cL_law 730 = .ok (.iconst 0, 1) := by decide +kernel
theorem dL_law_731 : decode cL_law 731 = .ok (.ireturn, 1) := by decide +kernel
theorem dL_law_732 : decode cL_law 732 = .ok (.aload_n 1, 1) := by decide +kernel
theorem dL_law_733 : decode cL_law 733 = .ok (.aload_n 0, 1) := by decide +kernel
theorem dL_law_734 : decode cL_law 734 = .ok (.iload_n 3, 1) := by decide +kernel
theorem dL_law_735 : decode cL_law 735 = .ok (.iconst 1, 1) := by decide +kernel
theorem dL_law_736 : decode cL_law 736 = .ok (.iadd, 1) := by decide +kernel
theorem dL_law_737 : decode cL_law 737 = .ok (.iaload, 1) := by decide +kernel
theorem dL_law_738 : decode cL_law 738 = .ok (.aload_n 0, 1) := by decide +kernel
theorem dL_law_739 : decode cL_law 739 = .ok (.iload_n 3, 1) := by decide +kernel
theorem dL_law_740 : decode cL_law 740 = .ok (.iconst 2, 1) := by decide +kernel
theorem dL_law_741 : decode cL_law 741 = .ok (.iadd, 1) := by decide +kernel
theorem dL_law_742 : decode cL_law 742 = .ok (.iaload, 1) := by decide +kernel
theorem dL_law_743 : decode cL_law 743 = .ok (.invokevirtual 90, 3) := by decide +kernel
theorem dL_law_746 : decode cL_law 746 = .ok (.aload_n 2, 1) := by decide +kernel
theorem dL_law_747 : decode cL_law 747 = .ok (.aload_n 0, 1) := by decide +kernel
theorem dL_law_748 : decode cL_law 748 = .ok (.iload_n 3, 1) := by decide +kernel
theorem dL_law_749 : decode cL_law 749 = .ok (.iconst 1, 1) := by decide +kernel
theorem dL_law_750 : decode cL_law 750 = .ok (.iadd, 1) := by decide +kernel
theorem dL_law_751 : decode cL_law 751 = .ok (.iaload, 1) := by decide +kernel
theorem dL_law_752 : decode cL_law 752 = .ok (.aload_n 0, 1) := by decide +kernel
theorem dL_law_753 : decode cL_law 753 = .ok (.iload_n 3, 1) := by decide +kernel
theorem dL_law_754 : decode cL_law 754 = .ok (.iconst 2, 1) := by decide +kernel
theorem dL_law_755 : decode cL_law 755 = .ok (.iadd, 1) := by decide +kernel
theorem dL_law_756 : decode cL_law 756 = .ok (.iaload, 1) := by decide +kernel
theorem dL_law_757 : decode cL_law 757 = .ok (.invokevirtual 93, 3) := by decide +kernel
theorem dL_law_760 : decode cL_law 760 = .ok (.if_icmp .eq 659, 3) := by decide +kernel
theorem dL_law_763 : decode cL_law 763 = .ok (.iconst 0, 1) := by decide +kernel
theorem dL_law_764 : decode cL_law 764 = .ok (.ireturn, 1) := by decide +kernel
theorem dL_law_765 : decode cL_law 765 = .ok (.aload_n 1, 1) := by decide +kernel
theorem dL_law_766 : decode cL_law 766 = .ok (.aload_n 0, 1) := by decide +kernel
theorem dL_law_767 : decode cL_law 767 = .ok (.iload_n 3, 1) := by decide +kernel
theorem dL_law_768 : decode cL_law 768 = .ok (.iconst 1, 1) := by decide +kernel
theorem dL_law_769 : decode cL_law 769 = .ok (.iadd, 1) := by decide +kernel
theorem dL_law_770 : decode cL_law 770 = .ok (.iaload, 1) := by decide +kernel
theorem dL_law_771 : decode cL_law 771 = .ok (.aload_n 0, 1) := by decide +kernel
theorem dL_law_772 : decode cL_law 772 = .ok (.iload_n 3, 1) := by decide +kernel
theorem dL_law_773 : decode cL_law 773 = .ok (.iconst 2, 1) := by decide +kernel
theorem dL_law_774 : decode cL_law 774 = .ok (.iadd, 1) := by decide +kernel
theorem dL_law_775 : decode cL_law 775 = .ok (.iaload, 1) := by decide +kernel
theorem dL_law_776 : decode cL_law 776 = .ok (.invokevirtual 94, 3) := by decide +kernel
theorem dL_law_779 : decode cL_law 779 = .ok (.aload_n 2, 1) := by decide +kernel
theorem dL_law_780 : decode cL_law 780 = .ok (.aload_n 0, 1) := by decide +kernel
theorem dL_law_781 : decode cL_law 781 = .ok (.iload_n 3, 1) := by decide +kernel
theorem dL_law_782 : decode cL_law 782 = .ok (.iconst 1, 1) := by decide +kernel
theorem dL_law_783 : decode cL_law 783 = .ok (.iadd, 1) := by decide +kernel
theorem dL_law_784 : decode cL_law 784 = .ok (.iaload, 1) := by decide +kernel
theorem dL_law_785 : decode cL_law 785 = .ok (.aload_n 0, 1) := by decide +kernel
theorem dL_law_786 : decode cL_law 786 = .ok (.iload_n 3, 1) := by decide +kernel
theorem dL_law_787 : decode cL_law 787 = .ok (.iconst 2, 1) := by decide +kernel
theorem dL_law_788 : decode cL_law 788 = .ok (.iadd, 1) := by decide +kernel
theorem dL_law_789 : decode cL_law 789 = .ok (.iaload, 1) := by decide +kernel
theorem dL_law_790 : decode cL_law 790 = .ok (.invokevirtual 97, 3) := by decide +kernel
theorem dL_law_793 : decode cL_law 793 = .ok (.if_icmp .eq 626, 3) := by decide +kernel
theorem dL_law_796 : decode cL_law 796 = .ok (.iconst 0, 1) := by decide +kernel
theorem dL_law_797 : decode cL_law 797 = .ok (.ireturn, 1) := by decide +kernel
theorem dL_law_798 : decode cL_law 798 = .ok (.aload_n 1, 1) := by decide +kernel
theorem dL_law_799 : decode cL_law 799 = .ok (.aload_n 0, 1) := by decide +kernel
theorem dL_law_800 : decode cL_law 800 = .ok (.iload_n 3, 1) := by decide +kernel
theorem dL_law_801 : decode cL_law 801 = .ok (.iconst 1, 1) := by decide +kernel
theorem dL_law_802 : decode cL_law 802 = .ok (.iadd, 1) := by decide +kernel
theorem dL_law_803 : decode cL_law 803 = .ok (.iaload, 1) := by decide +kernel
theorem dL_law_804 : decode cL_law 804 = .ok (.aload_n 0, 1) := by decide +kernel
theorem dL_law_805 : decode cL_law 805 = .ok (.iload_n 3, 1) := by decide +kernel
theorem dL_law_806 : decode cL_law 806 = .ok (.iconst 2, 1) := by decide +kernel
theorem dL_law_807 : decode cL_law 807 = .ok (.iadd, 1) := by decide +kernel
theorem dL_law_808 : decode cL_law 808 = .ok (.iaload, 1) := by decide +kernel
theorem dL_law_809 : decode cL_law 809 = .ok (.aload_n 0, 1) := by decide +kernel
theorem dL_law_810 : decode cL_law 810 = .ok (.iload_n 3, 1) := by decide +kernel
theorem dL_law_811 : decode cL_law 811 = .ok (.iconst 3, 1) := by decide +kernel
theorem dL_law_812 : decode cL_law 812 = .ok (.iadd, 1) := by decide +kernel
theorem dL_law_813 : decode cL_law 813 = .ok (.iaload, 1) := by decide +kernel
theorem dL_law_814 : decode cL_law 814 = .ok (.invokevirtual 98, 3) := by decide +kernel
theorem dL_law_817 : decode cL_law 817 = .ok (.aload_n 2, 1) := by decide +kernel
theorem dL_law_818 : decode cL_law 818 = .ok (.aload_n 0, 1) := by decide +kernel
theorem dL_law_819 : decode cL_law 819 = .ok (.iload_n 3, 1) := by decide +kernel
theorem dL_law_820 : decode cL_law 820 = .ok (.iconst 1, 1) := by decide +kernel
theorem dL_law_821 : decode cL_law 821 = .ok (.iadd, 1) := by decide +kernel
theorem dL_law_822 : decode cL_law 822 = .ok (.iaload, 1) := by decide +kernel
theorem dL_law_823 : decode cL_law 823 = .ok (.aload_n 0, 1) := by decide +kernel
theorem dL_law_824 : decode cL_law 824 = .ok (.iload_n 3, 1) := by decide +kernel
theorem dL_law_825 : decode cL_law 825 = .ok (.iconst 2, 1) := by decide +kernel
theorem dL_law_826 : decode cL_law 826 = .ok (.iadd, 1) := by decide +kernel
theorem dL_law_827 : decode cL_law 827 = .ok (.iaload, 1) := by decide +kernel
theorem dL_law_828 : decode cL_law 828 = .ok (.aload_n 0, 1) := by decide +kernel
theorem dL_law_829 : decode cL_law 829 = .ok (.iload_n 3, 1) := by decide +kernel
theorem dL_law_830 : decode cL_law 830 = .ok (.iconst 3, 1) := by decide +kernel
theorem dL_law_831 : decode cL_law 831 = .ok (.iadd, 1) := by decide +kernel
theorem dL_law_832 : decode cL_law 832 = .ok (.iaload, 1) := by decide +kernel
theorem dL_law_833 : decode cL_law 833 = .ok (.invokevirtual 102, 3) := by decide +kernel
theorem dL_law_836 : decode cL_law 836 = .ok (.lcmp, 1) := by decide +kernel
theorem dL_law_837 : decode cL_law 837 = .ok (.ifCond .eq 582, 3) := by decide +kernel
theorem dL_law_840 : decode cL_law 840 = .ok (.iconst 0, 1) := by decide +kernel
theorem dL_law_841 : decode cL_law 841 = .ok (.ireturn, 1) := by decide +kernel
theorem dL_law_842 : decode cL_law 842 = .ok (.aload_n 1, 1) := by decide +kernel
theorem dL_law_843 : decode cL_law 843 = .ok (.aload_n 0, 1) := by decide +kernel
theorem dL_law_844 : decode cL_law 844 = .ok (.iload_n 3, 1) := by decide +kernel
theorem dL_law_845 : decode cL_law 845 = .ok (.iconst 1, 1) := by decide +kernel
theorem dL_law_846 : decode cL_law 846 = .ok (.iadd, 1) := by decide +kernel
theorem dL_law_847 : decode cL_law 847 = .ok (.iaload, 1) := by decide +kernel
theorem dL_law_848 : decode cL_law 848 = .ok (.aload_n 0, 1) := by decide +kernel
theorem dL_law_849 : decode cL_law 849 = .ok (.iload_n 3, 1) := by decide +kernel
theorem dL_law_850 : decode cL_law 850 = .ok (.iconst 2, 1) := by decide +kernel
theorem dL_law_851 : decode cL_law 851 = .ok (.iadd, 1) := by decide +kernel
theorem dL_law_852 : decode cL_law 852 = .ok (.iaload, 1) := by decide +kernel
theorem dL_law_853 : decode cL_law 853 = .ok (.aload_n 0, 1) := by decide +kernel
theorem dL_law_854 : decode cL_law 854 = .ok (.iload_n 3, 1) := by decide +kernel
theorem dL_law_855 : decode cL_law 855 = .ok (.iconst 3, 1) := by decide +kernel
theorem dL_law_856 : decode cL_law 856 = .ok (.iadd, 1) := by decide +kernel
theorem dL_law_857 : decode cL_law 857 = .ok (.iaload, 1) := by decide +kernel
theorem dL_law_858 : decode cL_law 858 = .ok (.invokevirtual 103, 3) := by decide +kernel
theorem dL_law_861 : decode cL_law 861 = .ok (.aload_n 2, 1) := by decide +kernel
theorem dL_law_862 : decode cL_law 862 = .ok (.aload_n 0, 1) := by decide +kernel
theorem dL_law_863 : decode cL_law 863 = .ok (.iload_n 3, 1) := by decide +kernel
theorem dL_law_864 : decode cL_law 864 = .ok (.iconst 1, 1) := by decide +kernel
theorem dL_law_865 : decode cL_law 865 = .ok (.iadd, 1) := by decide +kernel
theorem dL_law_866 : decode cL_law 866 = .ok (.iaload, 1) := by decide +kernel
theorem dL_law_867 : decode cL_law 867 = .ok (.aload_n 0, 1) := by decide +kernel
theorem dL_law_868 : decode cL_law 868 = .ok (.iload_n 3, 1) := by decide +kernel
theorem dL_law_869 : decode cL_law 869 = .ok (.iconst 2, 1) := by decide +kernel
theorem dL_law_870 : decode cL_law 870 = .ok (.iadd, 1) := by decide +kernel
theorem dL_law_871 : decode cL_law 871 = .ok (.iaload, 1) := by decide +kernel
theorem dL_law_872 : decode cL_law 872 = .ok (.aload_n 0, 1) := by decide +kernel
theorem dL_law_873 : decode cL_law 873 = .ok (.iload_n 3, 1) := by decide +kernel
theorem dL_law_874 : decode cL_law 874 = .ok (.iconst 3, 1) := by decide +kernel
theorem dL_law_875 : decode cL_law 875 = .ok (.iadd, 1) := by decide +kernel
theorem dL_law_876 : decode cL_law 876 = .ok (.iaload, 1) := by decide +kernel
theorem dL_law_877 : decode cL_law 877 = .ok (.invokevirtual 106, 3) := by decide +kernel
theorem dL_law_880 : decode cL_law 880 = .ok (.if_icmp .eq 539, 3) := by decide +kernel
theorem dL_law_883 : decode cL_law 883 = .ok (.iconst 0, 1) := by decide +kernel
theorem dL_law_884 : decode cL_law 884 = .ok (.ireturn, 1) := by decide +kernel
theorem dL_law_885 : decode cL_law 885 = .ok (.aload_n 1, 1) := by decide +kernel
theorem dL_law_886 : decode cL_law 886 = .ok (.aload_n 0, 1) := by decide +kernel
theorem dL_law_887 : decode cL_law 887 = .ok (.iload_n 3, 1) := by decide +kernel
theorem dL_law_888 : decode cL_law 888 = .ok (.iconst 1, 1) := by decide +kernel
theorem dL_law_889 : decode cL_law 889 = .ok (.iadd, 1) := by decide +kernel
theorem dL_law_890 : decode cL_law 890 = .ok (.iaload, 1) := by decide +kernel
theorem dL_law_891 : decode cL_law 891 = .ok (.invokevirtual 107, 3) := by decide +kernel
theorem dL_law_894 : decode cL_law 894 = .ok (.aload_n 2, 1) := by decide +kernel
theorem dL_law_895 : decode cL_law 895 = .ok (.aload_n 0, 1) := by decide +kernel
theorem dL_law_896 : decode cL_law 896 = .ok (.iload_n 3, 1) := by decide +kernel
theorem dL_law_897 : decode cL_law 897 = .ok (.iconst 1, 1) := by decide +kernel
theorem dL_law_898 : decode cL_law 898 = .ok (.iadd, 1) := by decide +kernel
theorem dL_law_899 : decode cL_law 899 = .ok (.iaload, 1) := by decide +kernel
theorem dL_law_900 : decode cL_law 900 = .ok (.invokevirtual 110, 3) := by decide +kernel
theorem dL_law_903 : decode cL_law 903 = .ok (.if_icmp .eq 516, 3) := by decide +kernel
theorem dL_law_906 : decode cL_law 906 = .ok (.iconst 0, 1) := by decide +kernel
theorem dL_law_907 : decode cL_law 907 = .ok (.ireturn, 1) := by decide +kernel
theorem dL_law_908 : decode cL_law 908 = .ok (.aload_n 1, 1) := by decide +kernel
theorem dL_law_909 : decode cL_law 909 = .ok (.invokevirtual 111, 3) := by decide +kernel
theorem dL_law_912 : decode cL_law 912 = .ok (.aload_n 2, 1) := by decide +kernel
theorem dL_law_913 : decode cL_law 913 = .ok (.invokevirtual 114, 3) := by decide +kernel
theorem dL_law_916 : decode cL_law 916 = .ok (.if_icmp .eq 503, 3) := by decide +kernel
theorem dL_law_919 : decode cL_law 919 = .ok (.iconst 0, 1) := by decide +kernel
theorem dL_law_920 : decode cL_law 920 = .ok (.ireturn, 1) := by decide +kernel
theorem dL_law_921 : decode cL_law 921 = .ok (.aload_n 1, 1) := by decide +kernel
theorem dL_law_922 : decode cL_law 922 = .ok (.aload_n 0, 1) := by decide +kernel
theorem dL_law_923 : decode cL_law 923 = .ok (.iload_n 3, 1) := by decide +kernel
theorem dL_law_924 : decode cL_law 924 = .ok (.iconst 1, 1) := by decide +kernel
theorem dL_law_925 : decode cL_law 925 = .ok (.iadd, 1) := by decide +kernel
theorem dL_law_926 : decode cL_law 926 = .ok (.iaload, 1) := by decide +kernel
theorem dL_law_927 : decode cL_law 927 = .ok (.aload_n 0, 1) := by decide +kernel
theorem dL_law_928 : decode cL_law 928 = .ok (.iload_n 3, 1) := by decide +kernel
theorem dL_law_929 : decode cL_law 929 = .ok (.iconst 2, 1) := by decide +kernel
theorem dL_law_930 : decode cL_law 930 = .ok (.iadd, 1) := by decide +kernel
theorem dL_law_931 : decode cL_law 931 = .ok (.iaload, 1) := by decide +kernel
theorem dL_law_932 : decode cL_law 932 = .ok (.invokevirtual 115, 3) := by decide +kernel
theorem dL_law_935 : decode cL_law 935 = .ok (.aload_n 2, 1) := by decide +kernel
theorem dL_law_936 : decode cL_law 936 = .ok (.aload_n 0, 1) := by decide +kernel
theorem dL_law_937 : decode cL_law 937 = .ok (.iload_n 3, 1) := by decide +kernel
theorem dL_law_938 : decode cL_law 938 = .ok (.iconst 1, 1) := by decide +kernel
theorem dL_law_939 : decode cL_law 939 = .ok (.iadd, 1) := by decide +kernel
theorem dL_law_940 : decode cL_law 940 = .ok (.iaload, 1) := by decide +kernel
theorem dL_law_941 : decode cL_law 941 = .ok (.aload_n 0, 1) := by decide +kernel
theorem dL_law_942 : decode cL_law 942 = .ok (.iload_n 3, 1) := by decide +kernel
theorem dL_law_943 : decode cL_law 943 = .ok (.iconst 2, 1) := by decide +kernel
theorem dL_law_944 : decode cL_law 944 = .ok (.iadd, 1) := by decide +kernel
theorem dL_law_945 : decode cL_law 945 = .ok (.iaload, 1) := by decide +kernel
theorem dL_law_946 : decode cL_law 946 = .ok (.invokevirtual 118, 3) := by decide +kernel
theorem dL_law_949 : decode cL_law 949 = .ok (.if_icmp .eq 470, 3) := by decide +kernel
theorem dL_law_952 : decode cL_law 952 = .ok (.iconst 0, 1) := by decide +kernel
theorem dL_law_953 : decode cL_law 953 = .ok (.ireturn, 1) := by decide +kernel
theorem dL_law_954 : decode cL_law 954 = .ok (.aload_n 1, 1) := by decide +kernel
theorem dL_law_955 : decode cL_law 955 = .ok (.aload_n 0, 1) := by decide +kernel
theorem dL_law_956 : decode cL_law 956 = .ok (.iload_n 3, 1) := by decide +kernel
theorem dL_law_957 : decode cL_law 957 = .ok (.iconst 1, 1) := by decide +kernel
theorem dL_law_958 : decode cL_law 958 = .ok (.iadd, 1) := by decide +kernel
theorem dL_law_959 : decode cL_law 959 = .ok (.iaload, 1) := by decide +kernel
theorem dL_law_960 : decode cL_law 960 = .ok (.invokevirtual 119, 3) := by decide +kernel
theorem dL_law_963 : decode cL_law 963 = .ok (.aload_n 2, 1) := by decide +kernel
theorem dL_law_964 : decode cL_law 964 = .ok (.aload_n 0, 1) := by decide +kernel
theorem dL_law_965 : decode cL_law 965 = .ok (.iload_n 3, 1) := by decide +kernel
theorem dL_law_966 : decode cL_law 966 = .ok (.iconst 1, 1) := by decide +kernel
theorem dL_law_967 : decode cL_law 967 = .ok (.iadd, 1) := by decide +kernel
theorem dL_law_968 : decode cL_law 968 = .ok (.iaload, 1) := by decide +kernel
theorem dL_law_969 : decode cL_law 969 = .ok (.invokevirtual 122, 3) := by decide +kernel
theorem dL_law_972 : decode cL_law 972 = .ok (.if_icmp .eq 447, 3) := by decide +kernel
theorem dL_law_975 : decode cL_law 975 = .ok (.iconst 0, 1) := by decide +kernel
theorem dL_law_976 : decode cL_law 976 = .ok (.ireturn, 1) := by decide +kernel
theorem dL_law_977 : decode cL_law 977 = .ok (.aload_n 1, 1) := by decide +kernel
theorem dL_law_978 : decode cL_law 978 = .ok (.aload_n 0, 1) := by decide +kernel
theorem dL_law_979 : decode cL_law 979 = .ok (.iload_n 3, 1) := by decide +kernel
theorem dL_law_980 : decode cL_law 980 = .ok (.iconst 1, 1) := by decide +kernel
theorem dL_law_981 : decode cL_law 981 = .ok (.iadd, 1) := by decide +kernel
theorem dL_law_982 : decode cL_law 982 = .ok (.iaload, 1) := by decide +kernel
theorem dL_law_983 : decode cL_law 983 = .ok (.aload_n 0, 1) := by decide +kernel
theorem dL_law_984 : decode cL_law 984 = .ok (.iload_n 3, 1) := by decide +kernel
theorem dL_law_985 : decode cL_law 985 = .ok (.iconst 2, 1) := by decide +kernel
theorem dL_law_986 : decode cL_law 986 = .ok (.iadd, 1) := by decide +kernel
theorem dL_law_987 : decode cL_law 987 = .ok (.iaload, 1) := by decide +kernel
theorem dL_law_988 : decode cL_law 988 = .ok (.aload_n 0, 1) := by decide +kernel
theorem dL_law_989 : decode cL_law 989 = .ok (.iload_n 3, 1) := by decide +kernel
theorem dL_law_990 : decode cL_law 990 = .ok (.iconst 3, 1) := by decide +kernel
theorem dL_law_991 : decode cL_law 991 = .ok (.iadd, 1) := by decide +kernel
theorem dL_law_992 : decode cL_law 992 = .ok (.iaload, 1) := by decide +kernel
theorem dL_law_993 : decode cL_law 993 = .ok (.invokevirtual 123, 3) := by decide +kernel
theorem dL_law_996 : decode cL_law 996 = .ok (.aload_n 2, 1) := by decide +kernel
theorem dL_law_997 : decode cL_law 997 = .ok (.aload_n 0, 1) := by decide +kernel
theorem dL_law_998 : decode cL_law 998 = .ok (.iload_n 3, 1) := by decide +kernel
theorem dL_law_999 : decode cL_law 999 = .ok (.iconst 1, 1) := by decide +kernel
theorem dL_law_1000 : decode cL_law 1000 = .ok (.iadd, 1) := by decide +kernel
theorem dL_law_1001 : decode cL_law 1001 = .ok (.iaload, 1) := by decide +kernel
theorem dL_law_1002 : decode cL_law 1002 = .ok (.aload_n 0, 1) := by decide +kernel
theorem dL_law_1003 : decode cL_law 1003 = .ok (.iload_n 3, 1) := by decide +kernel
theorem dL_law_1004 : decode cL_law 1004 = .ok (.iconst 2, 1) := by decide +kernel
theorem dL_law_1005 : decode cL_law 1005 = .ok (.iadd, 1) := by decide +kernel
theorem dL_law_1006 : decode cL_law 1006 = .ok (.iaload, 1) := by decide +kernel
theorem dL_law_1007 : decode cL_law 1007 = .ok (.aload_n 0, 1) := by decide +kernel
theorem dL_law_1008 : decode cL_law 1008 = .ok (.iload_n 3, 1) := by decide +kernel
theorem dL_law_1009 : decode cL_law 1009 = .ok (.iconst 3, 1) := by decide +kernel
theorem dL_law_1010 : decode cL_law 1010 = .ok (.iadd, 1) := by decide +kernel
theorem dL_law_1011 : decode cL_law 1011 = .ok (.iaload, 1) := by decide +kernel
theorem dL_law_1012 : decode cL_law 1012 = .ok (.invokevirtual 126, 3) := by decide +kernel
theorem dL_law_1015 : decode cL_law 1015 = .ok (.if_icmp .eq 404, 3) := by decide +kernel
theorem dL_law_1018 : decode cL_law 1018 = .ok (.iconst 0, 1) := by decide +kernel
theorem dL_law_1019 : decode cL_law 1019 = .ok (.ireturn, 1) := by decide +kernel
theorem dL_law_1020 : decode cL_law 1020 = .ok (.aload_n 1, 1) := by decide +kernel
theorem dL_law_1021 : decode cL_law 1021 = .ok (.aload_n 0, 1) := by decide +kernel
theorem dL_law_1022 : decode cL_law 1022 = .ok (.iload_n 3, 1) := by decide +kernel
theorem dL_law_1023 : decode cL_law 1023 = .ok (.iconst 1, 1) := by decide +kernel
theorem dL_law_1024 : decode cL_law 1024 = .ok (.iadd, 1) := by decide +kernel
theorem dL_law_1025 : decode cL_law 1025 = .ok (.iaload, 1) := by decide +kernel
theorem dL_law_1026 : decode cL_law 1026 = .ok (.aload_n 0, 1) := by decide +kernel
theorem dL_law_1027 : decode cL_law 1027 = .ok (.iload_n 3, 1) := by decide +kernel
theorem dL_law_1028 : decode cL_law 1028 = .ok (.iconst 2, 1) := by decide +kernel
theorem dL_law_1029 : decode cL_law 1029 = .ok (.iadd, 1) := by decide +kernel
theorem dL_law_1030 : decode cL_law 1030 = .ok (.iaload, 1) := by decide +kernel
theorem dL_law_1031 : decode cL_law 1031 = .ok (.aload_n 0, 1) := by decide +kernel
theorem dL_law_1032 : decode cL_law 1032 = .ok (.iload_n 3, 1) := by decide +kernel
theorem dL_law_1033 : decode cL_law 1033 = .ok (.iconst 3, 1) := by decide +kernel
theorem dL_law_1034 : decode cL_law 1034 = .ok (.iadd, 1) := by decide +kernel
theorem dL_law_1035 : decode cL_law 1035 = .ok (.iaload, 1) := by decide +kernel
theorem dL_law_1036 : decode cL_law 1036 = .ok (.invokevirtual 127, 3) := by decide +kernel
theorem dL_law_1039 : decode cL_law 1039 = .ok (.aload_n 2, 1) := by decide +kernel
theorem dL_law_1040 : decode cL_law 1040 = .ok (.aload_n 0, 1) := by decide +kernel
theorem dL_law_1041 : decode cL_law 1041 = .ok (.iload_n 3, 1) := by decide +kernel
theorem dL_law_1042 : decode cL_law 1042 = .ok (.iconst 1, 1) := by decide +kernel
theorem dL_law_1043 : decode cL_law 1043 = .ok (.iadd, 1) := by decide +kernel
theorem dL_law_1044 : decode cL_law 1044 = .ok (.iaload, 1) := by decide +kernel
theorem dL_law_1045 : decode cL_law 1045 = .ok (.aload_n 0, 1) := by decide +kernel
theorem dL_law_1046 : decode cL_law 1046 = .ok (.iload_n 3, 1) := by decide +kernel
theorem dL_law_1047 : decode cL_law 1047 = .ok (.iconst 2, 1) := by decide +kernel
theorem dL_law_1048 : decode cL_law 1048 = .ok (.iadd, 1) := by decide +kernel
theorem dL_law_1049 : decode cL_law 1049 = .ok (.iaload, 1) := by decide +kernel
theorem dL_law_1050 : decode cL_law 1050 = .ok (.aload_n 0, 1) := by decide +kernel
theorem dL_law_1051 : decode cL_law 1051 = .ok (.iload_n 3, 1) := by decide +kernel
theorem dL_law_1052 : decode cL_law 1052 = .ok (.iconst 3, 1) := by decide +kernel
theorem dL_law_1053 : decode cL_law 1053 = .ok (.iadd, 1) := by decide +kernel
theorem dL_law_1054 : decode cL_law 1054 = .ok (.iaload, 1) := by decide +kernel
theorem dL_law_1055 : decode cL_law 1055 = .ok (.invokevirtual 130, 3) := by decide +kernel
theorem dL_law_1058 : decode cL_law 1058 = .ok (.if_icmp .eq 361, 3) := by decide +kernel
theorem dL_law_1061 : decode cL_law 1061 = .ok (.iconst 0, 1) := by decide +kernel
theorem dL_law_1062 : decode cL_law 1062 = .ok (.ireturn, 1) := by decide +kernel
theorem dL_law_1063 : decode cL_law 1063 = .ok (.aload_n 1, 1) := by decide +kernel
theorem dL_law_1064 : decode cL_law 1064 = .ok (.aload_n 0, 1) := by decide +kernel
theorem dL_law_1065 : decode cL_law 1065 = .ok (.iload_n 3, 1) := by decide +kernel
theorem dL_law_1066 : decode cL_law 1066 = .ok (.iconst 1, 1) := by decide +kernel
theorem dL_law_1067 : decode cL_law 1067 = .ok (.iadd, 1) := by decide +kernel
theorem dL_law_1068 : decode cL_law 1068 = .ok (.iaload, 1) := by decide +kernel
theorem dL_law_1069 : decode cL_law 1069 = .ok (.aload_n 0, 1) := by decide +kernel
theorem dL_law_1070 : decode cL_law 1070 = .ok (.iload_n 3, 1) := by decide +kernel
theorem dL_law_1071 : decode cL_law 1071 = .ok (.iconst 2, 1) := by decide +kernel
theorem dL_law_1072 : decode cL_law 1072 = .ok (.iadd, 1) := by decide +kernel
theorem dL_law_1073 : decode cL_law 1073 = .ok (.iaload, 1) := by decide +kernel
theorem dL_law_1074 : decode cL_law 1074 = .ok (.invokevirtual 131, 3) := by decide +kernel
theorem dL_law_1077 : decode cL_law 1077 = .ok (.aload_n 2, 1) := by decide +kernel
theorem dL_law_1078 : decode cL_law 1078 = .ok (.aload_n 0, 1) := by decide +kernel
theorem dL_law_1079 : decode cL_law 1079 = .ok (.iload_n 3, 1) := by decide +kernel
theorem dL_law_1080 : decode cL_law 1080 = .ok (.iconst 1, 1) := by decide +kernel
theorem dL_law_1081 : decode cL_law 1081 = .ok (.iadd, 1) := by decide +kernel
theorem dL_law_1082 : decode cL_law 1082 = .ok (.iaload, 1) := by decide +kernel
theorem dL_law_1083 : decode cL_law 1083 = .ok (.aload_n 0, 1) := by decide +kernel
theorem dL_law_1084 : decode cL_law 1084 = .ok (.iload_n 3, 1) := by decide +kernel
theorem dL_law_1085 : decode cL_law 1085 = .ok (.iconst 2, 1) := by decide +kernel
theorem dL_law_1086 : decode cL_law 1086 = .ok (.iadd, 1) := by decide +kernel
theorem dL_law_1087 : decode cL_law 1087 = .ok (.iaload, 1) := by decide +kernel
theorem dL_law_1088 : decode cL_law 1088 = .ok (.invokevirtual 134, 3) := by decide +kernel
theorem dL_law_1091 : decode cL_law 1091 = .ok (.if_icmp .eq 328, 3) := by decide +kernel
theorem dL_law_1094 : decode cL_law 1094 = .ok (.iconst 0, 1) := by decide +kernel
theorem dL_law_1095 : decode cL_law 1095 = .ok (.ireturn, 1) := by decide +kernel
theorem dL_law_1096 : decode cL_law 1096 = .ok (.aload_n 1, 1) := by decide +kernel
theorem dL_law_1097 : decode cL_law 1097 = .ok (.aload_n 0, 1) := by decide +kernel
theorem dL_law_1098 : decode cL_law 1098 = .ok (.iload_n 3, 1) := by decide +kernel
theorem dL_law_1099 : decode cL_law 1099 = .ok (.iconst 1, 1) := by decide +kernel
theorem dL_law_1100 : decode cL_law 1100 = .ok (.iadd, 1) := by decide +kernel
theorem dL_law_1101 : decode cL_law 1101 = .ok (.iaload, 1) := by decide +kernel
theorem dL_law_1102 : decode cL_law 1102 = .ok (.invokevirtual 135, 3) := by decide +kernel
theorem dL_law_1105 : decode cL_law 1105 = .ok (.aload_n 2, 1) := by decide +kernel
theorem dL_law_1106 : decode cL_law 1106 = .ok (.aload_n 0, 1) := by decide +kernel
theorem dL_law_1107 : decode cL_law 1107 = .ok (.iload_n 3, 1) := by decide +kernel
theorem dL_law_1108 : decode cL_law 1108 = .ok (.iconst 1, 1) := by decide +kernel
theorem dL_law_1109 : decode cL_law 1109 = .ok (.iadd, 1) := by decide +kernel
theorem dL_law_1110 : decode cL_law 1110 = .ok (.iaload, 1) := by decide +kernel
theorem dL_law_1111 : decode cL_law 1111 = .ok (.invokevirtual 138, 3) := by decide +kernel
theorem dL_law_1114 : decode cL_law 1114 = .ok (.if_icmp .eq 305, 3) := by decide +kernel
theorem dL_law_1117 : decode cL_law 1117 = .ok (.iconst 0, 1) := by decide +kernel
theorem dL_law_1118 : decode cL_law 1118 = .ok (.ireturn, 1) := by decide +kernel
theorem dL_law_1119 : decode cL_law 1119 = .ok (.aload_n 1, 1) := by decide +kernel
theorem dL_law_1120 : decode cL_law 1120 = .ok (.aload_n 0, 1) := by decide +kernel
theorem dL_law_1121 : decode cL_law 1121 = .ok (.iload_n 3, 1) := by decide +kernel
theorem dL_law_1122 : decode cL_law 1122 = .ok (.iconst 1, 1) := by decide +kernel
theorem dL_law_1123 : decode cL_law 1123 = .ok (.iadd, 1) := by decide +kernel
theorem dL_law_1124 : decode cL_law 1124 = .ok (.iaload, 1) := by decide +kernel
theorem dL_law_1125 : decode cL_law 1125 = .ok (.aload_n 0, 1) := by decide +kernel
theorem dL_law_1126 : decode cL_law 1126 = .ok (.iload_n 3, 1) := by decide +kernel
theorem dL_law_1127 : decode cL_law 1127 = .ok (.iconst 2, 1) := by decide +kernel
theorem dL_law_1128 : decode cL_law 1128 = .ok (.iadd, 1) := by decide +kernel
theorem dL_law_1129 : decode cL_law 1129 = .ok (.iaload, 1) := by decide +kernel
theorem dL_law_1130 : decode cL_law 1130 = .ok (.aload_n 0, 1) := by decide +kernel
theorem dL_law_1131 : decode cL_law 1131 = .ok (.iload_n 3, 1) := by decide +kernel
theorem dL_law_1132 : decode cL_law 1132 = .ok (.iconst 3, 1) := by decide +kernel
theorem dL_law_1133 : decode cL_law 1133 = .ok (.iadd, 1) := by decide +kernel
theorem dL_law_1134 : decode cL_law 1134 = .ok (.iaload, 1) := by decide +kernel
theorem dL_law_1135 : decode cL_law 1135 = .ok (.aload_n 0, 1) := by decide +kernel
theorem dL_law_1136 : decode cL_law 1136 = .ok (.iload_n 3, 1) := by decide +kernel
theorem dL_law_1137 : decode cL_law 1137 = .ok (.iconst 4, 1) := by decide +kernel
theorem dL_law_1138 : decode cL_law 1138 = .ok (.iadd, 1) := by decide +kernel
theorem dL_law_1139 : decode cL_law 1139 = .ok (.iaload, 1) := by decide +kernel
theorem dL_law_1140 : decode cL_law 1140 = .ok (.aload_n 0, 1) := by decide +kernel
theorem dL_law_1141 : decode cL_law 1141 = .ok (.iload_n 3, 1) := by decide +kernel
theorem dL_law_1142 : decode cL_law 1142 = .ok (.iconst 5, 1) := by decide +kernel
theorem dL_law_1143 : decode cL_law 1143 = .ok (.iadd, 1) := by decide +kernel
theorem dL_law_1144 : decode cL_law 1144 = .ok (.iaload, 1) := by decide +kernel
theorem dL_law_1145 : decode cL_law 1145 = .ok (.invokevirtual 139, 3) := by decide +kernel
theorem dL_law_1148 : decode cL_law 1148 = .ok (.aload_n 2, 1) := by decide +kernel
theorem dL_law_1149 : decode cL_law 1149 = .ok (.aload_n 0, 1) := by decide +kernel
theorem dL_law_1150 : decode cL_law 1150 = .ok (.iload_n 3, 1) := by decide +kernel
theorem dL_law_1151 : decode cL_law 1151 = .ok (.iconst 1, 1) := by decide +kernel
theorem dL_law_1152 : decode cL_law 1152 = .ok (.iadd, 1) := by decide +kernel
theorem dL_law_1153 : decode cL_law 1153 = .ok (.iaload, 1) := by decide +kernel
theorem dL_law_1154 : decode cL_law 1154 = .ok (.aload_n 0, 1) := by decide +kernel
theorem dL_law_1155 : decode cL_law 1155 = .ok (.iload_n 3, 1) := by decide +kernel
theorem dL_law_1156 : decode cL_law 1156 = .ok (.iconst 2, 1) := by decide +kernel
theorem dL_law_1157 : decode cL_law 1157 = .ok (.iadd, 1) := by decide +kernel
theorem dL_law_1158 : decode cL_law 1158 = .ok (.iaload, 1) := by decide +kernel
theorem dL_law_1159 : decode cL_law 1159 = .ok (.aload_n 0, 1) := by decide +kernel
theorem dL_law_1160 : decode cL_law 1160 = .ok (.iload_n 3, 1) := by decide +kernel
theorem dL_law_1161 : decode cL_law 1161 = .ok (.iconst 3, 1) := by decide +kernel
theorem dL_law_1162 : decode cL_law 1162 = .ok (.iadd, 1) := by decide +kernel
theorem dL_law_1163 : decode cL_law 1163 = .ok (.iaload, 1) := by decide +kernel
theorem dL_law_1164 : decode cL_law 1164 = .ok (.aload_n 0, 1) := by decide +kernel
theorem dL_law_1165 : decode cL_law 1165 = .ok (.iload_n 3, 1) := by decide +kernel
theorem dL_law_1166 : decode cL_law 1166 = .ok (.iconst 4, 1) := by decide +kernel
theorem dL_law_1167 : decode cL_law 1167 = .ok (.iadd, 1) := by decide +kernel
theorem dL_law_1168 : decode cL_law 1168 = .ok (.iaload, 1) := by decide +kernel
theorem dL_law_1169 : decode cL_law 1169 = .ok (.aload_n 0, 1) := by decide +kernel
theorem dL_law_1170 : decode cL_law 1170 = .ok (.iload_n 3, 1) := by decide +kernel
theorem dL_law_1171 : decode cL_law 1171 = .ok (.iconst 5, 1) := by decide +kernel
theorem dL_law_1172 : decode cL_law 1172 = .ok (.iadd, 1) := by decide +kernel
theorem dL_law_1173 : decode cL_law 1173 = .ok (.iaload, 1) := by decide +kernel
theorem dL_law_1174 : decode cL_law 1174 = .ok (.invokevirtual 143, 3) := by decide +kernel
theorem dL_law_1177 : decode cL_law 1177 = .ok (.if_icmp .eq 242, 3) := by decide +kernel
theorem dL_law_1180 : decode cL_law 1180 = .ok (.iconst 0, 1) := by decide +kernel
theorem dL_law_1181 : decode cL_law 1181 = .ok (.ireturn, 1) := by decide +kernel
theorem dL_law_1182 : decode cL_law 1182 = .ok (.aload_n 1, 1) := by decide +kernel
theorem dL_law_1183 : decode cL_law 1183 = .ok (.aload_n 0, 1) := by decide +kernel
theorem dL_law_1184 : decode cL_law 1184 = .ok (.iload_n 3, 1) := by decide +kernel
theorem dL_law_1185 : decode cL_law 1185 = .ok (.iconst 1, 1) := by decide +kernel
theorem dL_law_1186 : decode cL_law 1186 = .ok (.iadd, 1) := by decide +kernel
theorem dL_law_1187 : decode cL_law 1187 = .ok (.iaload, 1) := by decide +kernel
theorem dL_law_1188 : decode cL_law 1188 = .ok (.aload_n 0, 1) := by decide +kernel
theorem dL_law_1189 : decode cL_law 1189 = .ok (.iload_n 3, 1) := by decide +kernel
theorem dL_law_1190 : decode cL_law 1190 = .ok (.iconst 2, 1) := by decide +kernel
theorem dL_law_1191 : decode cL_law 1191 = .ok (.iadd, 1) := by decide +kernel
theorem dL_law_1192 : decode cL_law 1192 = .ok (.iaload, 1) := by decide +kernel
theorem dL_law_1193 : decode cL_law 1193 = .ok (.aload_n 0, 1) := by decide +kernel
theorem dL_law_1194 : decode cL_law 1194 = .ok (.iload_n 3, 1) := by decide +kernel
theorem dL_law_1195 : decode cL_law 1195 = .ok (.iconst 3, 1) := by decide +kernel
theorem dL_law_1196 : decode cL_law 1196 = .ok (.iadd, 1) := by decide +kernel
theorem dL_law_1197 : decode cL_law 1197 = .ok (.iaload, 1) := by decide +kernel
theorem dL_law_1198 : decode cL_law 1198 = .ok (.invokevirtual 144, 3) := by decide +kernel
theorem dL_law_1201 : decode cL_law 1201 = .ok (.aload_n 2, 1) := by decide +kernel
theorem dL_law_1202 : decode cL_law 1202 = .ok (.aload_n 0, 1) := by decide +kernel
theorem dL_law_1203 : decode cL_law 1203 = .ok (.iload_n 3, 1) := by decide +kernel
theorem dL_law_1204 : decode cL_law 1204 = .ok (.iconst 1, 1) := by decide +kernel
theorem dL_law_1205 : decode cL_law 1205 = .ok (.iadd, 1) := by decide +kernel
theorem dL_law_1206 : decode cL_law 1206 = .ok (.iaload, 1) := by decide +kernel
theorem dL_law_1207 : decode cL_law 1207 = .ok (.aload_n 0, 1) := by decide +kernel
theorem dL_law_1208 : decode cL_law 1208 = .ok (.iload_n 3, 1) := by decide +kernel
theorem dL_law_1209 : decode cL_law 1209 = .ok (.iconst 2, 1) := by decide +kernel
theorem dL_law_1210 : decode cL_law 1210 = .ok (.iadd, 1) := by decide +kernel
theorem dL_law_1211 : decode cL_law 1211 = .ok (.iaload, 1) := by decide +kernel
theorem dL_law_1212 : decode cL_law 1212 = .ok (.aload_n 0, 1) := by decide +kernel
theorem dL_law_1213 : decode cL_law 1213 = .ok (.iload_n 3, 1) := by decide +kernel
theorem dL_law_1214 : decode cL_law 1214 = .ok (.iconst 3, 1) := by decide +kernel
theorem dL_law_1215 : decode cL_law 1215 = .ok (.iadd, 1) := by decide +kernel
theorem dL_law_1216 : decode cL_law 1216 = .ok (.iaload, 1) := by decide +kernel
theorem dL_law_1217 : decode cL_law 1217 = .ok (.invokevirtual 147, 3) := by decide +kernel
theorem dL_law_1220 : decode cL_law 1220 = .ok (.if_icmp .eq 199, 3) := by decide +kernel
theorem dL_law_1223 : decode cL_law 1223 = .ok (.iconst 0, 1) := by decide +kernel
theorem dL_law_1224 : decode cL_law 1224 = .ok (.ireturn, 1) := by decide +kernel
theorem dL_law_1225 : decode cL_law 1225 = .ok (.aload_n 1, 1) := by decide +kernel
theorem dL_law_1226 : decode cL_law 1226 = .ok (.aload_n 0, 1) := by decide +kernel
theorem dL_law_1227 : decode cL_law 1227 = .ok (.iload_n 3, 1) := by decide +kernel
theorem dL_law_1228 : decode cL_law 1228 = .ok (.iconst 1, 1) := by decide +kernel
theorem dL_law_1229 : decode cL_law 1229 = .ok (.iadd, 1) := by decide +kernel
theorem dL_law_1230 : decode cL_law 1230 = .ok (.iaload, 1) := by decide +kernel
theorem dL_law_1231 : decode cL_law 1231 = .ok (.aload_n 0, 1) := by decide +kernel
theorem dL_law_1232 : decode cL_law 1232 = .ok (.iload_n 3, 1) := by decide +kernel
theorem dL_law_1233 : decode cL_law 1233 = .ok (.iconst 2, 1) := by decide +kernel
theorem dL_law_1234 : decode cL_law 1234 = .ok (.iadd, 1) := by decide +kernel
theorem dL_law_1235 : decode cL_law 1235 = .ok (.iaload, 1) := by decide +kernel
theorem dL_law_1236 : decode cL_law 1236 = .ok (.invokevirtual 148, 3) := by decide +kernel
theorem dL_law_1239 : decode cL_law 1239 = .ok (.aload_n 2, 1) := by decide +kernel
theorem dL_law_1240 : decode cL_law 1240 = .ok (.aload_n 0, 1) := by decide +kernel
theorem dL_law_1241 : decode cL_law 1241 = .ok (.iload_n 3, 1) := by decide +kernel
theorem dL_law_1242 : decode cL_law 1242 = .ok (.iconst 1, 1) := by decide +kernel
theorem dL_law_1243 : decode cL_law 1243 = .ok (.iadd, 1) := by decide +kernel
theorem dL_law_1244 : decode cL_law 1244 = .ok (.iaload, 1) := by decide +kernel
theorem dL_law_1245 : decode cL_law 1245 = .ok (.aload_n 0, 1) := by decide +kernel
theorem dL_law_1246 : decode cL_law 1246 = .ok (.iload_n 3, 1) := by decide +kernel
theorem dL_law_1247 : decode cL_law 1247 = .ok (.iconst 2, 1) := by decide +kernel
theorem dL_law_1248 : decode cL_law 1248 = .ok (.iadd, 1) := by decide +kernel
theorem dL_law_1249 : decode cL_law 1249 = .ok (.iaload, 1) := by decide +kernel
theorem dL_law_1250 : decode cL_law 1250 = .ok (.invokevirtual 151, 3) := by decide +kernel
theorem dL_law_1253 : decode cL_law 1253 = .ok (.if_icmp .eq 166, 3) := by decide +kernel
theorem dL_law_1256 : decode cL_law 1256 = .ok (.iconst 0, 1) := by decide +kernel
theorem dL_law_1257 : decode cL_law 1257 = .ok (.ireturn, 1) := by decide +kernel
theorem dL_law_1258 : decode cL_law 1258 = .ok (.aload_n 1, 1) := by decide +kernel
theorem dL_law_1259 : decode cL_law 1259 = .ok (.aload_n 0, 1) := by decide +kernel
theorem dL_law_1260 : decode cL_law 1260 = .ok (.iload_n 3, 1) := by decide +kernel
theorem dL_law_1261 : decode cL_law 1261 = .ok (.iconst 1, 1) := by decide +kernel
theorem dL_law_1262 : decode cL_law 1262 = .ok (.iadd, 1) := by decide +kernel
theorem dL_law_1263 : decode cL_law 1263 = .ok (.iaload, 1) := by decide +kernel
theorem dL_law_1264 : decode cL_law 1264 = .ok (.aload_n 0, 1) := by decide +kernel
theorem dL_law_1265 : decode cL_law 1265 = .ok (.iload_n 3, 1) := by decide +kernel
theorem dL_law_1266 : decode cL_law 1266 = .ok (.iconst 2, 1) := by decide +kernel
theorem dL_law_1267 : decode cL_law 1267 = .ok (.iadd, 1) := by decide +kernel
theorem dL_law_1268 : decode cL_law 1268 = .ok (.iaload, 1) := by decide +kernel
theorem dL_law_1269 : decode cL_law 1269 = .ok (.invokevirtual 152, 3) := by decide +kernel
theorem dL_law_1272 : decode cL_law 1272 = .ok (.aload_n 2, 1) := by decide +kernel
theorem dL_law_1273 : decode cL_law 1273 = .ok (.aload_n 0, 1) := by decide +kernel
theorem dL_law_1274 : decode cL_law 1274 = .ok (.iload_n 3, 1) := by decide +kernel
theorem dL_law_1275 : decode cL_law 1275 = .ok (.iconst 1, 1) := by decide +kernel
theorem dL_law_1276 : decode cL_law 1276 = .ok (.iadd, 1) := by decide +kernel
theorem dL_law_1277 : decode cL_law 1277 = .ok (.iaload, 1) := by decide +kernel
theorem dL_law_1278 : decode cL_law 1278 = .ok (.aload_n 0, 1) := by decide +kernel
theorem dL_law_1279 : decode cL_law 1279 = .ok (.iload_n 3, 1) := by decide +kernel
theorem dL_law_1280 : decode cL_law 1280 = .ok (.iconst 2, 1) := by decide +kernel
theorem dL_law_1281 : decode cL_law 1281 = .ok (.iadd, 1) := by decide +kernel
theorem dL_law_1282 : decode cL_law 1282 = .ok (.iaload, 1) := by decide +kernel
theorem dL_law_1283 : decode cL_law 1283 = .ok (.invokevirtual 155, 3) := by decide +kernel
theorem dL_law_1286 : decode cL_law 1286 = .ok (.if_icmp .eq 133, 3) := by decide +kernel
theorem dL_law_1289 : decode cL_law 1289 = .ok (.iconst 0, 1) := by decide +kernel
theorem dL_law_1290 : decode cL_law 1290 = .ok (.ireturn, 1) := by decide +kernel
theorem dL_law_1291 : decode cL_law 1291 = .ok (.aload_n 1, 1) := by decide +kernel
theorem dL_law_1292 : decode cL_law 1292 = .ok (.aload_n 0, 1) := by decide +kernel
theorem dL_law_1293 : decode cL_law 1293 = .ok (.iload_n 3, 1) := by decide +kernel
theorem dL_law_1294 : decode cL_law 1294 = .ok (.iconst 1, 1) := by decide +kernel
theorem dL_law_1295 : decode cL_law 1295 = .ok (.iadd, 1) := by decide +kernel
theorem dL_law_1296 : decode cL_law 1296 = .ok (.iaload, 1) := by decide +kernel
theorem dL_law_1297 : decode cL_law 1297 = .ok (.aload_n 0, 1) := by decide +kernel
theorem dL_law_1298 : decode cL_law 1298 = .ok (.iload_n 3, 1) := by decide +kernel
theorem dL_law_1299 : decode cL_law 1299 = .ok (.iconst 2, 1) := by decide +kernel
theorem dL_law_1300 : decode cL_law 1300 = .ok (.iadd, 1) := by decide +kernel
theorem dL_law_1301 : decode cL_law 1301 = .ok (.iaload, 1) := by decide +kernel
theorem dL_law_1302 : decode cL_law 1302 = .ok (.invokevirtual 156, 3) := by decide +kernel
theorem dL_law_1305 : decode cL_law 1305 = .ok (.aload_n 2, 1) := by decide +kernel
theorem dL_law_1306 : decode cL_law 1306 = .ok (.aload_n 0, 1) := by decide +kernel
theorem dL_law_1307 : decode cL_law 1307 = .ok (.iload_n 3, 1) := by decide +kernel
theorem dL_law_1308 : decode cL_law 1308 = .ok (.iconst 1, 1) := by decide +kernel
theorem dL_law_1309 : decode cL_law 1309 = .ok (.iadd, 1) := by decide +kernel
theorem dL_law_1310 : decode cL_law 1310 = .ok (.iaload, 1) := by decide +kernel
theorem dL_law_1311 : decode cL_law 1311 = .ok (.aload_n 0, 1) := by decide +kernel
theorem dL_law_1312 : decode cL_law 1312 = .ok (.iload_n 3, 1) := by decide +kernel
theorem dL_law_1313 : decode cL_law 1313 = .ok (.iconst 2, 1) := by decide +kernel
theorem dL_law_1314 : decode cL_law 1314 = .ok (.iadd, 1) := by decide +kernel
theorem dL_law_1315 : decode cL_law 1315 = .ok (.iaload, 1) := by decide +kernel
theorem dL_law_1316 : decode cL_law 1316 = .ok (.invokevirtual 159, 3) := by decide +kernel
theorem dL_law_1319 : decode cL_law 1319 = .ok (.if_icmp .eq 100, 3) := by decide +kernel
theorem dL_law_1322 : decode cL_law 1322 = .ok (.iconst 0, 1) := by decide +kernel
theorem dL_law_1323 : decode cL_law 1323 = .ok (.ireturn, 1) := by decide +kernel
theorem dL_law_1324 : decode cL_law 1324 = .ok (.aload_n 1, 1) := by decide +kernel
theorem dL_law_1325 : decode cL_law 1325 = .ok (.aload_n 0, 1) := by decide +kernel
theorem dL_law_1326 : decode cL_law 1326 = .ok (.iload_n 3, 1) := by decide +kernel
theorem dL_law_1327 : decode cL_law 1327 = .ok (.iconst 1, 1) := by decide +kernel
theorem dL_law_1328 : decode cL_law 1328 = .ok (.iadd, 1) := by decide +kernel
theorem dL_law_1329 : decode cL_law 1329 = .ok (.iaload, 1) := by decide +kernel
theorem dL_law_1330 : decode cL_law 1330 = .ok (.invokevirtual 160, 3) := by decide +kernel
theorem dL_law_1333 : decode cL_law 1333 = .ok (.aload_n 2, 1) := by decide +kernel
theorem dL_law_1334 : decode cL_law 1334 = .ok (.aload_n 0, 1) := by decide +kernel
theorem dL_law_1335 : decode cL_law 1335 = .ok (.iload_n 3, 1) := by decide +kernel
theorem dL_law_1336 : decode cL_law 1336 = .ok (.iconst 1, 1) := by decide +kernel
theorem dL_law_1337 : decode cL_law 1337 = .ok (.iadd, 1) := by decide +kernel
theorem dL_law_1338 : decode cL_law 1338 = .ok (.iaload, 1) := by decide +kernel
theorem dL_law_1339 : decode cL_law 1339 = .ok (.invokevirtual 163, 3) := by decide +kernel
theorem dL_law_1342 : decode cL_law 1342 = .ok (.if_icmp .eq 77, 3) := by decide +kernel
theorem dL_law_1345 : decode cL_law 1345 = .ok (.iconst 0, 1) := by decide +kernel
theorem dL_law_1346 : decode cL_law 1346 = .ok (.ireturn, 1) := by decide +kernel
theorem dL_law_1347 : decode cL_law 1347 = .ok (.aload_n 1, 1) := by decide +kernel
theorem dL_law_1348 : decode cL_law 1348 = .ok (.aload_n 0, 1) := by decide +kernel
theorem dL_law_1349 : decode cL_law 1349 = .ok (.iload_n 3, 1) := by decide +kernel
theorem dL_law_1350 : decode cL_law 1350 = .ok (.iconst 1, 1) := by decide +kernel
theorem dL_law_1351 : decode cL_law 1351 = .ok (.iadd, 1) := by decide +kernel
theorem dL_law_1352 : decode cL_law 1352 = .ok (.iaload, 1) := by decide +kernel
theorem dL_law_1353 : decode cL_law 1353 = .ok (.invokevirtual 164, 3) := by decide +kernel
theorem dL_law_1356 : decode cL_law 1356 = .ok (.aload_n 2, 1) := by decide +kernel
theorem dL_law_1357 : decode cL_law 1357 = .ok (.aload_n 0, 1) := by decide +kernel
theorem dL_law_1358 : decode cL_law 1358 = .ok (.iload_n 3, 1) := by decide +kernel
theorem dL_law_1359 : decode cL_law 1359 = .ok (.iconst 1, 1) := by decide +kernel
theorem dL_law_1360 : decode cL_law 1360 = .ok (.iadd, 1) := by decide +kernel
theorem dL_law_1361 : decode cL_law 1361 = .ok (.iaload, 1) := by decide +kernel
theorem dL_law_1362 : decode cL_law 1362 = .ok (.invokevirtual 167, 3) := by decide +kernel
theorem dL_law_1365 : decode cL_law 1365 = .ok (.if_icmp .eq 54, 3) := by decide +kernel
theorem dL_law_1368 : decode cL_law 1368 = .ok (.iconst 0, 1) := by decide +kernel
theorem dL_law_1369 : decode cL_law 1369 = .ok (.ireturn, 1) := by decide +kernel
theorem dL_law_1370 : decode cL_law 1370 = .ok (.aload_n 1, 1) := by decide +kernel
theorem dL_law_1371 : decode cL_law 1371 = .ok (.invokevirtual 168, 3) := by decide +kernel
theorem dL_law_1374 : decode cL_law 1374 = .ok (.aload_n 2, 1) := by decide +kernel
theorem dL_law_1375 : decode cL_law 1375 = .ok (.invokevirtual 171, 3) := by decide +kernel
theorem dL_law_1378 : decode cL_law 1378 = .ok (.if_icmp .eq 41, 3) := by decide +kernel
theorem dL_law_1381 : decode cL_law 1381 = .ok (.iconst 0, 1) := by decide +kernel
theorem dL_law_1382 : decode cL_law 1382 = .ok (.ireturn, 1) := by decide +kernel
theorem dL_law_1383 : decode cL_law 1383 = .ok (.aload_n 1, 1) := by decide +kernel
theorem dL_law_1384 : decode cL_law 1384 = .ok (.invokevirtual 172, 3) := by decide +kernel
theorem dL_law_1387 : decode cL_law 1387 = .ok (.aload_n 2, 1) := by decide +kernel
theorem dL_law_1388 : decode cL_law 1388 = .ok (.invokevirtual 175, 3) := by decide +kernel
theorem dL_law_1391 : decode cL_law 1391 = .ok (.if_icmp .eq 28, 3) := by decide +kernel
theorem dL_law_1394 : decode cL_law 1394 = .ok (.iconst 0, 1) := by decide +kernel
theorem dL_law_1395 : decode cL_law 1395 = .ok (.ireturn, 1) := by decide +kernel
theorem dL_law_1396 : decode cL_law 1396 = .ok (.aload_n 1, 1) := by decide +kernel
theorem dL_law_1397 : decode cL_law 1397 = .ok (.aload_n 0, 1) := by decide +kernel
theorem dL_law_1398 : decode cL_law 1398 = .ok (.iload_n 3, 1) := by decide +kernel
theorem dL_law_1399 : decode cL_law 1399 = .ok (.iconst 1, 1) := by decide +kernel
theorem dL_law_1400 : decode cL_law 1400 = .ok (.iadd, 1) := by decide +kernel
theorem dL_law_1401 : decode cL_law 1401 = .ok (.iaload, 1) := by decide +kernel
theorem dL_law_1402 : decode cL_law 1402 = .ok (.invokevirtual 176, 3) := by decide +kernel
theorem dL_law_1405 : decode cL_law 1405 = .ok (.aload_n 2, 1) := by decide +kernel
theorem dL_law_1406 : decode cL_law 1406 = .ok (.aload_n 0, 1) := by decide +kernel
theorem dL_law_1407 : decode cL_law 1407 = .ok (.iload_n 3, 1) := by decide +kernel
theorem dL_law_1408 : decode cL_law 1408 = .ok (.iconst 1, 1) := by decide +kernel
theorem dL_law_1409 : decode cL_law 1409 = .ok (.iadd, 1) := by decide +kernel
theorem dL_law_1410 : decode cL_law 1410 = .ok (.iaload, 1) := by decide +kernel
theorem dL_law_1411 : decode cL_law 1411 = .ok (.invokevirtual 179, 3) := by decide +kernel
theorem dL_law_1414 : decode cL_law 1414 = .ok (.if_icmp .eq 5, 3) := by decide +kernel
theorem dL_law_1417 : decode cL_law 1417 = .ok (.iconst 0, 1) := by decide +kernel
theorem dL_law_1418 : decode cL_law 1418 = .ok (.ireturn, 1) := by decide +kernel
theorem dL_law_1419 : decode cL_law 1419 = .ok (.iinc 3 6, 3) := by decide +kernel
theorem dL_law_1422 : decode cL_law 1422 = .ok (.goto (-1404), 3) := by decide +kernel
theorem dL_law_1425 : decode cL_law 1425 = .ok (.iconst 1, 1) := by decide +kernel
theorem dL_law_1426 : decode cL_law 1426 = .ok (.ireturn, 1) := by decide +kernel
end
section
/-! THE ENGINE: a judgement 'Go' over the machine, with the world as numbers in a memory; a row an instruction -/
abbrev AV : Type := Int ⊕ (Int ⊕ Option Nat)
abbrev vi (x : Int) : AV := Sum.inl x
abbrev vl (x : Int) : AV := Sum.inr (Sum.inl x)
abbrev vr (j : Nat) : AV := Sum.inr (Sum.inr (some j))
abbrev vn : AV := Sum.inr (Sum.inr none)
def cv (σ : Nat → Nat) : AV → Value
  | .inl x => .int (Int32.ofInt x)
  | .inr (.inl x) => .long (Int64.ofInt x)
  | .inr (.inr none) => .null
  | .inr (.inr (some j)) => .ref (σ j)
def ct2 : AV → Bool
  | .inr (.inl _) => true
  | _ => false
def cat (v : AV) : Nat := if ct2 v = true then 2 else 1
theorem cv_cat (σ : Nat → Nat) (v : AV) : (cv σ v).category = cat v := by
  rcases v with x | x | _ | j <;> rfl
def iR (x : Int) : Prop := -2147483648 ≤ x ∧ x ≤ 2147483647
def lR (x : Int) : Prop := -9223372036854775808 ≤ x ∧ x ≤ 9223372036854775807
def aok (n : Nat) : AV → Prop
  | .inl x => iR x
  | .inr (.inl x) => lR x
  | .inr (.inr none) => True
  | .inr (.inr (some j)) => j < n ∨ 1000 ≤ j
abbrev Mem : Type := Nat → Int → Int
abbrev RefM : Type := Nat → Int → Option Nat
def uf (f : Int → Int) (k : Int) (x : Int) : Int → Int := fun j => if j = k then x else f j
def ua (μ : Mem) (i : Nat) (f : Int → Int) : Mem := fun a => if a = i then f else μ a
abbrev ud (μ : Mem) (i : Nat) (k x : Int) : Mem := ua μ i (uf (μ i) k x)
theorem ua_same (μ : Mem) (i : Nat) (f : Int → Int) : ua μ i f i = f := if_pos rfl
theorem ua_ne {μ : Mem} {i a : Nat} {f : Int → Int} (h : a ≠ i) : ua μ i f a = μ a := if_neg h
theorem uf_same (f : Int → Int) (k x : Int) : uf f k x k = x := if_pos rfl
theorem uf_ne {f : Int → Int} {k j x : Int} (h : j ≠ k) : uf f k x j = f j := if_neg h
def wr (x : Int) : Int := (Int32.ofInt x).toInt
def wrl (x : Int) : Int := (Int64.ofInt x).toInt
theorem wr_R (x : Int) : iR (wr x) := ⟨Int32.le_toInt _, Int.le_of_lt_add_one (Int32.toInt_lt _)⟩
theorem wr_id {x : Int} (h : iR x) : wr x = x := Int32.toInt_ofInt_of_le h.1 (Int.lt_add_one_of_le h.2)
theorem of_wr (x : Int) : Int32.ofInt (wr x) = Int32.ofInt x := Int32.ofInt_toInt _
theorem wrl_R (x : Int) : lR (wrl x) := ⟨Int64.le_toInt _, Int.le_of_lt_add_one (Int64.toInt_lt _)⟩
theorem wrl_id {x : Int} (h : lR x) : wrl x = x := Int64.toInt_ofInt_of_le h.1 (Int.lt_add_one_of_le h.2)
theorem of_wrl (x : Int) : Int64.ofInt (wrl x) = Int64.ofInt x := Int64.ofInt_toInt _
theorem oi_lt {a b : Int} (ha : iR a) (hb : iR b) : Int32.ofInt a < Int32.ofInt b ↔ a < b := by
  rw [Int32.lt_iff_toInt_lt]; show wr a < wr b ↔ _; rw [wr_id ha, wr_id hb]
theorem oi_le {a b : Int} (ha : iR a) (hb : iR b) : Int32.ofInt a ≤ Int32.ofInt b ↔ a ≤ b := by
  rw [Int32.le_iff_toInt_le]; show wr a ≤ wr b ↔ _; rw [wr_id ha, wr_id hb]
theorem oi_eq {a b : Int} (ha : iR a) (hb : iR b) : Int32.ofInt a = Int32.ofInt b ↔ a = b := by
  rw [← Int32.toInt_inj]; show wr a = wr b ↔ _; rw [wr_id ha, wr_id hb]
theorem ol_lt {a b : Int} (ha : lR a) (hb : lR b) : Int64.ofInt a < Int64.ofInt b ↔ a < b := by
  rw [Int64.lt_iff_toInt_lt]; show wrl a < wrl b ↔ _; rw [wrl_id ha, wrl_id hb]
theorem ol_eq {a b : Int} (ha : lR a) (hb : lR b) : Int64.ofInt a = Int64.ofInt b ↔ a = b := by
  rw [← Int64.toInt_inj]; show wrl a = wrl b ↔ _; rw [wrl_id ha, wrl_id hb]
theorem oi_nat {a : Int} (ha : iR a) : (Int32.ofInt a).toNatClampNeg = a.toNat := Int32.toNatClampNeg_ofInt_of_le ha.1 (Int.lt_add_one_of_le ha.2)
theorem oi_in {a : Int} {N : Nat} (h0 : 0 ≤ a) (h1 : a < N) (ha : iR a) : vp_in (Int32.ofInt a) N := by
  rw [vp_in_iff]; show 0 ≤ wr a ∧ wr a < _; rw [wr_id ha]; exact ⟨h0, h1⟩
/-! the shapes: what stands under each number -/
def shL : List (Nat × Nat) := [(8, 12), (1, 2), (22, 14), (20, 96)] ++ ((List.range 14).flatMap (fun _ => [(0, 4), (20, 96)])) ++ ((List.range 3).flatMap (fun _ => [(2, 14), (20, 30), (20, 30), (20, 30), (20, 24), (20, 30), (20, 30)])) ++ [(7, 2), (20, 30), (20, 30), (6, 2), (20, 96), (3, 5), (0, 4), (20, 96), (23, 4)] ++ ((List.range 4).flatMap (fun _ => [(4, 3), (20, 24)])) ++ [(24, 5)] ++ ((List.range 5).flatMap (fun _ => [(5, 6), (4, 3), (20, 24)])) ++ [(20, 60), (9, 38), (20, 3122), (20, 3122), (20, 3122), (20, 4), (20, 4), (20, 96), (20, 5), (20, 5), (20, 5), (20, 5), (20, 120), (20, 30), (20, 122), (20, 30), (20, 30), (20, 30), (20, 30), (20, 30), (21, 30), (20, 96), (20, 128), (20, 100), (20, 24), (20, 60), (20, 60)]
def shp (i : Nat) : Nat × Nat := shL.getD i (99, 0)
def isRf (ci k : Nat) : Bool := match ci with
  | 0 => k == 3
  | 1 => true
  | 2 => decide (k < 7)
  | 3 => decide (k < 2)
  | 4 => k == 2
  | 5 => k == 5
  | 6 => k == 0
  | 7 => true
  | 8 => decide (k < 10)
  | _ => !(k == 3 || (decide (21 ≤ k) && decide (k ≤ 31)) || k == 36)
def fvl (σ : Nat → Nat) (ρ : Int → Option Nat) (f : Int → Int) (ci k : Nat) : Value := if isRf ci k = true then va_rf ((ρ (k : Nat)).map σ) else .int (Int32.ofInt (f (k : Nat)))
def ent (cA : Nat → ClassId) (σ : Nat → Nat) (ρ : Int → Option Nat) (f : Int → Int) (sh : Nat × Nat) : va_E :=
  if sh.1 < 20 then .inr (sh.1, (List.range sh.2).map (fvl σ ρ f sh.1))
  else if sh.1 < 22 then .inl (cA (sh.1 - 20), sh.2, .inl (fun j => Int32.ofInt (f (j : Nat))))
  else .inl (cA (sh.1 - 20), sh.2, .inr (.inr (.inr (.inr (fun j => (ρ (j : Nat)).map σ)))))
def wl (cA : Nat → ClassId) (n : Nat) (σ : Nat → Nat) (ρ : RefM) (μ : Mem) : va_W := (List.range n).map (fun i => (σ i, ent cA σ (ρ i) (μ i) (shp i)))
theorem wl_at {cA : Nat → ClassId} {n : Nat} {σ : Nat → Nat} {ρ : RefM} {μ : Mem} {i : Nat} (h : i < n) : (wl cA n σ ρ μ)[i]? = some (σ i, ent cA σ (ρ i) (μ i) (shp i)) := by
  simp [wl, h]
theorem wl_len {cA : Nat → ClassId} {n : Nat} {σ : Nat → Nat} {ρ : RefM} {μ : Mem} : (wl cA n σ ρ μ).length = n := by simp [wl]
theorem wl_set {cA : Nat → ClassId} {n : Nat} {σ : Nat → Nat} {ρ : RefM} {μ : Mem} {i : Nat} {f : Int → Int} {q : Nat × va_E} (hq : q = (σ i, ent cA σ (ρ i) f (shp i))) : (wl cA n σ ρ μ).set i q = wl cA n σ ρ (ua μ i f) := by
  subst hq
  apply List.ext_getElem?
  intro j
  rw [List.getElem?_set]
  by_cases hj : j < n
  · rw [wl_at hj, wl_at hj, wl_len]
    by_cases h : i = j
    · subst h; rw [if_pos rfl, if_pos hj, ua_same]
    · rw [if_neg h, ua_ne (fun e => h e.symm)]
  · have e1 : (wl cA n σ ρ μ)[j]? = none := List.getElem?_eq_none (by rw [wl_len]; omega)
    have e2 : (wl cA n σ ρ (ua μ i f))[j]? = none := List.getElem?_eq_none (by rw [wl_len]; omega)
    rw [e1, e2, wl_len]
    by_cases h : i = j
    · subst h; rw [if_pos rfl, if_neg hj]
    · rw [if_neg h]
def TB : List Cond := lw_tbl.filter goodWord
theorem tb_good : ∀ w ∈ TB, (w.onTables && w.keeps) = true ∨ ∃ ty, w = .arrayClass ty := fun w h => good_of_word (List.mem_filter.mp h).2
theorem tb_lw {w : Cond} (h : w ∈ TB) : w ∈ lw_tbl := (List.mem_filter.mp h).1
theorem tb_of {w : Cond} (h : w ∈ lw_tbl) (hg : goodWord w = true) : w ∈ TB := List.mem_filter.mpr ⟨h, hg⟩
theorem tmS {w : Cond} (h : w ∈ k2_sels lw_privs) : w ∈ lw_tbl := List.mem_append_left _ h
theorem tm1 {w : Cond} (h : w ∈ tables_1_1) : w ∈ lw_tbl := List.mem_append_right _ (List.mem_append_left _ h)
theorem tm2 {w : Cond} (h : w ∈ tables_1_2) : w ∈ lw_tbl := List.mem_append_right _ (List.mem_append_right _ (List.mem_append_left _ h))
theorem tm3 {w : Cond} (h : w ∈ tables_1_3) : w ∈ lw_tbl := List.mem_append_right _ (List.mem_append_right _ (List.mem_append_right _ (List.mem_append_left _ h)))
theorem tm4 {w : Cond} (h : w ∈ tables_1_4) : w ∈ lw_tbl := List.mem_append_right _ (List.mem_append_right _ (List.mem_append_right _ (List.mem_append_right _ (List.mem_append_left _ h))))
theorem tm5 {w : Cond} (h : w ∈ tables_1_5) : w ∈ lw_tbl := List.mem_append_right _ (List.mem_append_right _ (List.mem_append_right _ (List.mem_append_right _ (List.mem_append_right _ (List.mem_append_left _ h)))))
theorem tm6 {w : Cond} (h : w ∈ tables_1_6) : w ∈ lw_tbl := List.mem_append_right _ (List.mem_append_right _ (List.mem_append_right _ (List.mem_append_right _ (List.mem_append_right _ (List.mem_append_right _ h)))))
def isNw : Cond → Bool
  | .fieldLinkNest .. => true
  | .methodLinkNest .. => true
  | _ => false
def tyA (cA : Nat → ClassId) : List (ClassId × FieldType) := [(cA 0, .int), (cA 1, .boolean), (cA 2, .object "WhiteSlope$Law"), (cA 3, .object "WhiteSlope$Sheet"), (cA 4, .object "WhiteSlope$Slot")]
/-! what stands outside the world and nobody writes: links among nest mates, OVER, the three words, two statics of the library -/
def ovr (j : Nat) : Int32 := [-1000000005, 0, 0, 1, 2, 0].getD j 0
def sLen : List Nat := [4, 4, 4]
def sByt : List (List Int32) := [[114, 105, 115, 107], [104, 111, 108, 100], [115, 116, 101, 112]]
def sIdx : List (Nat × String) := [(63, "risk"), (72, "hold"), (74, "step")]
def Ev (σ : Nat → Nat) (A : Nat → Prop) (U : State) (H : Heap) : Prop :=
  (∀ w ∈ lw_tbl, isNw w = true → va_Nw w U) ∧
  (va_AO "WhiteSlope$Law" U ∧ va_AO "WhiteSlope$Sheet" U ∧ va_AO "WhiteSlope$Slot" U) ∧
  (va_Z "WhiteSlope$Kinds" "OVER" "[I" (.ref (σ 1000)) A U H ∧ va_T .int (σ 1000) 6 (fun j => .int (ovr j)) A U H) ∧
  (va_Z "java/lang/String" "COMPACT_STRINGS" "Z" (.int 1) A U H ∧ va_Zq "jdk/internal/util/Preconditions" "SIOOBE_FORMATTER" "Ljava/util/function/BiFunction;" A U H) ∧
  (∀ i : Nat, i < 3 → vk_R "WhiteSlope$Reader" (sIdx.getD i (0, "")).1 (sIdx.getD i (0, "")).2 (σ (1001 + i)) U) ∧
  vk_S 3 sLen sByt (fun i => σ (1001 + i)) (fun i => σ (1011 + i)) A U H
theorem nw_warm {w : Cond} {s U : State} (h : isNw w = true) (hW : s.WarmedH U.vm) (hw : va_Nw w s) : va_Nw w U := by
  cases w <;> first | exact va_Nw.warmF hW hw | exact va_Nw.warmM hW hw | cases h
theorem nw_same {w : Cond} {s U : State} (h : isNw w = true) (hv : s.vm = U.vm) (hw : va_Nw w s) : va_Nw w U := by
  cases w <;> first | exact va_Nw.same rfl hv hw | cases h
theorem Ev.warm {σ : Nat → Nat} {A B : Nat → Prop} {s U : State} {H H1 : Heap} (h : Ev σ A s H) (hW : s.WarmedH U.vm) (hq : ∀ a : Nat, a < H.size → ¬ A a → H1[a]? = H[a]?) (hAB : ∀ q, B q → A q) : Ev σ B U H1 := by
  obtain ⟨h1, ⟨a1, a2, a3⟩, ⟨h2, h3⟩, ⟨h4, h5⟩, h6, h7⟩ := h
  refine ⟨fun w hw hn => nw_warm hn hW (h1 w hw hn), ⟨a1.moved hW.alike, a2.moved hW.alike, a3.moved hW.alike⟩, ⟨((h2.moved hW.alike).kept hq).narrow hAB, ((h3.moved hW.alike).kept hq).narrow hAB⟩, ⟨((h4.moved hW.alike).kept hq).narrow hAB, ?_⟩, fun i hi => (h6 i hi).warm hW, ((h7.moved hW.alike).kept hq).narrow hAB⟩
  rcases h5 with h5 | ⟨t, h5⟩
  · exact Or.inl (((h5.moved hW.alike).kept hq).narrow hAB)
  · exact Or.inr ⟨t, ((h5.moved hW.alike).kept hq).narrow hAB⟩
theorem Ev.same {σ : Nat → Nat} {A : Nat → Prop} {s U : State} {H : Heap} (h : Ev σ A s H) (hv : s.vm = U.vm) : Ev σ A U H := by
  have hal : s.vm.Alike U.vm := by rw [hv]; exact Vm.Alike.refl U.vm
  obtain ⟨h1, ⟨a1, a2, a3⟩, ⟨h2, h3⟩, ⟨h4, h5⟩, h6, h7⟩ := h
  refine ⟨fun w hw hn => nw_same hn hv (h1 w hw hn), ⟨a1.moved hal, a2.moved hal, a3.moved hal⟩, ⟨h2.moved hal, h3.moved hal⟩, ⟨h4.moved hal, h5.moved hal⟩, fun i hi => (h6 i hi).same hv.symm, h7.moved hal⟩
theorem Ev.ext {σ σ' : Nat → Nat} {A : Nat → Prop} {s : State} {H : Heap} (h : Ev σ A s H) (he : ∀ j, 1000 ≤ j → σ' j = σ j) : Ev σ' A s H := by
  obtain ⟨h1, h0, h2, h4, h6, h7⟩ := h
  refine ⟨h1, h0, ?_, h4, fun i hi => ?_, ?_⟩
  · rw [he 1000 (Nat.le_refl _)]; exact h2
  · rw [he (1001 + i) (by omega)]; exact h6 i hi
  · have e1 : (fun i => σ' (1001 + i)) = fun i => σ (1001 + i) := funext fun i => he _ (by omega)
    have e2 : (fun i => σ' (1011 + i)) = fun i => σ (1011 + i) := funext fun i => he _ (by omega)
    rw [e1, e2]; exact h7
/-! the judgement -/
abbrev XT : Type := Option (Nat × (Nat → Int))
abbrev QT : Type := Option AV → Nat → RefM → Mem → Prop
def okM (μ : Mem) : Prop := ∀ i j, iR (μ i j)
def okP (n : Nat) (ρ : RefM) : Prop := ∀ i k j, ρ i k = some j → j < n
def Rm (B : Nat × Nat × Nat) : Room := { frames := B.1, cells := B.2.1, slots := B.2.2, locals := 40 * B.1 }
def Cx (D : va_G) (cA : Nat → ClassId) (X : XT) (own : String) (cc : ByteArray) (nL : Nat) (B : Nat × Nat × Nat) (p : Program) (R : Room) (s : State) (m : MethodId) (args : Array Value) (meth : Method) (c : Code) (A : Nat → Prop) (σ0 : Nat → Nat) : Prop :=
  p.tables.exec = Jvm.exec ∧ c.code = cc ∧ c.maxLocals = nL ∧ s.vm.findClass own = some m.cls ∧ (∀ w ∈ TB, w.before args s = true) ∧
  va_K D vwCl (tyA cA) s ∧ (∀ q, s.heap.size ≤ q → A q) ∧ Ev σ0 A s s.heap ∧ (B.1 ≤ R.frames ∧ 40 * B.1 ≤ R.locals ∧ B.2.1 ≤ R.cells ∧ B.2.2 ≤ R.slots) ∧
  (∀ L xs, X = some (L, xs) → va_X (σ0 1020) L (fun j => Int32.ofInt (xs j)) s s.heap ∧ σ0 1020 < s.heap.size ∧ ¬ A (σ0 1020) ∧ ∀ j, iR (xs j))
def Wd (D : va_G) (cA : Nat → ClassId) (A : Nat → Prop) (H0 H : Heap) (locs : List Loc) (σ : Nat → Nat) (n : Nat) (ρ : RefM) (μ : Mem) : Prop :=
  va_P D vwCl (wl cA n σ ρ μ) H ∧ va_D A (wl cA n σ ρ μ) ∧ va_S A H0 H locs ∧ okM μ ∧ okP n ρ
def retI : Option AV → Instr
  | none => .return_
  | some (.inl _) => .ireturn
  | some (.inr (.inl _)) => .lreturn
  | some (.inr (.inr _)) => .areturn
def tyOK (rt : Option FieldType) (r : Option AV) : Prop := match r with
  | none => rt = none
  | some (.inl x) => rt = some .int ∨ (rt = some .boolean ∧ (x = 0 ∨ x = 1)) ∨ (rt = some .char ∧ 0 ≤ x ∧ x ≤ 65535) ∨ (rt = some .byte ∧ -128 ≤ x ∧ x ≤ 127)
  | some (.inr (.inl _)) => rt = some .long
  | some (.inr (.inr _)) => False
def Rt (l : Launch) (D : va_G) (cA : Nat → ClassId) (cc : ByteArray) (rt : Option FieldType) (B : Nat × Nat × Nat) (Qa : QT) (p : Program) (e : Env) (R : Room) (s : State) (m : MethodId) (args : Array Value) (below : List Frame) (meth : Method) (c : Code) (Q : State → Prop) (A : Nat → Prop) (n0 : Nat) (σ0 : Nat → Nat) : Prop :=
  ∀ (r : Option AV) (n : Nat) (ρ : RefM) (μ : Mem) (σ : Nat → Nat) (H : Heap) (locs : List Loc) (k z pc : Nat) (ls : Array Slot), Qa r n ρ μ → n0 ≤ n → (∀ j, j < n0 ∨ 1000 ≤ j → σ j = σ0 j) → Wd D cA A s.heap H locs σ n ρ μ → tyOK rt r → (∀ v, r = some v → aok n v) → k ≤ B.2.1 → z ≤ B.2.2 → decode cc pc = .ok (retI r, 1) →
    W p l e R s m args below meth c H locs k z Q (F0 m pc ls (r.toList.map (cv σ)))
def Go (l : Launch) (D : va_G) (cA : Nat → ClassId) (X : XT) (own : String) (cc : ByteArray) (nL : Nat) (rt : Option FieldType) (B : Nat × Nat × Nat) (Qa : QT) (n : Nat) (ρ : RefM) (k z : Nat) (pc : Nat) (L : List (Nat × AV)) (st : List AV) (μ : Mem) : Prop :=
  ∀ (p : Program) (e : Env) (R : Room) (s : State) (m : MethodId) (args : Array Value) (below : List Frame) (meth : Method) (c : Code) (Q : State → Prop) (A : Nat → Prop) (n0 : Nat) (σ0 σ : Nat → Nat) (H : Heap) (locs : List Loc) (ls : Array Slot),
    Cx D cA X own cc nL B p R s m args meth c A σ0 → Rt l D cA cc rt B Qa p e R s m args below meth c Q A n0 σ0 → n0 ≤ n → (∀ j, j < n0 ∨ 1000 ≤ j → σ j = σ0 j) → Wd D cA A s.heap H locs σ n ρ μ →
    lv_has ls nL (L.map (fun q => (q.1, cv σ q.2))) → (∀ q ∈ L, aok n q.2) → (∀ v ∈ st, aok n v) → W p l e R s m args below meth c H locs k z Q (F0 m pc ls (st.map (cv σ)))
/-! places in the frame -/
def lk : List (Nat × AV) → Nat → Option AV
  | [], _ => none
  | q :: t, k => match Nat.beq q.1 k with
    | true => some q.2
    | false => lk t k
theorem lk_mem {L : List (Nat × AV)} {k : Nat} {v : AV} (h : lk L k = some v) : (k, v) ∈ L := by
  induction L with
  | nil => cases h
  | cons q t ih =>
    unfold lk at h
    cases hb : Nat.beq q.1 k with
    | true =>
      rw [hb] at h
      have e1 : q.1 = k := Nat.eq_of_beq_eq_true hb
      have e2 : q.2 = v := Option.some.inj h
      rw [← e1, ← e2]; exact List.mem_cons_self
    | false => rw [hb] at h; exact List.mem_cons_of_mem _ (ih h)
def keep1 (k : Nat) (q : Nat × AV) : Bool := !(q.1 == k) && !(q.1 + 1 == k && ct2 q.2)
def keep2 (k : Nat) (q : Nat × AV) : Bool := !(q.1 == k) && (!(q.1 == k + 1) && !(q.1 + 1 == k && ct2 q.2))
def ins (k : Nat) (v : AV) : List (Nat × AV) → List (Nat × AV)
  | [] => [(k, v)]
  | q :: t => match Nat.blt k q.1 with
    | true => (k, v) :: q :: t
    | false => q :: ins k v t
theorem ins_mem {k : Nat} {v : AV} {L : List (Nat × AV)} {q : Nat × AV} (h : q ∈ ins k v L) : q = (k, v) ∨ q ∈ L := by
  induction L with
  | nil => exact Or.inl (List.mem_singleton.mp h)
  | cons a t ih =>
    unfold ins at h
    cases hb : Nat.blt k a.1 with
    | true => rw [hb] at h; exact List.mem_cons.mp h
    | false =>
      rw [hb] at h
      rcases List.mem_cons.mp h with e | e
      · exact Or.inr (List.mem_cons.mpr (Or.inl e))
      · rcases ih e with e | e
        · exact Or.inl e
        · exact Or.inr (List.mem_cons_of_mem _ e)
def sto (k : Nat) (v : AV) (L : List (Nat × AV)) : List (Nat × AV) := ins k v (L.filter (keep1 k))
def stl (k : Nat) (v : AV) (L : List (Nat × AV)) : List (Nat × AV) := ins k v (L.filter (keep2 k))
theorem cat_beq (σ : Nat → Nat) (v : AV) : ((cv σ v).category == 2) = ct2 v := by
  rcases v with x | x | _ | j <;> rfl
theorem sto_has {σ : Nat → Nat} {ls : Array Slot} {nL k : Nat} {v : AV} {L : List (Nat × AV)} (h : lv_has ls nL ((k, cv σ v) :: (L.map (fun q => (q.1, cv σ q.2))).filter (fun q => !(q.1 == k) && !(q.1 + 1 == k && q.2.category == 2)))) : lv_has ls nL ((sto k v L).map (fun q => (q.1, cv σ q.2))) := by
  refine ⟨h.1, h.2.1, fun q hq => h.2.2 q ?_⟩
  obtain ⟨w, hw, rfl⟩ := List.mem_map.mp hq
  rcases ins_mem hw with rfl | hw
  · exact List.mem_cons_self
  · obtain ⟨h1, h2⟩ := List.mem_filter.mp hw
    refine List.mem_cons_of_mem _ (List.mem_filter.mpr ⟨List.mem_map.mpr ⟨w, h1, rfl⟩, ?_⟩)
    simp only [cat_beq]; exact h2
theorem stl_has {σ : Nat → Nat} {ls : Array Slot} {nL k : Nat} {v : AV} {L : List (Nat × AV)} (h : lv_has ls nL ((k, cv σ v) :: (L.map (fun q => (q.1, cv σ q.2))).filter (fun q => !(q.1 == k) && (!(q.1 == k + 1) && !(q.1 + 1 == k && q.2.category == 2))))) : lv_has ls nL ((stl k v L).map (fun q => (q.1, cv σ q.2))) := by
  refine ⟨h.1, h.2.1, fun q hq => h.2.2 q ?_⟩
  obtain ⟨w, hw, rfl⟩ := List.mem_map.mp hq
  rcases ins_mem hw with rfl | hw
  · exact List.mem_cons_self
  · obtain ⟨h1, h2⟩ := List.mem_filter.mp hw
    refine List.mem_cons_of_mem _ (List.mem_filter.mpr ⟨List.mem_map.mpr ⟨w, h1, rfl⟩, ?_⟩)
    simp only [cat_beq]; exact h2
theorem sto_ok {n k : Nat} {v : AV} {L : List (Nat × AV)} (hv : aok n v) (h : ∀ q ∈ L, aok n q.2) : ∀ q ∈ sto k v L, aok n q.2 := by
  intro q hq
  rcases ins_mem hq with rfl | hq
  · exact hv
  · exact h q (List.mem_filter.mp hq).1
theorem stl_ok {n k : Nat} {v : AV} {L : List (Nat × AV)} (hv : aok n v) (h : ∀ q ∈ L, aok n q.2) : ∀ q ∈ stl k v L, aok n q.2 := by
  intro q hq
  rcases ins_mem hq with rfl | hq
  · exact hv
  · exact h q (List.mem_filter.mp hq).1
theorem lk_val {σ : Nat → Nat} {ls : Array Slot} {nL k : Nat} {v : AV} {L : List (Nat × AV)} (hl : lv_has ls nL (L.map (fun q => (q.1, cv σ q.2)))) (h : lk L k = some v) : ls[k]? = some (.val (cv σ v)) := hl.2.2 (k, cv σ v) (List.mem_map.mpr ⟨(k, v), lk_mem h, rfl⟩)
theorem lk_ok {n k : Nat} {v : AV} {L : List (Nat × AV)} (hL : ∀ q ∈ L, aok n q.2) (h : lk L k = some v) : aok n v := hL (k, v) (lk_mem h)
theorem ok_cons {n : Nat} {v : AV} {st : List AV} (hv : aok n v) (h : ∀ w ∈ st, aok n w) : ∀ w ∈ v :: st, aok n w := fun w hw => by
  rcases List.mem_cons.mp hw with rfl | hw
  · exact hv
  · exact h w hw
theorem ok_hd {n : Nat} {v : AV} {st : List AV} (h : ∀ w ∈ v :: st, aok n w) : aok n v := h v List.mem_cons_self
theorem ok_tl {n : Nat} {v : AV} {st : List AV} (h : ∀ w ∈ v :: st, aok n w) : ∀ w ∈ st, aok n w := fun w hw => h w (List.mem_cons_of_mem _ hw)
end
section
/-! THE RULES of the judgement Go, an instruction a row -/
section Rules
variable {l : Launch} {D : va_G} {cA : Nat → ClassId} {X : XT} {own : String} {cc : ByteArray} {nL : Nat} {rt : Option FieldType} {B : Nat × Nat × Nat} {Qa : QT} {n : Nat} {ρ : RefM} {k z pc : Nat} {L : List (Nat × AV)} {st : List AV} {μ : Mem}
def iRb (x : Int) : Bool := decide (-2147483648 ≤ x) && decide (x ≤ 2147483647)
theorem iR_of {x : Int} (h : iRb x = true) : iR x := by
  simp only [iRb, Bool.and_eq_true, decide_eq_true_eq] at h; exact h
def lRb (x : Int) : Bool := decide (-9223372036854775808 ≤ x) && decide (x ≤ 9223372036854775807)
theorem lR_of {x : Int} (h : lRb x = true) : lR x := by
  simp only [lRb, Bool.and_eq_true, decide_eq_true_eq] at h; exact h
theorem iR_lR {x : Int} (h : iR x) : lR x := ⟨by have := h.1; omega, by have := h.2; omega⟩
theorem go_iconst {v : Int} (d : decode cc pc = .ok (.iconst v, 1)) (hv : iRb v = true) (kk : Go l D cA X own cc nL rt B Qa n ρ k z (pc + 1) (L) (vi v :: st) (μ)) : Go l D cA X own cc nL rt B Qa n ρ k z (pc) (L) (st) (μ) := by
  intro p e R s m args below meth c Q A n0 σ0 σ H locs ls hC hR hn hσ hW hl hL hst
  obtain ⟨hx, hb, hml, hown, hts, hK, hA, hE, hB, hX⟩ := id hC
  exact lv_iconst hx hb d rfl (kk p e R s m args below meth c Q A n0 σ0 σ H locs ls hC hR hn hσ hW hl hL (ok_cons (iR_of hv) hst))
theorem go_bipush {v : Int} (d : decode cc pc = .ok (.bipush v, 2)) (hv : iRb v = true) (he : (Int8.ofInt v).toInt32 = Int32.ofInt v) (kk : Go l D cA X own cc nL rt B Qa n ρ k z (pc + 2) (L) (vi v :: st) (μ)) : Go l D cA X own cc nL rt B Qa n ρ k z (pc) (L) (st) (μ) := by
  intro p e R s m args below meth c Q A n0 σ0 σ H locs ls hC hR hn hσ hW hl hL hst
  obtain ⟨hx, hb, hml, hown, hts, hK, hA, hE, hB, hX⟩ := id hC
  exact lv_bipush hx hb d he (kk p e R s m args below meth c Q A n0 σ0 σ H locs ls hC hR hn hσ hW hl hL (ok_cons (iR_of hv) hst))
theorem go_sipush {v : Int} (d : decode cc pc = .ok (.sipush v, 3)) (hv : iRb v = true) (he : (Int16.ofInt v).toInt32 = Int32.ofInt v) (kk : Go l D cA X own cc nL rt B Qa n ρ k z (pc + 3) (L) (vi v :: st) (μ)) : Go l D cA X own cc nL rt B Qa n ρ k z (pc) (L) (st) (μ) := by
  intro p e R s m args below meth c Q A n0 σ0 σ H locs ls hC hR hn hσ hW hl hL hst
  obtain ⟨hx, hb, hml, hown, hts, hK, hA, hE, hB, hX⟩ := id hC
  exact lv_sipush hx hb d he (kk p e R s m args below meth c Q A n0 σ0 σ H locs ls hC hR hn hσ hW hl hL (ok_cons (iR_of hv) hst))
theorem go_ldc {v : Int} {index : Nat} (d : decode cc pc = .ok (.ldc index, 2)) (hc : Cond.constant own index (Int32.ofInt v) ∈ TB) (hv : iRb v = true) (kk : Go l D cA X own cc nL rt B Qa n ρ k z (pc + 2) (L) (vi v :: st) (μ)) : Go l D cA X own cc nL rt B Qa n ρ k z (pc) (L) (st) (μ) := by
  intro p e R s m args below meth c Q A n0 σ0 σ H locs ls hC hR hn hσ hW hl hL hst
  obtain ⟨hx, hb, hml, hown, hts, hK, hA, hE, hB, hX⟩ := id hC
  exact lv_ldc hx hb hown (hts _ hc) d (kk p e R s m args below meth c Q A n0 σ0 σ H locs ls hC hR hn hσ hW hl hL (ok_cons (iR_of hv) hst))
theorem go_ldcw {v : Int} {index : Nat} (d : decode cc pc = .ok (.ldc_w index, 3)) (hc : Cond.constant own index (Int32.ofInt v) ∈ TB) (hv : iRb v = true) (kk : Go l D cA X own cc nL rt B Qa n ρ k z (pc + 3) (L) (vi v :: st) (μ)) : Go l D cA X own cc nL rt B Qa n ρ k z (pc) (L) (st) (μ) := by
  intro p e R s m args below meth c Q A n0 σ0 σ H locs ls hC hR hn hσ hW hl hL hst
  obtain ⟨hx, hb, hml, hown, hts, hK, hA, hE, hB, hX⟩ := id hC
  exact lv_ldcw hx hb hown (hts _ hc) d (kk p e R s m args below meth c Q A n0 σ0 σ H locs ls hC hR hn hσ hW hl hL (ok_cons (iR_of hv) hst))
theorem go_lconst {v : Fin 2} (d : decode cc pc = .ok (.lconst v, 1)) (kk : Go l D cA X own cc nL rt B Qa n ρ k z (pc + 1) (L) (vl (v : Nat) :: st) (μ)) : Go l D cA X own cc nL rt B Qa n ρ k z (pc) (L) (st) (μ) := by
  intro p e R s m args below meth c Q A n0 σ0 σ H locs ls hC hR hn hσ hW hl hL hst
  obtain ⟨hx, hb, hml, hown, hts, hK, hA, hE, hB, hX⟩ := id hC
  exact lv_lconst hx hb d (show Int64.ofNat (v : Nat) = Int64.ofInt ((v : Nat) : Int) from rfl) (kk p e R s m args below meth c Q A n0 σ0 σ H locs ls hC hR hn hσ hW hl hL (ok_cons (show lR ((v : Nat) : Int) from by unfold lR; have := v.2; omega) hst))
theorem go_ldc2 {v : Int} {index : Nat} (d : decode cc pc = .ok (.ldc2_w index, 3)) (hc : Cond.constantLong own index (Int64.ofInt v) ∈ TB) (hv : lRb v = true) (kk : Go l D cA X own cc nL rt B Qa n ρ k z (pc + 3) (L) (vl v :: st) (μ)) : Go l D cA X own cc nL rt B Qa n ρ k z (pc) (L) (st) (μ) := by
  intro p e R s m args below meth c Q A n0 σ0 σ H locs ls hC hR hn hσ hW hl hL hst
  obtain ⟨hx, hb, hml, hown, hts, hK, hA, hE, hB, hX⟩ := id hC
  exact lv_ldc2 hx hb hown (hts _ hc) d (kk p e R s m args below meth c Q A n0 σ0 σ H locs ls hC hR hn hσ hW hl hL (ok_cons (lR_of hv) hst))
theorem go_iload_n {i : Fin 4} {x : Int} (d : decode cc pc = .ok (.iload_n i, 1)) (h : lk L (i : Nat) = some (vi x)) (kk : Go l D cA X own cc nL rt B Qa n ρ k z (pc + 1) (L) (vi x :: st) (μ)) : Go l D cA X own cc nL rt B Qa n ρ k z (pc) (L) (st) (μ) := by
  intro p e R s m args below meth c Q A n0 σ0 σ H locs ls hC hR hn hσ hW hl hL hst
  obtain ⟨hx, hb, hml, hown, hts, hK, hA, hE, hB, hX⟩ := id hC
  exact lv_iload_n hx hb d rfl (lk_val hl h) (kk p e R s m args below meth c Q A n0 σ0 σ H locs ls hC hR hn hσ hW hl hL (ok_cons (lk_ok hL h) hst))
theorem go_iload {i : Nat} {x : Int} (d : decode cc pc = .ok (.iload i, 2)) (h : lk L i = some (vi x)) (kk : Go l D cA X own cc nL rt B Qa n ρ k z (pc + 2) (L) (vi x :: st) (μ)) : Go l D cA X own cc nL rt B Qa n ρ k z (pc) (L) (st) (μ) := by
  intro p e R s m args below meth c Q A n0 σ0 σ H locs ls hC hR hn hσ hW hl hL hst
  obtain ⟨hx, hb, hml, hown, hts, hK, hA, hE, hB, hX⟩ := id hC
  exact lv_iload hx hb d (lk_val hl h) (kk p e R s m args below meth c Q A n0 σ0 σ H locs ls hC hR hn hσ hW hl hL (ok_cons (lk_ok hL h) hst))
theorem go_lload_n {i : Fin 4} {x : Int} (d : decode cc pc = .ok (.lload_n i, 1)) (h : lk L (i : Nat) = some (vl x)) (kk : Go l D cA X own cc nL rt B Qa n ρ k z (pc + 1) (L) (vl x :: st) (μ)) : Go l D cA X own cc nL rt B Qa n ρ k z (pc) (L) (st) (μ) := by
  intro p e R s m args below meth c Q A n0 σ0 σ H locs ls hC hR hn hσ hW hl hL hst
  obtain ⟨hx, hb, hml, hown, hts, hK, hA, hE, hB, hX⟩ := id hC
  exact lv_lload_n hx hb d rfl (lk_val hl h) (kk p e R s m args below meth c Q A n0 σ0 σ H locs ls hC hR hn hσ hW hl hL (ok_cons (lk_ok hL h) hst))
theorem go_lload {i : Nat} {x : Int} (d : decode cc pc = .ok (.lload i, 2)) (h : lk L i = some (vl x)) (kk : Go l D cA X own cc nL rt B Qa n ρ k z (pc + 2) (L) (vl x :: st) (μ)) : Go l D cA X own cc nL rt B Qa n ρ k z (pc) (L) (st) (μ) := by
  intro p e R s m args below meth c Q A n0 σ0 σ H locs ls hC hR hn hσ hW hl hL hst
  obtain ⟨hx, hb, hml, hown, hts, hK, hA, hE, hB, hX⟩ := id hC
  exact lv_lload hx hb d (lk_val hl h) (kk p e R s m args below meth c Q A n0 σ0 σ H locs ls hC hR hn hσ hW hl hL (ok_cons (lk_ok hL h) hst))
theorem go_aload_n {i : Fin 4} {x : Nat} (d : decode cc pc = .ok (.aload_n i, 1)) (h : lk L (i : Nat) = some (vr x)) (kk : Go l D cA X own cc nL rt B Qa n ρ k z (pc + 1) (L) (vr x :: st) (μ)) : Go l D cA X own cc nL rt B Qa n ρ k z (pc) (L) (st) (μ) := by
  intro p e R s m args below meth c Q A n0 σ0 σ H locs ls hC hR hn hσ hW hl hL hst
  obtain ⟨hx, hb, hml, hown, hts, hK, hA, hE, hB, hX⟩ := id hC
  exact lv_aload_n hx hb d rfl (lk_val hl h) (kk p e R s m args below meth c Q A n0 σ0 σ H locs ls hC hR hn hσ hW hl hL (ok_cons (lk_ok hL h) hst))
theorem go_aload {i : Nat} {x : Nat} (d : decode cc pc = .ok (.aload i, 2)) (h : lk L i = some (vr x)) (kk : Go l D cA X own cc nL rt B Qa n ρ k z (pc + 2) (L) (vr x :: st) (μ)) : Go l D cA X own cc nL rt B Qa n ρ k z (pc) (L) (st) (μ) := by
  intro p e R s m args below meth c Q A n0 σ0 σ H locs ls hC hR hn hσ hW hl hL hst
  obtain ⟨hx, hb, hml, hown, hts, hK, hA, hE, hB, hX⟩ := id hC
  exact lv_aload hx hb d (lk_val hl h) (kk p e R s m args below meth c Q A n0 σ0 σ H locs ls hC hR hn hσ hW hl hL (ok_cons (lk_ok hL h) hst))
theorem go_istore_n {i : Fin 4} {x : Int} (d : decode cc pc = .ok (.istore_n i, 1)) (hi : Nat.blt i nL = true) (kk : Go l D cA X own cc nL rt B Qa n ρ k z (pc + 1) (sto i (vi x) L) (st) (μ)) : Go l D cA X own cc nL rt B Qa n ρ k z (pc) (L) (vi x :: st) (μ) := by
  intro p e R s m args below meth c Q A n0 σ0 σ H locs ls hC hR hn hσ hW hl hL hst
  obtain ⟨hx, hb, hml, hown, hts, hK, hA, hE, hB, hX⟩ := id hC
  exact lv_istore_n hx hb d rfl hl (Nat.le_of_ble_eq_true hi) rfl (fun ls' hl' => kk p e R s m args below meth c Q A n0 σ0 σ H locs ls' hC hR hn hσ hW (sto_has (v := vi x) hl') (sto_ok (ok_hd hst) hL) (ok_tl hst))
theorem go_istore {i : Nat} {x : Int} (d : decode cc pc = .ok (.istore i, 2)) (hi : Nat.blt i nL = true) (kk : Go l D cA X own cc nL rt B Qa n ρ k z (pc + 2) (sto i (vi x) L) (st) (μ)) : Go l D cA X own cc nL rt B Qa n ρ k z (pc) (L) (vi x :: st) (μ) := by
  intro p e R s m args below meth c Q A n0 σ0 σ H locs ls hC hR hn hσ hW hl hL hst
  obtain ⟨hx, hb, hml, hown, hts, hK, hA, hE, hB, hX⟩ := id hC
  exact lv_istore hx hb d hl (Nat.le_of_ble_eq_true hi) rfl (fun ls' hl' => kk p e R s m args below meth c Q A n0 σ0 σ H locs ls' hC hR hn hσ hW (sto_has (v := vi x) hl') (sto_ok (ok_hd hst) hL) (ok_tl hst))
theorem go_astore_n {i : Fin 4} {x : Nat} (d : decode cc pc = .ok (.astore_n i, 1)) (hi : Nat.blt i nL = true) (kk : Go l D cA X own cc nL rt B Qa n ρ k z (pc + 1) (sto i (vr x) L) (st) (μ)) : Go l D cA X own cc nL rt B Qa n ρ k z (pc) (L) (vr x :: st) (μ) := by
  intro p e R s m args below meth c Q A n0 σ0 σ H locs ls hC hR hn hσ hW hl hL hst
  obtain ⟨hx, hb, hml, hown, hts, hK, hA, hE, hB, hX⟩ := id hC
  exact lv_astore_n hx hb d rfl hl (Nat.le_of_ble_eq_true hi) rfl (fun ls' hl' => kk p e R s m args below meth c Q A n0 σ0 σ H locs ls' hC hR hn hσ hW (sto_has (v := vr x) hl') (sto_ok (ok_hd hst) hL) (ok_tl hst))
theorem go_astore {i : Nat} {x : Nat} (d : decode cc pc = .ok (.astore i, 2)) (hi : Nat.blt i nL = true) (kk : Go l D cA X own cc nL rt B Qa n ρ k z (pc + 2) (sto i (vr x) L) (st) (μ)) : Go l D cA X own cc nL rt B Qa n ρ k z (pc) (L) (vr x :: st) (μ) := by
  intro p e R s m args below meth c Q A n0 σ0 σ H locs ls hC hR hn hσ hW hl hL hst
  obtain ⟨hx, hb, hml, hown, hts, hK, hA, hE, hB, hX⟩ := id hC
  exact lv_astore hx hb d hl (Nat.le_of_ble_eq_true hi) rfl (fun ls' hl' => kk p e R s m args below meth c Q A n0 σ0 σ H locs ls' hC hR hn hσ hW (sto_has (v := vr x) hl') (sto_ok (ok_hd hst) hL) (ok_tl hst))
theorem go_lstore_n {i : Fin 4} {x : Int} (d : decode cc pc = .ok (.lstore_n i, 1)) (hi : Nat.blt (i + 1) nL = true) (kk : Go l D cA X own cc nL rt B Qa n ρ k z (pc + 1) (stl i (vl x) L) (st) (μ)) : Go l D cA X own cc nL rt B Qa n ρ k z (pc) (L) (vl x :: st) (μ) := by
  intro p e R s m args below meth c Q A n0 σ0 σ H locs ls hC hR hn hσ hW hl hL hst
  obtain ⟨hx, hb, hml, hown, hts, hK, hA, hE, hB, hX⟩ := id hC
  exact lv_lstore_n hx hb d rfl hl (Nat.le_of_ble_eq_true hi) rfl (fun ls' hl' => kk p e R s m args below meth c Q A n0 σ0 σ H locs ls' hC hR hn hσ hW (stl_has (v := vl x) hl') (stl_ok (ok_hd hst) hL) (ok_tl hst))
theorem go_lstore {i : Nat} {x : Int} (d : decode cc pc = .ok (.lstore i, 2)) (hi : Nat.blt (i + 1) nL = true) (kk : Go l D cA X own cc nL rt B Qa n ρ k z (pc + 2) (stl i (vl x) L) (st) (μ)) : Go l D cA X own cc nL rt B Qa n ρ k z (pc) (L) (vl x :: st) (μ) := by
  intro p e R s m args below meth c Q A n0 σ0 σ H locs ls hC hR hn hσ hW hl hL hst
  obtain ⟨hx, hb, hml, hown, hts, hK, hA, hE, hB, hX⟩ := id hC
  exact lv_lstore hx hb d hl (Nat.le_of_ble_eq_true hi) rfl (fun ls' hl' => kk p e R s m args below meth c Q A n0 σ0 σ H locs ls' hC hR hn hσ hW (stl_has (v := vl x) hl') (stl_ok (ok_hd hst) hL) (ok_tl hst))
theorem go_iinc {i : Nat} {w x : Int} (d : decode cc pc = .ok (.iinc i w, 3)) (h : lk L i = some (vi x)) (hi : Nat.blt i nL = true) (hr : iR (x + w)) (kk : Go l D cA X own cc nL rt B Qa n ρ k z (pc + 3) (sto i (vi (x + w)) L) (st) (μ)) : Go l D cA X own cc nL rt B Qa n ρ k z (pc) (L) (st) (μ) := by
  intro p e R s m args below meth c Q A n0 σ0 σ H locs ls hC hR hn hσ hW hl hL hst
  obtain ⟨hx, hb, hml, hown, hts, hK, hA, hE, hB, hX⟩ := id hC
  obtain ⟨j, hj⟩ := List.getElem?_of_mem (lk_mem h)
  have hj2 : (L.map (fun q => (q.1, cv σ q.2)))[j]? = some (i, .int (Int32.ofInt x)) := by rw [List.getElem?_map, hj]; rfl
  exact lv_iinc (v := Int32.ofInt (x + w)) hx hb d hl hj2 (Int32.ofInt_add x w).symm (Nat.le_of_ble_eq_true hi) rfl (fun ls' hl' => kk p e R s m args below meth c Q A n0 σ0 σ H locs ls' hC hR hn hσ hW (sto_has (v := vi (x + w)) hl') (sto_ok hr hL) hst)
theorem go_iaddw {a b : Int} (d : decode cc pc = .ok (.iadd, 1)) (kk : Go l D cA X own cc nL rt B Qa n ρ k z (pc + 1) (L) (vi (wr (a + b)) :: st) (μ)) : Go l D cA X own cc nL rt B Qa n ρ k z (pc) (L) (vi b :: vi a :: st) (μ) := by
  intro p e R s m args below meth c Q A n0 σ0 σ H locs ls hC hR hn hσ hW hl hL hst
  obtain ⟨hx, hb, hml, hown, hts, hK, hA, hE, hB, hX⟩ := id hC
  refine lv_iadd hx hb d ?_
  have e0 : Int32.ofInt a + Int32.ofInt b = Int32.ofInt (wr (a + b)) := by rw [of_wr, Int32.ofInt_add]
  rw [e0]
  exact kk p e R s m args below meth c Q A n0 σ0 σ H locs ls hC hR hn hσ hW hl hL (ok_cons (wr_R _) (ok_tl (ok_tl hst)))
theorem go_iadd {a b : Int} (d : decode cc pc = .ok (.iadd, 1)) (hr : iR (a + b)) (kk : Go l D cA X own cc nL rt B Qa n ρ k z (pc + 1) (L) (vi (a + b) :: st) (μ)) : Go l D cA X own cc nL rt B Qa n ρ k z (pc) (L) (vi b :: vi a :: st) (μ) := go_iaddw d (by rw [wr_id hr]; exact kk)
theorem go_isubw {a b : Int} (d : decode cc pc = .ok (.isub, 1)) (kk : Go l D cA X own cc nL rt B Qa n ρ k z (pc + 1) (L) (vi (wr (a - b)) :: st) (μ)) : Go l D cA X own cc nL rt B Qa n ρ k z (pc) (L) (vi b :: vi a :: st) (μ) := by
  intro p e R s m args below meth c Q A n0 σ0 σ H locs ls hC hR hn hσ hW hl hL hst
  obtain ⟨hx, hb, hml, hown, hts, hK, hA, hE, hB, hX⟩ := id hC
  refine lv_isub hx hb d ?_
  have e0 : Int32.ofInt a - Int32.ofInt b = Int32.ofInt (wr (a - b)) := by rw [of_wr, Int32.ofInt_sub]
  rw [e0]
  exact kk p e R s m args below meth c Q A n0 σ0 σ H locs ls hC hR hn hσ hW hl hL (ok_cons (wr_R _) (ok_tl (ok_tl hst)))
theorem go_isub {a b : Int} (d : decode cc pc = .ok (.isub, 1)) (hr : iR (a - b)) (kk : Go l D cA X own cc nL rt B Qa n ρ k z (pc + 1) (L) (vi (a - b) :: st) (μ)) : Go l D cA X own cc nL rt B Qa n ρ k z (pc) (L) (vi b :: vi a :: st) (μ) := go_isubw d (by rw [wr_id hr]; exact kk)
theorem go_imulw {a b : Int} (d : decode cc pc = .ok (.imul, 1)) (kk : Go l D cA X own cc nL rt B Qa n ρ k z (pc + 1) (L) (vi (wr (a * b)) :: st) (μ)) : Go l D cA X own cc nL rt B Qa n ρ k z (pc) (L) (vi b :: vi a :: st) (μ) := by
  intro p e R s m args below meth c Q A n0 σ0 σ H locs ls hC hR hn hσ hW hl hL hst
  obtain ⟨hx, hb, hml, hown, hts, hK, hA, hE, hB, hX⟩ := id hC
  refine lv_imul hx hb d ?_
  have e0 : Int32.ofInt a * Int32.ofInt b = Int32.ofInt (wr (a * b)) := by rw [of_wr, Int32.ofInt_mul]
  rw [e0]
  exact kk p e R s m args below meth c Q A n0 σ0 σ H locs ls hC hR hn hσ hW hl hL (ok_cons (wr_R _) (ok_tl (ok_tl hst)))
theorem go_imul {a b : Int} (d : decode cc pc = .ok (.imul, 1)) (hr : iR (a * b)) (kk : Go l D cA X own cc nL rt B Qa n ρ k z (pc + 1) (L) (vi (a * b) :: st) (μ)) : Go l D cA X own cc nL rt B Qa n ρ k z (pc) (L) (vi b :: vi a :: st) (μ) := go_imulw d (by rw [wr_id hr]; exact kk)
theorem go_ineg {a : Int} (d : decode cc pc = .ok (.ineg, 1)) (kk : Go l D cA X own cc nL rt B Qa n ρ k z (pc + 1) (L) (vi (wr (-a)) :: st) (μ)) : Go l D cA X own cc nL rt B Qa n ρ k z (pc) (L) (vi a :: st) (μ) := by
  intro p e R s m args below meth c Q A n0 σ0 σ H locs ls hC hR hn hσ hW hl hL hst
  obtain ⟨hx, hb, hml, hown, hts, hK, hA, hE, hB, hX⟩ := id hC
  refine lv_ineg hx hb d ?_
  have e0 : -Int32.ofInt a = Int32.ofInt (wr (-a)) := by rw [of_wr, Int32.ofInt_neg]
  rw [e0]
  exact kk p e R s m args below meth c Q A n0 σ0 σ H locs ls hC hR hn hσ hW hl hL (ok_cons (wr_R _) (ok_tl hst))
theorem oi_div {a b : Int} (ha : iR a) (hb : iR b) : Int32.ofInt a / Int32.ofInt b = Int32.ofInt (wr (Int.tdiv a b)) := by
  rw [of_wr]
  refine (Int32.ofInt_tdiv ?_ ?_ ?_ ?_).symm
  · exact ha.1
  · exact ha.2
  · exact hb.1
  · exact hb.2
theorem oi_rem {a b : Int} (ha : iR a) (hb : iR b) : Int32.ofInt a - Int32.ofInt a / Int32.ofInt b * Int32.ofInt b = Int32.ofInt (wr (Int.tmod a b)) := by
  rw [oi_div ha hb, of_wr, of_wr, ← Int32.ofInt_mul, ← Int32.ofInt_sub, Int.tmod_def]
  congr 2
  rw [Int.mul_comm]
theorem oi_n0 {b : Int} (hb : iR b) (h : b ≠ 0) : ¬ Int32.ofInt b = 0 := fun e => h ((oi_eq hb (show iR 0 from ⟨by decide, by decide⟩)).mp e)
theorem go_idivw {a b : Int} (d : decode cc pc = .ok (.idiv, 1)) (h0 : b ≠ 0) (kk : Go l D cA X own cc nL rt B Qa n ρ k z (pc + 1) (L) (vi (wr (Int.tdiv a b)) :: st) (μ)) : Go l D cA X own cc nL rt B Qa n ρ k z (pc) (L) (vi b :: vi a :: st) (μ) := by
  intro p e R s m args below meth c Q A n0 σ0 σ H locs ls hC hR hn hσ hW hl hL hst
  obtain ⟨hx, hb, hml, hown, hts, hK, hA, hE, hB, hX⟩ := id hC
  refine lv_idiv hx hb d (oi_n0 (ok_hd hst) h0) ?_
  rw [oi_div (ok_hd (ok_tl hst)) (ok_hd hst)]
  exact kk p e R s m args below meth c Q A n0 σ0 σ H locs ls hC hR hn hσ hW hl hL (ok_cons (wr_R _) (ok_tl (ok_tl hst)))
theorem go_iremw {a b : Int} (d : decode cc pc = .ok (.irem, 1)) (h0 : b ≠ 0) (kk : Go l D cA X own cc nL rt B Qa n ρ k z (pc + 1) (L) (vi (wr (Int.tmod a b)) :: st) (μ)) : Go l D cA X own cc nL rt B Qa n ρ k z (pc) (L) (vi b :: vi a :: st) (μ) := by
  intro p e R s m args below meth c Q A n0 σ0 σ H locs ls hC hR hn hσ hW hl hL hst
  obtain ⟨hx, hb, hml, hown, hts, hK, hA, hE, hB, hX⟩ := id hC
  refine lv_irem hx hb d (oi_n0 (ok_hd hst) h0) ?_
  rw [oi_rem (ok_hd (ok_tl hst)) (ok_hd hst)]
  exact kk p e R s m args below meth c Q A n0 σ0 σ H locs ls hC hR hn hσ hW hl hL (ok_cons (wr_R _) (ok_tl (ok_tl hst)))
theorem go_idiv {a b : Int} (d : decode cc pc = .ok (.idiv, 1)) (ha : 0 ≤ a) (h0 : 0 < b) (kk : Go l D cA X own cc nL rt B Qa n ρ k z (pc + 1) (L) (vi (a / b) :: st) (μ)) : Go l D cA X own cc nL rt B Qa n ρ k z (pc) (L) (vi b :: vi a :: st) (μ) := by
  intro p e R s m args below meth c Q A n0 σ0 σ H locs ls hC hR hn hσ hW hl hL hst
  have hra : iR a := ok_hd (ok_tl hst)
  have e0 : wr (Int.tdiv a b) = a / b := by
    rw [Int.tdiv_eq_ediv_of_nonneg ha]
    refine wr_id ⟨?_, ?_⟩
    · have := Int.ediv_nonneg ha (Int.le_of_lt h0); omega
    · have := Int.ediv_le_self b ha; have := hra.2; omega
  exact go_idivw d (by omega) (by rw [e0]; exact kk) p e R s m args below meth c Q A n0 σ0 σ H locs ls hC hR hn hσ hW hl hL hst
theorem go_irem {a b : Int} (d : decode cc pc = .ok (.irem, 1)) (ha : 0 ≤ a) (h0 : 0 < b) (kk : Go l D cA X own cc nL rt B Qa n ρ k z (pc + 1) (L) (vi (a % b) :: st) (μ)) : Go l D cA X own cc nL rt B Qa n ρ k z (pc) (L) (vi b :: vi a :: st) (μ) := by
  intro p e R s m args below meth c Q A n0 σ0 σ H locs ls hC hR hn hσ hW hl hL hst
  have hrb : iR b := ok_hd hst
  have e0 : wr (Int.tmod a b) = a % b := by
    rw [Int.tmod_eq_emod_of_nonneg ha]
    refine wr_id ⟨?_, ?_⟩
    · have := Int.emod_nonneg a (by omega : b ≠ 0); omega
    · have := Int.emod_lt_of_pos a h0; have := hrb.2; omega
  exact go_iremw d (by omega) (by rw [e0]; exact kk) p e R s m args below meth c Q A n0 σ0 σ H locs ls hC hR hn hσ hW hl hL hst
def shlI (a b : Int) : Int := (Int32.ofInt a <<< (Int32.ofInt b &&& 31)).toInt
def shrI (a b : Int) : Int := (Int32.ofInt a >>> (Int32.ofInt b &&& 31)).toInt
def ushrI (a b : Int) : Int := ((Int32.ofInt a).toUInt32 >>> ((Int32.ofInt b).toUInt32 &&& Int32.toUInt32 31)).toInt32.toInt
def andI (a b : Int) : Int := (Int32.ofInt a &&& Int32.ofInt b).toInt
def i2sI (a : Int) : Int := (Int32.ofInt a).toInt16.toInt32.toInt
theorem tR (x : Int32) : iR x.toInt := ⟨Int32.le_toInt _, Int.le_of_lt_add_one (Int32.toInt_lt _)⟩
theorem go_ishl {a b : Int} (d : decode cc pc = .ok (.ishl, 1)) (kk : Go l D cA X own cc nL rt B Qa n ρ k z (pc + 1) (L) (vi (shlI a b) :: st) (μ)) : Go l D cA X own cc nL rt B Qa n ρ k z (pc) (L) (vi b :: vi a :: st) (μ) := by
  intro p e R s m args below meth c Q A n0 σ0 σ H locs ls hC hR hn hσ hW hl hL hst
  obtain ⟨hx, hb, hml, hown, hts, hK, hA, hE, hB, hX⟩ := id hC
  refine lv_ishl hx hb d ?_
  have K := kk p e R s m args below meth c Q A n0 σ0 σ H locs ls hC hR hn hσ hW hl hL (ok_cons (tR _) (ok_tl (ok_tl hst)))
  have e0 : cv σ (vi (shlI a b)) = Value.int _ := congrArg Value.int (Int32.ofInt_toInt _)
  rw [List.map_cons, e0] at K
  exact K
theorem go_ishr {a b : Int} (d : decode cc pc = .ok (.ishr, 1)) (kk : Go l D cA X own cc nL rt B Qa n ρ k z (pc + 1) (L) (vi (shrI a b) :: st) (μ)) : Go l D cA X own cc nL rt B Qa n ρ k z (pc) (L) (vi b :: vi a :: st) (μ) := by
  intro p e R s m args below meth c Q A n0 σ0 σ H locs ls hC hR hn hσ hW hl hL hst
  obtain ⟨hx, hb, hml, hown, hts, hK, hA, hE, hB, hX⟩ := id hC
  refine lv_ishr hx hb d ?_
  have K := kk p e R s m args below meth c Q A n0 σ0 σ H locs ls hC hR hn hσ hW hl hL (ok_cons (tR _) (ok_tl (ok_tl hst)))
  have e0 : cv σ (vi (shrI a b)) = Value.int _ := congrArg Value.int (Int32.ofInt_toInt _)
  rw [List.map_cons, e0] at K
  exact K
theorem go_iand {a b : Int} (d : decode cc pc = .ok (.iand, 1)) (kk : Go l D cA X own cc nL rt B Qa n ρ k z (pc + 1) (L) (vi (andI a b) :: st) (μ)) : Go l D cA X own cc nL rt B Qa n ρ k z (pc) (L) (vi b :: vi a :: st) (μ) := by
  intro p e R s m args below meth c Q A n0 σ0 σ H locs ls hC hR hn hσ hW hl hL hst
  obtain ⟨hx, hb, hml, hown, hts, hK, hA, hE, hB, hX⟩ := id hC
  refine lv_iand hx hb d ?_
  have K := kk p e R s m args below meth c Q A n0 σ0 σ H locs ls hC hR hn hσ hW hl hL (ok_cons (tR _) (ok_tl (ok_tl hst)))
  have e0 : cv σ (vi (andI a b)) = Value.int _ := congrArg Value.int (Int32.ofInt_toInt _)
  rw [List.map_cons, e0] at K
  exact K
theorem go_iushr {a b : Int} (d : decode cc pc = .ok (.iushr, 1)) (kk : Go l D cA X own cc nL rt B Qa n ρ k z (pc + 1) (L) (vi (ushrI a b) :: st) (μ)) : Go l D cA X own cc nL rt B Qa n ρ k z (pc) (L) (vi b :: vi a :: st) (μ) := by
  intro p e R s m args below meth c Q A n0 σ0 σ H locs ls hC hR hn hσ hW hl hL hst
  obtain ⟨hx, hb, hml, hown, hts, hK, hA, hE, hB, hX⟩ := id hC
  refine lv_iushr hx hb d rfl ?_
  have K := kk p e R s m args below meth c Q A n0 σ0 σ H locs ls hC hR hn hσ hW hl hL (ok_cons (tR _) (ok_tl (ok_tl hst)))
  have e0 : cv σ (vi (ushrI a b)) = Value.int _ := congrArg Value.int (Int32.ofInt_toInt _)
  rw [List.map_cons, e0] at K
  exact K
theorem go_i2s {a : Int} (d : decode cc pc = .ok (.i2s, 1)) (kk : Go l D cA X own cc nL rt B Qa n ρ k z (pc + 1) (L) (vi (i2sI a) :: st) (μ)) : Go l D cA X own cc nL rt B Qa n ρ k z (pc) (L) (vi a :: st) (μ) := by
  intro p e R s m args below meth c Q A n0 σ0 σ H locs ls hC hR hn hσ hW hl hL hst
  obtain ⟨hx, hb, hml, hown, hts, hK, hA, hE, hB, hX⟩ := id hC
  refine lv_i2s hx hb d rfl ?_
  have K := kk p e R s m args below meth c Q A n0 σ0 σ H locs ls hC hR hn hσ hW hl hL (ok_cons (tR _) (ok_tl hst))
  have e0 : cv σ (vi (i2sI a)) = Value.int _ := congrArg Value.int (Int32.ofInt_toInt _)
  rw [List.map_cons, e0] at K
  exact K
theorem go_i2l {a : Int} (d : decode cc pc = .ok (.i2l, 1)) (kk : Go l D cA X own cc nL rt B Qa n ρ k z (pc + 1) (L) (vl a :: st) (μ)) : Go l D cA X own cc nL rt B Qa n ρ k z (pc) (L) (vi a :: st) (μ) := by
  intro p e R s m args below meth c Q A n0 σ0 σ H locs ls hC hR hn hσ hW hl hL hst
  obtain ⟨hx, hb, hml, hown, hts, hK, hA, hE, hB, hX⟩ := id hC
  have ha : iR a := ok_hd hst
  exact lv_i2l hx hb d (Int32.toInt64_ofInt ha.1 ha.2) (kk p e R s m args below meth c Q A n0 σ0 σ H locs ls hC hR hn hσ hW hl hL (ok_cons (iR_lR ha) (ok_tl hst)))
theorem go_ladd {a b : Int} (d : decode cc pc = .ok (.ladd, 1)) (hr : lR (a + b)) (kk : Go l D cA X own cc nL rt B Qa n ρ k z (pc + 1) (L) (vl (a + b) :: st) (μ)) : Go l D cA X own cc nL rt B Qa n ρ k z (pc) (L) (vl b :: vl a :: st) (μ) := by
  intro p e R s m args below meth c Q A n0 σ0 σ H locs ls hC hR hn hσ hW hl hL hst
  obtain ⟨hx, hb, hml, hown, hts, hK, hA, hE, hB, hX⟩ := id hC
  refine lv_ladd hx hb d ?_
  rw [← Int64.ofInt_add]
  exact kk p e R s m args below meth c Q A n0 σ0 σ H locs ls hC hR hn hσ hW hl hL (ok_cons hr (ok_tl (ok_tl hst)))
theorem go_lsub {a b : Int} (d : decode cc pc = .ok (.lsub, 1)) (hr : lR (a - b)) (kk : Go l D cA X own cc nL rt B Qa n ρ k z (pc + 1) (L) (vl (a - b) :: st) (μ)) : Go l D cA X own cc nL rt B Qa n ρ k z (pc) (L) (vl b :: vl a :: st) (μ) := by
  intro p e R s m args below meth c Q A n0 σ0 σ H locs ls hC hR hn hσ hW hl hL hst
  obtain ⟨hx, hb, hml, hown, hts, hK, hA, hE, hB, hX⟩ := id hC
  refine lv_lsub hx hb d ?_
  rw [← Int64.ofInt_sub]
  exact kk p e R s m args below meth c Q A n0 σ0 σ H locs ls hC hR hn hσ hW hl hL (ok_cons hr (ok_tl (ok_tl hst)))
theorem go_lmul {a b : Int} (d : decode cc pc = .ok (.lmul, 1)) (hr : lR (a * b)) (kk : Go l D cA X own cc nL rt B Qa n ρ k z (pc + 1) (L) (vl (a * b) :: st) (μ)) : Go l D cA X own cc nL rt B Qa n ρ k z (pc) (L) (vl b :: vl a :: st) (μ) := by
  intro p e R s m args below meth c Q A n0 σ0 σ H locs ls hC hR hn hσ hW hl hL hst
  obtain ⟨hx, hb, hml, hown, hts, hK, hA, hE, hB, hX⟩ := id hC
  refine lv_lmul hx hb d ?_
  rw [← Int64.ofInt_mul]
  exact kk p e R s m args below meth c Q A n0 σ0 σ H locs ls hC hR hn hσ hW hl hL (ok_cons hr (ok_tl (ok_tl hst)))
theorem ol_div {a b : Int} (ha : lR a) (hb : lR b) : Int64.ofInt a / Int64.ofInt b = Int64.ofInt (Int.tdiv a b) := by
  refine (Int64.ofInt_tdiv ?_ ?_ ?_ ?_).symm
  · exact ha.1
  · exact ha.2
  · exact hb.1
  · exact hb.2
theorem ol_rem {a b : Int} (ha : lR a) (hb : lR b) : Int64.ofInt a - Int64.ofInt a / Int64.ofInt b * Int64.ofInt b = Int64.ofInt (Int.tmod a b) := by
  rw [ol_div ha hb, ← Int64.ofInt_mul, ← Int64.ofInt_sub, Int.tmod_def]
  congr 2
  rw [Int.mul_comm]
theorem ol_n0 {b : Int} (hb : lR b) (h : b ≠ 0) : ¬ Int64.ofInt b = 0 := fun e => h ((ol_eq hb (show lR 0 from ⟨by decide, by decide⟩)).mp e)
theorem go_ldiv {a b : Int} (d : decode cc pc = .ok (.ldiv, 1)) (ha : 0 ≤ a) (h0 : 0 < b) (kk : Go l D cA X own cc nL rt B Qa n ρ k z (pc + 1) (L) (vl (a / b) :: st) (μ)) : Go l D cA X own cc nL rt B Qa n ρ k z (pc) (L) (vl b :: vl a :: st) (μ) := by
  intro p e R s m args below meth c Q A n0 σ0 σ H locs ls hC hR hn hσ hW hl hL hst
  obtain ⟨hx, hb, hml, hown, hts, hK, hA, hE, hB, hX⟩ := id hC
  have hra : lR a := ok_hd (ok_tl hst)
  refine lv_ldiv hx hb d (ol_n0 (ok_hd hst) (by omega)) ?_
  rw [ol_div hra (ok_hd hst), Int.tdiv_eq_ediv_of_nonneg ha]
  refine kk p e R s m args below meth c Q A n0 σ0 σ H locs ls hC hR hn hσ hW hl hL (ok_cons ⟨?_, ?_⟩ (ok_tl (ok_tl hst)))
  · have := Int.ediv_nonneg ha (Int.le_of_lt h0); omega
  · have := Int.ediv_le_self b ha; have := hra.2; omega
theorem go_lrem {a b : Int} (d : decode cc pc = .ok (.lrem, 1)) (ha : 0 ≤ a) (h0 : 0 < b) (kk : Go l D cA X own cc nL rt B Qa n ρ k z (pc + 1) (L) (vl (a % b) :: st) (μ)) : Go l D cA X own cc nL rt B Qa n ρ k z (pc) (L) (vl b :: vl a :: st) (μ) := by
  intro p e R s m args below meth c Q A n0 σ0 σ H locs ls hC hR hn hσ hW hl hL hst
  obtain ⟨hx, hb, hml, hown, hts, hK, hA, hE, hB, hX⟩ := id hC
  have hrb : lR b := ok_hd hst
  refine lv_lrem hx hb d (ol_n0 (ok_hd hst) (by omega)) ?_
  rw [ol_rem (ok_hd (ok_tl hst)) hrb, Int.tmod_eq_emod_of_nonneg ha]
  refine kk p e R s m args below meth c Q A n0 σ0 σ H locs ls hC hR hn hσ hW hl hL (ok_cons ⟨?_, ?_⟩ (ok_tl (ok_tl hst)))
  · have := Int.emod_nonneg a (by omega : b ≠ 0); omega
  · have := Int.emod_lt_of_pos a h0; have := hrb.2; omega
def lcI (a b : Int) : Int := if a < b then -1 else if a = b then 0 else 1
theorem go_lcmp {a b : Int} (d : decode cc pc = .ok (.lcmp, 1)) (kk : Go l D cA X own cc nL rt B Qa n ρ k z (pc + 1) (L) (vi (lcI a b) :: st) (μ)) : Go l D cA X own cc nL rt B Qa n ρ k z (pc) (L) (vl b :: vl a :: st) (μ) := by
  intro p e R s m args below meth c Q A n0 σ0 σ H locs ls hC hR hn hσ hW hl hL hst
  obtain ⟨hx, hb, hml, hown, hts, hK, hA, hE, hB, hX⟩ := id hC
  have ha : lR a := ok_hd (ok_tl hst)
  have hb2 : lR b := ok_hd hst
  have e0 : lg_cmp (Int64.ofInt a) (Int64.ofInt b) = Int32.ofInt (lcI a b) := by
    unfold lg_cmp lcI
    by_cases h1 : a < b
    · rw [if_pos ((ol_lt ha hb2).mpr h1), if_pos h1]; rfl
    · rw [if_neg (fun h => h1 ((ol_lt ha hb2).mp h)), if_neg h1]
      by_cases h2 : a = b
      · simp [h2]
      · have h3 : ¬ Int64.ofInt a = Int64.ofInt b := fun h => h2 ((ol_eq ha hb2).mp h)
        simp [h2, h3]
  refine W.lcmp hx hb d ?_
  rw [e0]
  refine kk p e R s m args below meth c Q A n0 σ0 σ H locs ls hC hR hn hσ hW hl hL (ok_cons ?_ (ok_tl (ok_tl hst)))
  show iR (lcI a b)
  unfold lcI iR
  split
  · omega
  · split <;> omega
theorem go_icmp_eq {a b off : Int} {tgt : Nat} (d : decode cc pc = .ok (.if_icmp .eq off, 3)) (ht : (pc : Int) + off = (tgt : Int)) (kt : a = b → Go l D cA X own cc nL rt B Qa n ρ k z (tgt) (L) (st) (μ)) (kf : ¬ a = b → Go l D cA X own cc nL rt B Qa n ρ k z (pc + 3) (L) (st) (μ)) : Go l D cA X own cc nL rt B Qa n ρ k z (pc) (L) (vi b :: vi a :: st) (μ) := by
  intro p e R s m args below meth c Q A n0 σ0 σ H locs ls hC hR hn hσ hW hl hL hst
  obtain ⟨hx, hb, hml, hown, hts, hK, hA, hE, hB, hX⟩ := id hC
  have ha : iR a := ok_hd (ok_tl hst)
  have hb2 : iR b := ok_hd hst
  exact lv_icmp_eq hx hb d ht (fun h => kt ((oi_eq ha hb2).mp h) p e R s m args below meth c Q A n0 σ0 σ H locs ls hC hR hn hσ hW hl hL (ok_tl (ok_tl hst))) (fun h => kf (fun h2 => h ((oi_eq ha hb2).mpr h2)) p e R s m args below meth c Q A n0 σ0 σ H locs ls hC hR hn hσ hW hl hL (ok_tl (ok_tl hst)))
theorem go_icmp_ne {a b off : Int} {tgt : Nat} (d : decode cc pc = .ok (.if_icmp .ne off, 3)) (ht : (pc : Int) + off = (tgt : Int)) (kt : ¬ a = b → Go l D cA X own cc nL rt B Qa n ρ k z (tgt) (L) (st) (μ)) (kf : a = b → Go l D cA X own cc nL rt B Qa n ρ k z (pc + 3) (L) (st) (μ)) : Go l D cA X own cc nL rt B Qa n ρ k z (pc) (L) (vi b :: vi a :: st) (μ) := by
  intro p e R s m args below meth c Q A n0 σ0 σ H locs ls hC hR hn hσ hW hl hL hst
  obtain ⟨hx, hb, hml, hown, hts, hK, hA, hE, hB, hX⟩ := id hC
  have ha : iR a := ok_hd (ok_tl hst)
  have hb2 : iR b := ok_hd hst
  exact lv_icmp_ne hx hb d ht (fun h => kt (fun h2 => h ((oi_eq ha hb2).mpr h2)) p e R s m args below meth c Q A n0 σ0 σ H locs ls hC hR hn hσ hW hl hL (ok_tl (ok_tl hst))) (fun h => kf ((oi_eq ha hb2).mp h) p e R s m args below meth c Q A n0 σ0 σ H locs ls hC hR hn hσ hW hl hL (ok_tl (ok_tl hst)))
theorem go_icmp_lt {a b off : Int} {tgt : Nat} (d : decode cc pc = .ok (.if_icmp .lt off, 3)) (ht : (pc : Int) + off = (tgt : Int)) (kt : a < b → Go l D cA X own cc nL rt B Qa n ρ k z (tgt) (L) (st) (μ)) (kf : ¬ a < b → Go l D cA X own cc nL rt B Qa n ρ k z (pc + 3) (L) (st) (μ)) : Go l D cA X own cc nL rt B Qa n ρ k z (pc) (L) (vi b :: vi a :: st) (μ) := by
  intro p e R s m args below meth c Q A n0 σ0 σ H locs ls hC hR hn hσ hW hl hL hst
  obtain ⟨hx, hb, hml, hown, hts, hK, hA, hE, hB, hX⟩ := id hC
  have ha : iR a := ok_hd (ok_tl hst)
  have hb2 : iR b := ok_hd hst
  exact lv_icmp_lt hx hb d ht (fun h => kt ((oi_lt ha hb2).mp h) p e R s m args below meth c Q A n0 σ0 σ H locs ls hC hR hn hσ hW hl hL (ok_tl (ok_tl hst))) (fun h => kf (fun h2 => h ((oi_lt ha hb2).mpr h2)) p e R s m args below meth c Q A n0 σ0 σ H locs ls hC hR hn hσ hW hl hL (ok_tl (ok_tl hst)))
theorem go_icmp_ge {a b off : Int} {tgt : Nat} (d : decode cc pc = .ok (.if_icmp .ge off, 3)) (ht : (pc : Int) + off = (tgt : Int)) (kt : b ≤ a → Go l D cA X own cc nL rt B Qa n ρ k z (tgt) (L) (st) (μ)) (kf : ¬ b ≤ a → Go l D cA X own cc nL rt B Qa n ρ k z (pc + 3) (L) (st) (μ)) : Go l D cA X own cc nL rt B Qa n ρ k z (pc) (L) (vi b :: vi a :: st) (μ) := by
  intro p e R s m args below meth c Q A n0 σ0 σ H locs ls hC hR hn hσ hW hl hL hst
  obtain ⟨hx, hb, hml, hown, hts, hK, hA, hE, hB, hX⟩ := id hC
  have ha : iR a := ok_hd (ok_tl hst)
  have hb2 : iR b := ok_hd hst
  exact lv_icmp_ge hx hb d ht (fun h => kt ((oi_le hb2 ha).mp h) p e R s m args below meth c Q A n0 σ0 σ H locs ls hC hR hn hσ hW hl hL (ok_tl (ok_tl hst))) (fun h => kf (fun h2 => h ((oi_le hb2 ha).mpr h2)) p e R s m args below meth c Q A n0 σ0 σ H locs ls hC hR hn hσ hW hl hL (ok_tl (ok_tl hst)))
theorem go_icmp_gt {a b off : Int} {tgt : Nat} (d : decode cc pc = .ok (.if_icmp .gt off, 3)) (ht : (pc : Int) + off = (tgt : Int)) (kt : b < a → Go l D cA X own cc nL rt B Qa n ρ k z (tgt) (L) (st) (μ)) (kf : ¬ b < a → Go l D cA X own cc nL rt B Qa n ρ k z (pc + 3) (L) (st) (μ)) : Go l D cA X own cc nL rt B Qa n ρ k z (pc) (L) (vi b :: vi a :: st) (μ) := by
  intro p e R s m args below meth c Q A n0 σ0 σ H locs ls hC hR hn hσ hW hl hL hst
  obtain ⟨hx, hb, hml, hown, hts, hK, hA, hE, hB, hX⟩ := id hC
  have ha : iR a := ok_hd (ok_tl hst)
  have hb2 : iR b := ok_hd hst
  exact lv_icmp_gt hx hb d ht (fun h => kt ((oi_lt hb2 ha).mp h) p e R s m args below meth c Q A n0 σ0 σ H locs ls hC hR hn hσ hW hl hL (ok_tl (ok_tl hst))) (fun h => kf (fun h2 => h ((oi_lt hb2 ha).mpr h2)) p e R s m args below meth c Q A n0 σ0 σ H locs ls hC hR hn hσ hW hl hL (ok_tl (ok_tl hst)))
theorem go_icmp_le {a b off : Int} {tgt : Nat} (d : decode cc pc = .ok (.if_icmp .le off, 3)) (ht : (pc : Int) + off = (tgt : Int)) (kt : a ≤ b → Go l D cA X own cc nL rt B Qa n ρ k z (tgt) (L) (st) (μ)) (kf : ¬ a ≤ b → Go l D cA X own cc nL rt B Qa n ρ k z (pc + 3) (L) (st) (μ)) : Go l D cA X own cc nL rt B Qa n ρ k z (pc) (L) (vi b :: vi a :: st) (μ) := by
  intro p e R s m args below meth c Q A n0 σ0 σ H locs ls hC hR hn hσ hW hl hL hst
  obtain ⟨hx, hb, hml, hown, hts, hK, hA, hE, hB, hX⟩ := id hC
  have ha : iR a := ok_hd (ok_tl hst)
  have hb2 : iR b := ok_hd hst
  exact lv_icmp_le hx hb d ht (fun h => kt ((oi_le ha hb2).mp h) p e R s m args below meth c Q A n0 σ0 σ H locs ls hC hR hn hσ hW hl hL (ok_tl (ok_tl hst))) (fun h => kf (fun h2 => h ((oi_le ha hb2).mpr h2)) p e R s m args below meth c Q A n0 σ0 σ H locs ls hC hR hn hσ hW hl hL (ok_tl (ok_tl hst)))
theorem go_if_eq {a off : Int} {tgt : Nat} (d : decode cc pc = .ok (.ifCond .eq off, 3)) (ht : (pc : Int) + off = (tgt : Int)) (kt : a = 0 → Go l D cA X own cc nL rt B Qa n ρ k z (tgt) (L) (st) (μ)) (kf : ¬ a = 0 → Go l D cA X own cc nL rt B Qa n ρ k z (pc + 3) (L) (st) (μ)) : Go l D cA X own cc nL rt B Qa n ρ k z (pc) (L) (vi a :: st) (μ) := by
  intro p e R s m args below meth c Q A n0 σ0 σ H locs ls hC hR hn hσ hW hl hL hst
  obtain ⟨hx, hb, hml, hown, hts, hK, hA, hE, hB, hX⟩ := id hC
  have ha : iR a := ok_hd hst
  exact lv_if_eq hx hb d ht (fun h => kt ((oi_eq ha (show iR 0 from ⟨by decide, by decide⟩)).mp h) p e R s m args below meth c Q A n0 σ0 σ H locs ls hC hR hn hσ hW hl hL (ok_tl hst)) (fun h => kf (fun h2 => h ((oi_eq ha (show iR 0 from ⟨by decide, by decide⟩)).mpr h2)) p e R s m args below meth c Q A n0 σ0 σ H locs ls hC hR hn hσ hW hl hL (ok_tl hst))
theorem go_if_ne {a off : Int} {tgt : Nat} (d : decode cc pc = .ok (.ifCond .ne off, 3)) (ht : (pc : Int) + off = (tgt : Int)) (kt : ¬ a = 0 → Go l D cA X own cc nL rt B Qa n ρ k z (tgt) (L) (st) (μ)) (kf : a = 0 → Go l D cA X own cc nL rt B Qa n ρ k z (pc + 3) (L) (st) (μ)) : Go l D cA X own cc nL rt B Qa n ρ k z (pc) (L) (vi a :: st) (μ) := by
  intro p e R s m args below meth c Q A n0 σ0 σ H locs ls hC hR hn hσ hW hl hL hst
  obtain ⟨hx, hb, hml, hown, hts, hK, hA, hE, hB, hX⟩ := id hC
  have ha : iR a := ok_hd hst
  exact lv_if_ne hx hb d ht (fun h => kt (fun h2 => h ((oi_eq ha (show iR 0 from ⟨by decide, by decide⟩)).mpr h2)) p e R s m args below meth c Q A n0 σ0 σ H locs ls hC hR hn hσ hW hl hL (ok_tl hst)) (fun h => kf ((oi_eq ha (show iR 0 from ⟨by decide, by decide⟩)).mp h) p e R s m args below meth c Q A n0 σ0 σ H locs ls hC hR hn hσ hW hl hL (ok_tl hst))
theorem go_if_lt {a off : Int} {tgt : Nat} (d : decode cc pc = .ok (.ifCond .lt off, 3)) (ht : (pc : Int) + off = (tgt : Int)) (kt : a < 0 → Go l D cA X own cc nL rt B Qa n ρ k z (tgt) (L) (st) (μ)) (kf : ¬ a < 0 → Go l D cA X own cc nL rt B Qa n ρ k z (pc + 3) (L) (st) (μ)) : Go l D cA X own cc nL rt B Qa n ρ k z (pc) (L) (vi a :: st) (μ) := by
  intro p e R s m args below meth c Q A n0 σ0 σ H locs ls hC hR hn hσ hW hl hL hst
  obtain ⟨hx, hb, hml, hown, hts, hK, hA, hE, hB, hX⟩ := id hC
  have ha : iR a := ok_hd hst
  exact lv_if_lt hx hb d ht (fun h => kt ((oi_lt ha (show iR 0 from ⟨by decide, by decide⟩)).mp h) p e R s m args below meth c Q A n0 σ0 σ H locs ls hC hR hn hσ hW hl hL (ok_tl hst)) (fun h => kf (fun h2 => h ((oi_lt ha (show iR 0 from ⟨by decide, by decide⟩)).mpr h2)) p e R s m args below meth c Q A n0 σ0 σ H locs ls hC hR hn hσ hW hl hL (ok_tl hst))
theorem go_if_ge {a off : Int} {tgt : Nat} (d : decode cc pc = .ok (.ifCond .ge off, 3)) (ht : (pc : Int) + off = (tgt : Int)) (kt : 0 ≤ a → Go l D cA X own cc nL rt B Qa n ρ k z (tgt) (L) (st) (μ)) (kf : ¬ 0 ≤ a → Go l D cA X own cc nL rt B Qa n ρ k z (pc + 3) (L) (st) (μ)) : Go l D cA X own cc nL rt B Qa n ρ k z (pc) (L) (vi a :: st) (μ) := by
  intro p e R s m args below meth c Q A n0 σ0 σ H locs ls hC hR hn hσ hW hl hL hst
  obtain ⟨hx, hb, hml, hown, hts, hK, hA, hE, hB, hX⟩ := id hC
  have ha : iR a := ok_hd hst
  exact lv_if_ge hx hb d ht (fun h => kt ((oi_le (show iR 0 from ⟨by decide, by decide⟩) ha).mp h) p e R s m args below meth c Q A n0 σ0 σ H locs ls hC hR hn hσ hW hl hL (ok_tl hst)) (fun h => kf (fun h2 => h ((oi_le (show iR 0 from ⟨by decide, by decide⟩) ha).mpr h2)) p e R s m args below meth c Q A n0 σ0 σ H locs ls hC hR hn hσ hW hl hL (ok_tl hst))
theorem go_if_gt {a off : Int} {tgt : Nat} (d : decode cc pc = .ok (.ifCond .gt off, 3)) (ht : (pc : Int) + off = (tgt : Int)) (kt : 0 < a → Go l D cA X own cc nL rt B Qa n ρ k z (tgt) (L) (st) (μ)) (kf : ¬ 0 < a → Go l D cA X own cc nL rt B Qa n ρ k z (pc + 3) (L) (st) (μ)) : Go l D cA X own cc nL rt B Qa n ρ k z (pc) (L) (vi a :: st) (μ) := by
  intro p e R s m args below meth c Q A n0 σ0 σ H locs ls hC hR hn hσ hW hl hL hst
  obtain ⟨hx, hb, hml, hown, hts, hK, hA, hE, hB, hX⟩ := id hC
  have ha : iR a := ok_hd hst
  exact lv_if_gt hx hb d ht (fun h => kt ((oi_lt (show iR 0 from ⟨by decide, by decide⟩) ha).mp h) p e R s m args below meth c Q A n0 σ0 σ H locs ls hC hR hn hσ hW hl hL (ok_tl hst)) (fun h => kf (fun h2 => h ((oi_lt (show iR 0 from ⟨by decide, by decide⟩) ha).mpr h2)) p e R s m args below meth c Q A n0 σ0 σ H locs ls hC hR hn hσ hW hl hL (ok_tl hst))
theorem go_if_le {a off : Int} {tgt : Nat} (d : decode cc pc = .ok (.ifCond .le off, 3)) (ht : (pc : Int) + off = (tgt : Int)) (kt : a ≤ 0 → Go l D cA X own cc nL rt B Qa n ρ k z (tgt) (L) (st) (μ)) (kf : ¬ a ≤ 0 → Go l D cA X own cc nL rt B Qa n ρ k z (pc + 3) (L) (st) (μ)) : Go l D cA X own cc nL rt B Qa n ρ k z (pc) (L) (vi a :: st) (μ) := by
  intro p e R s m args below meth c Q A n0 σ0 σ H locs ls hC hR hn hσ hW hl hL hst
  obtain ⟨hx, hb, hml, hown, hts, hK, hA, hE, hB, hX⟩ := id hC
  have ha : iR a := ok_hd hst
  exact lv_if_le hx hb d ht (fun h => kt ((oi_le ha (show iR 0 from ⟨by decide, by decide⟩)).mp h) p e R s m args below meth c Q A n0 σ0 σ H locs ls hC hR hn hσ hW hl hL (ok_tl hst)) (fun h => kf (fun h2 => h ((oi_le ha (show iR 0 from ⟨by decide, by decide⟩)).mpr h2)) p e R s m args below meth c Q A n0 σ0 σ H locs ls hC hR hn hσ hW hl hL (ok_tl hst))
theorem go_goto {off : Int} {tgt : Nat} (d : decode cc pc = .ok (.goto off, 3)) (ht : (pc : Int) + off = (tgt : Int)) (kk : Go l D cA X own cc nL rt B Qa n ρ k z (tgt) (L) (st) (μ)) : Go l D cA X own cc nL rt B Qa n ρ k z (pc) (L) (st) (μ) := by
  intro p e R s m args below meth c Q A n0 σ0 σ H locs ls hC hR hn hσ hW hl hL hst
  obtain ⟨hx, hb, hml, hown, hts, hK, hA, hE, hB, hX⟩ := id hC
  exact lv_goto hx hb d ht (kk p e R s m args below meth c Q A n0 σ0 σ H locs ls hC hR hn hσ hW hl hL hst)
def tv (P : Prop) (h : Decidable P) : Int := @ite Int P h 1 0
theorem tv_0 {P : Prop} {h : Decidable P} : tv P h = 0 ↔ ¬ P := by
  unfold tv
  by_cases hp : P
  · rw [if_pos hp]; exact ⟨fun e => absurd e (by decide), fun e => absurd hp e⟩
  · rw [if_neg hp]; exact ⟨fun _ => hp, fun _ => rfl⟩
theorem tv_1 {P : Prop} {h : Decidable P} (hp : P) : tv P h = 1 := by unfold tv; rw [if_pos hp]
theorem tv_n {P : Prop} {h : Decidable P} (hp : ¬ P) : tv P h = 0 := by unfold tv; rw [if_neg hp]
theorem tv_01 {P : Prop} {h : Decidable P} : tv P h = 0 ∨ tv P h = 1 := by
  by_cases hp : P
  · exact Or.inr (tv_1 hp)
  · exact Or.inl (tv_n hp)
theorem go_bz {P : Prop} {h : Decidable P} {off : Int} {tgt : Nat} (d : decode cc pc = .ok (.ifCond .eq off, 3)) (ht : (pc : Int) + off = (tgt : Int)) (kt : ¬ P → Go l D cA X own cc nL rt B Qa n ρ k z (tgt) (L) (st) (μ)) (kf : P → Go l D cA X own cc nL rt B Qa n ρ k z (pc + 3) (L) (st) (μ)) : Go l D cA X own cc nL rt B Qa n ρ k z (pc) (L) (vi (tv P h) :: st) (μ) :=
  go_if_eq d ht (fun e => kt (tv_0.mp e)) (fun e => kf (Decidable.of_not_not (fun hp => e (tv_0.mpr hp))))
theorem go_bnz {P : Prop} {h : Decidable P} {off : Int} {tgt : Nat} (d : decode cc pc = .ok (.ifCond .ne off, 3)) (ht : (pc : Int) + off = (tgt : Int)) (kt : P → Go l D cA X own cc nL rt B Qa n ρ k z (tgt) (L) (st) (μ)) (kf : ¬ P → Go l D cA X own cc nL rt B Qa n ρ k z (pc + 3) (L) (st) (μ)) : Go l D cA X own cc nL rt B Qa n ρ k z (pc) (L) (vi (tv P h) :: st) (μ) :=
  go_if_ne d ht (fun e => kt (Decidable.of_not_not (fun hp => e (tv_0.mpr hp)))) (fun e => kf (tv_0.mp e))
theorem go_dup {v : AV} (d : decode cc pc = .ok (.dup, 1)) (hv : ct2 v = false) (kk : Go l D cA X own cc nL rt B Qa n ρ k z (pc + 1) (L) (v :: v :: st) (μ)) : Go l D cA X own cc nL rt B Qa n ρ k z (pc) (L) (v :: st) (μ) := by
  intro p e R s m args below meth c Q A n0 σ0 σ H locs ls hC hR hn hσ hW hl hL hst
  obtain ⟨hx, hb, hml, hown, hts, hK, hA, hE, hB, hX⟩ := id hC
  exact lv_dup hx hb d (by rw [cv_cat, cat, hv]; rfl) (kk p e R s m args below meth c Q A n0 σ0 σ H locs ls hC hR hn hσ hW hl hL (ok_cons (ok_hd hst) hst))
theorem go_pop {v : AV} (d : decode cc pc = .ok (.pop, 1)) (hv : ct2 v = false) (kk : Go l D cA X own cc nL rt B Qa n ρ k z (pc + 1) (L) (st) (μ)) : Go l D cA X own cc nL rt B Qa n ρ k z (pc) (L) (v :: st) (μ) := by
  intro p e R s m args below meth c Q A n0 σ0 σ H locs ls hC hR hn hσ hW hl hL hst
  obtain ⟨hx, hb, hml, hown, hts, hK, hA, hE, hB, hX⟩ := id hC
  exact lv_pop hx hb d (by rw [cv_cat, cat, hv]; rfl) (kk p e R s m args below meth c Q A n0 σ0 σ H locs ls hC hR hn hσ hW hl hL (ok_tl hst))
theorem go_dup2 {v w : AV} (d : decode cc pc = .ok (.dup2, 1)) (hv : ct2 v = false) (hw : ct2 w = false) (kk : Go l D cA X own cc nL rt B Qa n ρ k z (pc + 1) (L) (v :: w :: v :: w :: st) (μ)) : Go l D cA X own cc nL rt B Qa n ρ k z (pc) (L) (v :: w :: st) (μ) := by
  intro p e R s m args below meth c Q A n0 σ0 σ H locs ls hC hR hn hσ hW hl hL hst
  obtain ⟨hx, hb, hml, hown, hts, hK, hA, hE, hB, hX⟩ := id hC
  exact lv_dup2_11 hx hb d (by rw [cv_cat, cat, hv]; rfl) (by rw [cv_cat, cat, hw]; rfl) (kk p e R s m args below meth c Q A n0 σ0 σ H locs ls hC hR hn hσ hW hl hL (ok_cons (ok_hd hst) (ok_cons (ok_hd (ok_tl hst)) hst)))
theorem go_tabIn {dflt lo hi off : Int} {offs : Array Int} {len : Nat} {a : Int} {tgt : Nat} (d : decode cc pc = .ok (.tableswitch dflt lo hi offs, len)) (h1 : lo ≤ a) (h2 : a ≤ hi) (ho : offs[(a - lo).toNat]? = some off) (ht : (pc : Int) + off = (tgt : Int)) (kk : Go l D cA X own cc nL rt B Qa n ρ k z (tgt) (L) (st) (μ)) : Go l D cA X own cc nL rt B Qa n ρ k z (pc) (L) (vi a :: st) (μ) := by
  intro p e R s m args below meth c Q A n0 σ0 σ H locs ls hC hR hn hσ hW hl hL hst
  obtain ⟨hx, hb, hml, hown, hts, hK, hA, hE, hB, hX⟩ := id hC
  have ha : wr a = a := wr_id (ok_hd hst)
  unfold wr at ha
  exact lv_tableIn hx hb d (by rw [ha]; omega) (by rw [ha]; omega) (by rw [ha]; exact ho) ht (kk p e R s m args below meth c Q A n0 σ0 σ H locs ls hC hR hn hσ hW hl hL (ok_tl hst))
theorem go_tabOut {dflt lo hi : Int} {offs : Array Int} {len : Nat} {a : Int} {tgt : Nat} (d : decode cc pc = .ok (.tableswitch dflt lo hi offs, len)) (h : a < lo ∨ hi < a) (ht : (pc : Int) + dflt = (tgt : Int)) (kk : Go l D cA X own cc nL rt B Qa n ρ k z (tgt) (L) (st) (μ)) : Go l D cA X own cc nL rt B Qa n ρ k z (pc) (L) (vi a :: st) (μ) := by
  intro p e R s m args below meth c Q A n0 σ0 σ H locs ls hC hR hn hσ hW hl hL hst
  obtain ⟨hx, hb, hml, hown, hts, hK, hA, hE, hB, hX⟩ := id hC
  have ha : wr a = a := wr_id (ok_hd hst)
  unfold wr at ha
  exact lv_tableOut hx hb d (by rw [ha]; exact h) ht (kk p e R s m args below meth c Q A n0 σ0 σ H locs ls hC hR hn hσ hW hl hL (ok_tl hst))
theorem go_lookup {dflt off : Int} {ps : Array (Int × Int)} {len : Nat} {a : Int} {tgt : Nat} (d : decode cc pc = .ok (.lookupswitch dflt ps, len)) (hp : (ps.toList.zip (ps.toList.drop 1)).all (fun (a, next) => a.1 < next.1) = true) (ho : Op.lookupswitch.offset ps.toList dflt a = off) (ht : (pc : Int) + off = (tgt : Int)) (kk : Go l D cA X own cc nL rt B Qa n ρ k z (tgt) (L) (st) (μ)) : Go l D cA X own cc nL rt B Qa n ρ k z (pc) (L) (vi a :: st) (μ) := by
  intro p e R s m args below meth c Q A n0 σ0 σ H locs ls hC hR hn hσ hW hl hL hst
  obtain ⟨hx, hb, hml, hown, hts, hK, hA, hE, hB, hX⟩ := id hC
  have ha : wr a = a := wr_id (ok_hd hst)
  unfold wr at ha
  exact lv_lookup hx hb d hp (by rw [ha]; exact ho) ht (kk p e R s m args below meth c Q A n0 σ0 σ H locs ls hC hR hn hσ hW hl hL (ok_tl hst))
theorem go_drop {L' : List (Nat × AV)} (kk : Go l D cA X own cc nL rt B Qa n ρ k z (pc) (L') (st) (μ)) (h : L'.map (fun q => lk L q.1) = L'.map (fun q => some q.2)) : Go l D cA X own cc nL rt B Qa n ρ k z (pc) (L) (st) (μ) := by
  intro p e R s m args below meth c Q A n0 σ0 σ H locs ls hC hR hn hσ hW hl hL hst
  have hm : ∀ q ∈ L', lk L q.1 = some q.2 := List.map_inj_left.mp h
  refine kk p e R s m args below meth c Q A n0 σ0 σ H locs ls hC hR hn hσ hW ⟨hl.1, hl.2.1, fun q hq => ?_⟩ (fun q hq => hL q (lk_mem (hm q hq))) hst
  obtain ⟨w, hw, rfl⟩ := List.mem_map.mp hq
  exact lk_val hl (hm w hw)
theorem go_ret {r : Option AV} (d : decode cc pc = .ok (retI r, 1)) (hty : tyOK rt r) (hs : r.toList = st) (hk : k ≤ B.2.1) (hz : z ≤ B.2.2) (hq : Qa r n ρ μ) : Go l D cA X own cc nL rt B Qa n ρ k z (pc) (L) (st) (μ) := by
  intro p e R s m args below meth c Q A n0 σ0 σ H locs ls hC hR hn hσ hW hl hL hst
  subst hs
  exact hR r n ρ μ σ H locs k z pc ls hq hn hσ hW hty (fun v hv => hst v (by rw [hv]; exact List.mem_cons_self)) hk hz d
end Rules
end
section
/-! THE RULES of fields, rows and calls -/
section Heap
variable {l : Launch} {D : va_G} {cA : Nat → ClassId} {X : XT} {own : String} {cc : ByteArray} {nL : Nat} {rt : Option FieldType} {B : Nat × Nat × Nat} {Qa : QT} {n : Nat} {ρ : RefM} {k z pc : Nat} {L : List (Nat × AV)} {st : List AV} {μ : Mem}
def FL (own : String) (index ci kf : Nat) (C : String) (T : u_T) (N : Nat) : Prop := vwCl[ci]? = some (C, T, N) ∧ kf < N ∧ (∀ w ∈ u_ws C T N, w ∈ TB) ∧ ci < 20 ∧ (T kf).1 = C ∧ (Cond.fieldLink own index C (T kf).2.1 (T kf).2.2.1 ∈ TB ∨ Cond.fieldLinkNest own index C (T kf).2.1 (T kf).2.2.1 "WhiteSlope" ∈ lw_tbl)
def PL (own : String) (index ci kf : Nat) (C : String) (T : u_T) (N : Nat) (ty : FieldType) : Prop := FL own index ci kf C T N ∧ (∃ ty0 : Nat → FieldType, ∀ k, k < N → parseFieldDescriptor (T k).2.2.1 = some (ty0 k)) ∧ (∀ a, a < N → ∀ b, b < N → a ≠ b → (T a).2.1 ≠ (T b).2.1) ∧ (T kf).2.2.2 = false ∧ parseFieldDescriptor (T kf).2.2.1 = some ty
theorem ent_o {cA : Nat → ClassId} {σ : Nat → Nat} {ρ : Int → Option Nat} {f : Int → Int} {ci N : Nat} (h : ci < 20) : ent cA σ ρ f (ci, N) = .inr (ci, (List.range N).map (fvl σ ρ f ci)) := by
  unfold ent; rw [if_pos h]
theorem ent_i {cA : Nat → ClassId} {σ : Nat → Nat} {ρ : Int → Option Nat} {f : Int → Int} {N : Nat} : ent cA σ ρ f (20, N) = .inl (cA 0, N, .inl (fun j => Int32.ofInt (f (j : Nat)))) := rfl
theorem ent_z {cA : Nat → ClassId} {σ : Nat → Nat} {ρ : Int → Option Nat} {f : Int → Int} {N : Nat} : ent cA σ ρ f (21, N) = .inl (cA 1, N, .inl (fun j => Int32.ofInt (f (j : Nat)))) := rfl
theorem fvl_at {σ : Nat → Nat} {ρ : Int → Option Nat} {f : Int → Int} {ci N kf : Nat} (h : kf < N) : ((List.range N).map (fvl σ ρ f ci))[kf]? = some (fvl σ ρ f ci kf) := by simp [h]
theorem fvl_set {σ : Nat → Nat} {ρ : Int → Option Nat} {f : Int → Int} {ci N kf : Nat} {x : Int} (hr : isRf ci kf = false) : ((List.range N).map (fvl σ ρ f ci)).set kf (.int (Int32.ofInt x)) = (List.range N).map (fvl σ ρ (uf f (kf : Nat) x) ci) := by
  apply List.ext_getElem?
  intro j
  rw [List.getElem?_set]
  by_cases hj : j < N
  · rw [fvl_at hj, fvl_at hj, List.length_map, List.length_range]
    by_cases h : kf = j
    · subst h
      rw [if_pos rfl, if_pos hj]
      unfold fvl
      rw [hr, uf_same]
      rfl
    · rw [if_neg h]
      unfold fvl
      rw [uf_ne (fun e => h (Int.ofNat.inj e).symm)]
  · have e1 : ∀ g : Nat → Value, ((List.range N).map g)[j]? = none := fun g => List.getElem?_eq_none (by simp; omega)
    rw [e1, e1, List.length_map, List.length_range]
    by_cases h : kf = j
    · subst h; rw [if_pos rfl, if_neg hj]
    · rw [if_neg h]
theorem wl_o {σ : Nat → Nat} {i ci N : Nat} (hi : i < n) (hs : shp i = (ci, N)) (h : ci < 20) : (wl cA n σ ρ μ)[i]? = some (σ i, .inr (ci, (List.range N).map (fvl σ (ρ i) (μ i) ci))) := by
  rw [wl_at hi, hs, ent_o h]
theorem wl_i {σ : Nat → Nat} {i N : Nat} (hi : i < n) (hs : shp i = (20, N)) : (wl cA n σ ρ μ)[i]? = some (σ i, .inl (cA 0, N, .inl (fun j => Int32.ofInt (μ i (j : Nat))))) := by
  rw [wl_at hi, hs, ent_i]
theorem wl_z {σ : Nat → Nat} {i N : Nat} (hi : i < n) (hs : shp i = (21, N)) : (wl cA n σ ρ μ)[i]? = some (σ i, .inl (cA 1, N, .inl (fun j => Int32.ofInt (μ i (j : Nat))))) := by
  rw [wl_at hi, hs, ent_z]
theorem okM_ud {i : Nat} {a x : Int} (h : okM μ) (hx : iR x) : okM (ud μ i a x) := by
  intro p q
  unfold ud ua
  by_cases e : p = i
  · rw [if_pos e]; unfold uf
    by_cases e2 : q = a
    · rw [if_pos e2]; exact hx
    · rw [if_neg e2]; exact h i q
  · rw [if_neg e]; exact h p q
theorem Wd.upd {A : Nat → Prop} {H0 H H1 : Heap} {locs locs1 : List Loc} {σ : Nat → Nat} {μ' : Mem} {ws : va_W} (h : Wd D cA A H0 H locs σ n ρ μ) (e : ws = wl cA n σ ρ μ') (hM : okM μ') (hP : va_P D vwCl ws H1) (hD : va_D A ws) (hS : va_S A H0 H1 locs1) : Wd D cA A H0 H1 locs1 σ n ρ μ' := by
  subst e
  exact ⟨hP, hD, hS, hM, h.2.2.2.2⟩
theorem go_getv {index ci kf i N : Nat} {C : String} {T : u_T} {v : AV} (d : decode cc pc = .ok (.getfield index, 3)) (F : FL own index ci kf C T N) (hi : i < n) (hs : shp i = (ci, N)) (hv : ∀ σ, fvl σ (ρ i) (μ i) ci kf = cv σ v) (hav : okM μ → okP n ρ → aok n v) (kk : Go l D cA X own cc nL rt B Qa n ρ k z (pc + 3) L (v :: st) μ) : Go l D cA X own cc nL rt B Qa n ρ k z pc L (vr i :: st) μ := by
  intro p e R s m args below meth c Q A n0 σ0 σ H locs ls hC hR hn hσ hW hl hL hst
  obtain ⟨hx, hb, hml, hown, hts, hK, hA, hE, hB, hX⟩ := id hC
  obtain ⟨hc, hk, hin, hci, hC1, hlk⟩ := F
  have he := wl_o (cA := cA) (ρ := ρ) (μ := μ) (σ := σ) hi hs hci
  have K := kk p e R s m args below meth c Q A n0 σ0 σ H locs ls hC hR hn hσ hW hl hL (ok_cons (hav hW.2.2.2.1 hW.2.2.2.2) (ok_tl hst))
  have hv2 := (fvl_at (σ := σ) (ρ := ρ i) (f := μ i) (ci := ci) hk).trans (congrArg some (hv σ))
  rcases hlk with hlk | hlk
  · exact va_get (T := T) (N := N) hx hb hts hin hown hK hW.1 i he hc kf hk (hts _ hlk) (fun x h => by rw [hC1] at h; exact h) hv2 d K
  · exact va_getN (T := T) (N := N) hx hb hts hin hown hK hW.1 i he hc kf hk (va_Nw.use rfl (hE.1 _ hlk rfl)) (fun x h => by rw [hC1] at h; exact h) hv2 d K
theorem go_getI {index ci kf i N : Nat} {C : String} {T : u_T} (d : decode cc pc = .ok (.getfield index, 3)) (F : FL own index ci kf C T N) (hi : i < n) (hs : shp i = (ci, N)) (hr : isRf ci kf = false) (kk : Go l D cA X own cc nL rt B Qa n ρ k z (pc + 3) L (vi (μ i (kf : Nat)) :: st) μ) : Go l D cA X own cc nL rt B Qa n ρ k z pc L (vr i :: st) μ :=
  go_getv d F hi hs (fun σ => by unfold fvl; rw [hr]; rfl) (fun h _ => h _ _) kk
theorem go_getR {index ci kf i j N : Nat} {C : String} {T : u_T} (d : decode cc pc = .ok (.getfield index, 3)) (F : FL own index ci kf C T N) (hi : i < n) (hs : shp i = (ci, N)) (hr : isRf ci kf = true) (hj : ρ i (kf : Nat) = some j) (kk : Go l D cA X own cc nL rt B Qa n ρ k z (pc + 3) L (vr j :: st) μ) : Go l D cA X own cc nL rt B Qa n ρ k z pc L (vr i :: st) μ :=
  go_getv d F hi hs (fun σ => by unfold fvl; rw [hr, hj]; rfl) (fun _ h => Or.inl (h _ _ _ hj)) kk
theorem go_putv {index ci kf i N : Nat} {C : String} {T : u_T} {x : Int} {ty : FieldType} (d : decode cc pc = .ok (.putfield index, 3)) (F : PL own index ci kf C T N ty) (hn1 : narrow ty (.int (Int32.ofInt x)) = .int (Int32.ofInt x)) (hf1 : fits ty (.int (Int32.ofInt x)) = true) (hi : i < n) (hs : shp i = (ci, N)) (hr : isRf ci kf = false) (kk : Go l D cA X own cc nL rt B Qa n ρ k z (pc + 3) L st (ud μ i (kf : Nat) x)) : Go l D cA X own cc nL rt B Qa n ρ k z pc L (vi x :: vr i :: st) μ := by
  intro p e R s m args below meth c Q A n0 σ0 σ H locs ls hC hR hn hσ hW hl hL hst
  obtain ⟨hx, hb, hml, hown, hts, hK, hA, hE, hB, hX⟩ := id hC
  obtain ⟨⟨hc, hk, hin, hci, hC1, hlk⟩, ⟨ty0, hty⟩, hnm, hfin, hd⟩ := F
  have he := wl_o (cA := cA) (ρ := ρ) (μ := μ) (σ := σ) hi hs hci
  have hlen : kf < ((List.range N).map (fvl σ (ρ i) (μ i) ci)).length := by simp; exact hk
  have hset : (wl cA n σ ρ μ).set i (σ i, .inr (ci, ((List.range N).map (fvl σ (ρ i) (μ i) ci)).set kf (.int (Int32.ofInt x)))) = wl cA n σ ρ (ud μ i (kf : Nat) x) := wl_set (by rw [fvl_set hr, hs, ent_o hci])
  have hxr : iR x := ok_hd hst
  have K := fun H1 locs1 hP1 hD1 hS1 => kk p e R s m args below meth c Q A n0 σ0 σ H1 locs1 ls hC hR hn hσ (hW.upd hset (okM_ud hW.2.2.2.1 hxr) hP1 hD1 hS1) hl hL (ok_tl (ok_tl hst))
  rcases hlk with hlk | hlk
  · exact va_put (T := T) (N := N) hx hb hts hin ty0 hty hnm hown hK hW.1 hW.2.1 hW.2.2.1 i he hc kf hk (hts _ hlk) (fun x h => by rw [hC1] at h; exact h) hfin hd hn1 hf1 hlen d K
  · exact va_putN (T := T) (N := N) hx hb hts hin ty0 hty hnm hown hK hW.1 hW.2.1 hW.2.2.1 i he hc kf hk (va_Nw.use rfl (hE.1 _ hlk rfl)) (fun x h => by rw [hC1] at h; exact h) hfin hd hn1 hf1 hlen d K
theorem go_putI {index ci kf i N : Nat} {C : String} {T : u_T} {x : Int} (d : decode cc pc = .ok (.putfield index, 3)) (F : PL own index ci kf C T N .int) (hi : i < n) (hs : shp i = (ci, N)) (hr : isRf ci kf = false) (kk : Go l D cA X own cc nL rt B Qa n ρ k z (pc + 3) L st (ud μ i (kf : Nat) x)) : Go l D cA X own cc nL rt B Qa n ρ k z pc L (vi x :: vr i :: st) μ :=
  go_putv d F rfl rfl hi hs hr kk
theorem nar_z {x : Int} (h : x = 0 ∨ x = 1) : narrow .boolean (.int (Int32.ofInt x)) = .int (Int32.ofInt x) ∧ fits .boolean (.int (Int32.ofInt x)) = true := by
  rcases h with rfl | rfl <;> exact ⟨by decide +kernel, by decide +kernel⟩
theorem go_putZ {index ci kf i N : Nat} {C : String} {T : u_T} {x : Int} (d : decode cc pc = .ok (.putfield index, 3)) (F : PL own index ci kf C T N .boolean) (h01 : x = 0 ∨ x = 1) (hi : i < n) (hs : shp i = (ci, N)) (hr : isRf ci kf = false) (kk : Go l D cA X own cc nL rt B Qa n ρ k z (pc + 3) L st (ud μ i (kf : Nat) x)) : Go l D cA X own cc nL rt B Qa n ρ k z pc L (vi x :: vr i :: st) μ :=
  go_putv d F (nar_z h01).1 (nar_z h01).2 hi hs hr kk
theorem at_nat {a : Int} (h0 : 0 ≤ a) (ha : iR a) : (((Int32.ofInt a).toNatClampNeg : Nat) : Int) = a := by rw [oi_nat ha]; omega
theorem go_iaload {i N : Nat} {a : Int} (d : decode cc pc = .ok (.iaload, 1)) (hi : i < n) (hs : shp i = (20, N)) (h0 : 0 ≤ a) (h1 : a < (N : Nat)) (kk : Go l D cA X own cc nL rt B Qa n ρ k z (pc + 1) L (vi (μ i a) :: st) μ) : Go l D cA X own cc nL rt B Qa n ρ k z pc L (vi a :: vr i :: st) μ := by
  intro p e R s m args below meth c Q A n0 σ0 σ H locs ls hC hR hn hσ hW hl hL hst
  obtain ⟨hx, hb, hml, hown, hts, hK, hA, hE, hB, hX⟩ := id hC
  have ha : iR a := ok_hd hst
  have K := kk p e R s m args below meth c Q A n0 σ0 σ H locs ls hC hR hn hσ hW hl hL (ok_cons (hW.2.2.2.1 _ _) (ok_tl (ok_tl hst)))
  refine va_iald hx hb hK hW.1 i 0 (wl_i hi hs) rfl (oi_in h0 h1 ha) d ?_
  rw [at_nat h0 ha]
  exact K
theorem go_zaload {i N : Nat} {a : Int} (d : decode cc pc = .ok (.baload, 1)) (hi : i < n) (hs : shp i = (21, N)) (h0 : 0 ≤ a) (h1 : a < (N : Nat)) (kk : Go l D cA X own cc nL rt B Qa n ρ k z (pc + 1) L (vi (μ i a) :: st) μ) : Go l D cA X own cc nL rt B Qa n ρ k z pc L (vi a :: vr i :: st) μ := by
  intro p e R s m args below meth c Q A n0 σ0 σ H locs ls hC hR hn hσ hW hl hL hst
  obtain ⟨hx, hb, hml, hown, hts, hK, hA, hE, hB, hX⟩ := id hC
  have ha : iR a := ok_hd hst
  have K := kk p e R s m args below meth c Q A n0 σ0 σ H locs ls hC hR hn hσ hW hl hL (ok_cons (hW.2.2.2.1 _ _) (ok_tl (ok_tl hst)))
  refine va_zald hx hb hK hW.1 i 1 (wl_z hi hs) rfl (oi_in h0 h1 ha) d ?_
  rw [at_nat h0 ha]
  exact K
theorem upd_of {f : Int → Int} {a x : Int} (h0 : 0 ≤ a) (ha : iR a) : upd (fun j => Int32.ofInt (f (j : Nat))) (Int32.ofInt a).toNatClampNeg (Int32.ofInt x) = fun j : Nat => Int32.ofInt (uf f a x (j : Nat)) := by
  funext j
  unfold upd uf
  rw [oi_nat ha]
  by_cases h : j = a.toNat
  · rw [if_pos h, if_pos (by omega)]
  · rw [if_neg h, if_neg (by omega)]
theorem go_iastore {i N : Nat} {a x : Int} (d : decode cc pc = .ok (.iastore, 1)) (hi : i < n) (hs : shp i = (20, N)) (h0 : 0 ≤ a) (h1 : a < (N : Nat)) (kk : Go l D cA X own cc nL rt B Qa n ρ k z (pc + 1) L st (ud μ i a x)) : Go l D cA X own cc nL rt B Qa n ρ k z pc L (vi x :: vi a :: vr i :: st) μ := by
  intro p e R s m args below meth c Q A n0 σ0 σ H locs ls hC hR hn hσ hW hl hL hst
  obtain ⟨hx, hb, hml, hown, hts, hK, hA, hE, hB, hX⟩ := id hC
  have ha : iR a := ok_hd (ok_tl hst)
  have hset : (wl cA n σ ρ μ).set i (σ i, .inl (cA 0, N, .inl (upd (fun j => Int32.ofInt (μ i (j : Nat))) (Int32.ofInt a).toNatClampNeg (Int32.ofInt x)))) = wl cA n σ ρ (ud μ i a x) := wl_set (by rw [upd_of h0 ha, hs, ent_i])
  exact va_iast hx hb hK hW.1 hW.2.1 hW.2.2.1 i 0 (wl_i hi hs) rfl (oi_in h0 h1 ha) d (fun H1 locs1 hP1 hD1 hS1 => kk p e R s m args below meth c Q A n0 σ0 σ H1 locs1 ls hC hR hn hσ (hW.upd hset (okM_ud hW.2.2.2.1 (ok_hd hst)) hP1 hD1 hS1) hl hL (ok_tl (ok_tl (ok_tl hst))))
theorem nar_z2 {x : Int} (h : x = 0 ∨ x = 1) : vp_nar .boolean (Int32.ofInt x) = Int32.ofInt x := by
  rcases h with rfl | rfl <;> decide +kernel
theorem go_zastore {i N : Nat} {a x : Int} (d : decode cc pc = .ok (.bastore, 1)) (h01 : x = 0 ∨ x = 1) (hi : i < n) (hs : shp i = (21, N)) (h0 : 0 ≤ a) (h1 : a < (N : Nat)) (kk : Go l D cA X own cc nL rt B Qa n ρ k z (pc + 1) L st (ud μ i a x)) : Go l D cA X own cc nL rt B Qa n ρ k z pc L (vi x :: vi a :: vr i :: st) μ := by
  intro p e R s m args below meth c Q A n0 σ0 σ H locs ls hC hR hn hσ hW hl hL hst
  obtain ⟨hx, hb, hml, hown, hts, hK, hA, hE, hB, hX⟩ := id hC
  have ha : iR a := ok_hd (ok_tl hst)
  have hset : (wl cA n σ ρ μ).set i (σ i, .inl (cA 1, N, .inl (upd (fun j => Int32.ofInt (μ i (j : Nat))) (Int32.ofInt a).toNatClampNeg (vp_nar .boolean (Int32.ofInt x))))) = wl cA n σ ρ (ud μ i a x) := wl_set (by rw [nar_z2 h01, upd_of h0 ha, hs, ent_z])
  exact va_zast hx hb hK hW.1 hW.2.1 hW.2.2.1 i 1 (wl_z hi hs) rfl (oi_in h0 h1 ha) d (fun H1 locs1 hP1 hD1 hS1 => kk p e R s m args below meth c Q A n0 σ0 σ H1 locs1 ls hC hR hn hσ (hW.upd hset (okM_ud hW.2.2.2.1 (ok_hd hst)) hP1 hD1 hS1) hl hL (ok_tl (ok_tl (ok_tl hst))))
theorem go_aaload {i N t j : Nat} {a : Int} (d : decode cc pc = .ok (.aaload, 1)) (hi : i < n) (hs : shp i = (t + 22, N)) (ht : t < 3) (h0 : 0 ≤ a) (h1 : a < (N : Nat)) (hj : ρ i a = some j) (kk : Go l D cA X own cc nL rt B Qa n ρ k z (pc + 1) L (vr j :: st) μ) : Go l D cA X own cc nL rt B Qa n ρ k z pc L (vi a :: vr i :: st) μ := by
  intro p e R s m args below meth c Q A n0 σ0 σ H locs ls hC hR hn hσ hW hl hL hst
  obtain ⟨hx, hb, hml, hown, hts, hK, hA, hE, hB, hX⟩ := id hC
  have ha : iR a := ok_hd hst
  have K := kk p e R s m args below meth c Q A n0 σ0 σ H locs ls hC hR hn hσ hW hl hL (ok_cons (Or.inl (hW.2.2.2.2 _ _ _ hj)) (ok_tl (ok_tl hst)))
  have he : (wl cA n σ ρ μ)[i]? = some (σ i, .inl (cA (t + 2), N, .inr (.inr (.inr (.inr (fun j => (ρ i (j : Nat)).map σ)))))) := by
    rw [wl_at hi, hs]
    unfold ent
    rw [if_neg (by omega), if_neg (by omega)]
    rfl
  have e0 : va_rf ((ρ i (((Int32.ofInt a).toNatClampNeg : Nat) : Int)).map σ) = cv σ (vr j) := by rw [at_nat h0 ha, hj]; rfl
  have hty : ∃ C, (tyA cA)[t + 2]? = some (cA (t + 2), .object C) := by
    rcases (by omega : t = 0 ∨ t = 1 ∨ t = 2) with rfl | rfl | rfl <;> exact ⟨_, rfl⟩
  obtain ⟨C, hty⟩ := hty
  refine va_aldq hx hb hK hW.1 i (t + 2) he hty (oi_in h0 h1 ha) d ?_
  rw [e0]
  exact K
/-! contracts -/
def Pre (D : va_G) (cA : Nat → ClassId) (n : Nat) (ρ : RefM) (μ : Mem) (σ : Nat → Nat) (sz : Nat) (U : State) : Prop :=
  U.heap.size = sz ∧ va_P D vwCl (wl cA n σ ρ μ) U.heap ∧ va_K D vwCl (tyA cA) U ∧ va_D (fun _ => True) (wl cA n σ ρ μ) ∧ Ev σ (va_A (wl cA n σ ρ μ) sz) U U.heap
def Qcc (D : va_G) (cA : Nat → ClassId) (n : Nat) (σ : Nat → Nat) (ρ : RefM) (μ : Mem) (sz : Nat) (Qa : QT) : Array Value → State → Outcome → State → Prop := fun _ st oc t =>
  (∃ (r : Option AV) (n' : Nat) (ρ' : RefM) (μ' : Mem) (σ' : Nat → Nat), oc = .returned (r.map (cv σ')) ∧ Qa r n' ρ' μ' ∧ n ≤ n' ∧ (∀ j, j < n ∨ 1000 ≤ j → σ' j = σ j) ∧ va_P D vwCl (wl cA n' σ' ρ' μ') t.heap ∧ va_D (va_A (wl cA n σ ρ μ) sz) (wl cA n' σ' ρ' μ') ∧ okM μ' ∧ okP n' ρ' ∧ (∀ v, r = some v → aok n' v)) ∧ va_F (va_A (wl cA n σ ρ μ) sz) st t
def Ct (l : Launch) (D : va_G) (cA : Nat → ClassId) (y : MethodName) (cc : ByteArray) (nL : Nat) (rt : Option FieldType) (B : Nat × Nat × Nat) (n : Nat) (ρ : RefM) (args : List AV) (μ : Mem) (Qa : QT) : Prop :=
  okM μ → okP n ρ → (∀ v ∈ args, aok n v) → ∀ (σ : Nat → Nat) (sz : Nat), Met l y (Cond.code y cc nL rt :: TB) (Rm B) (va_Pc (args.map (cv σ)) (Pre D cA n ρ μ σ sz)) (Qcc D cA n σ ρ μ sz Qa) B.2.1 B.2.2 (va_A (wl cA n σ ρ μ) sz)
theorem pre_blind {args : List AV} {σ : Nat → Nat} {sz : Nat} : FrameBlind (va_Pc (args.map (cv σ)) (Pre D cA n ρ μ σ sz)) := by
  intro a U g mk h
  obtain ⟨h0, h1, h2, h3, h4, h5⟩ := h
  exact ⟨h0, h1, h2, va_K.moved (u := U) (U := U.calling g mk a) (Vm.Alike.refl U.vm) h3, h4, h5.same rfl⟩
def la : Nat → List AV → List (Nat × AV)
  | _, [] => []
  | i, v :: t => (i, v) :: la (bif ct2 v then i + 2 else i + 1) t
theorem la_args {σ : Nat → Nat} (args : List AV) : ∀ i, (la i args).map (fun q => (q.1, cv σ q.2)) = lv_args i (args.map (cv σ)) := by
  induction args with
  | nil => intro i; rfl
  | cons v t ih =>
    intro i
    show (i, cv σ v) :: (la (bif ct2 v then i + 2 else i + 1) t).map (fun q => (q.1, cv σ q.2)) = (i, cv σ v) :: lv_args (if (cv σ v).category = 2 then i + 2 else i + 1) (t.map (cv σ))
    rw [ih]
    rcases v with x | x | _ | j <;> rfl
theorem la_mem {args : List AV} : ∀ i, ∀ q ∈ la i args, q.2 ∈ args := by
  induction args with
  | nil => intro i q h; cases h
  | cons v t ih =>
    intro i q h
    rcases List.mem_cons.mp h with rfl | h
    · exact List.mem_cons_self
    · exact List.mem_cons_of_mem _ (ih _ q h)
theorem Ct.of {y : MethodName} {args : List AV} (hpl : plainName y.cls = true) (hlen : ∀ σ, (lg_sl (args.map (cv σ))).length ≤ nL) (h : okM μ → okP n ρ → (∀ v ∈ args, aok n v) → Go l D cA none y.cls cc nL rt B Qa n ρ 0 0 0 (la 0 args) [] μ) : Ct l D cA y cc nL rt B n ρ args μ Qa := by
  intro hM hPr hargs σ sz
  refine Met.ofW (cc := cc) (maxL := nL) (ret := rt) hpl rfl ?_
  intro p e s m args' below meth c s₁ Bd hml hv
  obtain ⟨rfl, hsz, hP, hK, hD0, hEv⟩ := hv
  subst hsz
  have hts := atoms_spec (ws := Cond.code y cc nL rt :: TB) Bd.pre
  have hown : s.vm.findClass y.cls = some m.cls := findClass_of_methodNamed Bd.named
  have hlocks := Bd.notSynchronized
  have hr := Bd.returns
  have hx := Bd.exec
  have hb := Bd.bytes
  have hl := lv_entry (args.map (cv σ)) (n := nL) (hlen σ)
  rw [lg_entry_eq]
  generalize (lg_sl (args.map (cv σ)) ++ List.replicate (nL - (lg_sl (args.map (cv σ))).length) Slot.unset).toArray = ls at hl ⊢
  rw [← la_args] at hl
  refine h hM hPr hargs p e (Rm B) s m _ below meth c _ (va_A (wl cA n σ ρ μ) s.heap.size) n σ σ s.heap [] ls ⟨hx, hb, hml, hown, fun w hw => hts w (List.mem_cons_of_mem _ hw), hK, fun q hq => Or.inr hq, hEv, ⟨Nat.le_refl _, Nat.le_refl _, Nat.le_refl _, Nat.le_refl _⟩, fun _ _ h => by cases h⟩ ?_ (Nat.le_refl _) (fun _ _ => rfl) ⟨hP, hD0.self, va_S.rf, hM, hPr⟩ hl (fun q hq => hargs _ (la_mem 0 q hq)) (fun _ h => by cases h)
  intro r n' ρ' μ' σ' H' locs' k' z' pc' ls' hq hn hσ hW hty hok hk hz hd
  refine W.widen hk hz ?_
  have hQ : ∀ t : State, t.heap = H' → s.WarmedH t.vm → Qcc D cA n σ ρ μ s.heap.size Qa (args.map (cv σ)).toArray s (.returned (r.map (cv σ'))) t := fun t ht _ => ⟨⟨r, n', ρ', μ', σ', rfl, hq, hn, hσ, by rw [ht]; exact hW.1, hW.2.1, hW.2.2.2.1, hW.2.2.2.2, hok⟩, hW.2.2.1.F ht⟩
  rcases r with _ | x | x | x
  · exact W.vret hx hb (by rw [hr]; exact hty) hQ hW.2.2.1.2.2 hd
  · rcases hty with hty | ⟨hty, h01⟩ | ⟨hty, h0, h1⟩ | ⟨hty, h0, h1⟩
    · exact W.iret hx hb (by rw [hr]; exact hty) hQ hW.2.2.1.2.2 hd
    · exact W.zret (ty := .boolean) hx hb (by rw [hr]; exact hty) (nar_z h01).1 hQ hW.2.2.1.2.2 hd
    · refine W.zret (ty := .char) hx hb (by rw [hr]; exact hty) ?_ hQ hW.2.2.1.2.2 hd
      sorry
    · refine W.zret (ty := .byte) hx hb (by rw [hr]; exact hty) ?_ hQ hW.2.2.1.2.2 hd
      sorry
  · exact W.lret hx hb (by rw [hr]; exact hty) hQ hW.2.2.1.2.2 hd
  · exact absurd hty id
/-! calls -/
def MN (y : MethodName) (na : Nat) : Prop := y.cls ≠ "java/lang/invoke/MethodHandle" ∧ y.cls ≠ "java/lang/invoke/VarHandle" ∧ (parseMethodDescriptor y.desc).map (fun d => d.parameters.length) = some na
def ML (own : String) (index : Nat) (y : MethodName) : Prop := Cond.methodLink own index y ∈ TB ∨ Cond.methodLinkNest own index y "WhiteSlope" ∈ lw_tbl
def MC (y : MethodName) (cc : ByteArray) (nL : Nat) (rt : Option FieldType) (na : Nat) : Prop := Cond.code y cc nL rt ∈ TB ∧ Cond.initialized y.cls ∈ TB ∧ MN y na
theorem good_sub {y : MethodName} {cc : ByteArray} {nL : Nat} {rt : Option FieldType} (h : Cond.code y cc nL rt ∈ TB) : GoodIn TB (Cond.code y cc nL rt :: TB) := fun w hw => by
  rcases List.mem_cons.mp hw with rfl | hw
  · exact ⟨h, tb_good _ h⟩
  · exact ⟨hw, tb_good _ hw⟩
theorem w_call {p : Program} {e : Env} {R : Room} {s : State} {m : MethodId} {args : Array Value} {below : List Frame} {meth : Method} {c : Code} {H : Heap} {locs : List Loc} {cells slots mc ms : Nat} {Q : State → Prop} {A : Nat → Prop} {σ : Nat → Nat} {ls : Array Slot} {st0 rest : List Value} {Qb : QT} {a : Array Value}
    (hr : va_Run p l e R s m args below meth c H locs cells slots mc ms (F0 m pc ls st0) rest (Qcc D cA n σ ρ μ H.size Qb a) (va_A (wl cA n σ ρ μ) H.size)) (hS : va_S A s.heap H locs) (hA : ∀ q, s.heap.size ≤ q → A q) (hD : va_D A (wl cA n σ ρ μ))
    (kk : ∀ (r : Option AV) (n' : Nat) (ρ' : RefM) (μ' : Mem) (σ' : Nat → Nat) (H1 : Heap) (locs1 : List Loc), Qb r n' ρ' μ' → n ≤ n' → (∀ j, j < n ∨ 1000 ≤ j → σ' j = σ j) → Wd D cA A s.heap H1 locs1 σ' n' ρ' μ' → (∀ v, r = some v → aok n' v) → W p l e R s m args below meth c H1 locs1 (cells + mc) (slots + ms) Q (F0 m (pc + 3) ls ((r.map (cv σ')).toList ++ rest))) : W p l e R s m args below meth c H locs cells slots Q (F0 m pc ls st0) := by
  intro T hT X
  obtain ⟨v, st₀, t, T', L, h0, X', hL, e1, e2, ⟨⟨r, n', ρ', μ', σ', hv, hq, hn, hσ, hP, hD', hM, hPr, hok⟩, hz, hk⟩, st⟩ := hr T hT X
  cases hv
  rw [h0] at hz hk
  have hsub : ∀ q, va_A (wl cA n σ ρ μ) H.size q → A q := fun q h => by
    rcases h with ⟨j, e, h⟩ | h
    · exact hD.2 j _ h
    · exact hA q (Nat.le_trans hS.1 h)
  obtain ⟨t2, a1, b1⟩ := kk r n' ρ' μ' σ' T'.heap (locs ++ L) hq hn hσ ⟨by rw [e1]; exact hP, hD'.weaken (fun _ q _ h => hsub q.1 h), ⟨Nat.le_trans hS.1 (by rw [e1]; exact hz), fun q h1 h2 => by rw [e1, hk q (Nat.lt_of_lt_of_le h1 hS.1) (fun z => h2 (hsub q z))]; exact hS.2.1 q h1 h2, fun q hq => by
      rcases List.mem_append.mp hq with h | h
      · exact hS.2.2 q h
      · exact hsub _ (hL q h)⟩, hM, hPr⟩ hok T' rfl X'
  exact ⟨t2, st t2 a1, b1⟩
theorem pre_at {args : List AV} {σ : Nat → Nat} {A : Nat → Prop} {s : State} {H : Heap} {locs : List Loc} (hK : va_K D vwCl (tyA cA) s) (hA : ∀ q, s.heap.size ≤ q → A q) (hE : Ev σ A s s.heap) (hW : Wd D cA A s.heap H locs σ n ρ μ) : ∀ U : State, U.heap = H → s.WarmedH U.vm → va_Pc (args.map (cv σ)) (Pre D cA n ρ μ σ H.size) (args.map (cv σ)).toArray U := by
  intro U hU hWm
  have hsub : ∀ q, va_A (wl cA n σ ρ μ) H.size q → A q := fun q h => by
    rcases h with ⟨j, e, h⟩ | h
    · exact hW.2.1.2 j _ h
    · exact hA q (Nat.le_trans hW.2.2.1.1 h)
  exact ⟨rfl, by rw [hU], by rw [hU]; exact hW.1, va_K.moved hWm.alike hK, hW.2.1.weaken (fun _ _ _ _ => trivial), hE.warm hWm (fun a h1 h2 => by rw [hU]; exact hW.2.2.1.2.1 a h1 h2) hsub⟩
theorem map_same {σ σ' : Nat → Nat} (h : ∀ j, j < n ∨ 1000 ≤ j → σ' j = σ j) {st : List AV} (hst : ∀ v ∈ st, aok n v) : st.map (cv σ) = st.map (cv σ') := by
  apply List.map_congr_left
  intro v hv
  have := hst v hv
  rcases v with x | x | _ | j
  · rfl
  · rfl
  · rfl
  · show Value.ref (σ j) = Value.ref (σ' j)
    rw [h j this]
theorem mapL_same {σ σ' : Nat → Nat} (h : ∀ j, j < n ∨ 1000 ≤ j → σ' j = σ j) {L : List (Nat × AV)} (hL : ∀ q ∈ L, aok n q.2) : L.map (fun q => (q.1, cv σ q.2)) = L.map (fun q => (q.1, cv σ' q.2)) := by
  apply List.map_congr_left
  intro q hq
  have := hL q hq
  obtain ⟨i, v⟩ := q
  rcases v with x | x | _ | j
  · rfl
  · rfl
  · rfl
  · show (i, Value.ref (σ j)) = (i, Value.ref (σ' j))
    rw [h j this]
theorem aok_mono {n' : Nat} (h : n ≤ n') {v : AV} (hv : aok n v) : aok n' v := by
  rcases v with x | x | _ | j
  · exact hv
  · exact hv
  · trivial
  · rcases hv with hv | hv
    · exact Or.inl (Nat.lt_of_lt_of_le hv h)
    · exact Or.inr hv
theorem cat_sum {σ : Nat → Nat} (st : List AV) : ((st.map (cv σ)).map fun v => v.category).sum = (st.map cat).sum := by
  rw [List.map_map]
  congr 1
  apply List.map_congr_left
  intro v _
  exact cv_cat σ v
abbrev KT (l : Launch) (D : va_G) (cA : Nat → ClassId) (X : XT) (own : String) (cc : ByteArray) (nL : Nat) (rt : Option FieldType) (B B' : Nat × Nat × Nat) (Qa Qb : QT) (n k z pc : Nat) (L : List (Nat × AV)) (st : List AV) : Prop :=
  ∀ (r : Option AV) (n' : Nat) (ρ' : RefM) (μ' : Mem), Qb r n' ρ' μ' → n ≤ n' → Go l D cA X own cc nL rt B Qa n' ρ' (k + B'.2.1) (z + B'.2.2) (pc + 3) L (r.toList ++ st) μ'
theorem go_call {index nL' : Nat} {y : MethodName} {cc' : ByteArray} {rt' : Option FieldType} {B' : Nat × Nat × Nat} {Qb : QT} {as : List AV} {ins : Instr} {stk : List AV}
    (hrun : ∀ (p : Program) (e : Env) (R : Room) (s : State) (m : MethodId) (args : Array Value) (below : List Frame) (meth : Method) (c : Code) (A : Nat → Prop) (σ0 σ : Nat → Nat) (H : Heap) (locs : List Loc) (ls : Array Slot), Cx D cA X own cc nL B p R s m args meth c A σ0 → Ev σ A s s.heap → Wd D cA A s.heap H locs σ n ρ μ → ls.size = nL → (∀ v ∈ stk, aok n v) →
      Met l y (Cond.code y cc' nL' rt' :: TB) (Rm B') (va_Pc (as.map (cv σ)) (Pre D cA n ρ μ σ H.size)) (Qcc D cA n σ ρ μ H.size Qb) B'.2.1 B'.2.2 (va_A (wl cA n σ ρ μ) H.size) →
      va_Run p l e R s m args below meth c H locs k z B'.2.1 B'.2.2 (F0 m pc ls (stk.map (cv σ))) (st.map (cv σ)) (Qcc D cA n σ ρ μ H.size Qb (as.map (cv σ)).toArray) (va_A (wl cA n σ ρ μ) H.size))
    (hc : Ct l D cA y cc' nL' rt' B' n ρ as μ Qb) (hstk : stk = as.reverse ++ st) (kk : KT l D cA X own cc nL rt B B' Qa Qb n k z pc L st) : Go l D cA X own cc nL rt B Qa n ρ k z pc L stk μ := by
  intro p e R s m args below meth c Q A n0 σ0 σ H locs ls hC hR hn hσ hW hl hL hst
  obtain ⟨hx, hb, hml, hown, hts, hK, hA, hE, hB, hX⟩ := id hC
  have hE2 : Ev σ A s s.heap := hE.ext (fun j hj => hσ j (Or.inr hj))
  have has : ∀ v ∈ as, aok n v := fun v hv => hst v (by rw [hstk]; exact List.mem_append_left _ (List.mem_reverse.mpr hv))
  have hst2 : ∀ v ∈ st, aok n v := fun v hv => hst v (by rw [hstk]; exact List.mem_append_right _ hv)
  refine w_call (hrun p e R s m args below meth c A σ0 σ H locs ls hC hE2 hW hl.1 hst (hc hW.2.2.2.1 hW.2.2.2.2 has σ H.size)) hW.2.2.1 hA hW.2.1 ?_
  intro r n' ρ' μ' σ' H1 locs1 hq hnn hσ' hW1 hok
  have K := kk r n' ρ' μ' hq hnn p e R s m args below meth c Q A n0 σ0 σ' H1 locs1 ls hC hR (Nat.le_trans hn hnn) (fun j hj => (hσ' j (hj.elim (fun h => Or.inl (Nat.lt_of_lt_of_le h hn)) Or.inr)).trans (hσ j hj)) hW1 (by rw [← mapL_same hσ' hL]; exact hl) (fun q hq => aok_mono hnn (hL q hq)) (fun v hv => by
    rcases List.mem_append.mp hv with h | h
    · cases r with
      | none => cases h
      | some w => rw [List.mem_singleton.mp h]; exact hok w rfl
    · exact aok_mono hnn (hst2 v h))
  rw [map_same hσ' hst2]
  have e0 : (r.toList ++ st).map (cv σ') = (r.map (cv σ')).toList ++ st.map (cv σ') := by cases r <;> rfl
  rw [e0] at K
  exact K
theorem go_static {index nL' na : Nat} {y : MethodName} {cc' : ByteArray} {rt' : Option FieldType} {B' : Nat × Nat × Nat} {Qb : QT} {as stk : List AV} (d : decode cc pc = .ok (.invokestatic index, 3)) (hc : Ct l D cA y cc' nL' rt' B' n ρ as μ Qb) (hl : ML own index y) (hm : MC y cc' nL' rt' na) (hsv : Cond.static y ∈ TB) (hb : Nat.ble (B'.1 + 1) B.1 = true ∧ Nat.ble nL' 21 = true) (hf : k + B'.2.1 ≤ B.2.1 ∧ z + B'.2.2 ≤ B.2.2) (hst : stk = as.reverse ++ st) (hcat : Nat.ble (st.map cat).sum 8 = true) (hlen : as.length = na) (kk : KT l D cA X own cc nL rt B B' Qa Qb n k z pc L st) : Go l D cA X own cc nL rt B Qa n ρ k z pc L stk μ := by
  refine go_call (index := index) (ins := .invokestatic index) ?_ hc hst kk
  intro p e R s m args below meth c A σ0 σ H locs ls hC hE hW hls hok hM
  obtain ⟨hx, hbb, hml, hown, hts, hK, hA, -, hB, hX⟩ := id hC
  obtain ⟨hcode, hini, hd⟩ := hm
  have hb1 := Nat.le_of_ble_eq_true hb.1
  have hb2 := Nat.le_of_ble_eq_true hb.2
  have hroom : (Rm B').frames + 1 ≤ R.frames ∧ 8 + (nL' + 11) + (Rm B').locals ≤ R.locals := ⟨Nat.le_trans hb1 hB.1, by show 8 + (nL' + 11) + 40 * B'.1 ≤ _; have := hB.2.1; omega⟩
  have hff : k + B'.2.1 ≤ R.cells ∧ z + B'.2.2 ≤ R.slots := ⟨Nat.le_trans hf.1 hB.2.2.1, Nat.le_trans hf.2 hB.2.2.2⟩
  have hstk : stk.map (cv σ) = (as.map (cv σ)).reverse ++ st.map (cv σ) := by rw [hst, List.map_append, List.map_reverse]
  have hw8 : ((st.map (cv σ)).map fun v => v.category).sum ≤ 8 := by rw [cat_sum]; exact Nat.le_of_ble_eq_true hcat
  rcases hl with hlk | hlk
  · exact va_runS (As := as.map (cv σ)) (rest := st.map (cv σ)) ⟨hx, hbb, hml, hown, hts⟩ hM ⟨callB_of na hts (good_sub hcode) rfl rfl rfl (hts _ hini) (hts _ hlk) hd hroom, hts _ hsv⟩ ⟨pre_blind, pre_at hK hA hE hW⟩ rfl (by rw [List.length_map]; exact hlen) hls hstk (lv_room hw8) d hff
  · exact va_runSN (As := as.map (cv σ)) (rest := st.map (cv σ)) ⟨hx, hbb, hml, hown, hts⟩ hM ⟨va_cnB na hts (good_sub hcode) rfl rfl rfl (hE.1 _ hlk rfl) (hts _ hini) hd hroom, hts _ hsv, trivial⟩ ⟨pre_blind, pre_at hK hA hE hW⟩ rfl (by rw [List.length_map]; exact hlen) hls hstk (lv_room hw8) d hff
theorem go_virt {index nL' na i ci N : Nat} {T : u_T} {y : MethodName} {cc' : ByteArray} {rt' : Option FieldType} {B' : Nat × Nat × Nat} {Qb : QT} {as stk : List AV} (d : decode cc pc = .ok (.invokevirtual index, 3)) (hc : Ct l D cA y cc' nL' rt' B' n ρ (vr i :: as) μ Qb) (hl : ML own index y) (hm : MC y cc' nL' rt' na) (hsv : Cond.instanceMethod y ∈ TB ∧ Cond.selects y.cls y y ∈ TB) (hcl : vwCl[ci]? = some (y.cls, T, N)) (hi : i < n) (hs : shp i = (ci, N)) (hci : Nat.blt ci 20 = true) (hb : Nat.ble (B'.1 + 1) B.1 = true ∧ Nat.ble nL' 21 = true) (hf : k + B'.2.1 ≤ B.2.1 ∧ z + B'.2.2 ≤ B.2.2) (hst : stk = as.reverse ++ vr i :: st) (hcat : Nat.ble (st.map cat).sum 8 = true) (hlen : as.length = na) (kk : KT l D cA X own cc nL rt B B' Qa Qb n k z pc L st) : Go l D cA X own cc nL rt B Qa n ρ k z pc L stk μ := by
  refine go_call (index := index) (ins := .invokevirtual index) ?_ hc (by rw [hst, List.reverse_cons, List.append_assoc]; rfl) kk
  intro p e R s m args below meth c A σ0 σ H locs ls hC hE hW hls hok hM
  obtain ⟨hx, hbb, hml, hown, hts, hK, hA, -, hB, hX⟩ := id hC
  obtain ⟨hcode, hini, hd⟩ := hm
  have hb1 := Nat.le_of_ble_eq_true hb.1
  have hb2 := Nat.le_of_ble_eq_true hb.2
  have hroom : (Rm B').frames + 1 ≤ R.frames ∧ 8 + (nL' + 11) + (Rm B').locals ≤ R.locals := ⟨Nat.le_trans hb1 hB.1, by show 8 + (nL' + 11) + 40 * B'.1 ≤ _; have := hB.2.1; omega⟩
  have hff : k + B'.2.1 ≤ R.cells ∧ z + B'.2.2 ≤ R.slots := ⟨Nat.le_trans hf.1 hB.2.2.1, Nat.le_trans hf.2 hB.2.2.2⟩
  have hstk : stk.map (cv σ) = (as.map (cv σ)).reverse ++ Value.ref (σ i) :: st.map (cv σ) := by rw [hst, List.map_append, List.map_reverse]; rfl
  have hw8 : ((st.map (cv σ)).map fun v => v.category).sum ≤ 8 := by rw [cat_sum]; exact Nat.le_of_ble_eq_true hcat
  have hrecv := va_recv hK hW.1 hcl (wl_o (cA := cA) (ρ := ρ) (μ := μ) (σ := σ) hi hs (Nat.le_of_ble_eq_true hci))
  rcases hl with hlk | hlk
  · exact va_runV (As := as.map (cv σ)) (rest := st.map (cv σ)) ⟨hx, hbb, hml, hown, hts⟩ hM ⟨callB_of na hts (good_sub hcode) rfl rfl rfl (hts _ hini) (hts _ hlk) hd hroom, hts _ hsv.1, hts _ hsv.2⟩ ⟨pre_blind, hrecv, pre_at (args := vr i :: as) hK hA hE hW⟩ rfl (by rw [List.length_map]; exact hlen) hls hstk (lv_room hw8) d hff
  · exact va_runVN (As := as.map (cv σ)) (rest := st.map (cv σ)) ⟨hx, hbb, hml, hown, hts⟩ hM ⟨va_cnB na hts (good_sub hcode) rfl rfl rfl (hE.1 _ hlk rfl) (hts _ hini) hd hroom, hts _ hsv.1, hts _ hsv.2⟩ ⟨pre_blind, hrecv, pre_at (args := vr i :: as) hK hA hE hW⟩ rfl (by rw [List.length_map]; exact hlen) hls hstk (lv_room hw8) d hff
end Heap
end
