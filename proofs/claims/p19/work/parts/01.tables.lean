-- ===== PART A: goes FIRST, ahead of the names: the tables' words, and 'selects' of the private methods out of them =====
/-- a private method of a class that the tables say can be made, by its rows of tables_1 -/
def lw_okq (q : MethodName × Nat) : Prop := (q.1.cls ≠ "java/lang/invoke/MethodHandle" ∧ q.1.cls ≠ "java/lang/invoke/VarHandle") ∧ Cond.instantiable q.1.cls q.2 ∈ tables_1 ∧ Cond.privateMethod q.1 ∈ tables_1 ∧ Cond.instanceMethod q.1 ∈ tables_1
theorem lw_p0 : lw_okq (⟨"GhostQuarter$Town", "clear", "()V"⟩, 5) := ⟨⟨by decide +kernel, by decide +kernel⟩, List.mem_of_getElem? (i := 277) (by decide +kernel), List.mem_of_getElem? (i := 283) (by decide +kernel), List.mem_of_getElem? (i := 284) (by decide +kernel)⟩
theorem lw_p1 : lw_okq (⟨"GhostQuarter$Town", "look", "()V"⟩, 5) := ⟨⟨by decide +kernel, by decide +kernel⟩, List.mem_of_getElem? (i := 277) (by decide +kernel), List.mem_of_getElem? (i := 287) (by decide +kernel), List.mem_of_getElem? (i := 288) (by decide +kernel)⟩
theorem lw_p2 : lw_okq (⟨"GhostQuarter$Town", "lookAlong", "(II)J"⟩, 5) := ⟨⟨by decide +kernel, by decide +kernel⟩, List.mem_of_getElem? (i := 277) (by decide +kernel), List.mem_of_getElem? (i := 291) (by decide +kernel), List.mem_of_getElem? (i := 292) (by decide +kernel)⟩
theorem lw_p3 : lw_okq (⟨"GhostQuarter$Town", "endRow", "(II)I"⟩, 5) := ⟨⟨by decide +kernel, by decide +kernel⟩, List.mem_of_getElem? (i := 277) (by decide +kernel), List.mem_of_getElem? (i := 443) (by decide +kernel), List.mem_of_getElem? (i := 444) (by decide +kernel)⟩
theorem lw_p4 : lw_okq (⟨"GhostQuarter$Town", "put", "(III)I"⟩, 5) := ⟨⟨by decide +kernel, by decide +kernel⟩, List.mem_of_getElem? (i := 277) (by decide +kernel), List.mem_of_getElem? (i := 447) (by decide +kernel), List.mem_of_getElem? (i := 448) (by decide +kernel)⟩
theorem lw_p5 : lw_okq (⟨"GhostQuarter$Town", "putHouse", "(II)I"⟩, 5) := ⟨⟨by decide +kernel, by decide +kernel⟩, List.mem_of_getElem? (i := 277) (by decide +kernel), List.mem_of_getElem? (i := 451) (by decide +kernel), List.mem_of_getElem? (i := 452) (by decide +kernel)⟩
theorem lw_p6 : lw_okq (⟨"GhostQuarter$Walks", "take", "(II)I"⟩, 13) := ⟨⟨by decide +kernel, by decide +kernel⟩, List.mem_of_getElem? (i := 40) (by decide +kernel), List.mem_of_getElem? (i := 505) (by decide +kernel), List.mem_of_getElem? (i := 506) (by decide +kernel)⟩
theorem lw_p7 : lw_okq (⟨"GhostQuarter$Walks", "addStep", "(III)I"⟩, 13) := ⟨⟨by decide +kernel, by decide +kernel⟩, List.mem_of_getElem? (i := 40) (by decide +kernel), List.mem_of_getElem? (i := 513) (by decide +kernel), List.mem_of_getElem? (i := 514) (by decide +kernel)⟩
theorem lw_p8 : lw_okq (⟨"GhostQuarter$Walks", "openGroup", "(III)I"⟩, 13) := ⟨⟨by decide +kernel, by decide +kernel⟩, List.mem_of_getElem? (i := 40) (by decide +kernel), List.mem_of_getElem? (i := 518) (by decide +kernel), List.mem_of_getElem? (i := 519) (by decide +kernel)⟩
theorem lw_p9 : lw_okq (⟨"GhostQuarter$Walks", "closeGroup", "()I"⟩, 13) := ⟨⟨by decide +kernel, by decide +kernel⟩, List.mem_of_getElem? (i := 40) (by decide +kernel), List.mem_of_getElem? (i := 522) (by decide +kernel), List.mem_of_getElem? (i := 523) (by decide +kernel)⟩
theorem lw_p10 : lw_okq (⟨"GhostQuarter$LawReader", "readClause", "(LGhostQuarter$Law;)Z"⟩, 4) := ⟨⟨by decide +kernel, by decide +kernel⟩, List.mem_of_getElem? (i := 89) (by decide +kernel), List.mem_of_getElem? (i := 542) (by decide +kernel), List.mem_of_getElem? (i := 543) (by decide +kernel)⟩
theorem lw_p11 : lw_okq (⟨"GhostQuarter$LawReader", "next", "()I"⟩, 4) := ⟨⟨by decide +kernel, by decide +kernel⟩, List.mem_of_getElem? (i := 89) (by decide +kernel), List.mem_of_getElem? (i := 546) (by decide +kernel), List.mem_of_getElem? (i := 547) (by decide +kernel)⟩
theorem lw_p12 : lw_okq (⟨"GhostQuarter$LawReader", "fail", "(I)Z"⟩, 4) := ⟨⟨by decide +kernel, by decide +kernel⟩, List.mem_of_getElem? (i := 89) (by decide +kernel), List.mem_of_getElem? (i := 550) (by decide +kernel), List.mem_of_getElem? (i := 551) (by decide +kernel)⟩
theorem lw_p13 : lw_okq (⟨"GhostQuarter$LawReader", "readSum", "(LGhostQuarter$Law;I)Z"⟩, 4) := ⟨⟨by decide +kernel, by decide +kernel⟩, List.mem_of_getElem? (i := 89) (by decide +kernel), List.mem_of_getElem? (i := 558) (by decide +kernel), List.mem_of_getElem? (i := 559) (by decide +kernel)⟩
theorem lw_p14 : lw_okq (⟨"GhostQuarter$LawReader", "readTerm", "(LGhostQuarter$Law;I)Z"⟩, 4) := ⟨⟨by decide +kernel, by decide +kernel⟩, List.mem_of_getElem? (i := 89) (by decide +kernel), List.mem_of_getElem? (i := 562) (by decide +kernel), List.mem_of_getElem? (i := 563) (by decide +kernel)⟩
theorem lw_p15 : lw_okq (⟨"GhostQuarter$LawReader", "readFactor", "(LGhostQuarter$Law;I)Z"⟩, 4) := ⟨⟨by decide +kernel, by decide +kernel⟩, List.mem_of_getElem? (i := 89) (by decide +kernel), List.mem_of_getElem? (i := 566) (by decide +kernel), List.mem_of_getElem? (i := 567) (by decide +kernel)⟩
def lw_privs_1 : List (MethodName × Nat) := [(⟨"GhostQuarter$Town", "clear", "()V"⟩, 5), (⟨"GhostQuarter$Town", "look", "()V"⟩, 5), (⟨"GhostQuarter$Town", "lookAlong", "(II)J"⟩, 5), (⟨"GhostQuarter$Town", "endRow", "(II)I"⟩, 5), (⟨"GhostQuarter$Town", "put", "(III)I"⟩, 5), (⟨"GhostQuarter$Town", "putHouse", "(II)I"⟩, 5), (⟨"GhostQuarter$Walks", "take", "(II)I"⟩, 13), (⟨"GhostQuarter$Walks", "addStep", "(III)I"⟩, 13), (⟨"GhostQuarter$Walks", "openGroup", "(III)I"⟩, 13), (⟨"GhostQuarter$Walks", "closeGroup", "()I"⟩, 13), (⟨"GhostQuarter$LawReader", "readClause", "(LGhostQuarter$Law;)Z"⟩, 4), (⟨"GhostQuarter$LawReader", "next", "()I"⟩, 4), (⟨"GhostQuarter$LawReader", "fail", "(I)Z"⟩, 4), (⟨"GhostQuarter$LawReader", "readSum", "(LGhostQuarter$Law;I)Z"⟩, 4), (⟨"GhostQuarter$LawReader", "readTerm", "(LGhostQuarter$Law;I)Z"⟩, 4), (⟨"GhostQuarter$LawReader", "readFactor", "(LGhostQuarter$Law;I)Z"⟩, 4)]
theorem lw_r1 : ∀ q ∈ lw_privs_1, lw_okq q := List.forall_mem_cons.mpr ⟨lw_p0, List.forall_mem_cons.mpr ⟨lw_p1, List.forall_mem_cons.mpr ⟨lw_p2, List.forall_mem_cons.mpr ⟨lw_p3, List.forall_mem_cons.mpr ⟨lw_p4, List.forall_mem_cons.mpr ⟨lw_p5, List.forall_mem_cons.mpr ⟨lw_p6, List.forall_mem_cons.mpr ⟨lw_p7, List.forall_mem_cons.mpr ⟨lw_p8, List.forall_mem_cons.mpr ⟨lw_p9, List.forall_mem_cons.mpr ⟨lw_p10, List.forall_mem_cons.mpr ⟨lw_p11, List.forall_mem_cons.mpr ⟨lw_p12, List.forall_mem_cons.mpr ⟨lw_p13, List.forall_mem_cons.mpr ⟨lw_p14, List.forall_mem_cons.mpr ⟨lw_p15, fun _ h => absurd h List.not_mem_nil⟩⟩⟩⟩⟩⟩⟩⟩⟩⟩⟩⟩⟩⟩⟩⟩
theorem lw_p16 : lw_okq (⟨"GhostQuarter$LawReader", "readNumber", "(LGhostQuarter$Law;)Z"⟩, 4) := ⟨⟨by decide +kernel, by decide +kernel⟩, List.mem_of_getElem? (i := 89) (by decide +kernel), List.mem_of_getElem? (i := 573) (by decide +kernel), List.mem_of_getElem? (i := 574) (by decide +kernel)⟩
theorem lw_p17 : lw_okq (⟨"GhostQuarter$LawReader", "expect", "(I)Z"⟩, 4) := ⟨⟨by decide +kernel, by decide +kernel⟩, List.mem_of_getElem? (i := 89) (by decide +kernel), List.mem_of_getElem? (i := 581) (by decide +kernel), List.mem_of_getElem? (i := 582) (by decide +kernel)⟩
theorem lw_p18 : lw_okq (⟨"GhostQuarter$LawReader", "readEither", "(LGhostQuarter$Law;I)Z"⟩, 4) := ⟨⟨by decide +kernel, by decide +kernel⟩, List.mem_of_getElem? (i := 89) (by decide +kernel), List.mem_of_getElem? (i := 592) (by decide +kernel), List.mem_of_getElem? (i := 593) (by decide +kernel)⟩
theorem lw_p19 : lw_okq (⟨"GhostQuarter$LawReader", "readBoth", "(LGhostQuarter$Law;I)Z"⟩, 4) := ⟨⟨by decide +kernel, by decide +kernel⟩, List.mem_of_getElem? (i := 89) (by decide +kernel), List.mem_of_getElem? (i := 596) (by decide +kernel), List.mem_of_getElem? (i := 597) (by decide +kernel)⟩
theorem lw_p20 : lw_okq (⟨"GhostQuarter$LawReader", "readPiece", "(LGhostQuarter$Law;I)Z"⟩, 4) := ⟨⟨by decide +kernel, by decide +kernel⟩, List.mem_of_getElem? (i := 89) (by decide +kernel), List.mem_of_getElem? (i := 600) (by decide +kernel), List.mem_of_getElem? (i := 601) (by decide +kernel)⟩
theorem lw_p21 : lw_okq (⟨"GhostQuarter$LawReader", "readOpen", "(LGhostQuarter$Law;II)Z"⟩, 4) := ⟨⟨by decide +kernel, by decide +kernel⟩, List.mem_of_getElem? (i := 89) (by decide +kernel), List.mem_of_getElem? (i := 604) (by decide +kernel), List.mem_of_getElem? (i := 605) (by decide +kernel)⟩
theorem lw_p22 : lw_okq (⟨"GhostQuarter", "hasSpot", "(I)Z"⟩, 16) := ⟨⟨by decide +kernel, by decide +kernel⟩, List.mem_of_getElem? (i := 17) (by decide +kernel), List.mem_of_getElem? (i := 636) (by decide +kernel), List.mem_of_getElem? (i := 637) (by decide +kernel)⟩
theorem lw_p23 : lw_okq (⟨"GhostQuarter$Law", "tellNight", "(II)V"⟩, 11) := ⟨⟨by decide +kernel, by decide +kernel⟩, List.mem_of_getElem? (i := 325) (by decide +kernel), List.mem_of_getElem? (i := 644) (by decide +kernel), List.mem_of_getElem? (i := 645) (by decide +kernel)⟩
theorem lw_p24 : lw_okq (⟨"GhostQuarter$Law", "run", "(I)I"⟩, 11) := ⟨⟨by decide +kernel, by decide +kernel⟩, List.mem_of_getElem? (i := 325) (by decide +kernel), List.mem_of_getElem? (i := 648) (by decide +kernel), List.mem_of_getElem? (i := 649) (by decide +kernel)⟩
theorem lw_p25 : lw_okq (⟨"GhostQuarter$Law", "pop", "()I"⟩, 11) := ⟨⟨by decide +kernel, by decide +kernel⟩, List.mem_of_getElem? (i := 325) (by decide +kernel), List.mem_of_getElem? (i := 652) (by decide +kernel), List.mem_of_getElem? (i := 653) (by decide +kernel)⟩
theorem lw_p26 : lw_okq (⟨"GhostQuarter$Law", "push", "(I)V"⟩, 11) := ⟨⟨by decide +kernel, by decide +kernel⟩, List.mem_of_getElem? (i := 325) (by decide +kernel), List.mem_of_getElem? (i := 656) (by decide +kernel), List.mem_of_getElem? (i := 657) (by decide +kernel)⟩
theorem lw_p27 : lw_okq (⟨"GhostQuarter$Law", "work", "(III)I"⟩, 11) := ⟨⟨by decide +kernel, by decide +kernel⟩, List.mem_of_getElem? (i := 325) (by decide +kernel), List.mem_of_getElem? (i := 660) (by decide +kernel), List.mem_of_getElem? (i := 661) (by decide +kernel)⟩
theorem lw_p28 : lw_okq (⟨"GhostQuarter", "dogsAgainst", "(I)I"⟩, 16) := ⟨⟨by decide +kernel, by decide +kernel⟩, List.mem_of_getElem? (i := 17) (by decide +kernel), List.mem_of_getElem? (i := 664) (by decide +kernel), List.mem_of_getElem? (i := 665) (by decide +kernel)⟩
theorem lw_p29 : lw_okq (⟨"GhostQuarter$Night", "start", "(LGhostQuarter$Times;)V"⟩, 9) := ⟨⟨by decide +kernel, by decide +kernel⟩, List.mem_of_getElem? (i := 108) (by decide +kernel), List.mem_of_getElem? (i := 672) (by decide +kernel), List.mem_of_getElem? (i := 673) (by decide +kernel)⟩
theorem lw_p30 : lw_okq (⟨"GhostQuarter$Night", "frighten", "(LGhostQuarter$Law;III)V"⟩, 9) := ⟨⟨by decide +kernel, by decide +kernel⟩, List.mem_of_getElem? (i := 108) (by decide +kernel), List.mem_of_getElem? (i := 697) (by decide +kernel), List.mem_of_getElem? (i := 698) (by decide +kernel)⟩
theorem lw_p31 : lw_okq (⟨"GhostQuarter$Law", "tellStranger", "(LGhostQuarter$Times;III)V"⟩, 11) := ⟨⟨by decide +kernel, by decide +kernel⟩, List.mem_of_getElem? (i := 325) (by decide +kernel), List.mem_of_getElem? (i := 711) (by decide +kernel), List.mem_of_getElem? (i := 712) (by decide +kernel)⟩
def lw_privs_2 : List (MethodName × Nat) := [(⟨"GhostQuarter$LawReader", "readNumber", "(LGhostQuarter$Law;)Z"⟩, 4), (⟨"GhostQuarter$LawReader", "expect", "(I)Z"⟩, 4), (⟨"GhostQuarter$LawReader", "readEither", "(LGhostQuarter$Law;I)Z"⟩, 4), (⟨"GhostQuarter$LawReader", "readBoth", "(LGhostQuarter$Law;I)Z"⟩, 4), (⟨"GhostQuarter$LawReader", "readPiece", "(LGhostQuarter$Law;I)Z"⟩, 4), (⟨"GhostQuarter$LawReader", "readOpen", "(LGhostQuarter$Law;II)Z"⟩, 4), (⟨"GhostQuarter", "hasSpot", "(I)Z"⟩, 16), (⟨"GhostQuarter$Law", "tellNight", "(II)V"⟩, 11), (⟨"GhostQuarter$Law", "run", "(I)I"⟩, 11), (⟨"GhostQuarter$Law", "pop", "()I"⟩, 11), (⟨"GhostQuarter$Law", "push", "(I)V"⟩, 11), (⟨"GhostQuarter$Law", "work", "(III)I"⟩, 11), (⟨"GhostQuarter", "dogsAgainst", "(I)I"⟩, 16), (⟨"GhostQuarter$Night", "start", "(LGhostQuarter$Times;)V"⟩, 9), (⟨"GhostQuarter$Night", "frighten", "(LGhostQuarter$Law;III)V"⟩, 9), (⟨"GhostQuarter$Law", "tellStranger", "(LGhostQuarter$Times;III)V"⟩, 11)]
theorem lw_r2 : ∀ q ∈ lw_privs_2, lw_okq q := List.forall_mem_cons.mpr ⟨lw_p16, List.forall_mem_cons.mpr ⟨lw_p17, List.forall_mem_cons.mpr ⟨lw_p18, List.forall_mem_cons.mpr ⟨lw_p19, List.forall_mem_cons.mpr ⟨lw_p20, List.forall_mem_cons.mpr ⟨lw_p21, List.forall_mem_cons.mpr ⟨lw_p22, List.forall_mem_cons.mpr ⟨lw_p23, List.forall_mem_cons.mpr ⟨lw_p24, List.forall_mem_cons.mpr ⟨lw_p25, List.forall_mem_cons.mpr ⟨lw_p26, List.forall_mem_cons.mpr ⟨lw_p27, List.forall_mem_cons.mpr ⟨lw_p28, List.forall_mem_cons.mpr ⟨lw_p29, List.forall_mem_cons.mpr ⟨lw_p30, List.forall_mem_cons.mpr ⟨lw_p31, fun _ h => absurd h List.not_mem_nil⟩⟩⟩⟩⟩⟩⟩⟩⟩⟩⟩⟩⟩⟩⟩⟩
theorem lw_p32 : lw_okq (⟨"GhostQuarter$Law", "worth", "(II)I"⟩, 11) := ⟨⟨by decide +kernel, by decide +kernel⟩, List.mem_of_getElem? (i := 325) (by decide +kernel), List.mem_of_getElem? (i := 715) (by decide +kernel), List.mem_of_getElem? (i := 716) (by decide +kernel)⟩
theorem lw_p33 : lw_okq (⟨"GhostQuarter", "triedFurther", "(I)I"⟩, 16) := ⟨⟨by decide +kernel, by decide +kernel⟩, List.mem_of_getElem? (i := 17) (by decide +kernel), List.mem_of_getElem? (i := 735) (by decide +kernel), List.mem_of_getElem? (i := 736) (by decide +kernel)⟩
theorem lw_p34 : lw_okq (⟨"GhostQuarter", "dogOf", "(I)I"⟩, 16) := ⟨⟨by decide +kernel, by decide +kernel⟩, List.mem_of_getElem? (i := 17) (by decide +kernel), List.mem_of_getElem? (i := 753) (by decide +kernel), List.mem_of_getElem? (i := 754) (by decide +kernel)⟩
theorem lw_p35 : lw_okq (⟨"GhostQuarter", "canHaunt", "(I)Z"⟩, 16) := ⟨⟨by decide +kernel, by decide +kernel⟩, List.mem_of_getElem? (i := 17) (by decide +kernel), List.mem_of_getElem? (i := 757) (by decide +kernel), List.mem_of_getElem? (i := 758) (by decide +kernel)⟩
theorem lw_p36 : lw_okq (⟨"GhostQuarter$Paths", "fearOn", "(LGhostQuarter$Town;LGhostQuarter$Law;LGhostQuarter$Times;III)I"⟩, 6) := ⟨⟨by decide +kernel, by decide +kernel⟩, List.mem_of_getElem? (i := 200) (by decide +kernel), List.mem_of_getElem? (i := 789) (by decide +kernel), List.mem_of_getElem? (i := 790) (by decide +kernel)⟩
theorem lw_p37 : lw_okq (⟨"GhostQuarter$Paths", "stepOn", "(LGhostQuarter$Town;)V"⟩, 6) := ⟨⟨by decide +kernel, by decide +kernel⟩, List.mem_of_getElem? (i := 200) (by decide +kernel), List.mem_of_getElem? (i := 796) (by decide +kernel), List.mem_of_getElem? (i := 797) (by decide +kernel)⟩
theorem lw_p38 : lw_okq (⟨"GhostQuarter$Paths", "chooseMost", "()V"⟩, 6) := ⟨⟨by decide +kernel, by decide +kernel⟩, List.mem_of_getElem? (i := 200) (by decide +kernel), List.mem_of_getElem? (i := 802) (by decide +kernel), List.mem_of_getElem? (i := 803) (by decide +kernel)⟩
theorem lw_p39 : lw_okq (⟨"GhostQuarter$Paths", "cheapestOpen", "()I"⟩, 6) := ⟨⟨by decide +kernel, by decide +kernel⟩, List.mem_of_getElem? (i := 200) (by decide +kernel), List.mem_of_getElem? (i := 817) (by decide +kernel), List.mem_of_getElem? (i := 818) (by decide +kernel)⟩
theorem lw_p40 : lw_okq (⟨"GhostQuarter$Paths", "countVisits", "(LGhostQuarter$Town;LGhostQuarter$Walks;)V"⟩, 6) := ⟨⟨by decide +kernel, by decide +kernel⟩, List.mem_of_getElem? (i := 200) (by decide +kernel), List.mem_of_getElem? (i := 829) (by decide +kernel), List.mem_of_getElem? (i := 830) (by decide +kernel)⟩
theorem lw_p41 : lw_okq (⟨"GhostQuarter$Sightings", "areApart", "(I)Z"⟩, 4) := ⟨⟨by decide +kernel, by decide +kernel⟩, List.mem_of_getElem? (i := 228) (by decide +kernel), List.mem_of_getElem? (i := 863) (by decide +kernel), List.mem_of_getElem? (i := 864) (by decide +kernel)⟩
theorem lw_p42 : lw_okq (⟨"GhostQuarter", "canShare", "(I)Z"⟩, 16) := ⟨⟨by decide +kernel, by decide +kernel⟩, List.mem_of_getElem? (i := 17) (by decide +kernel), List.mem_of_getElem? (i := 876) (by decide +kernel), List.mem_of_getElem? (i := 877) (by decide +kernel)⟩
theorem lw_p43 : lw_okq (⟨"GhostQuarter$Rotas", "weigh", "(II)V"⟩, 7) := ⟨⟨by decide +kernel, by decide +kernel⟩, List.mem_of_getElem? (i := 247) (by decide +kernel), List.mem_of_getElem? (i := 888) (by decide +kernel), List.mem_of_getElem? (i := 889) (by decide +kernel)⟩
theorem lw_p44 : lw_okq (⟨"GhostQuarter$Rotas", "nightsIn", "(I)I"⟩, 7) := ⟨⟨by decide +kernel, by decide +kernel⟩, List.mem_of_getElem? (i := 247) (by decide +kernel), List.mem_of_getElem? (i := 895) (by decide +kernel), List.mem_of_getElem? (i := 896) (by decide +kernel)⟩
theorem lw_p45 : lw_okq (⟨"GhostQuarter$Rotas", "spreadOf", "(I)I"⟩, 7) := ⟨⟨by decide +kernel, by decide +kernel⟩, List.mem_of_getElem? (i := 247) (by decide +kernel), List.mem_of_getElem? (i := 902) (by decide +kernel), List.mem_of_getElem? (i := 903) (by decide +kernel)⟩
theorem lw_p46 : lw_okq (⟨"GhostQuarter$Rotas", "canBe", "(IIII)Z"⟩, 7) := ⟨⟨by decide +kernel, by decide +kernel⟩, List.mem_of_getElem? (i := 247) (by decide +kernel), List.mem_of_getElem? (i := 908) (by decide +kernel), List.mem_of_getElem? (i := 909) (by decide +kernel)⟩
theorem lw_p47 : lw_okq (⟨"GhostQuarter$Rotas", "stateAfter", "(II)I"⟩, 7) := ⟨⟨by decide +kernel, by decide +kernel⟩, List.mem_of_getElem? (i := 247) (by decide +kernel), List.mem_of_getElem? (i := 912) (by decide +kernel), List.mem_of_getElem? (i := 913) (by decide +kernel)⟩
def lw_privs_3 : List (MethodName × Nat) := [(⟨"GhostQuarter$Law", "worth", "(II)I"⟩, 11), (⟨"GhostQuarter", "triedFurther", "(I)I"⟩, 16), (⟨"GhostQuarter", "dogOf", "(I)I"⟩, 16), (⟨"GhostQuarter", "canHaunt", "(I)Z"⟩, 16), (⟨"GhostQuarter$Paths", "fearOn", "(LGhostQuarter$Town;LGhostQuarter$Law;LGhostQuarter$Times;III)I"⟩, 6), (⟨"GhostQuarter$Paths", "stepOn", "(LGhostQuarter$Town;)V"⟩, 6), (⟨"GhostQuarter$Paths", "chooseMost", "()V"⟩, 6), (⟨"GhostQuarter$Paths", "cheapestOpen", "()I"⟩, 6), (⟨"GhostQuarter$Paths", "countVisits", "(LGhostQuarter$Town;LGhostQuarter$Walks;)V"⟩, 6), (⟨"GhostQuarter$Sightings", "areApart", "(I)Z"⟩, 4), (⟨"GhostQuarter", "canShare", "(I)Z"⟩, 16), (⟨"GhostQuarter$Rotas", "weigh", "(II)V"⟩, 7), (⟨"GhostQuarter$Rotas", "nightsIn", "(I)I"⟩, 7), (⟨"GhostQuarter$Rotas", "spreadOf", "(I)I"⟩, 7), (⟨"GhostQuarter$Rotas", "canBe", "(IIII)Z"⟩, 7), (⟨"GhostQuarter$Rotas", "stateAfter", "(II)I"⟩, 7)]
theorem lw_r3 : ∀ q ∈ lw_privs_3, lw_okq q := List.forall_mem_cons.mpr ⟨lw_p32, List.forall_mem_cons.mpr ⟨lw_p33, List.forall_mem_cons.mpr ⟨lw_p34, List.forall_mem_cons.mpr ⟨lw_p35, List.forall_mem_cons.mpr ⟨lw_p36, List.forall_mem_cons.mpr ⟨lw_p37, List.forall_mem_cons.mpr ⟨lw_p38, List.forall_mem_cons.mpr ⟨lw_p39, List.forall_mem_cons.mpr ⟨lw_p40, List.forall_mem_cons.mpr ⟨lw_p41, List.forall_mem_cons.mpr ⟨lw_p42, List.forall_mem_cons.mpr ⟨lw_p43, List.forall_mem_cons.mpr ⟨lw_p44, List.forall_mem_cons.mpr ⟨lw_p45, List.forall_mem_cons.mpr ⟨lw_p46, List.forall_mem_cons.mpr ⟨lw_p47, fun _ h => absurd h List.not_mem_nil⟩⟩⟩⟩⟩⟩⟩⟩⟩⟩⟩⟩⟩⟩⟩⟩
theorem lw_p48 : lw_okq (⟨"GhostQuarter$Rotas", "firstMember", "(III)I"⟩, 7) := ⟨⟨by decide +kernel, by decide +kernel⟩, List.mem_of_getElem? (i := 247) (by decide +kernel), List.mem_of_getElem? (i := 925) (by decide +kernel), List.mem_of_getElem? (i := 926) (by decide +kernel)⟩
theorem lw_p49 : lw_okq (⟨"GhostQuarter", "taxShare", "(I)I"⟩, 16) := ⟨⟨by decide +kernel, by decide +kernel⟩, List.mem_of_getElem? (i := 17) (by decide +kernel), List.mem_of_getElem? (i := 980) (by decide +kernel), List.mem_of_getElem? (i := 981) (by decide +kernel)⟩
theorem lw_p50 : lw_okq (⟨"GhostQuarter", "housesThatFit", "(III)I"⟩, 16) := ⟨⟨by decide +kernel, by decide +kernel⟩, List.mem_of_getElem? (i := 17) (by decide +kernel), List.mem_of_getElem? (i := 993) (by decide +kernel), List.mem_of_getElem? (i := 994) (by decide +kernel)⟩
theorem lw_p51 : lw_okq (⟨"GhostQuarter", "markThatTells", "(I)I"⟩, 16) := ⟨⟨by decide +kernel, by decide +kernel⟩, List.mem_of_getElem? (i := 17) (by decide +kernel), List.mem_of_getElem? (i := 997) (by decide +kernel), List.mem_of_getElem? (i := 998) (by decide +kernel)⟩
theorem lw_p52 : lw_okq (⟨"GhostQuarterModel", "types", "(I)V"⟩, 62) := ⟨⟨by decide +kernel, by decide +kernel⟩, List.mem_of_getElem? (i := 1037) (by decide +kernel), List.mem_of_getElem? (i := 1237) (by decide +kernel), List.mem_of_getElem? (i := 1238) (by decide +kernel)⟩
theorem lw_p53 : lw_okq (⟨"GhostQuarterModel", "readsRow", "(I)Z"⟩, 62) := ⟨⟨by decide +kernel, by decide +kernel⟩, List.mem_of_getElem? (i := 1037) (by decide +kernel), List.mem_of_getElem? (i := 1248) (by decide +kernel), List.mem_of_getElem? (i := 1249) (by decide +kernel)⟩
theorem lw_p54 : lw_okq (⟨"GhostQuarterModel", "here", "()I"⟩, 62) := ⟨⟨by decide +kernel, by decide +kernel⟩, List.mem_of_getElem? (i := 1037) (by decide +kernel), List.mem_of_getElem? (i := 1252) (by decide +kernel), List.mem_of_getElem? (i := 1253) (by decide +kernel)⟩
theorem lw_p55 : lw_okq (⟨"GhostQuarterModel", "wrongAt", "(II)Z"⟩, 62) := ⟨⟨by decide +kernel, by decide +kernel⟩, List.mem_of_getElem? (i := 1037) (by decide +kernel), List.mem_of_getElem? (i := 1259) (by decide +kernel), List.mem_of_getElem? (i := 1260) (by decide +kernel)⟩
theorem lw_p56 : lw_okq (⟨"GhostQuarterModel", "takes", "(I)Z"⟩, 62) := ⟨⟨by decide +kernel, by decide +kernel⟩, List.mem_of_getElem? (i := 1037) (by decide +kernel), List.mem_of_getElem? (i := 1263) (by decide +kernel), List.mem_of_getElem? (i := 1264) (by decide +kernel)⟩
theorem lw_p57 : lw_okq (⟨"GhostQuarterModel", "isTold", "(I)Z"⟩, 62) := ⟨⟨by decide +kernel, by decide +kernel⟩, List.mem_of_getElem? (i := 1037) (by decide +kernel), List.mem_of_getElem? (i := 1267) (by decide +kernel), List.mem_of_getElem? (i := 1268) (by decide +kernel)⟩
theorem lw_p58 : lw_okq (⟨"GhostQuarterModel", "readsStep", "()Z"⟩, 62) := ⟨⟨by decide +kernel, by decide +kernel⟩, List.mem_of_getElem? (i := 1037) (by decide +kernel), List.mem_of_getElem? (i := 1281) (by decide +kernel), List.mem_of_getElem? (i := 1282) (by decide +kernel)⟩
theorem lw_p59 : lw_okq (⟨"GhostQuarterModel", "readsTimes", "()V"⟩, 62) := ⟨⟨by decide +kernel, by decide +kernel⟩, List.mem_of_getElem? (i := 1037) (by decide +kernel), List.mem_of_getElem? (i := 1285) (by decide +kernel), List.mem_of_getElem? (i := 1286) (by decide +kernel)⟩
theorem lw_p60 : lw_okq (⟨"GhostQuarterModel", "repeats", "(III)Z"⟩, 62) := ⟨⟨by decide +kernel, by decide +kernel⟩, List.mem_of_getElem? (i := 1037) (by decide +kernel), List.mem_of_getElem? (i := 1292) (by decide +kernel), List.mem_of_getElem? (i := 1293) (by decide +kernel)⟩
theorem lw_p61 : lw_okq (⟨"GhostQuarterModel", "endsRounds", "()Z"⟩, 62) := ⟨⟨by decide +kernel, by decide +kernel⟩, List.mem_of_getElem? (i := 1037) (by decide +kernel), List.mem_of_getElem? (i := 1296) (by decide +kernel), List.mem_of_getElem? (i := 1297) (by decide +kernel)⟩
theorem lw_p62 : lw_okq (⟨"GhostQuarterModel", "readsClause", "()Z"⟩, 62) := ⟨⟨by decide +kernel, by decide +kernel⟩, List.mem_of_getElem? (i := 1037) (by decide +kernel), List.mem_of_getElem? (i := 1304) (by decide +kernel), List.mem_of_getElem? (i := 1305) (by decide +kernel)⟩
theorem lw_p63 : lw_okq (⟨"GhostQuarterModel", "readsSum", "()Z"⟩, 62) := ⟨⟨by decide +kernel, by decide +kernel⟩, List.mem_of_getElem? (i := 1037) (by decide +kernel), List.mem_of_getElem? (i := 1311) (by decide +kernel), List.mem_of_getElem? (i := 1312) (by decide +kernel)⟩
def lw_privs_4 : List (MethodName × Nat) := [(⟨"GhostQuarter$Rotas", "firstMember", "(III)I"⟩, 7), (⟨"GhostQuarter", "taxShare", "(I)I"⟩, 16), (⟨"GhostQuarter", "housesThatFit", "(III)I"⟩, 16), (⟨"GhostQuarter", "markThatTells", "(I)I"⟩, 16), (⟨"GhostQuarterModel", "types", "(I)V"⟩, 62), (⟨"GhostQuarterModel", "readsRow", "(I)Z"⟩, 62), (⟨"GhostQuarterModel", "here", "()I"⟩, 62), (⟨"GhostQuarterModel", "wrongAt", "(II)Z"⟩, 62), (⟨"GhostQuarterModel", "takes", "(I)Z"⟩, 62), (⟨"GhostQuarterModel", "isTold", "(I)Z"⟩, 62), (⟨"GhostQuarterModel", "readsStep", "()Z"⟩, 62), (⟨"GhostQuarterModel", "readsTimes", "()V"⟩, 62), (⟨"GhostQuarterModel", "repeats", "(III)Z"⟩, 62), (⟨"GhostQuarterModel", "endsRounds", "()Z"⟩, 62), (⟨"GhostQuarterModel", "readsClause", "()Z"⟩, 62), (⟨"GhostQuarterModel", "readsSum", "()Z"⟩, 62)]
theorem lw_r4 : ∀ q ∈ lw_privs_4, lw_okq q := List.forall_mem_cons.mpr ⟨lw_p48, List.forall_mem_cons.mpr ⟨lw_p49, List.forall_mem_cons.mpr ⟨lw_p50, List.forall_mem_cons.mpr ⟨lw_p51, List.forall_mem_cons.mpr ⟨lw_p52, List.forall_mem_cons.mpr ⟨lw_p53, List.forall_mem_cons.mpr ⟨lw_p54, List.forall_mem_cons.mpr ⟨lw_p55, List.forall_mem_cons.mpr ⟨lw_p56, List.forall_mem_cons.mpr ⟨lw_p57, List.forall_mem_cons.mpr ⟨lw_p58, List.forall_mem_cons.mpr ⟨lw_p59, List.forall_mem_cons.mpr ⟨lw_p60, List.forall_mem_cons.mpr ⟨lw_p61, List.forall_mem_cons.mpr ⟨lw_p62, List.forall_mem_cons.mpr ⟨lw_p63, fun _ h => absurd h List.not_mem_nil⟩⟩⟩⟩⟩⟩⟩⟩⟩⟩⟩⟩⟩⟩⟩⟩
theorem lw_p64 : lw_okq (⟨"GhostQuarterModel", "readsFactor", "()Z"⟩, 62) := ⟨⟨by decide +kernel, by decide +kernel⟩, List.mem_of_getElem? (i := 1037) (by decide +kernel), List.mem_of_getElem? (i := 1315) (by decide +kernel), List.mem_of_getElem? (i := 1316) (by decide +kernel)⟩
theorem lw_p65 : lw_okq (⟨"GhostQuarterModel", "opens", "(I)Z"⟩, 62) := ⟨⟨by decide +kernel, by decide +kernel⟩, List.mem_of_getElem? (i := 1037) (by decide +kernel), List.mem_of_getElem? (i := 1319) (by decide +kernel), List.mem_of_getElem? (i := 1320) (by decide +kernel)⟩
theorem lw_p66 : lw_okq (⟨"GhostQuarterModel", "isDigit", "()Z"⟩, 62) := ⟨⟨by decide +kernel, by decide +kernel⟩, List.mem_of_getElem? (i := 1037) (by decide +kernel), List.mem_of_getElem? (i := 1324) (by decide +kernel), List.mem_of_getElem? (i := 1325) (by decide +kernel)⟩
theorem lw_p67 : lw_okq (⟨"GhostQuarterModel", "readsNumber", "()Z"⟩, 62) := ⟨⟨by decide +kernel, by decide +kernel⟩, List.mem_of_getElem? (i := 1037) (by decide +kernel), List.mem_of_getElem? (i := 1328) (by decide +kernel), List.mem_of_getElem? (i := 1329) (by decide +kernel)⟩
theorem lw_p68 : lw_okq (⟨"GhostQuarterModel", "notes", "(II)V"⟩, 62) := ⟨⟨by decide +kernel, by decide +kernel⟩, List.mem_of_getElem? (i := 1037) (by decide +kernel), List.mem_of_getElem? (i := 1332) (by decide +kernel), List.mem_of_getElem? (i := 1333) (by decide +kernel)⟩
theorem lw_p69 : lw_okq (⟨"GhostQuarterModel", "closesSums", "(Z)V"⟩, 62) := ⟨⟨by decide +kernel, by decide +kernel⟩, List.mem_of_getElem? (i := 1037) (by decide +kernel), List.mem_of_getElem? (i := 1342) (by decide +kernel), List.mem_of_getElem? (i := 1343) (by decide +kernel)⟩
theorem lw_p70 : lw_okq (⟨"GhostQuarterModel", "waitTop", "()I"⟩, 62) := ⟨⟨by decide +kernel, by decide +kernel⟩, List.mem_of_getElem? (i := 1037) (by decide +kernel), List.mem_of_getElem? (i := 1346) (by decide +kernel), List.mem_of_getElem? (i := 1347) (by decide +kernel)⟩
theorem lw_p71 : lw_okq (⟨"GhostQuarterModel", "hasOpenSum", "(I)Z"⟩, 62) := ⟨⟨by decide +kernel, by decide +kernel⟩, List.mem_of_getElem? (i := 1037) (by decide +kernel), List.mem_of_getElem? (i := 1350) (by decide +kernel), List.mem_of_getElem? (i := 1351) (by decide +kernel)⟩
theorem lw_p72 : lw_okq (⟨"GhostQuarterModel", "readsCondition", "()Z"⟩, 62) := ⟨⟨by decide +kernel, by decide +kernel⟩, List.mem_of_getElem? (i := 1037) (by decide +kernel), List.mem_of_getElem? (i := 1354) (by decide +kernel), List.mem_of_getElem? (i := 1355) (by decide +kernel)⟩
theorem lw_p73 : lw_okq (⟨"GhostQuarterModel", "readsCompared", "()Z"⟩, 62) := ⟨⟨by decide +kernel, by decide +kernel⟩, List.mem_of_getElem? (i := 1037) (by decide +kernel), List.mem_of_getElem? (i := 1358) (by decide +kernel), List.mem_of_getElem? (i := 1359) (by decide +kernel)⟩
theorem lw_p74 : lw_okq (⟨"GhostQuarterModel", "endsPiece", "()V"⟩, 62) := ⟨⟨by decide +kernel, by decide +kernel⟩, List.mem_of_getElem? (i := 1037) (by decide +kernel), List.mem_of_getElem? (i := 1362) (by decide +kernel), List.mem_of_getElem? (i := 1363) (by decide +kernel)⟩
theorem lw_p75 : lw_okq (⟨"GhostQuarterModel", "lands", "(Z)V"⟩, 62) := ⟨⟨by decide +kernel, by decide +kernel⟩, List.mem_of_getElem? (i := 1037) (by decide +kernel), List.mem_of_getElem? (i := 1366) (by decide +kernel), List.mem_of_getElem? (i := 1367) (by decide +kernel)⟩
theorem lw_p76 : lw_okq (⟨"GhostQuarterModel", "jumps", "(I)V"⟩, 62) := ⟨⟨by decide +kernel, by decide +kernel⟩, List.mem_of_getElem? (i := 1037) (by decide +kernel), List.mem_of_getElem? (i := 1370) (by decide +kernel), List.mem_of_getElem? (i := 1371) (by decide +kernel)⟩
theorem lw_p77 : lw_okq (⟨"GhostQuarterModel", "hasSpot", "(I)Z"⟩, 62) := ⟨⟨by decide +kernel, by decide +kernel⟩, List.mem_of_getElem? (i := 1037) (by decide +kernel), List.mem_of_getElem? (i := 1394) (by decide +kernel), List.mem_of_getElem? (i := 1395) (by decide +kernel)⟩
theorem lw_p78 : lw_okq (⟨"GhostQuarterModel", "mayHaunt", "(II)Z"⟩, 62) := ⟨⟨by decide +kernel, by decide +kernel⟩, List.mem_of_getElem? (i := 1037) (by decide +kernel), List.mem_of_getElem? (i := 1398) (by decide +kernel), List.mem_of_getElem? (i := 1399) (by decide +kernel)⟩
theorem lw_p79 : lw_okq (⟨"GhostQuarterModel", "feels", "(II)V"⟩, 62) := ⟨⟨by decide +kernel, by decide +kernel⟩, List.mem_of_getElem? (i := 1037) (by decide +kernel), List.mem_of_getElem? (i := 1402) (by decide +kernel), List.mem_of_getElem? (i := 1403) (by decide +kernel)⟩
def lw_privs_5 : List (MethodName × Nat) := [(⟨"GhostQuarterModel", "readsFactor", "()Z"⟩, 62), (⟨"GhostQuarterModel", "opens", "(I)Z"⟩, 62), (⟨"GhostQuarterModel", "isDigit", "()Z"⟩, 62), (⟨"GhostQuarterModel", "readsNumber", "()Z"⟩, 62), (⟨"GhostQuarterModel", "notes", "(II)V"⟩, 62), (⟨"GhostQuarterModel", "closesSums", "(Z)V"⟩, 62), (⟨"GhostQuarterModel", "waitTop", "()I"⟩, 62), (⟨"GhostQuarterModel", "hasOpenSum", "(I)Z"⟩, 62), (⟨"GhostQuarterModel", "readsCondition", "()Z"⟩, 62), (⟨"GhostQuarterModel", "readsCompared", "()Z"⟩, 62), (⟨"GhostQuarterModel", "endsPiece", "()V"⟩, 62), (⟨"GhostQuarterModel", "lands", "(Z)V"⟩, 62), (⟨"GhostQuarterModel", "jumps", "(I)V"⟩, 62), (⟨"GhostQuarterModel", "hasSpot", "(I)Z"⟩, 62), (⟨"GhostQuarterModel", "mayHaunt", "(II)Z"⟩, 62), (⟨"GhostQuarterModel", "feels", "(II)V"⟩, 62)]
theorem lw_r5 : ∀ q ∈ lw_privs_5, lw_okq q := List.forall_mem_cons.mpr ⟨lw_p64, List.forall_mem_cons.mpr ⟨lw_p65, List.forall_mem_cons.mpr ⟨lw_p66, List.forall_mem_cons.mpr ⟨lw_p67, List.forall_mem_cons.mpr ⟨lw_p68, List.forall_mem_cons.mpr ⟨lw_p69, List.forall_mem_cons.mpr ⟨lw_p70, List.forall_mem_cons.mpr ⟨lw_p71, List.forall_mem_cons.mpr ⟨lw_p72, List.forall_mem_cons.mpr ⟨lw_p73, List.forall_mem_cons.mpr ⟨lw_p74, List.forall_mem_cons.mpr ⟨lw_p75, List.forall_mem_cons.mpr ⟨lw_p76, List.forall_mem_cons.mpr ⟨lw_p77, List.forall_mem_cons.mpr ⟨lw_p78, List.forall_mem_cons.mpr ⟨lw_p79, fun _ h => absurd h List.not_mem_nil⟩⟩⟩⟩⟩⟩⟩⟩⟩⟩⟩⟩⟩⟩⟩⟩
theorem lw_p80 : lw_okq (⟨"GhostQuarterModel", "comesTo", "(II)I"⟩, 62) := ⟨⟨by decide +kernel, by decide +kernel⟩, List.mem_of_getElem? (i := 1037) (by decide +kernel), List.mem_of_getElem? (i := 1406) (by decide +kernel), List.mem_of_getElem? (i := 1407) (by decide +kernel)⟩
theorem lw_p81 : lw_okq (⟨"GhostQuarterModel", "nightOf", "(I)V"⟩, 62) := ⟨⟨by decide +kernel, by decide +kernel⟩, List.mem_of_getElem? (i := 1037) (by decide +kernel), List.mem_of_getElem? (i := 1413) (by decide +kernel), List.mem_of_getElem? (i := 1414) (by decide +kernel)⟩
theorem lw_p82 : lw_okq (⟨"GhostQuarterModel", "stepTo", "(II)I"⟩, 62) := ⟨⟨by decide +kernel, by decide +kernel⟩, List.mem_of_getElem? (i := 1037) (by decide +kernel), List.mem_of_getElem? (i := 1417) (by decide +kernel), List.mem_of_getElem? (i := 1418) (by decide +kernel)⟩
theorem lw_p83 : lw_okq (⟨"GhostQuarterModel", "minuteOf", "(III)V"⟩, 62) := ⟨⟨by decide +kernel, by decide +kernel⟩, List.mem_of_getElem? (i := 1037) (by decide +kernel), List.mem_of_getElem? (i := 1424) (by decide +kernel), List.mem_of_getElem? (i := 1425) (by decide +kernel)⟩
theorem lw_p84 : lw_okq (⟨"GhostQuarterModel", "isThere", "(I)Z"⟩, 62) := ⟨⟨by decide +kernel, by decide +kernel⟩, List.mem_of_getElem? (i := 1037) (by decide +kernel), List.mem_of_getElem? (i := 1428) (by decide +kernel), List.mem_of_getElem? (i := 1429) (by decide +kernel)⟩
theorem lw_p85 : lw_okq (⟨"GhostQuarterModel", "isSeen", "(II)Z"⟩, 62) := ⟨⟨by decide +kernel, by decide +kernel⟩, List.mem_of_getElem? (i := 1037) (by decide +kernel), List.mem_of_getElem? (i := 1432) (by decide +kernel), List.mem_of_getElem? (i := 1433) (by decide +kernel)⟩
theorem lw_p86 : lw_okq (⟨"GhostQuarterModel", "fearOf", "(IIII)I"⟩, 62) := ⟨⟨by decide +kernel, by decide +kernel⟩, List.mem_of_getElem? (i := 1037) (by decide +kernel), List.mem_of_getElem? (i := 1436) (by decide +kernel), List.mem_of_getElem? (i := 1437) (by decide +kernel)⟩
theorem lw_p87 : lw_okq (⟨"GhostQuarterModel", "feelsStranger", "(IIII)V"⟩, 62) := ⟨⟨by decide +kernel, by decide +kernel⟩, List.mem_of_getElem? (i := 1037) (by decide +kernel), List.mem_of_getElem? (i := 1440) (by decide +kernel), List.mem_of_getElem? (i := 1441) (by decide +kernel)⟩
theorem lw_p88 : lw_okq (⟨"GhostQuarterModel", "byLaw", "(II)I"⟩, 62) := ⟨⟨by decide +kernel, by decide +kernel⟩, List.mem_of_getElem? (i := 1037) (by decide +kernel), List.mem_of_getElem? (i := 1450) (by decide +kernel), List.mem_of_getElem? (i := 1451) (by decide +kernel)⟩
theorem lw_p89 : lw_okq (⟨"GhostQuarterModel", "housesSeen", "(I)I"⟩, 62) := ⟨⟨by decide +kernel, by decide +kernel⟩, List.mem_of_getElem? (i := 1037) (by decide +kernel), List.mem_of_getElem? (i := 1468) (by decide +kernel), List.mem_of_getElem? (i := 1469) (by decide +kernel)⟩
theorem lw_p90 : lw_okq (⟨"GhostQuarterModel", "watchedFrom", "(I)I"⟩, 62) := ⟨⟨by decide +kernel, by decide +kernel⟩, List.mem_of_getElem? (i := 1037) (by decide +kernel), List.mem_of_getElem? (i := 1480) (by decide +kernel), List.mem_of_getElem? (i := 1481) (by decide +kernel)⟩
theorem lw_p91 : lw_okq (⟨"GhostQuarterModel", "goesOn", "(III)I"⟩, 62) := ⟨⟨by decide +kernel, by decide +kernel⟩, List.mem_of_getElem? (i := 1037) (by decide +kernel), List.mem_of_getElem? (i := 1495) (by decide +kernel), List.mem_of_getElem? (i := 1496) (by decide +kernel)⟩
theorem lw_p92 : lw_okq (⟨"GhostQuarterModel", "fearAt", "(III)I"⟩, 62) := ⟨⟨by decide +kernel, by decide +kernel⟩, List.mem_of_getElem? (i := 1037) (by decide +kernel), List.mem_of_getElem? (i := 1503) (by decide +kernel), List.mem_of_getElem? (i := 1504) (by decide +kernel)⟩
theorem lw_p93 : lw_okq (⟨"GhostQuarterModel", "laysCosts", "(IZ)V"⟩, 62) := ⟨⟨by decide +kernel, by decide +kernel⟩, List.mem_of_getElem? (i := 1037) (by decide +kernel), List.mem_of_getElem? (i := 1512) (by decide +kernel), List.mem_of_getElem? (i := 1513) (by decide +kernel)⟩
theorem lw_p94 : lw_okq (⟨"GhostQuarterModel", "seers", "(I)I"⟩, 62) := ⟨⟨by decide +kernel, by decide +kernel⟩, List.mem_of_getElem? (i := 1037) (by decide +kernel), List.mem_of_getElem? (i := 1516) (by decide +kernel), List.mem_of_getElem? (i := 1517) (by decide +kernel)⟩
theorem lw_p95 : lw_okq (⟨"GhostQuarterModel", "areSights", "(I)Z"⟩, 62) := ⟨⟨by decide +kernel, by decide +kernel⟩, List.mem_of_getElem? (i := 1037) (by decide +kernel), List.mem_of_getElem? (i := 1525) (by decide +kernel), List.mem_of_getElem? (i := 1526) (by decide +kernel)⟩
def lw_privs_6 : List (MethodName × Nat) := [(⟨"GhostQuarterModel", "comesTo", "(II)I"⟩, 62), (⟨"GhostQuarterModel", "nightOf", "(I)V"⟩, 62), (⟨"GhostQuarterModel", "stepTo", "(II)I"⟩, 62), (⟨"GhostQuarterModel", "minuteOf", "(III)V"⟩, 62), (⟨"GhostQuarterModel", "isThere", "(I)Z"⟩, 62), (⟨"GhostQuarterModel", "isSeen", "(II)Z"⟩, 62), (⟨"GhostQuarterModel", "fearOf", "(IIII)I"⟩, 62), (⟨"GhostQuarterModel", "feelsStranger", "(IIII)V"⟩, 62), (⟨"GhostQuarterModel", "byLaw", "(II)I"⟩, 62), (⟨"GhostQuarterModel", "housesSeen", "(I)I"⟩, 62), (⟨"GhostQuarterModel", "watchedFrom", "(I)I"⟩, 62), (⟨"GhostQuarterModel", "goesOn", "(III)I"⟩, 62), (⟨"GhostQuarterModel", "fearAt", "(III)I"⟩, 62), (⟨"GhostQuarterModel", "laysCosts", "(IZ)V"⟩, 62), (⟨"GhostQuarterModel", "seers", "(I)I"⟩, 62), (⟨"GhostQuarterModel", "areSights", "(I)Z"⟩, 62)]
theorem lw_r6 : ∀ q ∈ lw_privs_6, lw_okq q := List.forall_mem_cons.mpr ⟨lw_p80, List.forall_mem_cons.mpr ⟨lw_p81, List.forall_mem_cons.mpr ⟨lw_p82, List.forall_mem_cons.mpr ⟨lw_p83, List.forall_mem_cons.mpr ⟨lw_p84, List.forall_mem_cons.mpr ⟨lw_p85, List.forall_mem_cons.mpr ⟨lw_p86, List.forall_mem_cons.mpr ⟨lw_p87, List.forall_mem_cons.mpr ⟨lw_p88, List.forall_mem_cons.mpr ⟨lw_p89, List.forall_mem_cons.mpr ⟨lw_p90, List.forall_mem_cons.mpr ⟨lw_p91, List.forall_mem_cons.mpr ⟨lw_p92, List.forall_mem_cons.mpr ⟨lw_p93, List.forall_mem_cons.mpr ⟨lw_p94, List.forall_mem_cons.mpr ⟨lw_p95, fun _ h => absurd h List.not_mem_nil⟩⟩⟩⟩⟩⟩⟩⟩⟩⟩⟩⟩⟩⟩⟩⟩
theorem lw_p96 : lw_okq (⟨"GhostQuarterModel", "laysBoth", "(I)V"⟩, 62) := ⟨⟨by decide +kernel, by decide +kernel⟩, List.mem_of_getElem? (i := 1037) (by decide +kernel), List.mem_of_getElem? (i := 1529) (by decide +kernel), List.mem_of_getElem? (i := 1530) (by decide +kernel)⟩
theorem lw_p97 : lw_okq (⟨"GhostQuarterModel", "ghostsFor", "(I)I"⟩, 62) := ⟨⟨by decide +kernel, by decide +kernel⟩, List.mem_of_getElem? (i := 1037) (by decide +kernel), List.mem_of_getElem? (i := 1533) (by decide +kernel), List.mem_of_getElem? (i := 1534) (by decide +kernel)⟩
theorem lw_p98 : lw_okq (⟨"GhostQuarterModel", "areApart", "(II)Z"⟩, 62) := ⟨⟨by decide +kernel, by decide +kernel⟩, List.mem_of_getElem? (i := 1037) (by decide +kernel), List.mem_of_getElem? (i := 1540) (by decide +kernel), List.mem_of_getElem? (i := 1541) (by decide +kernel)⟩
theorem lw_p99 : lw_okq (⟨"GhostQuarterModel", "fromWhere", "(I)I"⟩, 62) := ⟨⟨by decide +kernel, by decide +kernel⟩, List.mem_of_getElem? (i := 1037) (by decide +kernel), List.mem_of_getElem? (i := 1544) (by decide +kernel), List.mem_of_getElem? (i := 1545) (by decide +kernel)⟩
theorem lw_p100 : lw_okq (⟨"GhostQuarterModel", "laysRotas", "(I)V"⟩, 62) := ⟨⟨by decide +kernel, by decide +kernel⟩, List.mem_of_getElem? (i := 1037) (by decide +kernel), List.mem_of_getElem? (i := 1552) (by decide +kernel), List.mem_of_getElem? (i := 1553) (by decide +kernel)⟩
theorem lw_p101 : lw_okq (⟨"GhostQuarterModel", "differs", "(I)I"⟩, 62) := ⟨⟨by decide +kernel, by decide +kernel⟩, List.mem_of_getElem? (i := 1037) (by decide +kernel), List.mem_of_getElem? (i := 1556) (by decide +kernel), List.mem_of_getElem? (i := 1557) (by decide +kernel)⟩
theorem lw_p102 : lw_okq (⟨"GhostQuarterModel", "sumOf", "(I)I"⟩, 62) := ⟨⟨by decide +kernel, by decide +kernel⟩, List.mem_of_getElem? (i := 1037) (by decide +kernel), List.mem_of_getElem? (i := 1563) (by decide +kernel), List.mem_of_getElem? (i := 1564) (by decide +kernel)⟩
theorem lw_p103 : lw_okq (⟨"GhostQuarterModel", "mayNext", "(IIII)Z"⟩, 62) := ⟨⟨by decide +kernel, by decide +kernel⟩, List.mem_of_getElem? (i := 1037) (by decide +kernel), List.mem_of_getElem? (i := 1567) (by decide +kernel), List.mem_of_getElem? (i := 1568) (by decide +kernel)⟩
theorem lw_p104 : lw_okq (⟨"GhostQuarterModel", "firstIn", "(I)I"⟩, 62) := ⟨⟨by decide +kernel, by decide +kernel⟩, List.mem_of_getElem? (i := 1037) (by decide +kernel), List.mem_of_getElem? (i := 1575) (by decide +kernel), List.mem_of_getElem? (i := 1576) (by decide +kernel)⟩
theorem lw_p105 : lw_okq (⟨"GhostQuarterModel", "spotsSet", "()I"⟩, 62) := ⟨⟨by decide +kernel, by decide +kernel⟩, List.mem_of_getElem? (i := 1037) (by decide +kernel), List.mem_of_getElem? (i := 1583) (by decide +kernel), List.mem_of_getElem? (i := 1584) (by decide +kernel)⟩
theorem lw_p106 : lw_okq (⟨"GhostQuarterModel", "draws", "()I"⟩, 62) := ⟨⟨by decide +kernel, by decide +kernel⟩, List.mem_of_getElem? (i := 1037) (by decide +kernel), List.mem_of_getElem? (i := 1587) (by decide +kernel), List.mem_of_getElem? (i := 1588) (by decide +kernel)⟩
theorem lw_p107 : lw_okq (⟨"GhostQuarterModel", "rumourOf", "(II)I"⟩, 62) := ⟨⟨by decide +kernel, by decide +kernel⟩, List.mem_of_getElem? (i := 1037) (by decide +kernel), List.mem_of_getElem? (i := 1592) (by decide +kernel), List.mem_of_getElem? (i := 1593) (by decide +kernel)⟩
theorem lw_p108 : lw_okq (⟨"GhostQuarterModel", "without", "(II)J"⟩, 62) := ⟨⟨by decide +kernel, by decide +kernel⟩, List.mem_of_getElem? (i := 1037) (by decide +kernel), List.mem_of_getElem? (i := 1605) (by decide +kernel), List.mem_of_getElem? (i := 1606) (by decide +kernel)⟩
theorem lw_p109 : lw_okq (⟨"GhostQuarterModel", "greaterBy", "(II)I"⟩, 62) := ⟨⟨by decide +kernel, by decide +kernel⟩, List.mem_of_getElem? (i := 1037) (by decide +kernel), List.mem_of_getElem? (i := 1624) (by decide +kernel), List.mem_of_getElem? (i := 1625) (by decide +kernel)⟩
theorem lw_p110 : lw_okq (⟨"GhostQuarterModel", "tapeNumber", "(I)I"⟩, 62) := ⟨⟨by decide +kernel, by decide +kernel⟩, List.mem_of_getElem? (i := 1037) (by decide +kernel), List.mem_of_getElem? (i := 1645) (by decide +kernel), List.mem_of_getElem? (i := 1646) (by decide +kernel)⟩
def lw_privs_7 : List (MethodName × Nat) := [(⟨"GhostQuarterModel", "laysBoth", "(I)V"⟩, 62), (⟨"GhostQuarterModel", "ghostsFor", "(I)I"⟩, 62), (⟨"GhostQuarterModel", "areApart", "(II)Z"⟩, 62), (⟨"GhostQuarterModel", "fromWhere", "(I)I"⟩, 62), (⟨"GhostQuarterModel", "laysRotas", "(I)V"⟩, 62), (⟨"GhostQuarterModel", "differs", "(I)I"⟩, 62), (⟨"GhostQuarterModel", "sumOf", "(I)I"⟩, 62), (⟨"GhostQuarterModel", "mayNext", "(IIII)Z"⟩, 62), (⟨"GhostQuarterModel", "firstIn", "(I)I"⟩, 62), (⟨"GhostQuarterModel", "spotsSet", "()I"⟩, 62), (⟨"GhostQuarterModel", "draws", "()I"⟩, 62), (⟨"GhostQuarterModel", "rumourOf", "(II)I"⟩, 62), (⟨"GhostQuarterModel", "without", "(II)J"⟩, 62), (⟨"GhostQuarterModel", "greaterBy", "(II)I"⟩, 62), (⟨"GhostQuarterModel", "tapeNumber", "(I)I"⟩, 62)]
theorem lw_r7 : ∀ q ∈ lw_privs_7, lw_okq q := List.forall_mem_cons.mpr ⟨lw_p96, List.forall_mem_cons.mpr ⟨lw_p97, List.forall_mem_cons.mpr ⟨lw_p98, List.forall_mem_cons.mpr ⟨lw_p99, List.forall_mem_cons.mpr ⟨lw_p100, List.forall_mem_cons.mpr ⟨lw_p101, List.forall_mem_cons.mpr ⟨lw_p102, List.forall_mem_cons.mpr ⟨lw_p103, List.forall_mem_cons.mpr ⟨lw_p104, List.forall_mem_cons.mpr ⟨lw_p105, List.forall_mem_cons.mpr ⟨lw_p106, List.forall_mem_cons.mpr ⟨lw_p107, List.forall_mem_cons.mpr ⟨lw_p108, List.forall_mem_cons.mpr ⟨lw_p109, List.forall_mem_cons.mpr ⟨lw_p110, fun _ h => absurd h List.not_mem_nil⟩⟩⟩⟩⟩⟩⟩⟩⟩⟩⟩⟩⟩⟩⟩
def lw_privs : List (MethodName × Nat) := lw_privs_1 ++ (lw_privs_2 ++ (lw_privs_3 ++ (lw_privs_4 ++ (lw_privs_5 ++ (lw_privs_6 ++ (lw_privs_7))))))
def lw_tbl : List Cond := k2_sels lw_privs ++ tables_1
theorem lw_privs_ok : ∀ q ∈ lw_privs, lw_okq q := by
  show ∀ q ∈ lw_privs_1 ++ (lw_privs_2 ++ (lw_privs_3 ++ (lw_privs_4 ++ (lw_privs_5 ++ (lw_privs_6 ++ (lw_privs_7)))))), lw_okq q
  exact List.forall_mem_append.mpr ⟨lw_r1, List.forall_mem_append.mpr ⟨lw_r2, List.forall_mem_append.mpr ⟨lw_r3, List.forall_mem_append.mpr ⟨lw_r4, List.forall_mem_append.mpr ⟨lw_r5, List.forall_mem_append.mpr ⟨lw_r6, lw_r7⟩⟩⟩⟩⟩⟩
/-! the classes, their fields, the methods and their bytes, out of the printed names -/
def RX0 : String := "GhostQuarter$Law"
def TX0 : u_T := fun k => match k with
  | 0 => ("GhostQuarter$Law", "clauses", "I", false)
  | 1 => ("GhostQuarter$Law", "letter", "[I", true)
  | 2 => ("GhostQuarter$Law", "value", "[I", true)
  | 3 => ("GhostQuarter$Law", "condition", "[I", true)
  | 4 => ("GhostQuarter$Law", "command", "[I", true)
  | 5 => ("GhostQuarter$Law", "operand", "[I", true)
  | 6 => ("GhostQuarter$Law", "size", "I", false)
  | 7 => ("GhostQuarter$Law", "facts", "[I", true)
  | 8 => ("GhostQuarter$Law", "stack", "[I", true)
  | 9 => ("GhostQuarter$Law", "top", "I", false)
  | _ => ("GhostQuarter$Law", "refused", "Z", false)
def tyX0 : Nat → FieldType := fun k => match k with
  | 0 => .int
  | 1 => .array .int
  | 2 => .array .int
  | 3 => .array .int
  | 4 => .array .int
  | 5 => .array .int
  | 6 => .int
  | 7 => .array .int
  | 8 => .array .int
  | 9 => .int
  | _ => .boolean
abbrev wsX00 : List Cond := u_ws RX0 TX0 11
theorem nmX0 : ∀ a, a < 11 → ∀ b, b < 11 → a ≠ b → (TX0 a).2.1 ≠ (TX0 b).2.1 := by decide +kernel
theorem tyX0_ok : ∀ k, k < 11 → parseFieldDescriptor (TX0 k).2.2.1 = some (tyX0 k) := by decide +kernel
abbrev cX0_init : ByteArray := prog_2_method_1_code
def yX0_init : MethodName := ⟨RX0, "<init>", "()V"⟩
abbrev cX0_factOf : ByteArray := prog_2_method_2_code
def yX0_factOf : MethodName := ⟨RX0, "factOf", "(I)I"⟩
abbrev cX0_clear : ByteArray := prog_2_method_3_code
def yX0_clear : MethodName := ⟨RX0, "clear", "()V"⟩
abbrev cX0_openClause : ByteArray := prog_2_method_4_code
def yX0_openClause : MethodName := ⟨RX0, "openClause", "(I)V"⟩
abbrev cX0_openCondition : ByteArray := prog_2_method_5_code
def yX0_openCondition : MethodName := ⟨RX0, "openCondition", "()V"⟩
abbrev cX0_add : ByteArray := prog_2_method_6_code
def yX0_add : MethodName := ⟨RX0, "add", "(II)I"⟩
abbrev cX0_aim : ByteArray := prog_2_method_7_code
def yX0_aim : MethodName := ⟨RX0, "aim", "(I)V"⟩
abbrev cX0_fearOf : ByteArray := prog_2_method_8_code
def yX0_fearOf : MethodName := ⟨RX0, "fearOf", "(LGhostQuarter$Times;IIII)I"⟩
abbrev cX0_payOf : ByteArray := prog_2_method_9_code
def yX0_payOf : MethodName := ⟨RX0, "payOf", "(LGhostQuarter$Times;III)I"⟩
abbrev cX0_tenths : ByteArray := prog_2_method_10_code
def yX0_tenths : MethodName := ⟨RX0, "tenths", "(LGhostQuarter$Town;III)I"⟩
abbrev cX0_mayHaunt : ByteArray := prog_2_method_11_code
def yX0_mayHaunt : MethodName := ⟨RX0, "mayHaunt", "(II)Z"⟩
abbrev cX0_tellNight : ByteArray := prog_2_method_12_code
def yX0_tellNight : MethodName := ⟨RX0, "tellNight", "(II)V"⟩
abbrev cX0_tellStranger : ByteArray := prog_2_method_13_code
def yX0_tellStranger : MethodName := ⟨RX0, "tellStranger", "(LGhostQuarter$Times;III)V"⟩
abbrev cX0_worth : ByteArray := prog_2_method_14_code
def yX0_worth : MethodName := ⟨RX0, "worth", "(II)I"⟩
abbrev cX0_run : ByteArray := prog_2_method_15_code
def yX0_run : MethodName := ⟨RX0, "run", "(I)I"⟩
abbrev cX0_work : ByteArray := prog_2_method_16_code
def yX0_work : MethodName := ⟨RX0, "work", "(III)I"⟩
abbrev cX0_push : ByteArray := prog_2_method_17_code
def yX0_push : MethodName := ⟨RX0, "push", "(I)V"⟩
abbrev cX0_pop : ByteArray := prog_2_method_18_code
def yX0_pop : MethodName := ⟨RX0, "pop", "()I"⟩
def RX1 : String := "GhostQuarter$LawReader"
def TX1 : u_T := fun k => match k with
  | 0 => ("GhostQuarter$LawReader", "text", "[I", true)
  | 1 => ("GhostQuarter$LawReader", "length", "I", false)
  | 2 => ("GhostQuarter$LawReader", "place", "I", false)
  | _ => ("GhostQuarter$LawReader", "fault", "I", false)
def tyX1 : Nat → FieldType := fun k => match k with
  | 0 => .array .int
  | 1 => .int
  | 2 => .int
  | _ => .int
abbrev wsX10 : List Cond := u_ws RX1 TX1 4
theorem nmX1 : ∀ a, a < 4 → ∀ b, b < 4 → a ≠ b → (TX1 a).2.1 ≠ (TX1 b).2.1 := by decide +kernel
theorem tyX1_ok : ∀ k, k < 4 → parseFieldDescriptor (TX1 k).2.2.1 = some (tyX1 k) := by decide +kernel
abbrev cX1_init : ByteArray := prog_3_method_1_code
def yX1_init : MethodName := ⟨RX1, "<init>", "()V"⟩
abbrev cX1_read : ByteArray := prog_3_method_2_code
def yX1_read : MethodName := ⟨RX1, "read", "(LGhostQuarter$Tape;ILGhostQuarter$Law;)I"⟩
abbrev cX1_readClause : ByteArray := prog_3_method_3_code
def yX1_readClause : MethodName := ⟨RX1, "readClause", "(LGhostQuarter$Law;)Z"⟩
abbrev cX1_readEither : ByteArray := prog_3_method_4_code
def yX1_readEither : MethodName := ⟨RX1, "readEither", "(LGhostQuarter$Law;I)Z"⟩
abbrev cX1_readBoth : ByteArray := prog_3_method_5_code
def yX1_readBoth : MethodName := ⟨RX1, "readBoth", "(LGhostQuarter$Law;I)Z"⟩
abbrev cX1_readPiece : ByteArray := prog_3_method_6_code
def yX1_readPiece : MethodName := ⟨RX1, "readPiece", "(LGhostQuarter$Law;I)Z"⟩
abbrev cX1_readOpen : ByteArray := prog_3_method_7_code
def yX1_readOpen : MethodName := ⟨RX1, "readOpen", "(LGhostQuarter$Law;II)Z"⟩
abbrev cX1_readSum : ByteArray := prog_3_method_8_code
def yX1_readSum : MethodName := ⟨RX1, "readSum", "(LGhostQuarter$Law;I)Z"⟩
abbrev cX1_readTerm : ByteArray := prog_3_method_9_code
def yX1_readTerm : MethodName := ⟨RX1, "readTerm", "(LGhostQuarter$Law;I)Z"⟩
abbrev cX1_readFactor : ByteArray := prog_3_method_10_code
def yX1_readFactor : MethodName := ⟨RX1, "readFactor", "(LGhostQuarter$Law;I)Z"⟩
abbrev cX1_readNumber : ByteArray := prog_3_method_11_code
def yX1_readNumber : MethodName := ⟨RX1, "readNumber", "(LGhostQuarter$Law;)Z"⟩
abbrev cX1_next : ByteArray := prog_3_method_12_code
def yX1_next : MethodName := ⟨RX1, "next", "()I"⟩
abbrev cX1_expect : ByteArray := prog_3_method_13_code
def yX1_expect : MethodName := ⟨RX1, "expect", "(I)Z"⟩
abbrev cX1_fail : ByteArray := prog_3_method_14_code
def yX1_fail : MethodName := ⟨RX1, "fail", "(I)Z"⟩
abbrev cX1_isDigit : ByteArray := prog_3_method_15_code
def yX1_isDigit : MethodName := ⟨RX1, "isDigit", "(I)Z"⟩
def RX2 : String := "GhostQuarter$Night"
def TX2 : u_T := fun k => match k with
  | 0 => ("GhostQuarter$Night", "end", "LGhostQuarter$Times;", true)
  | 1 => ("GhostQuarter$Night", "path", "[I", true)
  | 2 => ("GhostQuarter$Night", "payMinute", "[I", true)
  | 3 => ("GhostQuarter$Night", "last", "I", false)
  | 4 => ("GhostQuarter$Night", "coins", "I", false)
  | 5 => ("GhostQuarter$Night", "payers", "I", false)
  | 6 => ("GhostQuarter$Night", "barks", "I", false)
  | 7 => ("GhostQuarter$Night", "seen", "I", false)
  | _ => ("GhostQuarter$Night", "growth", "I", false)
def tyX2 : Nat → FieldType := fun k => match k with
  | 0 => .object "GhostQuarter$Times"
  | 1 => .array .int
  | 2 => .array .int
  | 3 => .int
  | 4 => .int
  | 5 => .int
  | 6 => .int
  | 7 => .int
  | _ => .int
abbrev wsX20 : List Cond := u_ws RX2 TX2 9
theorem nmX2 : ∀ a, a < 9 → ∀ b, b < 9 → a ≠ b → (TX2 a).2.1 ≠ (TX2 b).2.1 := by decide +kernel
theorem tyX2_ok : ∀ k, k < 9 → parseFieldDescriptor (TX2 k).2.2.1 = some (tyX2 k) := by decide +kernel
abbrev cX2_init : ByteArray := prog_4_method_1_code
def yX2_init : MethodName := ⟨RX2, "<init>", "()V"⟩
abbrev cX2_pass : ByteArray := prog_4_method_2_code
def yX2_pass : MethodName := ⟨RX2, "pass", "(LGhostQuarter$Town;LGhostQuarter$Walks;LGhostQuarter$Law;LGhostQuarter$Times;II)V"⟩
abbrev cX2_start : ByteArray := prog_4_method_3_code
def yX2_start : MethodName := ⟨RX2, "start", "(LGhostQuarter$Times;)V"⟩
abbrev cX2_frighten : ByteArray := prog_4_method_4_code
def yX2_frighten : MethodName := ⟨RX2, "frighten", "(LGhostQuarter$Law;III)V"⟩
abbrev cX2_barksAt : ByteArray := prog_4_method_5_code
def yX2_barksAt : MethodName := ⟨RX2, "barksAt", "(LGhostQuarter$Town;II)I"⟩
def RX3 : String := "GhostQuarter$Paths"
def TX3 : u_T := fun k => match k with
  | 0 => ("GhostQuarter$Paths", "far", "[I", true)
  | 1 => ("GhostQuarter$Paths", "most", "I", false)
  | 2 => ("GhostQuarter$Paths", "end", "I", false)
  | 3 => ("GhostQuarter$Paths", "sum", "[I", true)
  | 4 => ("GhostQuarter$Paths", "further", "[I", true)
  | _ => ("GhostQuarter$Paths", "line", "[I", true)
def tyX3 : Nat → FieldType := fun k => match k with
  | 0 => .array .int
  | 1 => .int
  | 2 => .int
  | 3 => .array .int
  | 4 => .array .int
  | _ => .array .int
abbrev wsX30 : List Cond := u_ws RX3 TX3 6
theorem nmX3 : ∀ a, a < 6 → ∀ b, b < 6 → a ≠ b → (TX3 a).2.1 ≠ (TX3 b).2.1 := by decide +kernel
theorem tyX3_ok : ∀ k, k < 6 → parseFieldDescriptor (TX3 k).2.2.1 = some (tyX3 k) := by decide +kernel
abbrev cX3_init : ByteArray := prog_5_method_1_code
def yX3_init : MethodName := ⟨RX3, "<init>", "()V"⟩
abbrev cX3_measure : ByteArray := prog_5_method_2_code
def yX3_measure : MethodName := ⟨RX3, "measure", "(LGhostQuarter$Town;I)V"⟩
abbrev cX3_frighten : ByteArray := prog_5_method_3_code
def yX3_frighten : MethodName := ⟨RX3, "frighten", "(LGhostQuarter$Town;LGhostQuarter$Law;LGhostQuarter$Times;II)V"⟩
abbrev cX3_stepOn : ByteArray := prog_5_method_4_code
def yX3_stepOn : MethodName := ⟨RX3, "stepOn", "(LGhostQuarter$Town;)V"⟩
abbrev cX3_fearOn : ByteArray := prog_5_method_5_code
def yX3_fearOn : MethodName := ⟨RX3, "fearOn", "(LGhostQuarter$Town;LGhostQuarter$Law;LGhostQuarter$Times;III)I"⟩
abbrev cX3_chooseMost : ByteArray := prog_5_method_6_code
def yX3_chooseMost : MethodName := ⟨RX3, "chooseMost", "()V"⟩
abbrev cX3_hide : ByteArray := prog_5_method_7_code
def yX3_hide : MethodName := ⟨RX3, "hide", "(LGhostQuarter$Town;LGhostQuarter$Times;II)I"⟩
abbrev cX3_cheapestOpen : ByteArray := prog_5_method_8_code
def yX3_cheapestOpen : MethodName := ⟨RX3, "cheapestOpen", "()I"⟩
abbrev cX3_watchersOf : ByteArray := prog_5_method_9_code
def yX3_watchersOf : MethodName := ⟨RX3, "watchersOf", "(LGhostQuarter$Town;LGhostQuarter$Times;I)I"⟩
abbrev cX3_lookOut : ByteArray := prog_5_method_10_code
def yX3_lookOut : MethodName := ⟨RX3, "lookOut", "(LGhostQuarter$Town;LGhostQuarter$Walks;)V"⟩
abbrev cX3_countVisits : ByteArray := prog_5_method_11_code
def yX3_countVisits : MethodName := ⟨RX3, "countVisits", "(LGhostQuarter$Town;LGhostQuarter$Walks;)V"⟩
def RX4 : String := "GhostQuarter$Rotas"
def TX4 : u_T := fun k => match k with
  | 0 => ("GhostQuarter$Rotas", "member", "[I", true)
  | 1 => ("GhostQuarter$Rotas", "allowed", "[I", true)
  | 2 => ("GhostQuarter$Rotas", "ways", "[I", true)
  | 3 => ("GhostQuarter$Rotas", "spread", "[I", true)
  | 4 => ("GhostQuarter$Rotas", "members", "I", false)
  | 5 => ("GhostQuarter$Rotas", "nights", "I", false)
  | _ => ("GhostQuarter$Rotas", "each", "I", false)
def tyX4 : Nat → FieldType := fun k => match k with
  | 0 => .array .int
  | 1 => .array .int
  | 2 => .array .int
  | 3 => .array .int
  | 4 => .int
  | 5 => .int
  | _ => .int
abbrev wsX40 : List Cond := u_ws RX4 TX4 7
theorem nmX4 : ∀ a, a < 7 → ∀ b, b < 7 → a ≠ b → (TX4 a).2.1 ≠ (TX4 b).2.1 := by decide +kernel
theorem tyX4_ok : ∀ k, k < 7 → parseFieldDescriptor (TX4 k).2.2.1 = some (tyX4 k) := by decide +kernel
abbrev cX4_init : ByteArray := prog_6_method_1_code
def yX4_init : MethodName := ⟨RX4, "<init>", "()V"⟩
abbrev cX4_plan : ByteArray := prog_6_method_2_code
def yX4_plan : MethodName := ⟨RX4, "plan", "(LGhostQuarter$Law;IIII)V"⟩
abbrev cX4_howMany : ByteArray := prog_6_method_3_code
def yX4_howMany : MethodName := ⟨RX4, "howMany", "()I"⟩
abbrev cX4_howEven : ByteArray := prog_6_method_4_code
def yX4_howEven : MethodName := ⟨RX4, "howEven", "()I"⟩
abbrev cX4_houseIn : ByteArray := prog_6_method_5_code
def yX4_houseIn : MethodName := ⟨RX4, "houseIn", "(I)I"⟩
abbrev cX4_firstMember : ByteArray := prog_6_method_6_code
def yX4_firstMember : MethodName := ⟨RX4, "firstMember", "(III)I"⟩
abbrev cX4_weigh : ByteArray := prog_6_method_7_code
def yX4_weigh : MethodName := ⟨RX4, "weigh", "(II)V"⟩
abbrev cX4_canBe : ByteArray := prog_6_method_8_code
def yX4_canBe : MethodName := ⟨RX4, "canBe", "(IIII)Z"⟩
abbrev cX4_stateAfter : ByteArray := prog_6_method_9_code
def yX4_stateAfter : MethodName := ⟨RX4, "stateAfter", "(II)I"⟩
abbrev cX4_stateOf : ByteArray := prog_6_method_10_code
def yX4_stateOf : MethodName := ⟨RX4, "stateOf", "(II)I"⟩
abbrev cX4_countOf : ByteArray := prog_6_method_11_code
def yX4_countOf : MethodName := ⟨RX4, "countOf", "(II)I"⟩
abbrev cX4_nightsIn : ByteArray := prog_6_method_12_code
def yX4_nightsIn : MethodName := ⟨RX4, "nightsIn", "(I)I"⟩
abbrev cX4_spreadOf : ByteArray := prog_6_method_13_code
def yX4_spreadOf : MethodName := ⟨RX4, "spreadOf", "(I)I"⟩
def RX5 : String := "GhostQuarter$Rumour"
def TX5 : u_T := fun k => match k with
  | _ => ("", "", "", false)
def tyX5 : Nat → FieldType := fun k => match k with
  | _ => .int
abbrev wsX50 : List Cond := u_ws RX5 TX5 0
theorem nmX5 : ∀ a, a < 0 → ∀ b, b < 0 → a ≠ b → (TX5 a).2.1 ≠ (TX5 b).2.1 := by decide +kernel
theorem tyX5_ok : ∀ k, k < 0 → parseFieldDescriptor (TX5 k).2.2.1 = some (tyX5 k) := by decide +kernel
abbrev cX5_pass : ByteArray := prog_7_method_2_code
def yX5_pass : MethodName := ⟨RX5, "pass", "(LGhostQuarter$Town;LGhostQuarter$Law;LGhostQuarter$Times;I)I"⟩
abbrev cX5_allDraws : ByteArray := prog_7_method_3_code
def yX5_allDraws : MethodName := ⟨RX5, "allDraws", "(I)J"⟩
abbrev cX5_drawsThatTell : ByteArray := prog_7_method_4_code
def yX5_drawsThatTell : MethodName := ⟨RX5, "drawsThatTell", "(LGhostQuarter$Town;LGhostQuarter$Law;III)J"⟩
abbrev cX5_drawsInAll : ByteArray := prog_7_method_5_code
def yX5_drawsInAll : MethodName := ⟨RX5, "drawsInAll", "(LGhostQuarter$Town;LGhostQuarter$Law;II)J"⟩
abbrev cX5_commonDivisor : ByteArray := prog_7_method_6_code
def yX5_commonDivisor : MethodName := ⟨RX5, "commonDivisor", "(JJ)J"⟩
def RX6 : String := "GhostQuarter$Sightings"
def TX6 : u_T := fun k => match k with
  | 0 => ("GhostQuarter$Sightings", "minute", "[I", true)
  | 1 => ("GhostQuarter$Sightings", "spot", "[I", true)
  | 2 => ("GhostQuarter$Sightings", "linked", "[I", true)
  | _ => ("GhostQuarter$Sightings", "size", "I", false)
def tyX6 : Nat → FieldType := fun k => match k with
  | 0 => .array .int
  | 1 => .array .int
  | 2 => .array .int
  | _ => .int
abbrev wsX60 : List Cond := u_ws RX6 TX6 4
theorem nmX6 : ∀ a, a < 4 → ∀ b, b < 4 → a ≠ b → (TX6 a).2.1 ≠ (TX6 b).2.1 := by decide +kernel
theorem tyX6_ok : ∀ k, k < 4 → parseFieldDescriptor (TX6 k).2.2.1 = some (tyX6 k) := by decide +kernel
abbrev cX6_init : ByteArray := prog_8_method_1_code
def yX6_init : MethodName := ⟨RX6, "<init>", "()V"⟩
abbrev cX6_read : ByteArray := prog_8_method_2_code
def yX6_read : MethodName := ⟨RX6, "read", "(LGhostQuarter$Tape;ILGhostQuarter$Town;)Z"⟩
abbrev cX6_link : ByteArray := prog_8_method_3_code
def yX6_link : MethodName := ⟨RX6, "link", "(LGhostQuarter$Town;LGhostQuarter$Paths;)V"⟩
abbrev cX6_fewestGhosts : ByteArray := prog_8_method_4_code
def yX6_fewestGhosts : MethodName := ⟨RX6, "fewestGhosts", "()I"⟩
abbrev cX6_areApart : ByteArray := prog_8_method_5_code
def yX6_areApart : MethodName := ⟨RX6, "areApart", "(I)Z"⟩
abbrev cX6_fromWhere : ByteArray := prog_8_method_6_code
def yX6_fromWhere : MethodName := ⟨RX6, "fromWhere", "(LGhostQuarter$Town;LGhostQuarter$Paths;)I"⟩
def RX7 : String := "GhostQuarter$Tape"
def TX7 : u_T := fun k => match k with
  | 0 => ("GhostQuarter$Tape", "bytes", "[I", true)
  | _ => ("GhostQuarter$Tape", "size", "I", false)
def tyX7 : Nat → FieldType := fun k => match k with
  | 0 => .array .int
  | _ => .int
abbrev wsX70 : List Cond := u_ws RX7 TX7 2
theorem nmX7 : ∀ a, a < 2 → ∀ b, b < 2 → a ≠ b → (TX7 a).2.1 ≠ (TX7 b).2.1 := by decide +kernel
theorem tyX7_ok : ∀ k, k < 2 → parseFieldDescriptor (TX7 k).2.2.1 = some (tyX7 k) := by decide +kernel
abbrev cX7_init : ByteArray := prog_9_method_1_code
def yX7_init : MethodName := ⟨RX7, "<init>", "()V"⟩
abbrev cX7_add : ByteArray := prog_9_method_2_code
def yX7_add : MethodName := ⟨RX7, "add", "(I)V"⟩
abbrev cX7_empty : ByteArray := prog_9_method_3_code
def yX7_empty : MethodName := ⟨RX7, "empty", "()V"⟩
abbrev cX7_hasText : ByteArray := prog_9_method_4_code
def yX7_hasText : MethodName := ⟨RX7, "hasText", "(II)Z"⟩
abbrev cX7_at : ByteArray := prog_9_method_5_code
def yX7_at : MethodName := ⟨RX7, "at", "(I)I"⟩
abbrev cX7_numberAt : ByteArray := prog_9_method_6_code
def yX7_numberAt : MethodName := ⟨RX7, "numberAt", "(I)I"⟩
def RX8 : String := "GhostQuarter$Times"
def TX8 : u_T := fun k => match k with
  | 0 => ("GhostQuarter$Times", "spot", "[I", true)
  | 1 => ("GhostQuarter$Times", "fear", "[I", true)
  | 2 => ("GhostQuarter$Times", "courage", "[I", true)
  | 3 => ("GhostQuarter$Times", "paid", "[I", true)
  | 4 => ("GhostQuarter$Times", "toldDogs", "I", false)
  | 5 => ("GhostQuarter$Times", "coins", "I", false)
  | 6 => ("GhostQuarter$Times", "night", "I", false)
  | _ => ("GhostQuarter$Times", "x", "I", false)
def tyX8 : Nat → FieldType := fun k => match k with
  | 0 => .array .int
  | 1 => .array .int
  | 2 => .array .int
  | 3 => .array .int
  | 4 => .int
  | 5 => .int
  | 6 => .int
  | _ => .int
abbrev wsX80 : List Cond := u_ws RX8 TX8 8
theorem nmX8 : ∀ a, a < 8 → ∀ b, b < 8 → a ≠ b → (TX8 a).2.1 ≠ (TX8 b).2.1 := by decide +kernel
theorem tyX8_ok : ∀ k, k < 8 → parseFieldDescriptor (TX8 k).2.2.1 = some (tyX8 k) := by decide +kernel
abbrev cX8_init : ByteArray := prog_10_method_1_code
def yX8_init : MethodName := ⟨RX8, "<init>", "()V"⟩
abbrev cX8_copy : ByteArray := prog_10_method_2_code
def yX8_copy : MethodName := ⟨RX8, "copy", "(LGhostQuarter$Times;)V"⟩
abbrev cX8_isTold : ByteArray := prog_10_method_3_code
def yX8_isTold : MethodName := ⟨RX8, "isTold", "(I)Z"⟩
abbrev cX8_putStranger : ByteArray := prog_10_method_4_code
def yX8_putStranger : MethodName := ⟨RX8, "putStranger", "(III)V"⟩
abbrev cX8_dropFromWalls : ByteArray := prog_10_method_5_code
def yX8_dropFromWalls : MethodName := ⟨RX8, "dropFromWalls", "(LGhostQuarter$Town;)V"⟩
abbrev cX8_sees : ByteArray := prog_10_method_6_code
def yX8_sees : MethodName := ⟨RX8, "sees", "(LGhostQuarter$Town;II)Z"⟩
abbrev cX8_toldStrangers : ByteArray := prog_10_method_7_code
def yX8_toldStrangers : MethodName := ⟨RX8, "toldStrangers", "()I"⟩
abbrev cX8_paidStrangers : ByteArray := prog_10_method_8_code
def yX8_paidStrangers : MethodName := ⟨RX8, "paidStrangers", "()I"⟩
abbrev cX8_draw : ByteArray := prog_10_method_9_code
def yX8_draw : MethodName := ⟨RX8, "draw", "()I"⟩
def RX9 : String := "GhostQuarter$Town"
def TX9 : u_T := fun k => match k with
  | 0 => ("GhostQuarter$Town", "what", "[I", true)
  | 1 => ("GhostQuarter$Town", "home", "[I", true)
  | 2 => ("GhostQuarter$Town", "sight", "[J", true)
  | 3 => ("GhostQuarter$Town", "x", "I", false)
  | _ => ("GhostQuarter$Town", "y", "I", false)
def tyX9 : Nat → FieldType := fun k => match k with
  | 0 => .array .int
  | 1 => .array .int
  | 2 => .array .long
  | 3 => .int
  | _ => .int
abbrev wsX90 : List Cond := u_ws RX9 TX9 5
theorem nmX9 : ∀ a, a < 5 → ∀ b, b < 5 → a ≠ b → (TX9 a).2.1 ≠ (TX9 b).2.1 := by decide +kernel
theorem tyX9_ok : ∀ k, k < 5 → parseFieldDescriptor (TX9 k).2.2.1 = some (tyX9 k) := by decide +kernel
abbrev cX9_init : ByteArray := prog_11_method_1_code
def yX9_init : MethodName := ⟨RX9, "<init>", "()V"⟩
abbrev cX9_at : ByteArray := prog_11_method_2_code
def yX9_at : MethodName := ⟨RX9, "at", "(I)I"⟩
abbrev cX9_isWall : ByteArray := prog_11_method_3_code
def yX9_isWall : MethodName := ⟨RX9, "isWall", "(I)Z"⟩
abbrev cX9_sees : ByteArray := prog_11_method_4_code
def yX9_sees : MethodName := ⟨RX9, "sees", "(II)Z"⟩
abbrev cX9_after : ByteArray := prog_11_method_5_code
def yX9_after : MethodName := ⟨RX9, "after", "(II)I"⟩
abbrev cX9_housesWithSpots : ByteArray := prog_11_method_6_code
def yX9_housesWithSpots : MethodName := ⟨RX9, "housesWithSpots", "()I"⟩
abbrev cX9_housesSeenFrom : ByteArray := prog_11_method_7_code
def yX9_housesSeenFrom : MethodName := ⟨RX9, "housesSeenFrom", "(I)I"⟩
abbrev cX9_read : ByteArray := prog_11_method_8_code
def yX9_read : MethodName := ⟨RX9, "read", "(LGhostQuarter$Tape;I)I"⟩
abbrev cX9_clear : ByteArray := prog_11_method_9_code
def yX9_clear : MethodName := ⟨RX9, "clear", "()V"⟩
abbrev cX9_endRow : ByteArray := prog_11_method_10_code
def yX9_endRow : MethodName := ⟨RX9, "endRow", "(II)I"⟩
abbrev cX9_put : ByteArray := prog_11_method_11_code
def yX9_put : MethodName := ⟨RX9, "put", "(III)I"⟩
abbrev cX9_putHouse : ByteArray := prog_11_method_12_code
def yX9_putHouse : MethodName := ⟨RX9, "putHouse", "(II)I"⟩
abbrev cX9_look : ByteArray := prog_11_method_13_code
def yX9_look : MethodName := ⟨RX9, "look", "()V"⟩
abbrev cX9_lookAlong : ByteArray := prog_11_method_14_code
def yX9_lookAlong : MethodName := ⟨RX9, "lookAlong", "(II)J"⟩
def RX10 : String := "GhostQuarter$Walks"
def TX10 : u_T := fun k => match k with
  | 0 => ("GhostQuarter$Walks", "length", "[I", true)
  | 1 => ("GhostQuarter$Walks", "steps", "[[I", true)
  | 2 => ("GhostQuarter$Walks", "one", "[I", true)
  | 3 => ("GhostQuarter$Walks", "other", "[I", true)
  | 4 => ("GhostQuarter$Walks", "draft", "[I", true)
  | 5 => ("GhostQuarter$Walks", "openPlace", "[I", true)
  | 6 => ("GhostQuarter$Walks", "openTimes", "[I", true)
  | 7 => ("GhostQuarter$Walks", "openFrom", "[I", true)
  | 8 => ("GhostQuarter$Walks", "size", "I", false)
  | 9 => ("GhostQuarter$Walks", "open", "I", false)
  | 10 => ("GhostQuarter$Walks", "digit", "I", false)
  | 11 => ("GhostQuarter$Walks", "digitPlace", "I", false)
  | _ => ("GhostQuarter$Walks", "bare", "Z", false)
def tyX10 : Nat → FieldType := fun k => match k with
  | 0 => .array .int
  | 1 => .array (.array .int)
  | 2 => .array .int
  | 3 => .array .int
  | 4 => .array .int
  | 5 => .array .int
  | 6 => .array .int
  | 7 => .array .int
  | 8 => .int
  | 9 => .int
  | 10 => .int
  | 11 => .int
  | _ => .boolean
abbrev wsX100 : List Cond := u_ws RX10 TX10 13
theorem nmX10 : ∀ a, a < 13 → ∀ b, b < 13 → a ≠ b → (TX10 a).2.1 ≠ (TX10 b).2.1 := by decide +kernel
theorem tyX10_ok : ∀ k, k < 13 → parseFieldDescriptor (TX10 k).2.2.1 = some (tyX10 k) := by decide +kernel
abbrev cX10_init : ByteArray := prog_12_method_1_code
def yX10_init : MethodName := ⟨RX10, "<init>", "()V"⟩
abbrev cX10_read : ByteArray := prog_12_method_2_code
def yX10_read : MethodName := ⟨RX10, "read", "(LGhostQuarter$Tape;II)I"⟩
abbrev cX10_trace : ByteArray := prog_12_method_3_code
def yX10_trace : MethodName := ⟨RX10, "trace", "(LGhostQuarter$Town;I[I)I"⟩
abbrev cX10_meeting : ByteArray := prog_12_method_4_code
def yX10_meeting : MethodName := ⟨RX10, "meeting", "(LGhostQuarter$Town;II)I"⟩
abbrev cX10_oneIn : ByteArray := prog_12_method_5_code
def yX10_oneIn : MethodName := ⟨RX10, "oneIn", "(II)I"⟩
abbrev cX10_otherIn : ByteArray := prog_12_method_6_code
def yX10_otherIn : MethodName := ⟨RX10, "otherIn", "(II)I"⟩
abbrev cX10_take : ByteArray := prog_12_method_7_code
def yX10_take : MethodName := ⟨RX10, "take", "(II)I"⟩
abbrev cX10_addStep : ByteArray := prog_12_method_8_code
def yX10_addStep : MethodName := ⟨RX10, "addStep", "(III)I"⟩
abbrev cX10_openGroup : ByteArray := prog_12_method_9_code
def yX10_openGroup : MethodName := ⟨RX10, "openGroup", "(III)I"⟩
abbrev cX10_closeGroup : ByteArray := prog_12_method_10_code
def yX10_closeGroup : MethodName := ⟨RX10, "closeGroup", "()I"⟩
abbrev cX10_stepOf : ByteArray := prog_12_method_11_code
def yX10_stepOf : MethodName := ⟨RX10, "stepOf", "(I)I"⟩
def RX11 : String := "GhostQuarter"
def TX11 : u_T := fun k => match k with
  | 0 => ("GhostQuarter", "tape", "LGhostQuarter$Tape;", true)
  | 1 => ("GhostQuarter", "walks", "LGhostQuarter$Walks;", true)
  | 2 => ("GhostQuarter", "lawReader", "LGhostQuarter$LawReader;", true)
  | 3 => ("GhostQuarter", "night", "LGhostQuarter$Night;", true)
  | 4 => ("GhostQuarter", "paths", "LGhostQuarter$Paths;", true)
  | 5 => ("GhostQuarter", "seenSpots", "LGhostQuarter$Sightings;", true)
  | 6 => ("GhostQuarter", "rotaTable", "LGhostQuarter$Rotas;", true)
  | 7 => ("GhostQuarter", "now", "LGhostQuarter$Times;", true)
  | 8 => ("GhostQuarter", "kept", "LGhostQuarter$Times;", true)
  | 9 => ("GhostQuarter", "hands", "[I", true)
  | 10 => ("GhostQuarter", "town", "LGhostQuarter$Town;", false)
  | 11 => ("GhostQuarter", "spareTown", "LGhostQuarter$Town;", false)
  | 12 => ("GhostQuarter", "rules", "LGhostQuarter$Law;", false)
  | 13 => ("GhostQuarter", "spareRules", "LGhostQuarter$Law;", false)
  | 14 => ("GhostQuarter", "wasKept", "Z", false)
  | _ => ("GhostQuarter", "dogs", "I", false)
def tyX11 : Nat → FieldType := fun k => match k with
  | 0 => .object "GhostQuarter$Tape"
  | 1 => .object "GhostQuarter$Walks"
  | 2 => .object "GhostQuarter$LawReader"
  | 3 => .object "GhostQuarter$Night"
  | 4 => .object "GhostQuarter$Paths"
  | 5 => .object "GhostQuarter$Sightings"
  | 6 => .object "GhostQuarter$Rotas"
  | 7 => .object "GhostQuarter$Times"
  | 8 => .object "GhostQuarter$Times"
  | 9 => .array .int
  | 10 => .object "GhostQuarter$Town"
  | 11 => .object "GhostQuarter$Town"
  | 12 => .object "GhostQuarter$Law"
  | 13 => .object "GhostQuarter$Law"
  | 14 => .boolean
  | _ => .int
abbrev wsX110 : List Cond := u_ws RX11 TX11 16
theorem nmX11 : ∀ a, a < 16 → ∀ b, b < 16 → a ≠ b → (TX11 a).2.1 ≠ (TX11 b).2.1 := by decide +kernel
theorem tyX11_ok : ∀ k, k < 16 → parseFieldDescriptor (TX11 k).2.2.1 = some (tyX11 k) := by decide +kernel
abbrev cX11_init : ByteArray := prog_1_method_1_code
def yX11_init : MethodName := ⟨RX11, "<init>", "()V"⟩
abbrev cX11_feed : ByteArray := prog_1_method_2_code
def yX11_feed : MethodName := ⟨RX11, "feed", "(IIIII)I"⟩
abbrev cX11_quarter : ByteArray := prog_1_method_3_code
def yX11_quarter : MethodName := ⟨RX11, "quarter", "(I)I"⟩
abbrev cX11_walk : ByteArray := prog_1_method_4_code
def yX11_walk : MethodName := ⟨RX11, "walk", "(II)I"⟩
abbrev cX11_law : ByteArray := prog_1_method_5_code
def yX11_law : MethodName := ⟨RX11, "law", "(I)I"⟩
abbrev cX11_stranger : ByteArray := prog_1_method_6_code
def yX11_stranger : MethodName := ⟨RX11, "stranger", "(IIII)Z"⟩
abbrev cX11_dog : ByteArray := prog_1_method_7_code
def yX11_dog : MethodName := ⟨RX11, "dog", "(IZ)Z"⟩
abbrev cX11_tells : ByteArray := prog_1_method_8_code
def yX11_tells : MethodName := ⟨RX11, "tells", "(I)Z"⟩
abbrev cX11_haunts : ByteArray := prog_1_method_9_code
def yX11_haunts : MethodName := ⟨RX11, "haunts", "(I)I"⟩
abbrev cX11_tried : ByteArray := prog_1_method_10_code
def yX11_tried : MethodName := ⟨RX11, "tried", "(II)I"⟩
abbrev cX11_strangerIs : ByteArray := prog_1_method_11_code
def yX11_strangerIs : MethodName := ⟨RX11, "strangerIs", "(II)I"⟩
abbrev cX11_houseIs : ByteArray := prog_1_method_12_code
def yX11_houseIs : MethodName := ⟨RX11, "houseIs", "(II)I"⟩
abbrev cX11_meet : ByteArray := prog_1_method_13_code
def yX11_meet : MethodName := ⟨RX11, "meet", "(III)I"⟩
abbrev cX11_dread : ByteArray := prog_1_method_14_code
def yX11_dread : MethodName := ⟨RX11, "dread", "(III)I"⟩
abbrev cX11_unseen : ByteArray := prog_1_method_15_code
def yX11_unseen : MethodName := ⟨RX11, "unseen", "(III)I"⟩
abbrev cX11_watch : ByteArray := prog_1_method_16_code
def yX11_watch : MethodName := ⟨RX11, "watch", "(I)I"⟩
abbrev cX11_feared : ByteArray := prog_1_method_17_code
def yX11_feared : MethodName := ⟨RX11, "feared", "(II)I"⟩
abbrev cX11_sightings : ByteArray := prog_1_method_18_code
def yX11_sightings : MethodName := ⟨RX11, "sightings", "(II)I"⟩
abbrev cX11_rotas : ByteArray := prog_1_method_19_code
def yX11_rotas : MethodName := ⟨RX11, "rotas", "(IIII)I"⟩
abbrev cX11_goes : ByteArray := prog_1_method_20_code
def yX11_goes : MethodName := ⟨RX11, "goes", "(II)I"⟩
abbrev cX11_odds : ByteArray := prog_1_method_21_code
def yX11_odds : MethodName := ⟨RX11, "odds", "(III)J"⟩
abbrev cX11_watered : ByteArray := prog_1_method_22_code
def yX11_watered : MethodName := ⟨RX11, "watered", "(I)I"⟩
abbrev cX11_tax : ByteArray := prog_1_method_23_code
def yX11_tax : MethodName := ⟨RX11, "tax", "(I)I"⟩
abbrev cX11_hand : ByteArray := prog_1_method_24_code
def yX11_hand : MethodName := ⟨RX11, "hand", "(II)Z"⟩
abbrev cX11_ledger : ByteArray := prog_1_method_25_code
def yX11_ledger : MethodName := ⟨RX11, "ledger", "(IIII)I"⟩
abbrev cX11_seed : ByteArray := prog_1_method_26_code
def yX11_seed : MethodName := ⟨RX11, "seed", "(I)Z"⟩
abbrev cX11_keep : ByteArray := prog_1_method_27_code
def yX11_keep : MethodName := ⟨RX11, "keep", "()I"⟩
abbrev cX11_undo : ByteArray := prog_1_method_28_code
def yX11_undo : MethodName := ⟨RX11, "undo", "()Z"⟩
abbrev cX11_check : ByteArray := prog_1_method_29_code
def yX11_check : MethodName := ⟨RX11, "check", "(I)I"⟩
abbrev cX11_count : ByteArray := prog_1_method_30_code
def yX11_count : MethodName := ⟨RX11, "count", "(I)I"⟩
abbrev cX11_isIn : ByteArray := prog_1_method_31_code
def yX11_isIn : MethodName := ⟨RX11, "isIn", "(III)Z"⟩
abbrev cX11_hasBit : ByteArray := prog_1_method_32_code
def yX11_hasBit : MethodName := ⟨RX11, "hasBit", "(II)Z"⟩
abbrev cX11_isHouse : ByteArray := prog_1_method_33_code
def yX11_isHouse : MethodName := ⟨RX11, "isHouse", "(I)Z"⟩
abbrev cX11_isStranger : ByteArray := prog_1_method_34_code
def yX11_isStranger : MethodName := ⟨RX11, "isStranger", "(I)Z"⟩
abbrev cX11_faultAt : ByteArray := prog_1_method_35_code
def yX11_faultAt : MethodName := ⟨RX11, "faultAt", "(II)I"⟩
abbrev cX11_stepsBetween : ByteArray := prog_1_method_36_code
def yX11_stepsBetween : MethodName := ⟨RX11, "stepsBetween", "(II)I"⟩
abbrev cX11_hasSpot : ByteArray := prog_1_method_37_code
def yX11_hasSpot : MethodName := ⟨RX11, "hasSpot", "(I)Z"⟩
abbrev cX11_canHaunt : ByteArray := prog_1_method_38_code
def yX11_canHaunt : MethodName := ⟨RX11, "canHaunt", "(I)Z"⟩
abbrev cX11_dogOf : ByteArray := prog_1_method_39_code
def yX11_dogOf : MethodName := ⟨RX11, "dogOf", "(I)I"⟩
abbrev cX11_dogsAgainst : ByteArray := prog_1_method_40_code
def yX11_dogsAgainst : MethodName := ⟨RX11, "dogsAgainst", "(I)I"⟩
abbrev cX11_triedFurther : ByteArray := prog_1_method_41_code
def yX11_triedFurther : MethodName := ⟨RX11, "triedFurther", "(I)I"⟩
abbrev cX11_canShare : ByteArray := prog_1_method_42_code
def yX11_canShare : MethodName := ⟨RX11, "canShare", "(I)Z"⟩
abbrev cX11_taxShare : ByteArray := prog_1_method_43_code
def yX11_taxShare : MethodName := ⟨RX11, "taxShare", "(I)I"⟩
abbrev cX11_housesThatFit : ByteArray := prog_1_method_44_code
def yX11_housesThatFit : MethodName := ⟨RX11, "housesThatFit", "(III)I"⟩
abbrev cX11_markThatTells : ByteArray := prog_1_method_45_code
def yX11_markThatTells : MethodName := ⟨RX11, "markThatTells", "(I)I"⟩
def RX12 : String := "GhostQuarterModel"
def TX12 : u_T := fun k => match k with
  | 0 => ("GhostQuarterModel", "now", "[I", true)
  | 1 => ("GhostQuarterModel", "aside", "[I", true)
  | 2 => ("GhostQuarterModel", "kept", "[I", true)
  | 3 => ("GhostQuarterModel", "kindOf", "[I", true)
  | 4 => ("GhostQuarterModel", "houseAt", "[I", true)
  | 5 => ("GhostQuarterModel", "handOf", "[I", true)
  | 6 => ("GhostQuarterModel", "walkMany", "[I", true)
  | 7 => ("GhostQuarterModel", "walkStep", "[B", true)
  | 8 => ("GhostQuarterModel", "dogs", "I", false)
  | 9 => ("GhostQuarterModel", "tape", "[B", true)
  | 10 => ("GhostQuarterModel", "taped", "I", false)
  | 11 => ("GhostQuarterModel", "place0", "I", false)
  | 12 => ("GhostQuarterModel", "length0", "I", false)
  | 13 => ("GhostQuarterModel", "fault", "I", false)
  | 14 => ("GhostQuarterModel", "number0", "I", false)
  | 15 => ("GhostQuarterModel", "open", "I", false)
  | 16 => ("GhostQuarterModel", "codeMany", "I", false)
  | 17 => ("GhostQuarterModel", "waiting", "I", false)
  | 18 => ("GhostQuarterModel", "saidMany", "I", false)
  | 19 => ("GhostQuarterModel", "clauses", "I", false)
  | 20 => ("GhostQuarterModel", "said", "[I", true)
  | 21 => ("GhostQuarterModel", "waitsAt", "[I", true)
  | 22 => ("GhostQuarterModel", "saidLetter", "[I", true)
  | 23 => ("GhostQuarterModel", "saidFrom", "[I", true)
  | 24 => ("GhostQuarterModel", "saidHalf", "[I", true)
  | 25 => ("GhostQuarterModel", "saidTo", "[I", true)
  | 26 => ("GhostQuarterModel", "codes", "[I", true)
  | 27 => ("GhostQuarterModel", "clauseOf", "[I", true)
  | 28 => ("GhostQuarterModel", "codeFrom", "[I", true)
  | 29 => ("GhostQuarterModel", "codeHalf", "[I", true)
  | 30 => ("GhostQuarterModel", "codeTo", "[I", true)
  | 31 => ("GhostQuarterModel", "newKind", "[I", true)
  | 32 => ("GhostQuarterModel", "newHouse", "[I", true)
  | 33 => ("GhostQuarterModel", "newStep", "[B", true)
  | 34 => ("GhostQuarterModel", "roundFrom", "[I", true)
  | 35 => ("GhostQuarterModel", "roundAt", "[I", true)
  | 36 => ("GhostQuarterModel", "roundTimes", "[I", true)
  | 37 => ("GhostQuarterModel", "newMany", "I", false)
  | 38 => ("GhostQuarterModel", "rounds", "I", false)
  | 39 => ("GhostQuarterModel", "stepFrom", "I", false)
  | 40 => ("GhostQuarterModel", "stepTimes", "I", false)
  | 41 => ("GhostQuarterModel", "stack", "[I", true)
  | 42 => ("GhostQuarterModel", "facts", "[I", true)
  | 43 => ("GhostQuarterModel", "paysAt", "[I", true)
  | 44 => ("GhostQuarterModel", "spotAt", "[I", true)
  | 45 => ("GhostQuarterModel", "coinsNow", "I", false)
  | 46 => ("GhostQuarterModel", "paysNow", "I", false)
  | 47 => ("GhostQuarterModel", "barks", "I", false)
  | 48 => ("GhostQuarterModel", "seenMinutes", "I", false)
  | 49 => ("GhostQuarterModel", "fearNow", "I", false)
  | 50 => ("GhostQuarterModel", "dreadOf", "[I", true)
  | 51 => ("GhostQuarterModel", "dreadThen", "[I", true)
  | 52 => ("GhostQuarterModel", "costTo", "[I", true)
  | 53 => ("GhostQuarterModel", "canBoth", "[Z", true)
  | 54 => ("GhostQuarterModel", "rowsOf", "[I", true)
  | 55 => ("GhostQuarterModel", "differOf", "[I", true)
  | 56 => ("GhostQuarterModel", "rotaHouse", "[I", true)
  | 57 => ("GhostQuarterModel", "rotaMany", "I", false)
  | 58 => ("GhostQuarterModel", "rotaMost", "I", false)
  | 59 => ("GhostQuarterModel", "restOf", "[J", true)
  | 60 => ("GhostQuarterModel", "taxOf", "[I", true)
  | _ => ("GhostQuarterModel", "isKept", "Z", false)
def tyX12 : Nat → FieldType := fun k => match k with
  | 0 => .array .int
  | 1 => .array .int
  | 2 => .array .int
  | 3 => .array .int
  | 4 => .array .int
  | 5 => .array .int
  | 6 => .array .int
  | 7 => .array .byte
  | 8 => .int
  | 9 => .array .byte
  | 10 => .int
  | 11 => .int
  | 12 => .int
  | 13 => .int
  | 14 => .int
  | 15 => .int
  | 16 => .int
  | 17 => .int
  | 18 => .int
  | 19 => .int
  | 20 => .array .int
  | 21 => .array .int
  | 22 => .array .int
  | 23 => .array .int
  | 24 => .array .int
  | 25 => .array .int
  | 26 => .array .int
  | 27 => .array .int
  | 28 => .array .int
  | 29 => .array .int
  | 30 => .array .int
  | 31 => .array .int
  | 32 => .array .int
  | 33 => .array .byte
  | 34 => .array .int
  | 35 => .array .int
  | 36 => .array .int
  | 37 => .int
  | 38 => .int
  | 39 => .int
  | 40 => .int
  | 41 => .array .int
  | 42 => .array .int
  | 43 => .array .int
  | 44 => .array .int
  | 45 => .int
  | 46 => .int
  | 47 => .int
  | 48 => .int
  | 49 => .int
  | 50 => .array .int
  | 51 => .array .int
  | 52 => .array .int
  | 53 => .array .boolean
  | 54 => .array .int
  | 55 => .array .int
  | 56 => .array .int
  | 57 => .int
  | 58 => .int
  | 59 => .array .long
  | 60 => .array .int
  | _ => .boolean
abbrev wsX120 : List Cond := u_ws RX12 TX12 62
theorem nmX12 : ∀ a, a < 62 → ∀ b, b < 62 → a ≠ b → (TX12 a).2.1 ≠ (TX12 b).2.1 := by decide +kernel
theorem tyX12_ok : ∀ k, k < 62 → parseFieldDescriptor (TX12 k).2.2.1 = some (tyX12 k) := by decide +kernel
abbrev cX12_init : ByteArray := prog_14_method_1_code
def yX12_init : MethodName := ⟨RX12, "<init>", "()V"⟩
abbrev cX12_in : ByteArray := prog_14_method_2_code
def yX12_in : MethodName := ⟨RX12, "in", "(III)Z"⟩
abbrev cX12_min : ByteArray := prog_14_method_3_code
def yX12_min : MethodName := ⟨RX12, "min", "(II)I"⟩
abbrev cX12_max : ByteArray := prog_14_method_4_code
def yX12_max : MethodName := ⟨RX12, "max", "(II)I"⟩
abbrev cX12_size : ByteArray := prog_14_method_5_code
def yX12_size : MethodName := ⟨RX12, "size", "(I)I"⟩
abbrev cX12_has : ByteArray := prog_14_method_6_code
def yX12_has : MethodName := ⟨RX12, "has", "(II)Z"⟩
abbrev cX12_bits : ByteArray := prog_14_method_7_code
def yX12_bits : MethodName := ⟨RX12, "bits", "(I)I"⟩
abbrev cX12_isTen : ByteArray := prog_14_method_8_code
def yX12_isTen : MethodName := ⟨RX12, "isTen", "(I)Z"⟩
abbrev cX12_hasSpot : ByteArray := prog_14_method_9_code
def yX12_hasSpot : MethodName := ⟨RX12, "hasSpot", "(I)Z"⟩
abbrev cX12_isTold : ByteArray := prog_14_method_10_code
def yX12_isTold : MethodName := ⟨RX12, "isTold", "(I)Z"⟩
abbrev cX12_isThere : ByteArray := prog_14_method_11_code
def yX12_isThere : MethodName := ⟨RX12, "isThere", "(I)Z"⟩
abbrev cX12_farOf : ByteArray := prog_14_method_12_code
def yX12_farOf : MethodName := ⟨RX12, "farOf", "(II)I"⟩
abbrev cX12_beside : ByteArray := prog_14_method_13_code
def yX12_beside : MethodName := ⟨RX12, "beside", "(II)I"⟩
abbrev cX12_stepTo : ByteArray := prog_14_method_14_code
def yX12_stepTo : MethodName := ⟨RX12, "stepTo", "(II)I"⟩
abbrev cX12_isSeen : ByteArray := prog_14_method_15_code
def yX12_isSeen : MethodName := ⟨RX12, "isSeen", "(II)Z"⟩
abbrev cX12_types : ByteArray := prog_14_method_16_code
def yX12_types : MethodName := ⟨RX12, "types", "(I)V"⟩
abbrev cX12_feed : ByteArray := prog_14_method_17_code
def yX12_feed : MethodName := ⟨RX12, "feed", "(IIIII)I"⟩
abbrev cX12_here : ByteArray := prog_14_method_18_code
def yX12_here : MethodName := ⟨RX12, "here", "()I"⟩
abbrev cX12_isDigit : ByteArray := prog_14_method_19_code
def yX12_isDigit : MethodName := ⟨RX12, "isDigit", "()Z"⟩
abbrev cX12_wrongAt : ByteArray := prog_14_method_20_code
def yX12_wrongAt : MethodName := ⟨RX12, "wrongAt", "(II)Z"⟩
abbrev cX12_takes : ByteArray := prog_14_method_21_code
def yX12_takes : MethodName := ⟨RX12, "takes", "(I)Z"⟩
abbrev cX12_readsNumber : ByteArray := prog_14_method_22_code
def yX12_readsNumber : MethodName := ⟨RX12, "readsNumber", "()Z"⟩
abbrev cX12_notes : ByteArray := prog_14_method_23_code
def yX12_notes : MethodName := ⟨RX12, "notes", "(II)V"⟩
abbrev cX12_opens : ByteArray := prog_14_method_24_code
def yX12_opens : MethodName := ⟨RX12, "opens", "(I)Z"⟩
abbrev cX12_waitTop : ByteArray := prog_14_method_25_code
def yX12_waitTop : MethodName := ⟨RX12, "waitTop", "()I"⟩
abbrev cX12_factOf : ByteArray := prog_14_method_26_code
def yX12_factOf : MethodName := ⟨RX12, "factOf", "(I)I"⟩
abbrev cX12_sumSign : ByteArray := prog_14_method_27_code
def yX12_sumSign : MethodName := ⟨RX12, "sumSign", "(I)I"⟩
abbrev cX12_closesSums : ByteArray := prog_14_method_28_code
def yX12_closesSums : MethodName := ⟨RX12, "closesSums", "(Z)V"⟩
abbrev cX12_readsFactor : ByteArray := prog_14_method_29_code
def yX12_readsFactor : MethodName := ⟨RX12, "readsFactor", "()Z"⟩
abbrev cX12_hasOpenSum : ByteArray := prog_14_method_30_code
def yX12_hasOpenSum : MethodName := ⟨RX12, "hasOpenSum", "(I)Z"⟩
abbrev cX12_readsSum : ByteArray := prog_14_method_31_code
def yX12_readsSum : MethodName := ⟨RX12, "readsSum", "()Z"⟩
abbrev cX12_endsPiece : ByteArray := prog_14_method_32_code
def yX12_endsPiece : MethodName := ⟨RX12, "endsPiece", "()V"⟩
abbrev cX12_lands : ByteArray := prog_14_method_33_code
def yX12_lands : MethodName := ⟨RX12, "lands", "(Z)V"⟩
abbrev cX12_jumps : ByteArray := prog_14_method_34_code
def yX12_jumps : MethodName := ⟨RX12, "jumps", "(I)V"⟩
abbrev cX12_readsCompared : ByteArray := prog_14_method_35_code
def yX12_readsCompared : MethodName := ⟨RX12, "readsCompared", "()Z"⟩
abbrev cX12_readsCondition : ByteArray := prog_14_method_36_code
def yX12_readsCondition : MethodName := ⟨RX12, "readsCondition", "()Z"⟩
abbrev cX12_isSpotAt : ByteArray := prog_14_method_37_code
def yX12_isSpotAt : MethodName := ⟨RX12, "isSpotAt", "(I)Z"⟩
abbrev cX12_readsRow : ByteArray := prog_14_method_38_code
def yX12_readsRow : MethodName := ⟨RX12, "readsRow", "(I)Z"⟩
abbrev cX12_quarter : ByteArray := prog_14_method_39_code
def yX12_quarter : MethodName := ⟨RX12, "quarter", "(I)I"⟩
abbrev cX12_wayOf : ByteArray := prog_14_method_40_code
def yX12_wayOf : MethodName := ⟨RX12, "wayOf", "(I)I"⟩
abbrev cX12_repeats : ByteArray := prog_14_method_41_code
def yX12_repeats : MethodName := ⟨RX12, "repeats", "(III)Z"⟩
abbrev cX12_readsTimes : ByteArray := prog_14_method_42_code
def yX12_readsTimes : MethodName := ⟨RX12, "readsTimes", "()V"⟩
abbrev cX12_readsStep : ByteArray := prog_14_method_43_code
def yX12_readsStep : MethodName := ⟨RX12, "readsStep", "()Z"⟩
abbrev cX12_endsRounds : ByteArray := prog_14_method_44_code
def yX12_endsRounds : MethodName := ⟨RX12, "endsRounds", "()Z"⟩
abbrev cX12_walk : ByteArray := prog_14_method_45_code
def yX12_walk : MethodName := ⟨RX12, "walk", "(II)I"⟩
abbrev cX12_isClause : ByteArray := prog_14_method_46_code
def yX12_isClause : MethodName := ⟨RX12, "isClause", "(I)Z"⟩
abbrev cX12_readsClause : ByteArray := prog_14_method_47_code
def yX12_readsClause : MethodName := ⟨RX12, "readsClause", "()Z"⟩
abbrev cX12_law : ByteArray := prog_14_method_48_code
def yX12_law : MethodName := ⟨RX12, "law", "(I)I"⟩
abbrev cX12_reckon : ByteArray := prog_14_method_49_code
def yX12_reckon : MethodName := ⟨RX12, "reckon", "(III)I"⟩
abbrev cX12_comesTo : ByteArray := prog_14_method_50_code
def yX12_comesTo : MethodName := ⟨RX12, "comesTo", "(II)I"⟩
abbrev cX12_byLaw : ByteArray := prog_14_method_51_code
def yX12_byLaw : MethodName := ⟨RX12, "byLaw", "(II)I"⟩
abbrev cX12_feels : ByteArray := prog_14_method_52_code
def yX12_feels : MethodName := ⟨RX12, "feels", "(II)V"⟩
abbrev cX12_mayHaunt : ByteArray := prog_14_method_53_code
def yX12_mayHaunt : MethodName := ⟨RX12, "mayHaunt", "(II)Z"⟩
abbrev cX12_feelsStranger : ByteArray := prog_14_method_54_code
def yX12_feelsStranger : MethodName := ⟨RX12, "feelsStranger", "(IIII)V"⟩
abbrev cX12_fearOf : ByteArray := prog_14_method_55_code
def yX12_fearOf : MethodName := ⟨RX12, "fearOf", "(IIII)I"⟩
abbrev cX12_rumourOf : ByteArray := prog_14_method_56_code
def yX12_rumourOf : MethodName := ⟨RX12, "rumourOf", "(II)I"⟩
abbrev cX12_stranger : ByteArray := prog_14_method_57_code
def yX12_stranger : MethodName := ⟨RX12, "stranger", "(IIII)Z"⟩
abbrev cX12_dog : ByteArray := prog_14_method_58_code
def yX12_dog : MethodName := ⟨RX12, "dog", "(IZ)Z"⟩
abbrev cX12_tells : ByteArray := prog_14_method_59_code
def yX12_tells : MethodName := ⟨RX12, "tells", "(I)Z"⟩
abbrev cX12_hand : ByteArray := prog_14_method_60_code
def yX12_hand : MethodName := ⟨RX12, "hand", "(II)Z"⟩
abbrev cX12_minuteOf : ByteArray := prog_14_method_61_code
def yX12_minuteOf : MethodName := ⟨RX12, "minuteOf", "(III)V"⟩
abbrev cX12_nightOf : ByteArray := prog_14_method_62_code
def yX12_nightOf : MethodName := ⟨RX12, "nightOf", "(I)V"⟩
abbrev cX12_haunts : ByteArray := prog_14_method_63_code
def yX12_haunts : MethodName := ⟨RX12, "haunts", "(I)I"⟩
abbrev cX12_copies : ByteArray := prog_14_method_64_code
def yX12_copies : MethodName := ⟨RX12, "copies", "([I[I)V"⟩
abbrev cX12_tried : ByteArray := prog_14_method_65_code
def yX12_tried : MethodName := ⟨RX12, "tried", "(II)I"⟩
abbrev cX12_housesSeen : ByteArray := prog_14_method_66_code
def yX12_housesSeen : MethodName := ⟨RX12, "housesSeen", "(I)I"⟩
abbrev cX12_strangerIs : ByteArray := prog_14_method_67_code
def yX12_strangerIs : MethodName := ⟨RX12, "strangerIs", "(II)I"⟩
abbrev cX12_houseIs : ByteArray := prog_14_method_68_code
def yX12_houseIs : MethodName := ⟨RX12, "houseIs", "(II)I"⟩
abbrev cX12_watchedFrom : ByteArray := prog_14_method_69_code
def yX12_watchedFrom : MethodName := ⟨RX12, "watchedFrom", "(I)I"⟩
abbrev cX12_watch : ByteArray := prog_14_method_70_code
def yX12_watch : MethodName := ⟨RX12, "watch", "(I)I"⟩
abbrev cX12_feared : ByteArray := prog_14_method_71_code
def yX12_feared : MethodName := ⟨RX12, "feared", "(II)I"⟩
abbrev cX12_goesOn : ByteArray := prog_14_method_72_code
def yX12_goesOn : MethodName := ⟨RX12, "goesOn", "(III)I"⟩
abbrev cX12_meet : ByteArray := prog_14_method_73_code
def yX12_meet : MethodName := ⟨RX12, "meet", "(III)I"⟩
abbrev cX12_fearAt : ByteArray := prog_14_method_74_code
def yX12_fearAt : MethodName := ⟨RX12, "fearAt", "(III)I"⟩
abbrev cX12_dread : ByteArray := prog_14_method_75_code
def yX12_dread : MethodName := ⟨RX12, "dread", "(III)I"⟩
abbrev cX12_seers : ByteArray := prog_14_method_76_code
def yX12_seers : MethodName := ⟨RX12, "seers", "(I)I"⟩
abbrev cX12_laysCosts : ByteArray := prog_14_method_77_code
def yX12_laysCosts : MethodName := ⟨RX12, "laysCosts", "(IZ)V"⟩
abbrev cX12_unseen : ByteArray := prog_14_method_78_code
def yX12_unseen : MethodName := ⟨RX12, "unseen", "(III)I"⟩
abbrev cX12_areSights : ByteArray := prog_14_method_79_code
def yX12_areSights : MethodName := ⟨RX12, "areSights", "(I)Z"⟩
abbrev cX12_laysBoth : ByteArray := prog_14_method_80_code
def yX12_laysBoth : MethodName := ⟨RX12, "laysBoth", "(I)V"⟩
abbrev cX12_areApart : ByteArray := prog_14_method_81_code
def yX12_areApart : MethodName := ⟨RX12, "areApart", "(II)Z"⟩
abbrev cX12_ghostsFor : ByteArray := prog_14_method_82_code
def yX12_ghostsFor : MethodName := ⟨RX12, "ghostsFor", "(I)I"⟩
abbrev cX12_fromWhere : ByteArray := prog_14_method_83_code
def yX12_fromWhere : MethodName := ⟨RX12, "fromWhere", "(I)I"⟩
abbrev cX12_sightings : ByteArray := prog_14_method_84_code
def yX12_sightings : MethodName := ⟨RX12, "sightings", "(II)I"⟩
abbrev cX12_rotaState : ByteArray := prog_14_method_85_code
def yX12_rotaState : MethodName := ⟨RX12, "rotaState", "(III)I"⟩
abbrev cX12_countIn : ByteArray := prog_14_method_86_code
def yX12_countIn : MethodName := ⟨RX12, "countIn", "(II)I"⟩
abbrev cX12_differs : ByteArray := prog_14_method_87_code
def yX12_differs : MethodName := ⟨RX12, "differs", "(I)I"⟩
abbrev cX12_mayNext : ByteArray := prog_14_method_88_code
def yX12_mayNext : MethodName := ⟨RX12, "mayNext", "(IIII)Z"⟩
abbrev cX12_laysRotas : ByteArray := prog_14_method_89_code
def yX12_laysRotas : MethodName := ⟨RX12, "laysRotas", "(I)V"⟩
abbrev cX12_sumOf : ByteArray := prog_14_method_90_code
def yX12_sumOf : MethodName := ⟨RX12, "sumOf", "(I)I"⟩
abbrev cX12_firstIn : ByteArray := prog_14_method_91_code
def yX12_firstIn : MethodName := ⟨RX12, "firstIn", "(I)I"⟩
abbrev cX12_rotas : ByteArray := prog_14_method_92_code
def yX12_rotas : MethodName := ⟨RX12, "rotas", "(IIII)I"⟩
abbrev cX12_spotsSet : ByteArray := prog_14_method_93_code
def yX12_spotsSet : MethodName := ⟨RX12, "spotsSet", "()I"⟩
abbrev cX12_draws : ByteArray := prog_14_method_94_code
def yX12_draws : MethodName := ⟨RX12, "draws", "()I"⟩
abbrev cX12_goes : ByteArray := prog_14_method_95_code
def yX12_goes : MethodName := ⟨RX12, "goes", "(II)I"⟩
abbrev cX12_without : ByteArray := prog_14_method_96_code
def yX12_without : MethodName := ⟨RX12, "without", "(II)J"⟩
abbrev cX12_tens : ByteArray := prog_14_method_97_code
def yX12_tens : MethodName := ⟨RX12, "tens", "(I)J"⟩
abbrev cX12_gcd : ByteArray := prog_14_method_98_code
def yX12_gcd : MethodName := ⟨RX12, "gcd", "(JJ)J"⟩
abbrev cX12_odds : ByteArray := prog_14_method_99_code
def yX12_odds : MethodName := ⟨RX12, "odds", "(III)J"⟩
abbrev cX12_watered : ByteArray := prog_14_method_100_code
def yX12_watered : MethodName := ⟨RX12, "watered", "(I)I"⟩
abbrev cX12_tax : ByteArray := prog_14_method_101_code
def yX12_tax : MethodName := ⟨RX12, "tax", "(I)I"⟩
abbrev cX12_ledger : ByteArray := prog_14_method_102_code
def yX12_ledger : MethodName := ⟨RX12, "ledger", "(IIII)I"⟩
abbrev cX12_greaterBy : ByteArray := prog_14_method_103_code
def yX12_greaterBy : MethodName := ⟨RX12, "greaterBy", "(II)I"⟩
abbrev cX12_seed : ByteArray := prog_14_method_104_code
def yX12_seed : MethodName := ⟨RX12, "seed", "(I)Z"⟩
abbrev cX12_keep : ByteArray := prog_14_method_105_code
def yX12_keep : MethodName := ⟨RX12, "keep", "()I"⟩
abbrev cX12_undo : ByteArray := prog_14_method_106_code
def yX12_undo : MethodName := ⟨RX12, "undo", "()Z"⟩
abbrev cX12_tapeNumber : ByteArray := prog_14_method_107_code
def yX12_tapeNumber : MethodName := ⟨RX12, "tapeNumber", "(I)I"⟩
abbrev cX12_check : ByteArray := prog_14_method_108_code
def yX12_check : MethodName := ⟨RX12, "check", "(I)I"⟩
abbrev cX12_count : ByteArray := prog_14_method_109_code
def yX12_count : MethodName := ⟨RX12, "count", "(I)I"⟩
def RJ6 : String := "java/lang/Integer"
abbrev cJ6_bitCount_0f7a4 : ByteArray := prog_15_method_49_code
def yJ6_bitCount_0f7a4 : MethodName := ⟨RJ6, "bitCount", "(I)I"⟩
def RJ9 : String := "java/lang/Math"
abbrev cJ9_abs_0f7a4 : ByteArray := prog_16_method_59_code
def yJ9_abs_0f7a4 : MethodName := ⟨RJ9, "abs", "(I)I"⟩
abbrev cJ9_max_7cf53 : ByteArray := prog_16_method_65_code
def yJ9_max_7cf53 : MethodName := ⟨RJ9, "max", "(II)I"⟩
abbrev cJ9_min_7cf53 : ByteArray := prog_16_method_69_code
def yJ9_min_7cf53 : MethodName := ⟨RJ9, "min", "(II)I"⟩
def RL : String := "GhostQuarterLaw"
abbrev cL_law : ByteArray := code
def yL_law : MethodName := ⟨RL, "law", "([I)Z"⟩
abbrev vwCl : List vw_C := [(RX0, TX0, 11), (RX1, TX1, 4), (RX2, TX2, 9), (RX3, TX3, 6), (RX4, TX4, 7), (RX6, TX6, 4), (RX7, TX7, 2), (RX8, TX8, 8), (RX9, TX9, 5), (RX10, TX10, 13), (RX11, TX11, 16), (RX12, TX12, 62)]
theorem lw_memr {big : List Cond} (ws : List Cond) (ps : List Nat) (hp : ws = ps.filterMap (fun i => big[i]?)) : ∀ w ∈ ws, w ∈ big := by
  intro w hw
  rw [hp] at hw
  obtain ⟨i, -, hi⟩ := List.mem_filterMap.mp hw
  exact List.mem_of_getElem? hi
set_option maxRecDepth 100000 in
theorem iX0 : ∀ w ∈ wsX00, w ∈ lw_tbl := lw_memr _ [454, 456, 458, 460, 462, 464, 466, 468, 470, 472, 474] (by decide +kernel)
set_option maxRecDepth 100000 in
theorem iX1 : ∀ w ∈ wsX10, w ∈ lw_tbl := lw_memr _ [209, 211, 213, 215] (by decide +kernel)
set_option maxRecDepth 100000 in
theorem iX2 : ∀ w ∈ wsX20, w ∈ lw_tbl := lw_memr _ [291, 293, 295, 297, 299, 301, 303, 305, 307] (by decide +kernel)
set_option maxRecDepth 100000 in
theorem iX3 : ∀ w ∈ wsX30, w ∈ lw_tbl := lw_memr _ [325, 327, 329, 331, 333, 335] (by decide +kernel)
set_option maxRecDepth 100000 in
theorem iX4 : ∀ w ∈ wsX40, w ∈ lw_tbl := lw_memr _ [370, 372, 374, 376, 378, 380, 382] (by decide +kernel)
set_option maxRecDepth 100000 in
theorem iX6 : ∀ w ∈ wsX60, w ∈ lw_tbl := lw_memr _ [348, 350, 352, 354] (by decide +kernel)
set_option maxRecDepth 100000 in
theorem iX7 : ∀ w ∈ wsX70, w ∈ lw_tbl := lw_memr _ [144, 146] (by decide +kernel)
set_option maxRecDepth 100000 in
theorem iX8 : ∀ w ∈ wsX80, w ∈ lw_tbl := lw_memr _ [256, 258, 260, 262, 264, 266, 268, 270] (by decide +kernel)
set_option maxRecDepth 100000 in
theorem iX9 : ∀ w ∈ wsX90, w ∈ lw_tbl := lw_memr _ [423, 425, 427, 429, 431] (by decide +kernel)
set_option maxRecDepth 100000 in
theorem iX10 : ∀ w ∈ wsX100, w ∈ lw_tbl := lw_memr _ [172, 174, 176, 178, 180, 182, 184, 186, 188, 190, 192, 194, 196] (by decide +kernel)
set_option maxRecDepth 100000 in
theorem iX11 : ∀ w ∈ wsX110, w ∈ lw_tbl := lw_memr _ [493, 495, 497, 499, 501, 503, 505, 507, 509, 511, 513, 515, 517, 519, 521, 523] (by decide +kernel)
set_option maxRecDepth 100000 in
theorem iX12 : ∀ w ∈ wsX120, w ∈ lw_tbl := lw_memr _ [1216, 1218, 1220, 1222, 1224, 1226, 1228, 1230, 1232, 1234, 1236, 1238, 1240, 1242, 1244, 1246, 1248, 1250, 1252, 1254, 1256, 1258, 1260, 1262, 1264, 1266, 1268, 1270, 1272, 1274, 1276, 1278, 1280, 1282, 1284, 1286, 1288, 1290, 1292, 1294, 1296, 1298, 1300, 1302, 1304, 1306, 1308, 1310, 1312, 1314, 1316, 1318, 1320, 1322, 1324, 1326, 1328, 1330, 1332, 1334, 1336, 1338] (by decide +kernel)
