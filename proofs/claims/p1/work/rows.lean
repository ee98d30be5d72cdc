section
-- ===== PART A: goes FIRST, ahead of the names: the tables' words, and 'selects' of the private methods out of them =====
/-- a private method of a class that the tables say can be made, by its rows of tables_1 -/
def lw_okq (q : MethodName × Nat) : Prop := (q.1.cls ≠ "java/lang/invoke/MethodHandle" ∧ q.1.cls ≠ "java/lang/invoke/VarHandle") ∧ Cond.instantiable q.1.cls q.2 ∈ tables_1 ∧ Cond.privateMethod q.1 ∈ tables_1 ∧ Cond.instanceMethod q.1 ∈ tables_1
theorem lw_p0 : lw_okq (⟨"GhostQuarter$Town", "clear", "()V"⟩, 5) := ⟨⟨by decide +kernel, by decide +kernel⟩, List.mem_of_getElem? (i := 277) (by decide +kernel), List.mem_of_getElem? (i := 283) (by decide +kernel), List.mem_of_getElem? (i := 284) (by decide +kernel)⟩
theorem lw_p1 : lw_okq (⟨"GhostQuarter$Town", "look", "()V"⟩, 5) := ⟨⟨by decide +kernel, by decide +kernel⟩, List.mem_of_getElem? (i := 277) (by decide +kernel), List.mem_of_getElem? (i := 287) (by decide +kernel), List.mem_of_getElem? (i := 288) (by decide +kernel)⟩
theorem lw_p2 : lw_okq (⟨"GhostQuarter$Town", "lookAlong", "(II)J"⟩, 5) := ⟨⟨by decide +kernel, by decide +kernel⟩, List.mem_of_getElem? (i := 277) (by decide +kernel), List.mem_of_getElem? (i := 291) (by decide +kernel), List.mem_of_getElem? (i := 292) (by decide +kernel)⟩
theorem lw_p3 : lw_okq (⟨"GhostQuarter$Town", "endRow", "(II)I"⟩, 5) := ⟨⟨by decide +kernel, by decide +kernel⟩, List.mem_of_getElem? (i := 277) (by decide +kernel), List.mem_of_getElem? (i := 443) (by decide +kernel), List.mem_of_getElem? (i := 444) (by decide +kernel)⟩
theorem lw_p4 : lw_okq (⟨"GhostQuarter$Town", "put", "(III)I"⟩, 5) := ⟨⟨by decide +kernel, by decide +kernel⟩, List.mem_of_getElem? (i := 277) (by decide +kernel), List.mem_of_getElem? (i := 447) (by decide +kernel), List.mem_of_getElem? (i := 448) (by decide +kernel)⟩
theorem lw_p5 : lw_okq (⟨"GhostQuarter$Town", "putHouse", "(II)I"⟩, 5) := ⟨⟨by decide +kernel, by decide +kernel⟩, List.mem_of_getElem? (i := 277) (by decide +kernel), List.mem_of_getElem? (i := 451) (by decide +kernel), List.mem_of_getElem? (i := 452) (by decide +kernel)⟩
theorem lw_p6 : lw_okq (⟨"GhostQuarter$Walks", "take", "(II)I"⟩, 13) := ⟨⟨by decide +kernel, by decide +kernel⟩, List.mem_of_getElem? (i := 40) (by decide +kernel), List.mem_of_getElem? (i := 505) (by decide +kernel), List.mem_of_getElem? (i := 506) (by decide +kernel)⟩
theorem lw_p7 : lw_okq (⟨"GhostQuarter$Walks", "addStep", "(III)I"⟩, 13) := ⟨⟨by decide +kernel, by decide +kernel⟩, List.mem_of_getElem? (i := 40) (by decide +kernel), List.mem_of_getElem? (i := 513) (by decide +kernel), List.mem_of_getElem? (i := 514) (by decide +kernel)⟩
theorem lw_p8 : lw_okq (⟨"GhostQuarter$Walks", "openGroup", "(III)I"⟩, 13) := ⟨⟨by decide +kernel, by decide +kernel⟩, List.mem_of_getElem? (i := 40) (by decide +kernel), List.mem_of_getElem? (i := 518) (by decide +kernel), List.mem_of_getElem? (i := 519) (by decide +kernel)⟩
theorem lw_p9 : lw_okq (⟨"GhostQuarter$Walks", "closeGroup", "()I"⟩, 13) := ⟨⟨by decide +kernel, by decide +kernel⟩, List.mem_of_getElem? (i := 40) (by decide +kernel), List.mem_of_getElem? (i := 522) (by decide +kernel), List.mem_of_getElem? (i := 523) (by decide +kernel)⟩
theorem lw_p10 : lw_okq (⟨"GhostQuarter$LawReader", "readClause", "(LGhostQuarter$Law;)Z"⟩, 4) := ⟨⟨by decide +kernel, by decide +kernel⟩, List.mem_of_getElem? (i := 89) (by decide +kernel), List.mem_of_getElem? (i := 542) (by decide +kernel), List.mem_of_getElem? (i := 543) (by decide +kernel)⟩
theorem lw_p11 : lw_okq (⟨"GhostQuarter$LawReader", "next", "()I"⟩, 4) := ⟨⟨by decide +kernel, by decide +kernel⟩, List.mem_of_getElem? (i := 89) (by decide +kernel), List.mem_of_getElem? (i := 546) (by decide +kernel), List.mem_of_getElem? (i := 547) (by decide +kernel)⟩
theorem lw_p12 : lw_okq (⟨"GhostQuarter$LawReader", "fail", "(I)Z"⟩, 4) := ⟨⟨by decide +kernel, by decide +kernel⟩, List.mem_of_getElem? (i := 89) (by decide +kernel), List.mem_of_getElem? (i := 550) (by decide +kernel), List.mem_of_getElem? (i := 551) (by decide +kernel)⟩
theorem lw_p13 : lw_okq (⟨"GhostQuarter$LawReader", "readSum", "(LGhostQuarter$Law;I)Z"⟩, 4) := ⟨⟨by decide +kernel, by decide +kernel⟩, List.mem_of_getElem? (i := 89) (by decide +kernel), List.mem_of_getElem? (i := 558) (by decide +kernel), List.mem_of_getElem? (i := 559) (by decide +kernel)⟩
theorem lw_p14 : lw_okq (⟨"GhostQuarter$LawReader", "readTerm", "(LGhostQuarter$Law;I)Z"⟩, 4) := ⟨⟨by decide +kernel, by decide +kernel⟩, List.mem_of_getElem? (i := 89) (by decide +kernel), List.mem_of_getElem? (i := 562) (by decide +kernel), List.mem_of_getElem? (i := 563) (by decide +kernel)⟩
theorem lw_p15 : lw_okq (⟨"GhostQuarter$LawReader", "readFactor", "(LGhostQuarter$Law;I)Z"⟩, 4) := ⟨⟨by decide +kernel, by decide +kernel⟩, List.mem_of_getElem? (i := 89) (by decide +kernel), List.mem_of_getElem? (i := 566) (by decide +kernel), List.mem_of_getElem? (i := 567) (by decide +kernel)⟩
def lw_privs_1 : List (MethodName × Nat) := [(⟨"GhostQuarter$Town", "clear", "()V"⟩, 5), (⟨"GhostQuarter$Town", "look", "()V"⟩, 5), (⟨"GhostQuarter$Town", "lookAlong", "(II)J"⟩, 5), (⟨"GhostQuarter$Town", "endRow", "(II)I"⟩, 5), (⟨"GhostQuarter$Town", "put", "(III)I"⟩, 5), (⟨"GhostQuarter$Town", "putHouse", "(II)I"⟩, 5), (⟨"GhostQuarter$Walks", "take", "(II)I"⟩, 13), (⟨"GhostQuarter$Walks", "addStep", "(III)I"⟩, 13), (⟨"GhostQuarter$Walks", "openGroup", "(III)I"⟩, 13), (⟨"GhostQuarter$Walks", "closeGroup", "()I"⟩, 13), (⟨"GhostQuarter$LawReader", "readClause", "(LGhostQuarter$Law;)Z"⟩, 4), (⟨"GhostQuarter$LawReader", "next", "()I"⟩, 4), (⟨"GhostQuarter$LawReader", "fail", "(I)Z"⟩, 4), (⟨"GhostQuarter$LawReader", "readSum", "(LGhostQuarter$Law;I)Z"⟩, 4), (⟨"GhostQuarter$LawReader", "readTerm", "(LGhostQuarter$Law;I)Z"⟩, 4), (⟨"GhostQuarter$LawReader", "readFactor", "(LGhostQuarter$Law;I)Z"⟩, 4)]
theorem lw_r1 : ∀ q ∈ lw_privs_1, lw_okq q := List.forall_mem_cons.mpr ⟨lw_p0, List.forall_mem_cons.mpr ⟨lw_p1, List.forall_mem_cons.mpr ⟨lw_p2, List.forall_mem_cons.mpr ⟨lw_p3, List.forall_mem_cons.mpr ⟨lw_p4, List.forall_mem_cons.mpr ⟨lw_p5, List.forall_mem_cons.mpr ⟨lw_p6, List.forall_mem_cons.mpr ⟨lw_p7, List.forall_mem_cons.mpr ⟨lw_p8, List.forall_mem_cons.mpr ⟨lw_p9, List.forall_mem_cons.mpr ⟨lw_p10, List.forall_mem_cons.mpr ⟨lw_p11, List.forall_mem_cons.mpr ⟨lw_p12, List.forall_mem_cons.mpr ⟨lw_p13, List.forall_mem_cons.mpr ⟨lw_p14, List.forall_mem_cons.mpr ⟨lw_p15, fun _ h => absurd h List.not_mem_nil⟩⟩⟩⟩⟩⟩⟩⟩⟩⟩⟩⟩⟩⟩⟩⟩
theorem lw_p16 : lw_okq (⟨"GhostQuarter$LawReader", "readNumber", "(LGhostQuarter$Law;)Z"⟩, 4) := ⟨⟨by decide +kernel, by decide +kernel⟩, List.mem_of_getElem? (i := 89) (by decide +kernel), List.mem_of_getElem? (i := 573) (by decide +kernel), List.mem_of_getElem? (i := 574) (by decide +kernel)⟩
theorem lw_p17 : lw_okq (⟨"GhostQuarter$LawReader", "expect", "(I)Z"⟩, 4) := ⟨⟨by decide +kernel, by decide +kernel⟩, List.mem_of_getElem? (i := 89) (by decide +kernel), List.mem_of_getElem? (i := 581) (by decide +kernel), List.mem_of_getElem? (i := 582) (by decide +kernel)⟩
theorem lw_p18 : lw_okq (⟨"GhostQuarter$LawReader", "readEither", "(LGhostQuarter$Law;I)Z"⟩, 4) := ⟨⟨by decide +kernel, by decide +kernel⟩, List.mem_of_getElem? (i := 89) (by decide +kernel), List.mem_of_getElem? (i := 592) (by decide +kernel), List.mem_of_getElem? (i := 593) (by decide +kernel)⟩
theorem lw_p19 : lw_okq (⟨"GhostQuarter$LawReader", "readBoth", "(LGhostQuarter$Law;I)Z"⟩, 4) := ⟨⟨by decide +kernel, by decide +kernel⟩, List.mem_of_getElem? (i := 89) (by decide +kernel), List.mem_of_getElem? (i := 596) (by decide +kernel), List.mem_of_getElem? (i := 597) (by decide +kernel)⟩
theorem lw_p20 : lw_okq (⟨"GhostQuarter$LawReader", "readPiece", "(LGhostQuarter$Law;I)Z"⟩, 4) := ⟨⟨by decide +kernel, by decide +kernel⟩, List.mem_of_getElem? (i := 89) (by decide +kernel), List.mem_of_getElem? (i := 600) (by decide +kernel), List.mem_of_getElem? (i := 601) (by decide +kernel)⟩
theorem lw_p21 : lw_okq (⟨"GhostQuarter$LawReader", "readOpen", "(LGhostQuarter$Law;II)Z"⟩, 4) := ⟨⟨by decide +kernel, by decide +kernel⟩, List.mem_of_getElem? (i := 89) (by decide +kernel), List.mem_of_getElem? (i := 604) (by decide +kernel), List.mem_of_getElem? (i := 605) (by decide +kernel)⟩
theorem lw_p22 : lw_okq (⟨"GhostQuarter", "hasSpot", "(I)Z"⟩, 16) := ⟨⟨by decide +kernel, by decide +kernel⟩, List.mem_of_getElem? (i := 17) (by decide +kernel), List.mem_of_getElem? (i := 636) (by decide +kernel), List.mem_of_getElem? (i := 637) (by decide +kernel)⟩
theorem lw_p23 : lw_okq (⟨"GhostQuarter$Law", "tellNight", "(II)V"⟩, 11) := ⟨⟨by decide +kernel, by decide +kernel⟩, List.mem_of_getElem? (i := 325) (by decide +kernel), List.mem_of_getElem? (i := 644) (by decide +kernel), List.mem_of_getElem? (i := 645) (by decide +kernel)⟩
theorem lw_p24 : lw_okq (⟨"GhostQuarter$Law", "run", "(I)I"⟩, 11) := ⟨⟨by decide +kernel, by decide +kernel⟩, List.mem_of_getElem? (i := 325) (by decide +kernel), List.mem_of_getElem? (i := 648) (by decide +kernel), List.mem_of_getElem? (i := 649) (by decide +kernel)⟩
theorem lw_p25 : lw_okq (⟨"GhostQuarter$Law", "pop", "()I"⟩, 11) := ⟨⟨by decide +kernel, by decide +kernel⟩, List.mem_of_getElem? (i := 325) (by decide +kernel), List.mem_of_getElem? (i := 652) (by decide +kernel), List.mem_of_getElem? (i := 653) (by decide +kernel)⟩
theorem lw_p26 : lw_okq (⟨"GhostQuarter$Law", "push", "(I)V"⟩, 11) := ⟨⟨by decide +kernel, by decide +kernel⟩, List.mem_of_getElem? (i := 325) (by decide +kernel), List.mem_of_getElem? (i := 656) (by decide +kernel), List.mem_of_getElem? (i := 657) (by decide +kernel)⟩
theorem lw_p27 : lw_okq (⟨"GhostQuarter$Law", "work", "(III)I"⟩, 11) := ⟨⟨by decide +kernel, by decide +kernel⟩, List.mem_of_getElem? (i := 325) (by decide +kernel), List.mem_of_getElem? (i := 660) (by decide +kernel), List.mem_of_getElem? (i := 661) (by decide +kernel)⟩
theorem lw_p28 : lw_okq (⟨"GhostQuarter", "dogsAgainst", "(I)I"⟩, 16) := ⟨⟨by decide +kernel, by decide +kernel⟩, List.mem_of_getElem? (i := 17) (by decide +kernel), List.mem_of_getElem? (i := 664) (by decide +kernel), List.mem_of_getElem? (i := 665) (by decide +kernel)⟩
theorem lw_p29 : lw_okq (⟨"GhostQuarter$Night", "start", "(LGhostQuarter$Times;)V"⟩, 9) := ⟨⟨by decide +kernel, by decide +kernel⟩, List.mem_of_getElem? (i := 108) (by decide +kernel), List.mem_of_getElem? (i := 672) (by decide +kernel), List.mem_of_getElem? (i := 673) (by decide +kernel)⟩
theorem lw_p30 : lw_okq (⟨"GhostQuarter$Night", "frighten", "(LGhostQuarter$Law;III)V"⟩, 9) := ⟨⟨by decide +kernel, by decide +kernel⟩, List.mem_of_getElem? (i := 108) (by decide +kernel), List.mem_of_getElem? (i := 697) (by decide +kernel), List.mem_of_getElem? (i := 698) (by decide +kernel)⟩
theorem lw_p31 : lw_okq (⟨"GhostQuarter$Law", "tellStranger", "(LGhostQuarter$Times;III)V"⟩, 11) := ⟨⟨by decide +kernel, by decide +kernel⟩, List.mem_of_getElem? (i := 325) (by decide +kernel), List.mem_of_getElem? (i := 711) (by decide +kernel), List.mem_of_getElem? (i := 712) (by decide +kernel)⟩
def lw_privs_2 : List (MethodName × Nat) := [(⟨"GhostQuarter$LawReader", "readNumber", "(LGhostQuarter$Law;)Z"⟩, 4), (⟨"GhostQuarter$LawReader", "expect", "(I)Z"⟩, 4), (⟨"GhostQuarter$LawReader", "readEither", "(LGhostQuarter$Law;I)Z"⟩, 4), (⟨"GhostQuarter$LawReader", "readBoth", "(LGhostQuarter$Law;I)Z"⟩, 4), (⟨"GhostQuarter$LawReader", "readPiece", "(LGhostQuarter$Law;I)Z"⟩, 4), (⟨"GhostQuarter$LawReader", "readOpen", "(LGhostQuarter$Law;II)Z"⟩, 4), (⟨"GhostQuarter", "hasSpot", "(I)Z"⟩, 16), (⟨"GhostQuarter$Law", "tellNight", "(II)V"⟩, 11), (⟨"GhostQuarter$Law", "run", "(I)I"⟩, 11), (⟨"GhostQuarter$Law", "pop", "()I"⟩, 11), (⟨"GhostQuarter$Law", "push", "(I)V"⟩, 11), (⟨"GhostQuarter$Law", "work", "(III)I"⟩, 11), (⟨"GhostQuarter", "dogsAgainst", "(I)I"⟩, 16), (⟨"GhostQuarter$Night", "start", "(LGhostQuarter$Times;)V"⟩, 9), (⟨"GhostQuarter$Night", "frighten", "(LGhostQuarter$Law;III)V"⟩, 9), (⟨"GhostQuarter$Law", "tellStranger", "(LGhostQuarter$Times;III)V"⟩, 11)]
theorem lw_r2 : ∀ q ∈ lw_privs_2, lw_okq q := List.forall_mem_cons.mpr ⟨lw_p16, List.forall_mem_cons.mpr ⟨lw_p17, List.forall_mem_cons.mpr ⟨lw_p18, List.forall_mem_cons.mpr ⟨lw_p19, List.forall_mem_cons.mpr ⟨lw_p20, List.forall_mem_cons.mpr ⟨lw_p21, List.forall_mem_cons.mpr ⟨lw_p22, List.forall_mem_cons.mpr ⟨lw_p23, List.forall_mem_cons.mpr ⟨lw_p24, List.forall_mem_cons.mpr ⟨lw_p25, List.forall_mem_cons.mpr ⟨lw_p26, List.forall_mem_cons.mpr ⟨lw_p27, List.forall_mem_cons.mpr ⟨lw_p28, List.forall_mem_cons.mpr ⟨lw_p29, List.forall_mem_cons.mpr ⟨lw_p30, List.forall_mem_cons.mpr ⟨lw_p31, fun _ h => absurd h List.not_mem_nil⟩⟩⟩⟩⟩⟩⟩⟩⟩⟩⟩⟩⟩⟩⟩⟩
theorem lw_p32 : lw_okq (⟨"GhostQuarter$Law", "worth", "(II)I"⟩, 11) := ⟨⟨by decide +kernel, by decide +kernel⟩, List.mem_of_getElem? (i := 325) (by decide +kernel), List.mem_of_getElem? (i := 715) (by decide +kernel), List.mem_of_getElem? (i := 716) (by decide +kernel)⟩
theorem lw_p33 : lw_okq (⟨"GhostQuarter", "triedFurther", "(I)I"⟩, 16) := ⟨⟨by decide +kernel, by decide +kernel⟩, List.mem_of_getElem? (i := 17) (by decide +kernel), List.mem_of_getElem? (i := 735) (by decide +kernel), List.mem_of_getElem? (i := 736) (by decide +kernel)⟩
theorem lw_p34 : lw_okq (⟨"GhostQuarter", "dogOf", "(I)I"⟩, 16) := ⟨⟨by decide +kernel, by decide +kernel⟩, List.mem_of_getElem? (i := 17) (by decide +kernel), List.mem_of_getElem? (i := 753) (by decide +kernel), List.mem_of_getElem? (i := 754) (by decide +kernel)⟩
theorem lw_p35 : lw_okq (⟨"GhostQuarter", "canHaunt", "(I)Z"⟩, 16) := ⟨⟨by decide +kernel, by decide +kernel⟩, List.mem_of_getElem? (i := 17) (by decide +kernel), List.mem_of_getElem? (i := 757) (by decide +kernel), List.mem_of_getElem? (i := 758) (by decide +kernel)⟩
theorem lw_p36 : lw_okq (⟨"GhostQuarter$Paths", "fearOn", "(LGhostQuarter$Town;LGhostQuarter$Law;LGhostQuarter$Times;III)I"⟩, 6) := ⟨⟨by decide +kernel, by decide +kernel⟩, List.mem_of_getElem? (i := 200) (by decide +kernel), List.mem_of_getElem? (i := 789) (by decide +kernel), List.mem_of_getElem? (i := 790) (by decide +kernel)⟩
theorem lw_p37 : lw_okq (⟨"GhostQuarter$Paths", "stepOn", "(LGhostQuarter$Town;)V"⟩, 6) := ⟨⟨by decide +kernel, by decide +kernel⟩, List.mem_of_getElem? (i := 200) (by decide +kernel), List.mem_of_getElem? (i := 796) (by decide +kernel), List.mem_of_getElem? (i := 797) (by decide +kernel)⟩
theorem lw_p38 : lw_okq (⟨"GhostQuarter$Paths", "chooseMost", "()V"⟩, 6) := ⟨⟨by decide +kernel, by decide +kernel⟩, List.mem_of_getElem? (i := 200) (by decide +kernel), List.mem_of_getElem? (i := 802) (by decide +kernel), List.mem_of_getElem? (i := 803) (by decide +kernel)⟩
theorem lw_p39 : lw_okq (⟨"GhostQuarter$Paths", "cheapestOpen", "()I"⟩, 6) := ⟨⟨by decide +kernel, by decide +kernel⟩, List.mem_of_getElem? (i := 200) (by decide +kernel), List.mem_of_getElem? (i := 817) (by decide +kernel), List.mem_of_getElem? (i := 818) (by decide +kernel)⟩
theorem lw_p40 : lw_okq (⟨"GhostQuarter$Paths", "countVisits", "(LGhostQuarter$Town;LGhostQuarter$Walks;)V"⟩, 6) := ⟨⟨by decide +kernel, by decide +kernel⟩, List.mem_of_getElem? (i := 200) (by decide +kernel), List.mem_of_getElem? (i := 829) (by decide +kernel), List.mem_of_getElem? (i := 830) (by decide +kernel)⟩
theorem lw_p41 : lw_okq (⟨"GhostQuarter$Sightings", "areApart", "(I)Z"⟩, 4) := ⟨⟨by decide +kernel, by decide +kernel⟩, List.mem_of_getElem? (i := 228) (by decide +kernel), List.mem_of_getElem? (i := 863) (by decide +kernel), List.mem_of_getElem? (i := 864) (by decide +kernel)⟩
theorem lw_p42 : lw_okq (⟨"GhostQuarter", "canShare", "(I)Z"⟩, 16) := ⟨⟨by decide +kernel, by decide +kernel⟩, List.mem_of_getElem? (i := 17) (by decide +kernel), List.mem_of_getElem? (i := 876) (by decide +kernel), List.mem_of_getElem? (i := 877) (by decide +kernel)⟩
theorem lw_p43 : lw_okq (⟨"GhostQuarter$Rotas", "weigh", "(II)V"⟩, 7) := ⟨⟨by decide +kernel, by decide +kernel⟩, List.mem_of_getElem? (i := 247) (by decide +kernel), List.mem_of_getElem? (i := 888) (by decide +kernel), List.mem_of_getElem? (i := 889) (by decide +kernel)⟩
theorem lw_p44 : lw_okq (⟨"GhostQuarter$Rotas", "nightsIn", "(I)I"⟩, 7) := ⟨⟨by decide +kernel, by decide +kernel⟩, List.mem_of_getElem? (i := 247) (by decide +kernel), List.mem_of_getElem? (i := 895) (by decide +kernel), List.mem_of_getElem? (i := 896) (by decide +kernel)⟩
theorem lw_p45 : lw_okq (⟨"GhostQuarter$Rotas", "spreadOf", "(I)I"⟩, 7) := ⟨⟨by decide +kernel, by decide +kernel⟩, List.mem_of_getElem? (i := 247) (by decide +kernel), List.mem_of_getElem? (i := 902) (by decide +kernel), List.mem_of_getElem? (i := 903) (by decide +kernel)⟩
theorem lw_p46 : lw_okq (⟨"GhostQuarter$Rotas", "canBe", "(IIII)Z"⟩, 7) := ⟨⟨by decide +kernel, by decide +kernel⟩, List.mem_of_getElem? (i := 247) (by decide +kernel), List.mem_of_getElem? (i := 908) (by decide +kernel), List.mem_of_getElem? (i := 909) (by decide +kernel)⟩
theorem lw_p47 : lw_okq (⟨"GhostQuarter$Rotas", "stateAfter", "(II)I"⟩, 7) := ⟨⟨by decide +kernel, by decide +kernel⟩, List.mem_of_getElem? (i := 247) (by decide +kernel), List.mem_of_getElem? (i := 912) (by decide +kernel), List.mem_of_getElem? (i := 913) (by decide +kernel)⟩
def lw_privs_3 : List (MethodName × Nat) := [(⟨"GhostQuarter$Law", "worth", "(II)I"⟩, 11), (⟨"GhostQuarter", "triedFurther", "(I)I"⟩, 16), (⟨"GhostQuarter", "dogOf", "(I)I"⟩, 16), (⟨"GhostQuarter", "canHaunt", "(I)Z"⟩, 16), (⟨"GhostQuarter$Paths", "fearOn", "(LGhostQuarter$Town;LGhostQuarter$Law;LGhostQuarter$Times;III)I"⟩, 6), (⟨"GhostQuarter$Paths", "stepOn", "(LGhostQuarter$Town;)V"⟩, 6), (⟨"GhostQuarter$Paths", "chooseMost", "()V"⟩, 6), (⟨"GhostQuarter$Paths", "cheapestOpen", "()I"⟩, 6), (⟨"GhostQuarter$Paths", "countVisits", "(LGhostQuarter$Town;LGhostQuarter$Walks;)V"⟩, 6), (⟨"GhostQuarter$Sightings", "areApart", "(I)Z"⟩, 4), (⟨"GhostQuarter", "canShare", "(I)Z"⟩, 16), (⟨"GhostQuarter$Rotas", "weigh", "(II)V"⟩, 7), (⟨"GhostQuarter$Rotas", "nightsIn", "(I)I"⟩, 7), (⟨"GhostQuarter$Rotas", "spreadOf", "(I)I"⟩, 7), (⟨"GhostQuarter$Rotas", "canBe", "(IIII)Z"⟩, 7), (⟨"GhostQuarter$Rotas", "stateAfter", "(II)I"⟩, 7)]
theorem lw_r3 : ∀ q ∈ lw_privs_3, lw_okq q := List.forall_mem_cons.mpr ⟨lw_p32, List.forall_mem_cons.mpr ⟨lw_p33, List.forall_mem_cons.mpr ⟨lw_p34, List.forall_mem_cons.mpr ⟨lw_p35, List.forall_mem_cons.mpr ⟨lw_p36, List.forall_mem_cons.mpr ⟨lw_p37, List.forall_mem_cons.mpr ⟨lw_p38, List.forall_mem_cons.mpr ⟨lw_p39, List.forall_mem_cons.mpr ⟨lw_p40, List.forall_mem_cons.mpr ⟨lw_p41, List.forall_mem_cons.mpr ⟨lw_p42, List.forall_mem_cons.mpr ⟨lw_p43, List.forall_mem_cons.mpr ⟨lw_p44, List.forall_mem_cons.mpr ⟨lw_p45, List.forall_mem_cons.mpr ⟨lw_p46, List.forall_mem_cons.mpr ⟨lw_p47, fun _ h => absurd h List.not_mem_nil⟩⟩⟩⟩⟩⟩⟩⟩⟩⟩⟩⟩⟩⟩⟩⟩
theorem lw_p48 : lw_okq (⟨"GhostQuarter$Rotas", "firstMember", "(III)I"⟩, 7) := ⟨⟨by decide +kernel, by decide +kernel⟩, List.mem_of_getElem? (i := 247) (by decide +kernel), List.mem_of_getElem? (i := 925) (by decide +kernel), List.mem_of_getElem? (i := 926) (by decide +kernel)⟩
theorem lw_p49 : lw_okq (⟨"GhostQuarter", "taxShare", "(I)I"⟩, 16) := ⟨⟨by decide +kernel, by decide +kernel⟩, List.mem_of_getElem? (i := 17) (by decide +kernel), List.mem_of_getElem? (i := 980) (by decide +kernel), List.mem_of_getElem? (i := 981) (by decide +kernel)⟩
theorem lw_p50 : lw_okq (⟨"GhostQuarter", "housesThatFit", "(III)I"⟩, 16) := ⟨⟨by decide +kernel, by decide +kernel⟩, List.mem_of_getElem? (i := 17) (by decide +kernel), List.mem_of_getElem? (i := 993) (by decide +kernel), List.mem_of_getElem? (i := 994) (by decide +kernel)⟩
theorem lw_p51 : lw_okq (⟨"GhostQuarter", "markThatTells", "(I)I"⟩, 16) := ⟨⟨by decide +kernel, by decide +kernel⟩, List.mem_of_getElem? (i := 17) (by decide +kernel), List.mem_of_getElem? (i := 997) (by decide +kernel), List.mem_of_getElem? (i := 998) (by decide +kernel)⟩
theorem lw_p52 : lw_okq (⟨"GhostQuarterModel", "types", "(I)V"⟩, 62) := ⟨⟨by decide +kernel, by decide +kernel⟩, List.mem_of_getElem? (i := 1037) (by decide +kernel), List.mem_of_getElem? (i := 1237) (by decide +kernel), List.mem_of_getElem? (i := 1238) (by decide +kernel)⟩
theorem lw_p53 : lw_okq (⟨"GhostQuarterModel", "readsRow", "(I)Z"⟩, 62) := ⟨⟨by decide +kernel, by decide +kernel⟩, List.mem_of_getElem? (i := 1037) (by decide +kernel), List.mem_of_getElem? (i := 1248) (by decide +kernel), List.mem_of_getElem? (i := 1249) (by decide +kernel)⟩
theorem lw_p54 : lw_okq (⟨"GhostQuarterModel", "here", "()I"⟩, 62) := ⟨⟨by decide +kernel, by decide +kernel⟩, List.mem_of_getElem? (i := 1037) (by decide +kernel), List.mem_of_getElem? (i := 1252) (by decide +kernel), List.mem_of_getElem? (i := 1253) (by decide +kernel)⟩
theorem lw_p55 : lw_okq (⟨"GhostQuarterModel", "wrongAt", "(II)Z"⟩, 62) := ⟨⟨by decide +kernel, by decide +kernel⟩, List.mem_of_getElem? (i := 1037) (by decide +kernel), List.mem_of_getElem? (i := 1259) (by decide +kernel), List.mem_of_getElem? (i := 1260) (by decide +kernel)⟩
theorem lw_p56 : lw_okq (⟨"GhostQuarterModel", "takes", "(I)Z"⟩, 62) := ⟨⟨by decide +kernel, by decide +kernel⟩, List.mem_of_getElem? (i := 1037) (by decide +kernel), List.mem_of_getElem? (i := 1263) (by decide +kernel), List.mem_of_getElem? (i := 1264) (by decide +kernel)⟩
theorem lw_p57 : lw_okq (⟨"GhostQuarterModel", "isTold", "(I)Z"⟩, 62) := ⟨⟨by decide +kernel, by decide +kernel⟩, List.mem_of_getElem? (i := 1037) (by decide +kernel), List.mem_of_getElem? (i := 1267) (by decide +kernel), List.mem_of_getElem? (i := 1268) (by decide +kernel)⟩
theorem lw_p58 : lw_okq (⟨"GhostQuarterModel", "readsStep", "()Z"⟩, 62) := ⟨⟨by decide +kernel, by decide +kernel⟩, List.mem_of_getElem? (i := 1037) (by decide +kernel), List.mem_of_getElem? (i := 1281) (by decide +kernel), List.mem_of_getElem? (i := 1282) (by decide +kernel)⟩
theorem lw_p59 : lw_okq (⟨"GhostQuarterModel", "readsTimes", "()V"⟩, 62) := ⟨⟨by decide +kernel, by decide +kernel⟩, List.mem_of_getElem? (i := 1037) (by decide +kernel), List.mem_of_getElem? (i := 1285) (by decide +kernel), List.mem_of_getElem? (i := 1286) (by decide +kernel)⟩
theorem lw_p60 : lw_okq (⟨"GhostQuarterModel", "repeats", "(III)Z"⟩, 62) := ⟨⟨by decide +kernel, by decide +kernel⟩, List.mem_of_getElem? (i := 1037) (by decide +kernel), List.mem_of_getElem? (i := 1292) (by decide +kernel), List.mem_of_getElem? (i := 1293) (by decide +kernel)⟩
theorem lw_p61 : lw_okq (⟨"GhostQuarterModel", "endsRounds", "()Z"⟩, 62) := ⟨⟨by decide +kernel, by decide +kernel⟩, List.mem_of_getElem? (i := 1037) (by decide +kernel), List.mem_of_getElem? (i := 1296) (by decide +kernel), List.mem_of_getElem? (i := 1297) (by decide +kernel)⟩
theorem lw_p62 : lw_okq (⟨"GhostQuarterModel", "readsClause", "()Z"⟩, 62) := ⟨⟨by decide +kernel, by decide +kernel⟩, List.mem_of_getElem? (i := 1037) (by decide +kernel), List.mem_of_getElem? (i := 1304) (by decide +kernel), List.mem_of_getElem? (i := 1305) (by decide +kernel)⟩
theorem lw_p63 : lw_okq (⟨"GhostQuarterModel", "readsSum", "()Z"⟩, 62) := ⟨⟨by decide +kernel, by decide +kernel⟩, List.mem_of_getElem? (i := 1037) (by decide +kernel), List.mem_of_getElem? (i := 1311) (by decide +kernel), List.mem_of_getElem? (i := 1312) (by decide +kernel)⟩
def lw_privs_4 : List (MethodName × Nat) := [(⟨"GhostQuarter$Rotas", "firstMember", "(III)I"⟩, 7), (⟨"GhostQuarter", "taxShare", "(I)I"⟩, 16), (⟨"GhostQuarter", "housesThatFit", "(III)I"⟩, 16), (⟨"GhostQuarter", "markThatTells", "(I)I"⟩, 16), (⟨"GhostQuarterModel", "types", "(I)V"⟩, 62), (⟨"GhostQuarterModel", "readsRow", "(I)Z"⟩, 62), (⟨"GhostQuarterModel", "here", "()I"⟩, 62), (⟨"GhostQuarterModel", "wrongAt", "(II)Z"⟩, 62), (⟨"GhostQuarterModel", "takes", "(I)Z"⟩, 62), (⟨"GhostQuarterModel", "isTold", "(I)Z"⟩, 62), (⟨"GhostQuarterModel", "readsStep", "()Z"⟩, 62), (⟨"GhostQuarterModel", "readsTimes", "()V"⟩, 62), (⟨"GhostQuarterModel", "repeats", "(III)Z"⟩, 62), (⟨"GhostQuarterModel", "endsRounds", "()Z"⟩, 62), (⟨"GhostQuarterModel", "readsClause", "()Z"⟩, 62), (⟨"GhostQuarterModel", "readsSum", "()Z"⟩, 62)]
theorem lw_r4 : ∀ q ∈ lw_privs_4, lw_okq q := List.forall_mem_cons.mpr ⟨lw_p48, List.forall_mem_cons.mpr ⟨lw_p49, List.forall_mem_cons.mpr ⟨lw_p50, List.forall_mem_cons.mpr ⟨lw_p51, List.forall_mem_cons.mpr ⟨lw_p52, List.forall_mem_cons.mpr ⟨lw_p53, List.forall_mem_cons.mpr ⟨lw_p54, List.forall_mem_cons.mpr ⟨lw_p55, List.forall_mem_cons.mpr ⟨lw_p56, List.forall_mem_cons.mpr ⟨lw_p57, List.forall_mem_cons.mpr ⟨lw_p58, List.forall_mem_cons.mpr ⟨lw_p59, List.forall_mem_cons.mpr ⟨lw_p60, List.forall_mem_cons.mpr ⟨lw_p61, List.forall_mem_cons.mpr ⟨lw_p62, List.forall_mem_cons.mpr ⟨lw_p63, fun _ h => absurd h List.not_mem_nil⟩⟩⟩⟩⟩⟩⟩⟩⟩⟩⟩⟩⟩⟩⟩⟩
theorem lw_p64 : lw_okq (⟨"GhostQuarterModel", "readsFactor", "()Z"⟩, 62) := ⟨⟨by decide +kernel, by decide +kernel⟩, List.mem_of_getElem? (i := 1037) (by decide +kernel), List.mem_of_getElem? (i := 1315) (by decide +kernel), List.mem_of_getElem? (i := 1316) (by decide +kernel)⟩
theorem lw_p65 : lw_okq (⟨"GhostQuarterModel", "opens", "(I)Z"⟩, 62) := ⟨⟨by decide +kernel, by decide +kernel⟩, List.mem_of_getElem? (i := 1037) (by decide +kernel), List.mem_of_getElem? (i := 1319) (by decide +kernel), List.mem_of_getElem? (i := 1320) (by decide +kernel)⟩
theorem lw_p66 : lw_okq (⟨"GhostQuarterModel", "isDigit", "()Z"⟩, 62) := ⟨⟨by decide +kernel, by decide +kernel⟩, List.mem_of_getElem? (i := 1037) (by decide +kernel), List.mem_of_getElem? (i := 1324) (by decide +kernel), List.mem_of_getElem? (i := 1325) (by decide +kernel)⟩
theorem lw_p67 : lw_okq (⟨"GhostQuarterModel", "readsNumber", "()Z"⟩, 62) := ⟨⟨by decide +kernel, by decide +kernel⟩, List.mem_of_getElem? (i := 1037) (by decide +kernel), List.mem_of_getElem? (i := 1328) (by decide +kernel), List.mem_of_getElem? (i := 1329) (by decide +kernel)⟩
theorem lw_p68 : lw_okq (⟨"GhostQuarterModel", "notes", "(II)V"⟩, 62) := ⟨⟨by decide +kernel, by decide +kernel⟩, List.mem_of_getElem? (i := 1037) (by decide +kernel), List.mem_of_getElem? (i := 1332) (by decide +kernel), List.mem_of_getElem? (i := 1333) (by decide +kernel)⟩
theorem lw_p69 : lw_okq (⟨"GhostQuarterModel", "closesSums", "(Z)V"⟩, 62) := ⟨⟨by decide +kernel, by decide +kernel⟩, List.mem_of_getElem? (i := 1037) (by decide +kernel), List.mem_of_getElem? (i := 1342) (by decide +kernel), List.mem_of_getElem? (i := 1343) (by decide +kernel)⟩
theorem lw_p70 : lw_okq (⟨"GhostQuarterModel", "waitTop", "()I"⟩, 62) := ⟨⟨by decide +kernel, by decide +kernel⟩, List.mem_of_getElem? (i := 1037) (by decide +kernel), List.mem_of_getElem? (i := 1346) (by decide +kernel), List.mem_of_getElem? (i := 1347) (by decide +kernel)⟩
theorem lw_p71 : lw_okq (⟨"GhostQuarterModel", "hasOpenSum", "(I)Z"⟩, 62) := ⟨⟨by decide +kernel, by decide +kernel⟩, List.mem_of_getElem? (i := 1037) (by decide +kernel), List.mem_of_getElem? (i := 1350) (by decide +kernel), List.mem_of_getElem? (i := 1351) (by decide +kernel)⟩
theorem lw_p72 : lw_okq (⟨"GhostQuarterModel", "readsCondition", "()Z"⟩, 62) := ⟨⟨by decide +kernel, by decide +kernel⟩, List.mem_of_getElem? (i := 1037) (by decide +kernel), List.mem_of_getElem? (i := 1354) (by decide +kernel), List.mem_of_getElem? (i := 1355) (by decide +kernel)⟩
theorem lw_p73 : lw_okq (⟨"GhostQuarterModel", "readsCompared", "()Z"⟩, 62) := ⟨⟨by decide +kernel, by decide +kernel⟩, List.mem_of_getElem? (i := 1037) (by decide +kernel), List.mem_of_getElem? (i := 1358) (by decide +kernel), List.mem_of_getElem? (i := 1359) (by decide +kernel)⟩
theorem lw_p74 : lw_okq (⟨"GhostQuarterModel", "endsPiece", "()V"⟩, 62) := ⟨⟨by decide +kernel, by decide +kernel⟩, List.mem_of_getElem? (i := 1037) (by decide +kernel), List.mem_of_getElem? (i := 1362) (by decide +kernel), List.mem_of_getElem? (i := 1363) (by decide +kernel)⟩
theorem lw_p75 : lw_okq (⟨"GhostQuarterModel", "lands", "(Z)V"⟩, 62) := ⟨⟨by decide +kernel, by decide +kernel⟩, List.mem_of_getElem? (i := 1037) (by decide +kernel), List.mem_of_getElem? (i := 1366) (by decide +kernel), List.mem_of_getElem? (i := 1367) (by decide +kernel)⟩
theorem lw_p76 : lw_okq (⟨"GhostQuarterModel", "jumps", "(I)V"⟩, 62) := ⟨⟨by decide +kernel, by decide +kernel⟩, List.mem_of_getElem? (i := 1037) (by decide +kernel), List.mem_of_getElem? (i := 1370) (by decide +kernel), List.mem_of_getElem? (i := 1371) (by decide +kernel)⟩
theorem lw_p77 : lw_okq (⟨"GhostQuarterModel", "hasSpot", "(I)Z"⟩, 62) := ⟨⟨by decide +kernel, by decide +kernel⟩, List.mem_of_getElem? (i := 1037) (by decide +kernel), List.mem_of_getElem? (i := 1394) (by decide +kernel), List.mem_of_getElem? (i := 1395) (by decide +kernel)⟩
theorem lw_p78 : lw_okq (⟨"GhostQuarterModel", "mayHaunt", "(II)Z"⟩, 62) := ⟨⟨by decide +kernel, by decide +kernel⟩, List.mem_of_getElem? (i := 1037) (by decide +kernel), List.mem_of_getElem? (i := 1398) (by decide +kernel), List.mem_of_getElem? (i := 1399) (by decide +kernel)⟩
theorem lw_p79 : lw_okq (⟨"GhostQuarterModel", "feels", "(II)V"⟩, 62) := ⟨⟨by decide +kernel, by decide +kernel⟩, List.mem_of_getElem? (i := 1037) (by decide +kernel), List.mem_of_getElem? (i := 1402) (by decide +kernel), List.mem_of_getElem? (i := 1403) (by decide +kernel)⟩
def lw_privs_5 : List (MethodName × Nat) := [(⟨"GhostQuarterModel", "readsFactor", "()Z"⟩, 62), (⟨"GhostQuarterModel", "opens", "(I)Z"⟩, 62), (⟨"GhostQuarterModel", "isDigit", "()Z"⟩, 62), (⟨"GhostQuarterModel", "readsNumber", "()Z"⟩, 62), (⟨"GhostQuarterModel", "notes", "(II)V"⟩, 62), (⟨"GhostQuarterModel", "closesSums", "(Z)V"⟩, 62), (⟨"GhostQuarterModel", "waitTop", "()I"⟩, 62), (⟨"GhostQuarterModel", "hasOpenSum", "(I)Z"⟩, 62), (⟨"GhostQuarterModel", "readsCondition", "()Z"⟩, 62), (⟨"GhostQuarterModel", "readsCompared", "()Z"⟩, 62), (⟨"GhostQuarterModel", "endsPiece", "()V"⟩, 62), (⟨"GhostQuarterModel", "lands", "(Z)V"⟩, 62), (⟨"GhostQuarterModel", "jumps", "(I)V"⟩, 62), (⟨"GhostQuarterModel", "hasSpot", "(I)Z"⟩, 62), (⟨"GhostQuarterModel", "mayHaunt", "(II)Z"⟩, 62), (⟨"GhostQuarterModel", "feels", "(II)V"⟩, 62)]
theorem lw_r5 : ∀ q ∈ lw_privs_5, lw_okq q := List.forall_mem_cons.mpr ⟨lw_p64, List.forall_mem_cons.mpr ⟨lw_p65, List.forall_mem_cons.mpr ⟨lw_p66, List.forall_mem_cons.mpr ⟨lw_p67, List.forall_mem_cons.mpr ⟨lw_p68, List.forall_mem_cons.mpr ⟨lw_p69, List.forall_mem_cons.mpr ⟨lw_p70, List.forall_mem_cons.mpr ⟨lw_p71, List.forall_mem_cons.mpr ⟨lw_p72, List.forall_mem_cons.mpr ⟨lw_p73, List.forall_mem_cons.mpr ⟨lw_p74, List.forall_mem_cons.mpr ⟨lw_p75, List.forall_mem_cons.mpr ⟨lw_p76, List.forall_mem_cons.mpr ⟨lw_p77, List.forall_mem_cons.mpr ⟨lw_p78, List.forall_mem_cons.mpr ⟨lw_p79, fun _ h => absurd h List.not_mem_nil⟩⟩⟩⟩⟩⟩⟩⟩⟩⟩⟩⟩⟩⟩⟩⟩
theorem lw_p80 : lw_okq (⟨"GhostQuarterModel", "comesTo", "(II)I"⟩, 62) := ⟨⟨by decide +kernel, by decide +kernel⟩, List.mem_of_getElem? (i := 1037) (by decide +kernel), List.mem_of_getElem? (i := 1406) (by decide +kernel), List.mem_of_getElem? (i := 1407) (by decide +kernel)⟩
theorem lw_p81 : lw_okq (⟨"GhostQuarterModel", "nightOf", "(I)V"⟩, 62) := ⟨⟨by decide +kernel, by decide +kernel⟩, List.mem_of_getElem? (i := 1037) (by decide +kernel), List.mem_of_getElem? (i := 1413) (by decide +kernel), List.mem_of_getElem? (i := 1414) (by decide +kernel)⟩
theorem lw_p82 : lw_okq (⟨"GhostQuarterModel", "stepTo", "(II)I"⟩, 62) := ⟨⟨by decide +kernel, by decide +kernel⟩, List.mem_of_getElem? (i := 1037) (by decide +kernel), List.mem_of_getElem? (i := 1417) (by decide +kernel), List.mem_of_getElem? (i := 1418) (by decide +kernel)⟩
theorem lw_p83 : lw_okq (⟨"GhostQuarterModel", "minuteOf", "(III)V"⟩, 62) := ⟨⟨by decide +kernel, by decide +kernel⟩, List.mem_of_getElem? (i := 1037) (by decide +kernel), List.mem_of_getElem? (i := 1424) (by decide +kernel), List.mem_of_getElem? (i := 1425) (by decide +kernel)⟩
theorem lw_p84 : lw_okq (⟨"GhostQuarterModel", "isThere", "(I)Z"⟩, 62) := ⟨⟨by decide +kernel, by decide +kernel⟩, List.mem_of_getElem? (i := 1037) (by decide +kernel), List.mem_of_getElem? (i := 1428) (by decide +kernel), List.mem_of_getElem? (i := 1429) (by decide +kernel)⟩
theorem lw_p85 : lw_okq (⟨"GhostQuarterModel", "isSeen", "(II)Z"⟩, 62) := ⟨⟨by decide +kernel, by decide +kernel⟩, List.mem_of_getElem? (i := 1037) (by decide +kernel), List.mem_of_getElem? (i := 1432) (by decide +kernel), List.mem_of_getElem? (i := 1433) (by decide +kernel)⟩
theorem lw_p86 : lw_okq (⟨"GhostQuarterModel", "fearOf", "(IIII)I"⟩, 62) := ⟨⟨by decide +kernel, by decide +kernel⟩, List.mem_of_getElem? (i := 1037) (by decide +kernel), List.mem_of_getElem? (i := 1436) (by decide +kernel), List.mem_of_getElem? (i := 1437) (by decide +kernel)⟩
theorem lw_p87 : lw_okq (⟨"GhostQuarterModel", "feelsStranger", "(IIII)V"⟩, 62) := ⟨⟨by decide +kernel, by decide +kernel⟩, List.mem_of_getElem? (i := 1037) (by decide +kernel), List.mem_of_getElem? (i := 1440) (by decide +kernel), List.mem_of_getElem? (i := 1441) (by decide +kernel)⟩
theorem lw_p88 : lw_okq (⟨"GhostQuarterModel", "byLaw", "(II)I"⟩, 62) := ⟨⟨by decide +kernel, by decide +kernel⟩, List.mem_of_getElem? (i := 1037) (by decide +kernel), List.mem_of_getElem? (i := 1450) (by decide +kernel), List.mem_of_getElem? (i := 1451) (by decide +kernel)⟩
theorem lw_p89 : lw_okq (⟨"GhostQuarterModel", "housesSeen", "(I)I"⟩, 62) := ⟨⟨by decide +kernel, by decide +kernel⟩, List.mem_of_getElem? (i := 1037) (by decide +kernel), List.mem_of_getElem? (i := 1468) (by decide +kernel), List.mem_of_getElem? (i := 1469) (by decide +kernel)⟩
theorem lw_p90 : lw_okq (⟨"GhostQuarterModel", "watchedFrom", "(I)I"⟩, 62) := ⟨⟨by decide +kernel, by decide +kernel⟩, List.mem_of_getElem? (i := 1037) (by decide +kernel), List.mem_of_getElem? (i := 1480) (by decide +kernel), List.mem_of_getElem? (i := 1481) (by decide +kernel)⟩
theorem lw_p91 : lw_okq (⟨"GhostQuarterModel", "goesOn", "(III)I"⟩, 62) := ⟨⟨by decide +kernel, by decide +kernel⟩, List.mem_of_getElem? (i := 1037) (by decide +kernel), List.mem_of_getElem? (i := 1495) (by decide +kernel), List.mem_of_getElem? (i := 1496) (by decide +kernel)⟩
theorem lw_p92 : lw_okq (⟨"GhostQuarterModel", "fearAt", "(III)I"⟩, 62) := ⟨⟨by decide +kernel, by decide +kernel⟩, List.mem_of_getElem? (i := 1037) (by decide +kernel), List.mem_of_getElem? (i := 1503) (by decide +kernel), List.mem_of_getElem? (i := 1504) (by decide +kernel)⟩
theorem lw_p93 : lw_okq (⟨"GhostQuarterModel", "laysCosts", "(IZ)V"⟩, 62) := ⟨⟨by decide +kernel, by decide +kernel⟩, List.mem_of_getElem? (i := 1037) (by decide +kernel), List.mem_of_getElem? (i := 1512) (by decide +kernel), List.mem_of_getElem? (i := 1513) (by decide +kernel)⟩
theorem lw_p94 : lw_okq (⟨"GhostQuarterModel", "seers", "(I)I"⟩, 62) := ⟨⟨by decide +kernel, by decide +kernel⟩, List.mem_of_getElem? (i := 1037) (by decide +kernel), List.mem_of_getElem? (i := 1516) (by decide +kernel), List.mem_of_getElem? (i := 1517) (by decide +kernel)⟩
theorem lw_p95 : lw_okq (⟨"GhostQuarterModel", "areSights", "(I)Z"⟩, 62) := ⟨⟨by decide +kernel, by decide +kernel⟩, List.mem_of_getElem? (i := 1037) (by decide +kernel), List.mem_of_getElem? (i := 1525) (by decide +kernel), List.mem_of_getElem? (i := 1526) (by decide +kernel)⟩
def lw_privs_6 : List (MethodName × Nat) := [(⟨"GhostQuarterModel", "comesTo", "(II)I"⟩, 62), (⟨"GhostQuarterModel", "nightOf", "(I)V"⟩, 62), (⟨"GhostQuarterModel", "stepTo", "(II)I"⟩, 62), (⟨"GhostQuarterModel", "minuteOf", "(III)V"⟩, 62), (⟨"GhostQuarterModel", "isThere", "(I)Z"⟩, 62), (⟨"GhostQuarterModel", "isSeen", "(II)Z"⟩, 62), (⟨"GhostQuarterModel", "fearOf", "(IIII)I"⟩, 62), (⟨"GhostQuarterModel", "feelsStranger", "(IIII)V"⟩, 62), (⟨"GhostQuarterModel", "byLaw", "(II)I"⟩, 62), (⟨"GhostQuarterModel", "housesSeen", "(I)I"⟩, 62), (⟨"GhostQuarterModel", "watchedFrom", "(I)I"⟩, 62), (⟨"GhostQuarterModel", "goesOn", "(III)I"⟩, 62), (⟨"GhostQuarterModel", "fearAt", "(III)I"⟩, 62), (⟨"GhostQuarterModel", "laysCosts", "(IZ)V"⟩, 62), (⟨"GhostQuarterModel", "seers", "(I)I"⟩, 62), (⟨"GhostQuarterModel", "areSights", "(I)Z"⟩, 62)]
theorem lw_r6 : ∀ q ∈ lw_privs_6, lw_okq q := List.forall_mem_cons.mpr ⟨lw_p80, List.forall_mem_cons.mpr ⟨lw_p81, List.forall_mem_cons.mpr ⟨lw_p82, List.forall_mem_cons.mpr ⟨lw_p83, List.forall_mem_cons.mpr ⟨lw_p84, List.forall_mem_cons.mpr ⟨lw_p85, List.forall_mem_cons.mpr ⟨lw_p86, List.forall_mem_cons.mpr ⟨lw_p87, List.forall_mem_cons.mpr ⟨lw_p88, List.forall_mem_cons.mpr ⟨lw_p89, List.forall_mem_cons.mpr ⟨lw_p90, List.forall_mem_cons.mpr ⟨lw_p91, List.forall_mem_cons.mpr ⟨lw_p92, List.forall_mem_cons.mpr ⟨lw_p93, List.forall_mem_cons.mpr ⟨lw_p94, List.forall_mem_cons.mpr ⟨lw_p95, fun _ h => absurd h List.not_mem_nil⟩⟩⟩⟩⟩⟩⟩⟩⟩⟩⟩⟩⟩⟩⟩⟩
theorem lw_p96 : lw_okq (⟨"GhostQuarterModel", "laysBoth", "(I)V"⟩, 62) := ⟨⟨by decide +kernel, by decide +kernel⟩, List.mem_of_getElem? (i := 1037) (by decide +kernel), List.mem_of_getElem? (i := 1529) (by decide +kernel), List.mem_of_getElem? (i := 1530) (by decide +kernel)⟩
theorem lw_p97 : lw_okq (⟨"GhostQuarterModel", "ghostsFor", "(I)I"⟩, 62) := ⟨⟨by decide +kernel, by decide +kernel⟩, List.mem_of_getElem? (i := 1037) (by decide +kernel), List.mem_of_getElem? (i := 1533) (by decide +kernel), List.mem_of_getElem? (i := 1534) (by decide +kernel)⟩
theorem lw_p98 : lw_okq (⟨"GhostQuarterModel", "areApart", "(II)Z"⟩, 62) := ⟨⟨by decide +kernel, by decide +kernel⟩, List.mem_of_getElem? (i := 1037) (by decide +kernel), List.mem_of_getElem? (i := 1540) (by decide +kernel), List.mem_of_getElem? (i := 1541) (by decide +kernel)⟩
theorem lw_p99 : lw_okq (⟨"GhostQuarterModel", "fromWhere", "(I)I"⟩, 62) := ⟨⟨by decide +kernel, by decide +kernel⟩, List.mem_of_getElem? (i := 1037) (by decide +kernel), List.mem_of_getElem? (i := 1544) (by decide +kernel), List.mem_of_getElem? (i := 1545) (by decide +kernel)⟩
theorem lw_p100 : lw_okq (⟨"GhostQuarterModel", "laysRotas", "(I)V"⟩, 62) := ⟨⟨by decide +kernel, by decide +kernel⟩, List.mem_of_getElem? (i := 1037) (by decide +kernel), List.mem_of_getElem? (i := 1552) (by decide +kernel), List.mem_of_getElem? (i := 1553) (by decide +kernel)⟩
theorem lw_p101 : lw_okq (⟨"GhostQuarterModel", "differs", "(I)I"⟩, 62) := ⟨⟨by decide +kernel, by decide +kernel⟩, List.mem_of_getElem? (i := 1037) (by decide +kernel), List.mem_of_getElem? (i := 1556) (by decide +kernel), List.mem_of_getElem? (i := 1557) (by decide +kernel)⟩
theorem lw_p102 : lw_okq (⟨"GhostQuarterModel", "sumOf", "(I)I"⟩, 62) := ⟨⟨by decide +kernel, by decide +kernel⟩, List.mem_of_getElem? (i := 1037) (by decide +kernel), List.mem_of_getElem? (i := 1563) (by decide +kernel), List.mem_of_getElem? (i := 1564) (by decide +kernel)⟩
theorem lw_p103 : lw_okq (⟨"GhostQuarterModel", "mayNext", "(IIII)Z"⟩, 62) := ⟨⟨by decide +kernel, by decide +kernel⟩, List.mem_of_getElem? (i := 1037) (by decide +kernel), List.mem_of_getElem? (i := 1567) (by decide +kernel), List.mem_of_getElem? (i := 1568) (by decide +kernel)⟩
theorem lw_p104 : lw_okq (⟨"GhostQuarterModel", "firstIn", "(I)I"⟩, 62) := ⟨⟨by decide +kernel, by decide +kernel⟩, List.mem_of_getElem? (i := 1037) (by decide +kernel), List.mem_of_getElem? (i := 1575) (by decide +kernel), List.mem_of_getElem? (i := 1576) (by decide +kernel)⟩
theorem lw_p105 : lw_okq (⟨"GhostQuarterModel", "spotsSet", "()I"⟩, 62) := ⟨⟨by decide +kernel, by decide +kernel⟩, List.mem_of_getElem? (i := 1037) (by decide +kernel), List.mem_of_getElem? (i := 1583) (by decide +kernel), List.mem_of_getElem? (i := 1584) (by decide +kernel)⟩
theorem lw_p106 : lw_okq (⟨"GhostQuarterModel", "draws", "()I"⟩, 62) := ⟨⟨by decide +kernel, by decide +kernel⟩, List.mem_of_getElem? (i := 1037) (by decide +kernel), List.mem_of_getElem? (i := 1587) (by decide +kernel), List.mem_of_getElem? (i := 1588) (by decide +kernel)⟩
theorem lw_p107 : lw_okq (⟨"GhostQuarterModel", "rumourOf", "(II)I"⟩, 62) := ⟨⟨by decide +kernel, by decide +kernel⟩, List.mem_of_getElem? (i := 1037) (by decide +kernel), List.mem_of_getElem? (i := 1592) (by decide +kernel), List.mem_of_getElem? (i := 1593) (by decide +kernel)⟩
theorem lw_p108 : lw_okq (⟨"GhostQuarterModel", "without", "(II)J"⟩, 62) := ⟨⟨by decide +kernel, by decide +kernel⟩, List.mem_of_getElem? (i := 1037) (by decide +kernel), List.mem_of_getElem? (i := 1605) (by decide +kernel), List.mem_of_getElem? (i := 1606) (by decide +kernel)⟩
theorem lw_p109 : lw_okq (⟨"GhostQuarterModel", "greaterBy", "(II)I"⟩, 62) := ⟨⟨by decide +kernel, by decide +kernel⟩, List.mem_of_getElem? (i := 1037) (by decide +kernel), List.mem_of_getElem? (i := 1624) (by decide +kernel), List.mem_of_getElem? (i := 1625) (by decide +kernel)⟩
theorem lw_p110 : lw_okq (⟨"GhostQuarterModel", "tapeNumber", "(I)I"⟩, 62) := ⟨⟨by decide +kernel, by decide +kernel⟩, List.mem_of_getElem? (i := 1037) (by decide +kernel), List.mem_of_getElem? (i := 1645) (by decide +kernel), List.mem_of_getElem? (i := 1646) (by decide +kernel)⟩
def lw_privs_7 : List (MethodName × Nat) := [(⟨"GhostQuarterModel", "laysBoth", "(I)V"⟩, 62), (⟨"GhostQuarterModel", "ghostsFor", "(I)I"⟩, 62), (⟨"GhostQuarterModel", "areApart", "(II)Z"⟩, 62), (⟨"GhostQuarterModel", "fromWhere", "(I)I"⟩, 62), (⟨"GhostQuarterModel", "laysRotas", "(I)V"⟩, 62), (⟨"GhostQuarterModel", "differs", "(I)I"⟩, 62), (⟨"GhostQuarterModel", "sumOf", "(I)I"⟩, 62), (⟨"GhostQuarterModel", "mayNext", "(IIII)Z"⟩, 62), (⟨"GhostQuarterModel", "firstIn", "(I)I"⟩, 62), (⟨"GhostQuarterModel", "spotsSet", "()I"⟩, 62), (⟨"GhostQuarterModel", "draws", "()I"⟩, 62), (⟨"GhostQuarterModel", "rumourOf", "(II)I"⟩, 62), (⟨"GhostQuarterModel", "without", "(II)J"⟩, 62), (⟨"GhostQuarterModel", "greaterBy", "(II)I"⟩, 62), (⟨"GhostQuarterModel", "tapeNumber", "(I)I"⟩, 62)]
theorem lw_r7 : ∀ q ∈ lw_privs_7, lw_okq q := List.forall_mem_cons.mpr ⟨lw_p96, List.forall_mem_cons.mpr ⟨lw_p97, List.forall_mem_cons.mpr ⟨lw_p98, List.forall_mem_cons.mpr ⟨lw_p99, List.forall_mem_cons.mpr ⟨lw_p100, List.forall_mem_cons.mpr ⟨lw_p101, List.forall_mem_cons.mpr ⟨lw_p102, List.forall_mem_cons.mpr ⟨lw_p103, List.forall_mem_cons.mpr ⟨lw_p104, List.forall_mem_cons.mpr ⟨lw_p105, List.forall_mem_cons.mpr ⟨lw_p106, List.forall_mem_cons.mpr ⟨lw_p107, List.forall_mem_cons.mpr ⟨lw_p108, List.forall_mem_cons.mpr ⟨lw_p109, List.forall_mem_cons.mpr ⟨lw_p110, fun _ h => absurd h List.not_mem_nil⟩⟩⟩⟩⟩⟩⟩⟩⟩⟩⟩⟩⟩⟩⟩
def lw_privs : List (MethodName × Nat) := lw_privs_1 ++ (lw_privs_2 ++ (lw_privs_3 ++ (lw_privs_4 ++ (lw_privs_5 ++ (lw_privs_6 ++ (lw_privs_7))))))
def lw_tbl : List Cond := k2_sels lw_privs ++ tables_1
theorem lw_privs_ok : ∀ q ∈ lw_privs, lw_okq q := by
  show ∀ q ∈ lw_privs_1 ++ (lw_privs_2 ++ (lw_privs_3 ++ (lw_privs_4 ++ (lw_privs_5 ++ (lw_privs_6 ++ (lw_privs_7)))))), lw_okq q
  exact List.forall_mem_append.mpr ⟨lw_r1, List.forall_mem_append.mpr ⟨lw_r2, List.forall_mem_append.mpr ⟨lw_r3, List.forall_mem_append.mpr ⟨lw_r4, List.forall_mem_append.mpr ⟨lw_r5, List.forall_mem_append.mpr ⟨lw_r6, lw_r7⟩⟩⟩⟩⟩⟩
/-! the classes, their fields, the methods and their bytes, out of the printed names -/
def RX0 : String := "GhostQuarter$Law"
def TX0 : u_T := fun k => match k with
  | 0 => ("GhostQuarter$Law", "clauses", "I", false)
  | 1 => ("GhostQuarter$Law", "letter", "[I", true)
  | 2 => ("GhostQuarter$Law", "value", "[I", true)
  | 3 => ("GhostQuarter$Law", "condition", "[I", true)
  | 4 => ("GhostQuarter$Law", "command", "[I", true)
  | 5 => ("GhostQuarter$Law", "operand", "[I", true)
  | 6 => ("GhostQuarter$Law", "size", "I", false)
  | 7 => ("GhostQuarter$Law", "facts", "[I", true)
  | 8 => ("GhostQuarter$Law", "stack", "[I", true)
  | 9 => ("GhostQuarter$Law", "top", "I", false)
  | _ => ("GhostQuarter$Law", "refused", "Z", false)
def tyX0 : Nat → FieldType := fun k => match k with
  | 0 => .int
  | 1 => .array .int
  | 2 => .array .int
  | 3 => .array .int
  | 4 => .array .int
  | 5 => .array .int
  | 6 => .int
  | 7 => .array .int
  | 8 => .array .int
  | 9 => .int
  | _ => .boolean
abbrev wsX00 : List Cond := u_ws RX0 TX0 11
theorem nmX0 : ∀ a, a < 11 → ∀ b, b < 11 → a ≠ b → (TX0 a).2.1 ≠ (TX0 b).2.1 := by decide +kernel
theorem tyX0_ok : ∀ k, k < 11 → parseFieldDescriptor (TX0 k).2.2.1 = some (tyX0 k) := by decide +kernel
abbrev cX0_init : ByteArray := prog_2_method_1_code
def yX0_init : MethodName := ⟨RX0, "<init>", "()V"⟩
abbrev cX0_factOf : ByteArray := prog_2_method_2_code
def yX0_factOf : MethodName := ⟨RX0, "factOf", "(I)I"⟩
abbrev cX0_clear : ByteArray := prog_2_method_3_code
def yX0_clear : MethodName := ⟨RX0, "clear", "()V"⟩
abbrev cX0_openClause : ByteArray := prog_2_method_4_code
def yX0_openClause : MethodName := ⟨RX0, "openClause", "(I)V"⟩
abbrev cX0_openCondition : ByteArray := prog_2_method_5_code
def yX0_openCondition : MethodName := ⟨RX0, "openCondition", "()V"⟩
abbrev cX0_add : ByteArray := prog_2_method_6_code
def yX0_add : MethodName := ⟨RX0, "add", "(II)I"⟩
abbrev cX0_aim : ByteArray := prog_2_method_7_code
def yX0_aim : MethodName := ⟨RX0, "aim", "(I)V"⟩
abbrev cX0_fearOf : ByteArray := prog_2_method_8_code
def yX0_fearOf : MethodName := ⟨RX0, "fearOf", "(LGhostQuarter$Times;IIII)I"⟩
abbrev cX0_payOf : ByteArray := prog_2_method_9_code
def yX0_payOf : MethodName := ⟨RX0, "payOf", "(LGhostQuarter$Times;III)I"⟩
abbrev cX0_tenths : ByteArray := prog_2_method_10_code
def yX0_tenths : MethodName := ⟨RX0, "tenths", "(LGhostQuarter$Town;III)I"⟩
abbrev cX0_mayHaunt : ByteArray := prog_2_method_11_code
def yX0_mayHaunt : MethodName := ⟨RX0, "mayHaunt", "(II)Z"⟩
abbrev cX0_tellNight : ByteArray := prog_2_method_12_code
def yX0_tellNight : MethodName := ⟨RX0, "tellNight", "(II)V"⟩
abbrev cX0_tellStranger : ByteArray := prog_2_method_13_code
def yX0_tellStranger : MethodName := ⟨RX0, "tellStranger", "(LGhostQuarter$Times;III)V"⟩
abbrev cX0_worth : ByteArray := prog_2_method_14_code
def yX0_worth : MethodName := ⟨RX0, "worth", "(II)I"⟩
abbrev cX0_run : ByteArray := prog_2_method_15_code
def yX0_run : MethodName := ⟨RX0, "run", "(I)I"⟩
abbrev cX0_work : ByteArray := prog_2_method_16_code
def yX0_work : MethodName := ⟨RX0, "work", "(III)I"⟩
abbrev cX0_push : ByteArray := prog_2_method_17_code
def yX0_push : MethodName := ⟨RX0, "push", "(I)V"⟩
abbrev cX0_pop : ByteArray := prog_2_method_18_code
def yX0_pop : MethodName := ⟨RX0, "pop", "()I"⟩
def RX1 : String := "GhostQuarter$LawReader"
def TX1 : u_T := fun k => match k with
  | 0 => ("GhostQuarter$LawReader", "text", "[I", true)
  | 1 => ("GhostQuarter$LawReader", "length", "I", false)
  | 2 => ("GhostQuarter$LawReader", "place", "I", false)
  | _ => ("GhostQuarter$LawReader", "fault", "I", false)
def tyX1 : Nat → FieldType := fun k => match k with
  | 0 => .array .int
  | 1 => .int
  | 2 => .int
  | _ => .int
abbrev wsX10 : List Cond := u_ws RX1 TX1 4
theorem nmX1 : ∀ a, a < 4 → ∀ b, b < 4 → a ≠ b → (TX1 a).2.1 ≠ (TX1 b).2.1 := by decide +kernel
theorem tyX1_ok : ∀ k, k < 4 → parseFieldDescriptor (TX1 k).2.2.1 = some (tyX1 k) := by decide +kernel
abbrev cX1_init : ByteArray := prog_3_method_1_code
def yX1_init : MethodName := ⟨RX1, "<init>", "()V"⟩
abbrev cX1_read : ByteArray := prog_3_method_2_code
def yX1_read : MethodName := ⟨RX1, "read", "(LGhostQuarter$Tape;ILGhostQuarter$Law;)I"⟩
abbrev cX1_readClause : ByteArray := prog_3_method_3_code
def yX1_readClause : MethodName := ⟨RX1, "readClause", "(LGhostQuarter$Law;)Z"⟩
abbrev cX1_readEither : ByteArray := prog_3_method_4_code
def yX1_readEither : MethodName := ⟨RX1, "readEither", "(LGhostQuarter$Law;I)Z"⟩
abbrev cX1_readBoth : ByteArray := prog_3_method_5_code
def yX1_readBoth : MethodName := ⟨RX1, "readBoth", "(LGhostQuarter$Law;I)Z"⟩
abbrev cX1_readPiece : ByteArray := prog_3_method_6_code
def yX1_readPiece : MethodName := ⟨RX1, "readPiece", "(LGhostQuarter$Law;I)Z"⟩
abbrev cX1_readOpen : ByteArray := prog_3_method_7_code
def yX1_readOpen : MethodName := ⟨RX1, "readOpen", "(LGhostQuarter$Law;II)Z"⟩
abbrev cX1_readSum : ByteArray := prog_3_method_8_code
def yX1_readSum : MethodName := ⟨RX1, "readSum", "(LGhostQuarter$Law;I)Z"⟩
abbrev cX1_readTerm : ByteArray := prog_3_method_9_code
def yX1_readTerm : MethodName := ⟨RX1, "readTerm", "(LGhostQuarter$Law;I)Z"⟩
abbrev cX1_readFactor : ByteArray := prog_3_method_10_code
def yX1_readFactor : MethodName := ⟨RX1, "readFactor", "(LGhostQuarter$Law;I)Z"⟩
abbrev cX1_readNumber : ByteArray := prog_3_method_11_code
def yX1_readNumber : MethodName := ⟨RX1, "readNumber", "(LGhostQuarter$Law;)Z"⟩
abbrev cX1_next : ByteArray := prog_3_method_12_code
def yX1_next : MethodName := ⟨RX1, "next", "()I"⟩
abbrev cX1_expect : ByteArray := prog_3_method_13_code
def yX1_expect : MethodName := ⟨RX1, "expect", "(I)Z"⟩
abbrev cX1_fail : ByteArray := prog_3_method_14_code
def yX1_fail : MethodName := ⟨RX1, "fail", "(I)Z"⟩
abbrev cX1_isDigit : ByteArray := prog_3_method_15_code
def yX1_isDigit : MethodName := ⟨RX1, "isDigit", "(I)Z"⟩
def RX2 : String := "GhostQuarter$Night"
def TX2 : u_T := fun k => match k with
  | 0 => ("GhostQuarter$Night", "end", "LGhostQuarter$Times;", true)
  | 1 => ("GhostQuarter$Night", "path", "[I", true)
  | 2 => ("GhostQuarter$Night", "payMinute", "[I", true)
  | 3 => ("GhostQuarter$Night", "last", "I", false)
  | 4 => ("GhostQuarter$Night", "coins", "I", false)
  | 5 => ("GhostQuarter$Night", "payers", "I", false)
  | 6 => ("GhostQuarter$Night", "barks", "I", false)
  | 7 => ("GhostQuarter$Night", "seen", "I", false)
  | _ => ("GhostQuarter$Night", "growth", "I", false)
def tyX2 : Nat → FieldType := fun k => match k with
  | 0 => .object "GhostQuarter$Times"
  | 1 => .array .int
  | 2 => .array .int
  | 3 => .int
  | 4 => .int
  | 5 => .int
  | 6 => .int
  | 7 => .int
  | _ => .int
abbrev wsX20 : List Cond := u_ws RX2 TX2 9
theorem nmX2 : ∀ a, a < 9 → ∀ b, b < 9 → a ≠ b → (TX2 a).2.1 ≠ (TX2 b).2.1 := by decide +kernel
theorem tyX2_ok : ∀ k, k < 9 → parseFieldDescriptor (TX2 k).2.2.1 = some (tyX2 k) := by decide +kernel
abbrev cX2_init : ByteArray := prog_4_method_1_code
def yX2_init : MethodName := ⟨RX2, "<init>", "()V"⟩
abbrev cX2_pass : ByteArray := prog_4_method_2_code
def yX2_pass : MethodName := ⟨RX2, "pass", "(LGhostQuarter$Town;LGhostQuarter$Walks;LGhostQuarter$Law;LGhostQuarter$Times;II)V"⟩
abbrev cX2_start : ByteArray := prog_4_method_3_code
def yX2_start : MethodName := ⟨RX2, "start", "(LGhostQuarter$Times;)V"⟩
abbrev cX2_frighten : ByteArray := prog_4_method_4_code
def yX2_frighten : MethodName := ⟨RX2, "frighten", "(LGhostQuarter$Law;III)V"⟩
abbrev cX2_barksAt : ByteArray := prog_4_method_5_code
def yX2_barksAt : MethodName := ⟨RX2, "barksAt", "(LGhostQuarter$Town;II)I"⟩
def RX3 : String := "GhostQuarter$Paths"
def TX3 : u_T := fun k => match k with
  | 0 => ("GhostQuarter$Paths", "far", "[I", true)
  | 1 => ("GhostQuarter$Paths", "most", "I", false)
  | 2 => ("GhostQuarter$Paths", "end", "I", false)
  | 3 => ("GhostQuarter$Paths", "sum", "[I", true)
  | 4 => ("GhostQuarter$Paths", "further", "[I", true)
  | _ => ("GhostQuarter$Paths", "line", "[I", true)
def tyX3 : Nat → FieldType := fun k => match k with
  | 0 => .array .int
  | 1 => .int
  | 2 => .int
  | 3 => .array .int
  | 4 => .array .int
  | _ => .array .int
abbrev wsX30 : List Cond := u_ws RX3 TX3 6
theorem nmX3 : ∀ a, a < 6 → ∀ b, b < 6 → a ≠ b → (TX3 a).2.1 ≠ (TX3 b).2.1 := by decide +kernel
theorem tyX3_ok : ∀ k, k < 6 → parseFieldDescriptor (TX3 k).2.2.1 = some (tyX3 k) := by decide +kernel
abbrev cX3_init : ByteArray := prog_5_method_1_code
def yX3_init : MethodName := ⟨RX3, "<init>", "()V"⟩
abbrev cX3_measure : ByteArray := prog_5_method_2_code
def yX3_measure : MethodName := ⟨RX3, "measure", "(LGhostQuarter$Town;I)V"⟩
abbrev cX3_frighten : ByteArray := prog_5_method_3_code
def yX3_frighten : MethodName := ⟨RX3, "frighten", "(LGhostQuarter$Town;LGhostQuarter$Law;LGhostQuarter$Times;II)V"⟩
abbrev cX3_stepOn : ByteArray := prog_5_method_4_code
def yX3_stepOn : MethodName := ⟨RX3, "stepOn", "(LGhostQuarter$Town;)V"⟩
abbrev cX3_fearOn : ByteArray := prog_5_method_5_code
def yX3_fearOn : MethodName := ⟨RX3, "fearOn", "(LGhostQuarter$Town;LGhostQuarter$Law;LGhostQuarter$Times;III)I"⟩
abbrev cX3_chooseMost : ByteArray := prog_5_method_6_code
def yX3_chooseMost : MethodName := ⟨RX3, "chooseMost", "()V"⟩
abbrev cX3_hide : ByteArray := prog_5_method_7_code
def yX3_hide : MethodName := ⟨RX3, "hide", "(LGhostQuarter$Town;LGhostQuarter$Times;II)I"⟩
abbrev cX3_cheapestOpen : ByteArray := prog_5_method_8_code
def yX3_cheapestOpen : MethodName := ⟨RX3, "cheapestOpen", "()I"⟩
abbrev cX3_watchersOf : ByteArray := prog_5_method_9_code
def yX3_watchersOf : MethodName := ⟨RX3, "watchersOf", "(LGhostQuarter$Town;LGhostQuarter$Times;I)I"⟩
abbrev cX3_lookOut : ByteArray := prog_5_method_10_code
def yX3_lookOut : MethodName := ⟨RX3, "lookOut", "(LGhostQuarter$Town;LGhostQuarter$Walks;)V"⟩
abbrev cX3_countVisits : ByteArray := prog_5_method_11_code
def yX3_countVisits : MethodName := ⟨RX3, "countVisits", "(LGhostQuarter$Town;LGhostQuarter$Walks;)V"⟩
def RX4 : String := "GhostQuarter$Rotas"
def TX4 : u_T := fun k => match k with
  | 0 => ("GhostQuarter$Rotas", "member", "[I", true)
  | 1 => ("GhostQuarter$Rotas", "allowed", "[I", true)
  | 2 => ("GhostQuarter$Rotas", "ways", "[I", true)
  | 3 => ("GhostQuarter$Rotas", "spread", "[I", true)
  | 4 => ("GhostQuarter$Rotas", "members", "I", false)
  | 5 => ("GhostQuarter$Rotas", "nights", "I", false)
  | _ => ("GhostQuarter$Rotas", "each", "I", false)
def tyX4 : Nat → FieldType := fun k => match k with
  | 0 => .array .int
  | 1 => .array .int
  | 2 => .array .int
  | 3 => .array .int
  | 4 => .int
  | 5 => .int
  | _ => .int
abbrev wsX40 : List Cond := u_ws RX4 TX4 7
theorem nmX4 : ∀ a, a < 7 → ∀ b, b < 7 → a ≠ b → (TX4 a).2.1 ≠ (TX4 b).2.1 := by decide +kernel
theorem tyX4_ok : ∀ k, k < 7 → parseFieldDescriptor (TX4 k).2.2.1 = some (tyX4 k) := by decide +kernel
abbrev cX4_init : ByteArray := prog_6_method_1_code
def yX4_init : MethodName := ⟨RX4, "<init>", "()V"⟩
abbrev cX4_plan : ByteArray := prog_6_method_2_code
def yX4_plan : MethodName := ⟨RX4, "plan", "(LGhostQuarter$Law;IIII)V"⟩
abbrev cX4_howMany : ByteArray := prog_6_method_3_code
def yX4_howMany : MethodName := ⟨RX4, "howMany", "()I"⟩
abbrev cX4_howEven : ByteArray := prog_6_method_4_code
def yX4_howEven : MethodName := ⟨RX4, "howEven", "()I"⟩
abbrev cX4_houseIn : ByteArray := prog_6_method_5_code
def yX4_houseIn : MethodName := ⟨RX4, "houseIn", "(I)I"⟩
abbrev cX4_firstMember : ByteArray := prog_6_method_6_code
def yX4_firstMember : MethodName := ⟨RX4, "firstMember", "(III)I"⟩
abbrev cX4_weigh : ByteArray := prog_6_method_7_code
def yX4_weigh : MethodName := ⟨RX4, "weigh", "(II)V"⟩
abbrev cX4_canBe : ByteArray := prog_6_method_8_code
def yX4_canBe : MethodName := ⟨RX4, "canBe", "(IIII)Z"⟩
abbrev cX4_stateAfter : ByteArray := prog_6_method_9_code
def yX4_stateAfter : MethodName := ⟨RX4, "stateAfter", "(II)I"⟩
abbrev cX4_stateOf : ByteArray := prog_6_method_10_code
def yX4_stateOf : MethodName := ⟨RX4, "stateOf", "(II)I"⟩
abbrev cX4_countOf : ByteArray := prog_6_method_11_code
def yX4_countOf : MethodName := ⟨RX4, "countOf", "(II)I"⟩
abbrev cX4_nightsIn : ByteArray := prog_6_method_12_code
def yX4_nightsIn : MethodName := ⟨RX4, "nightsIn", "(I)I"⟩
abbrev cX4_spreadOf : ByteArray := prog_6_method_13_code
def yX4_spreadOf : MethodName := ⟨RX4, "spreadOf", "(I)I"⟩
def RX5 : String := "GhostQuarter$Rumour"
def TX5 : u_T := fun k => match k with
  | _ => ("", "", "", false)
def tyX5 : Nat → FieldType := fun k => match k with
  | _ => .int
abbrev wsX50 : List Cond := u_ws RX5 TX5 0
theorem nmX5 : ∀ a, a < 0 → ∀ b, b < 0 → a ≠ b → (TX5 a).2.1 ≠ (TX5 b).2.1 := by decide +kernel
theorem tyX5_ok : ∀ k, k < 0 → parseFieldDescriptor (TX5 k).2.2.1 = some (tyX5 k) := by decide +kernel
abbrev cX5_pass : ByteArray := prog_7_method_2_code
def yX5_pass : MethodName := ⟨RX5, "pass", "(LGhostQuarter$Town;LGhostQuarter$Law;LGhostQuarter$Times;I)I"⟩
abbrev cX5_allDraws : ByteArray := prog_7_method_3_code
def yX5_allDraws : MethodName := ⟨RX5, "allDraws", "(I)J"⟩
abbrev cX5_drawsThatTell : ByteArray := prog_7_method_4_code
def yX5_drawsThatTell : MethodName := ⟨RX5, "drawsThatTell", "(LGhostQuarter$Town;LGhostQuarter$Law;III)J"⟩
abbrev cX5_drawsInAll : ByteArray := prog_7_method_5_code
def yX5_drawsInAll : MethodName := ⟨RX5, "drawsInAll", "(LGhostQuarter$Town;LGhostQuarter$Law;II)J"⟩
abbrev cX5_commonDivisor : ByteArray := prog_7_method_6_code
def yX5_commonDivisor : MethodName := ⟨RX5, "commonDivisor", "(JJ)J"⟩
def RX6 : String := "GhostQuarter$Sightings"
def TX6 : u_T := fun k => match k with
  | 0 => ("GhostQuarter$Sightings", "minute", "[I", true)
  | 1 => ("GhostQuarter$Sightings", "spot", "[I", true)
  | 2 => ("GhostQuarter$Sightings", "linked", "[I", true)
  | _ => ("GhostQuarter$Sightings", "size", "I", false)
def tyX6 : Nat → FieldType := fun k => match k with
  | 0 => .array .int
  | 1 => .array .int
  | 2 => .array .int
  | _ => .int
abbrev wsX60 : List Cond := u_ws RX6 TX6 4
theorem nmX6 : ∀ a, a < 4 → ∀ b, b < 4 → a ≠ b → (TX6 a).2.1 ≠ (TX6 b).2.1 := by decide +kernel
theorem tyX6_ok : ∀ k, k < 4 → parseFieldDescriptor (TX6 k).2.2.1 = some (tyX6 k) := by decide +kernel
abbrev cX6_init : ByteArray := prog_8_method_1_code
def yX6_init : MethodName := ⟨RX6, "<init>", "()V"⟩
abbrev cX6_read : ByteArray := prog_8_method_2_code
def yX6_read : MethodName := ⟨RX6, "read", "(LGhostQuarter$Tape;ILGhostQuarter$Town;)Z"⟩
abbrev cX6_link : ByteArray := prog_8_method_3_code
def yX6_link : MethodName := ⟨RX6, "link", "(LGhostQuarter$Town;LGhostQuarter$Paths;)V"⟩
abbrev cX6_fewestGhosts : ByteArray := prog_8_method_4_code
def yX6_fewestGhosts : MethodName := ⟨RX6, "fewestGhosts", "()I"⟩
abbrev cX6_areApart : ByteArray := prog_8_method_5_code
def yX6_areApart : MethodName := ⟨RX6, "areApart", "(I)Z"⟩
abbrev cX6_fromWhere : ByteArray := prog_8_method_6_code
def yX6_fromWhere : MethodName := ⟨RX6, "fromWhere", "(LGhostQuarter$Town;LGhostQuarter$Paths;)I"⟩
def RX7 : String := "GhostQuarter$Tape"
def TX7 : u_T := fun k => match k with
  | 0 => ("GhostQuarter$Tape", "bytes", "[I", true)
  | _ => ("GhostQuarter$Tape", "size", "I", false)
def tyX7 : Nat → FieldType := fun k => match k with
  | 0 => .array .int
  | _ => .int
abbrev wsX70 : List Cond := u_ws RX7 TX7 2
theorem nmX7 : ∀ a, a < 2 → ∀ b, b < 2 → a ≠ b → (TX7 a).2.1 ≠ (TX7 b).2.1 := by decide +kernel
theorem tyX7_ok : ∀ k, k < 2 → parseFieldDescriptor (TX7 k).2.2.1 = some (tyX7 k) := by decide +kernel
abbrev cX7_init : ByteArray := prog_9_method_1_code
def yX7_init : MethodName := ⟨RX7, "<init>", "()V"⟩
abbrev cX7_add : ByteArray := prog_9_method_2_code
def yX7_add : MethodName := ⟨RX7, "add", "(I)V"⟩
abbrev cX7_empty : ByteArray := prog_9_method_3_code
def yX7_empty : MethodName := ⟨RX7, "empty", "()V"⟩
abbrev cX7_hasText : ByteArray := prog_9_method_4_code
def yX7_hasText : MethodName := ⟨RX7, "hasText", "(II)Z"⟩
abbrev cX7_at : ByteArray := prog_9_method_5_code
def yX7_at : MethodName := ⟨RX7, "at", "(I)I"⟩
abbrev cX7_numberAt : ByteArray := prog_9_method_6_code
def yX7_numberAt : MethodName := ⟨RX7, "numberAt", "(I)I"⟩
def RX8 : String := "GhostQuarter$Times"
def TX8 : u_T := fun k => match k with
  | 0 => ("GhostQuarter$Times", "spot", "[I", true)
  | 1 => ("GhostQuarter$Times", "fear", "[I", true)
  | 2 => ("GhostQuarter$Times", "courage", "[I", true)
  | 3 => ("GhostQuarter$Times", "paid", "[I", true)
  | 4 => ("GhostQuarter$Times", "toldDogs", "I", false)
  | 5 => ("GhostQuarter$Times", "coins", "I", false)
  | 6 => ("GhostQuarter$Times", "night", "I", false)
  | _ => ("GhostQuarter$Times", "x", "I", false)
def tyX8 : Nat → FieldType := fun k => match k with
  | 0 => .array .int
  | 1 => .array .int
  | 2 => .array .int
  | 3 => .array .int
  | 4 => .int
  | 5 => .int
  | 6 => .int
  | _ => .int
abbrev wsX80 : List Cond := u_ws RX8 TX8 8
theorem nmX8 : ∀ a, a < 8 → ∀ b, b < 8 → a ≠ b → (TX8 a).2.1 ≠ (TX8 b).2.1 := by decide +kernel
theorem tyX8_ok : ∀ k, k < 8 → parseFieldDescriptor (TX8 k).2.2.1 = some (tyX8 k) := by decide +kernel
abbrev cX8_init : ByteArray := prog_10_method_1_code
def yX8_init : MethodName := ⟨RX8, "<init>", "()V"⟩
abbrev cX8_copy : ByteArray := prog_10_method_2_code
def yX8_copy : MethodName := ⟨RX8, "copy", "(LGhostQuarter$Times;)V"⟩
abbrev cX8_isTold : ByteArray := prog_10_method_3_code
def yX8_isTold : MethodName := ⟨RX8, "isTold", "(I)Z"⟩
abbrev cX8_putStranger : ByteArray := prog_10_method_4_code
def yX8_putStranger : MethodName := ⟨RX8, "putStranger", "(III)V"⟩
abbrev cX8_dropFromWalls : ByteArray := prog_10_method_5_code
def yX8_dropFromWalls : MethodName := ⟨RX8, "dropFromWalls", "(LGhostQuarter$Town;)V"⟩
abbrev cX8_sees : ByteArray := prog_10_method_6_code
def yX8_sees : MethodName := ⟨RX8, "sees", "(LGhostQuarter$Town;II)Z"⟩
abbrev cX8_toldStrangers : ByteArray := prog_10_method_7_code
def yX8_toldStrangers : MethodName := ⟨RX8, "toldStrangers", "()I"⟩
abbrev cX8_paidStrangers : ByteArray := prog_10_method_8_code
def yX8_paidStrangers : MethodName := ⟨RX8, "paidStrangers", "()I"⟩
abbrev cX8_draw : ByteArray := prog_10_method_9_code
def yX8_draw : MethodName := ⟨RX8, "draw", "()I"⟩
def RX9 : String := "GhostQuarter$Town"
def TX9 : u_T := fun k => match k with
  | 0 => ("GhostQuarter$Town", "what", "[I", true)
  | 1 => ("GhostQuarter$Town", "home", "[I", true)
  | 2 => ("GhostQuarter$Town", "sight", "[J", true)
  | 3 => ("GhostQuarter$Town", "x", "I", false)
  | _ => ("GhostQuarter$Town", "y", "I", false)
def tyX9 : Nat → FieldType := fun k => match k with
  | 0 => .array .int
  | 1 => .array .int
  | 2 => .array .long
  | 3 => .int
  | _ => .int
abbrev wsX90 : List Cond := u_ws RX9 TX9 5
theorem nmX9 : ∀ a, a < 5 → ∀ b, b < 5 → a ≠ b → (TX9 a).2.1 ≠ (TX9 b).2.1 := by decide +kernel
theorem tyX9_ok : ∀ k, k < 5 → parseFieldDescriptor (TX9 k).2.2.1 = some (tyX9 k) := by decide +kernel
abbrev cX9_init : ByteArray := prog_11_method_1_code
def yX9_init : MethodName := ⟨RX9, "<init>", "()V"⟩
abbrev cX9_at : ByteArray := prog_11_method_2_code
def yX9_at : MethodName := ⟨RX9, "at", "(I)I"⟩
abbrev cX9_isWall : ByteArray := prog_11_method_3_code
def yX9_isWall : MethodName := ⟨RX9, "isWall", "(I)Z"⟩
abbrev cX9_sees : ByteArray := prog_11_method_4_code
def yX9_sees : MethodName := ⟨RX9, "sees", "(II)Z"⟩
abbrev cX9_after : ByteArray := prog_11_method_5_code
def yX9_after : MethodName := ⟨RX9, "after", "(II)I"⟩
abbrev cX9_housesWithSpots : ByteArray := prog_11_method_6_code
def yX9_housesWithSpots : MethodName := ⟨RX9, "housesWithSpots", "()I"⟩
abbrev cX9_housesSeenFrom : ByteArray := prog_11_method_7_code
def yX9_housesSeenFrom : MethodName := ⟨RX9, "housesSeenFrom", "(I)I"⟩
abbrev cX9_read : ByteArray := prog_11_method_8_code
def yX9_read : MethodName := ⟨RX9, "read", "(LGhostQuarter$Tape;I)I"⟩
abbrev cX9_clear : ByteArray := prog_11_method_9_code
def yX9_clear : MethodName := ⟨RX9, "clear", "()V"⟩
abbrev cX9_endRow : ByteArray := prog_11_method_10_code
def yX9_endRow : MethodName := ⟨RX9, "endRow", "(II)I"⟩
abbrev cX9_put : ByteArray := prog_11_method_11_code
def yX9_put : MethodName := ⟨RX9, "put", "(III)I"⟩
abbrev cX9_putHouse : ByteArray := prog_11_method_12_code
def yX9_putHouse : MethodName := ⟨RX9, "putHouse", "(II)I"⟩
abbrev cX9_look : ByteArray := prog_11_method_13_code
def yX9_look : MethodName := ⟨RX9, "look", "()V"⟩
abbrev cX9_lookAlong : ByteArray := prog_11_method_14_code
def yX9_lookAlong : MethodName := ⟨RX9, "lookAlong", "(II)J"⟩
def RX10 : String := "GhostQuarter$Walks"
def TX10 : u_T := fun k => match k with
  | 0 => ("GhostQuarter$Walks", "length", "[I", true)
  | 1 => ("GhostQuarter$Walks", "steps", "[[I", true)
  | 2 => ("GhostQuarter$Walks", "one", "[I", true)
  | 3 => ("GhostQuarter$Walks", "other", "[I", true)
  | 4 => ("GhostQuarter$Walks", "draft", "[I", true)
  | 5 => ("GhostQuarter$Walks", "openPlace", "[I", true)
  | 6 => ("GhostQuarter$Walks", "openTimes", "[I", true)
  | 7 => ("GhostQuarter$Walks", "openFrom", "[I", true)
  | 8 => ("GhostQuarter$Walks", "size", "I", false)
  | 9 => ("GhostQuarter$Walks", "open", "I", false)
  | 10 => ("GhostQuarter$Walks", "digit", "I", false)
  | 11 => ("GhostQuarter$Walks", "digitPlace", "I", false)
  | _ => ("GhostQuarter$Walks", "bare", "Z", false)
def tyX10 : Nat → FieldType := fun k => match k with
  | 0 => .array .int
  | 1 => .array (.array .int)
  | 2 => .array .int
  | 3 => .array .int
  | 4 => .array .int
  | 5 => .array .int
  | 6 => .array .int
  | 7 => .array .int
  | 8 => .int
  | 9 => .int
  | 10 => .int
  | 11 => .int
  | _ => .boolean
abbrev wsX100 : List Cond := u_ws RX10 TX10 13
theorem nmX10 : ∀ a, a < 13 → ∀ b, b < 13 → a ≠ b → (TX10 a).2.1 ≠ (TX10 b).2.1 := by decide +kernel
theorem tyX10_ok : ∀ k, k < 13 → parseFieldDescriptor (TX10 k).2.2.1 = some (tyX10 k) := by decide +kernel
abbrev cX10_init : ByteArray := prog_12_method_1_code
def yX10_init : MethodName := ⟨RX10, "<init>", "()V"⟩
abbrev cX10_read : ByteArray := prog_12_method_2_code
def yX10_read : MethodName := ⟨RX10, "read", "(LGhostQuarter$Tape;II)I"⟩
abbrev cX10_trace : ByteArray := prog_12_method_3_code
def yX10_trace : MethodName := ⟨RX10, "trace", "(LGhostQuarter$Town;I[I)I"⟩
abbrev cX10_meeting : ByteArray := prog_12_method_4_code
def yX10_meeting : MethodName := ⟨RX10, "meeting", "(LGhostQuarter$Town;II)I"⟩
abbrev cX10_oneIn : ByteArray := prog_12_method_5_code
def yX10_oneIn : MethodName := ⟨RX10, "oneIn", "(II)I"⟩
abbrev cX10_otherIn : ByteArray := prog_12_method_6_code
def yX10_otherIn : MethodName := ⟨RX10, "otherIn", "(II)I"⟩
abbrev cX10_take : ByteArray := prog_12_method_7_code
def yX10_take : MethodName := ⟨RX10, "take", "(II)I"⟩
abbrev cX10_addStep : ByteArray := prog_12_method_8_code
def yX10_addStep : MethodName := ⟨RX10, "addStep", "(III)I"⟩
abbrev cX10_openGroup : ByteArray := prog_12_method_9_code
def yX10_openGroup : MethodName := ⟨RX10, "openGroup", "(III)I"⟩
abbrev cX10_closeGroup : ByteArray := prog_12_method_10_code
def yX10_closeGroup : MethodName := ⟨RX10, "closeGroup", "()I"⟩
abbrev cX10_stepOf : ByteArray := prog_12_method_11_code
def yX10_stepOf : MethodName := ⟨RX10, "stepOf", "(I)I"⟩
def RX11 : String := "GhostQuarter"
def TX11 : u_T := fun k => match k with
  | 0 => ("GhostQuarter", "tape", "LGhostQuarter$Tape;", true)
  | 1 => ("GhostQuarter", "walks", "LGhostQuarter$Walks;", true)
  | 2 => ("GhostQuarter", "lawReader", "LGhostQuarter$LawReader;", true)
  | 3 => ("GhostQuarter", "night", "LGhostQuarter$Night;", true)
  | 4 => ("GhostQuarter", "paths", "LGhostQuarter$Paths;", true)
  | 5 => ("GhostQuarter", "seenSpots", "LGhostQuarter$Sightings;", true)
  | 6 => ("GhostQuarter", "rotaTable", "LGhostQuarter$Rotas;", true)
  | 7 => ("GhostQuarter", "now", "LGhostQuarter$Times;", true)
  | 8 => ("GhostQuarter", "kept", "LGhostQuarter$Times;", true)
  | 9 => ("GhostQuarter", "hands", "[I", true)
  | 10 => ("GhostQuarter", "town", "LGhostQuarter$Town;", false)
  | 11 => ("GhostQuarter", "spareTown", "LGhostQuarter$Town;", false)
  | 12 => ("GhostQuarter", "rules", "LGhostQuarter$Law;", false)
  | 13 => ("GhostQuarter", "spareRules", "LGhostQuarter$Law;", false)
  | 14 => ("GhostQuarter", "wasKept", "Z", false)
  | _ => ("GhostQuarter", "dogs", "I", false)
def tyX11 : Nat → FieldType := fun k => match k with
  | 0 => .object "GhostQuarter$Tape"
  | 1 => .object "GhostQuarter$Walks"
  | 2 => .object "GhostQuarter$LawReader"
  | 3 => .object "GhostQuarter$Night"
  | 4 => .object "GhostQuarter$Paths"
  | 5 => .object "GhostQuarter$Sightings"
  | 6 => .object "GhostQuarter$Rotas"
  | 7 => .object "GhostQuarter$Times"
  | 8 => .object "GhostQuarter$Times"
  | 9 => .array .int
  | 10 => .object "GhostQuarter$Town"
  | 11 => .object "GhostQuarter$Town"
  | 12 => .object "GhostQuarter$Law"
  | 13 => .object "GhostQuarter$Law"
  | 14 => .boolean
  | _ => .int
abbrev wsX110 : List Cond := u_ws RX11 TX11 16
theorem nmX11 : ∀ a, a < 16 → ∀ b, b < 16 → a ≠ b → (TX11 a).2.1 ≠ (TX11 b).2.1 := by decide +kernel
theorem tyX11_ok : ∀ k, k < 16 → parseFieldDescriptor (TX11 k).2.2.1 = some (tyX11 k) := by decide +kernel
abbrev cX11_init : ByteArray := prog_1_method_1_code
def yX11_init : MethodName := ⟨RX11, "<init>", "()V"⟩
abbrev cX11_feed : ByteArray := prog_1_method_2_code
def yX11_feed : MethodName := ⟨RX11, "feed", "(IIIII)I"⟩
abbrev cX11_quarter : ByteArray := prog_1_method_3_code
def yX11_quarter : MethodName := ⟨RX11, "quarter", "(I)I"⟩
abbrev cX11_walk : ByteArray := prog_1_method_4_code
def yX11_walk : MethodName := ⟨RX11, "walk", "(II)I"⟩
abbrev cX11_law : ByteArray := prog_1_method_5_code
def yX11_law : MethodName := ⟨RX11, "law", "(I)I"⟩
abbrev cX11_stranger : ByteArray := prog_1_method_6_code
def yX11_stranger : MethodName := ⟨RX11, "stranger", "(IIII)Z"⟩
abbrev cX11_dog : ByteArray := prog_1_method_7_code
def yX11_dog : MethodName := ⟨RX11, "dog", "(IZ)Z"⟩
abbrev cX11_tells : ByteArray := prog_1_method_8_code
def yX11_tells : MethodName := ⟨RX11, "tells", "(I)Z"⟩
abbrev cX11_haunts : ByteArray := prog_1_method_9_code
def yX11_haunts : MethodName := ⟨RX11, "haunts", "(I)I"⟩
abbrev cX11_tried : ByteArray := prog_1_method_10_code
def yX11_tried : MethodName := ⟨RX11, "tried", "(II)I"⟩
abbrev cX11_strangerIs : ByteArray := prog_1_method_11_code
def yX11_strangerIs : MethodName := ⟨RX11, "strangerIs", "(II)I"⟩
abbrev cX11_houseIs : ByteArray := prog_1_method_12_code
def yX11_houseIs : MethodName := ⟨RX11, "houseIs", "(II)I"⟩
abbrev cX11_meet : ByteArray := prog_1_method_13_code
def yX11_meet : MethodName := ⟨RX11, "meet", "(III)I"⟩
abbrev cX11_dread : ByteArray := prog_1_method_14_code
def yX11_dread : MethodName := ⟨RX11, "dread", "(III)I"⟩
abbrev cX11_unseen : ByteArray := prog_1_method_15_code
def yX11_unseen : MethodName := ⟨RX11, "unseen", "(III)I"⟩
abbrev cX11_watch : ByteArray := prog_1_method_16_code
def yX11_watch : MethodName := ⟨RX11, "watch", "(I)I"⟩
abbrev cX11_feared : ByteArray := prog_1_method_17_code
def yX11_feared : MethodName := ⟨RX11, "feared", "(II)I"⟩
abbrev cX11_sightings : ByteArray := prog_1_method_18_code
def yX11_sightings : MethodName := ⟨RX11, "sightings", "(II)I"⟩
abbrev cX11_rotas : ByteArray := prog_1_method_19_code
def yX11_rotas : MethodName := ⟨RX11, "rotas", "(IIII)I"⟩
abbrev cX11_goes : ByteArray := prog_1_method_20_code
def yX11_goes : MethodName := ⟨RX11, "goes", "(II)I"⟩
abbrev cX11_odds : ByteArray := prog_1_method_21_code
def yX11_odds : MethodName := ⟨RX11, "odds", "(III)J"⟩
abbrev cX11_watered : ByteArray := prog_1_method_22_code
def yX11_watered : MethodName := ⟨RX11, "watered", "(I)I"⟩
abbrev cX11_tax : ByteArray := prog_1_method_23_code
def yX11_tax : MethodName := ⟨RX11, "tax", "(I)I"⟩
abbrev cX11_hand : ByteArray := prog_1_method_24_code
def yX11_hand : MethodName := ⟨RX11, "hand", "(II)Z"⟩
abbrev cX11_ledger : ByteArray := prog_1_method_25_code
def yX11_ledger : MethodName := ⟨RX11, "ledger", "(IIII)I"⟩
abbrev cX11_seed : ByteArray := prog_1_method_26_code
def yX11_seed : MethodName := ⟨RX11, "seed", "(I)Z"⟩
abbrev cX11_keep : ByteArray := prog_1_method_27_code
def yX11_keep : MethodName := ⟨RX11, "keep", "()I"⟩
abbrev cX11_undo : ByteArray := prog_1_method_28_code
def yX11_undo : MethodName := ⟨RX11, "undo", "()Z"⟩
abbrev cX11_check : ByteArray := prog_1_method_29_code
def yX11_check : MethodName := ⟨RX11, "check", "(I)I"⟩
abbrev cX11_count : ByteArray := prog_1_method_30_code
def yX11_count : MethodName := ⟨RX11, "count", "(I)I"⟩
abbrev cX11_isIn : ByteArray := prog_1_method_31_code
def yX11_isIn : MethodName := ⟨RX11, "isIn", "(III)Z"⟩
abbrev cX11_hasBit : ByteArray := prog_1_method_32_code
def yX11_hasBit : MethodName := ⟨RX11, "hasBit", "(II)Z"⟩
abbrev cX11_isHouse : ByteArray := prog_1_method_33_code
def yX11_isHouse : MethodName := ⟨RX11, "isHouse", "(I)Z"⟩
abbrev cX11_isStranger : ByteArray := prog_1_method_34_code
def yX11_isStranger : MethodName := ⟨RX11, "isStranger", "(I)Z"⟩
abbrev cX11_faultAt : ByteArray := prog_1_method_35_code
def yX11_faultAt : MethodName := ⟨RX11, "faultAt", "(II)I"⟩
abbrev cX11_stepsBetween : ByteArray := prog_1_method_36_code
def yX11_stepsBetween : MethodName := ⟨RX11, "stepsBetween", "(II)I"⟩
abbrev cX11_hasSpot : ByteArray := prog_1_method_37_code
def yX11_hasSpot : MethodName := ⟨RX11, "hasSpot", "(I)Z"⟩
abbrev cX11_canHaunt : ByteArray := prog_1_method_38_code
def yX11_canHaunt : MethodName := ⟨RX11, "canHaunt", "(I)Z"⟩
abbrev cX11_dogOf : ByteArray := prog_1_method_39_code
def yX11_dogOf : MethodName := ⟨RX11, "dogOf", "(I)I"⟩
abbrev cX11_dogsAgainst : ByteArray := prog_1_method_40_code
def yX11_dogsAgainst : MethodName := ⟨RX11, "dogsAgainst", "(I)I"⟩
abbrev cX11_triedFurther : ByteArray := prog_1_method_41_code
def yX11_triedFurther : MethodName := ⟨RX11, "triedFurther", "(I)I"⟩
abbrev cX11_canShare : ByteArray := prog_1_method_42_code
def yX11_canShare : MethodName := ⟨RX11, "canShare", "(I)Z"⟩
abbrev cX11_taxShare : ByteArray := prog_1_method_43_code
def yX11_taxShare : MethodName := ⟨RX11, "taxShare", "(I)I"⟩
abbrev cX11_housesThatFit : ByteArray := prog_1_method_44_code
def yX11_housesThatFit : MethodName := ⟨RX11, "housesThatFit", "(III)I"⟩
abbrev cX11_markThatTells : ByteArray := prog_1_method_45_code
def yX11_markThatTells : MethodName := ⟨RX11, "markThatTells", "(I)I"⟩
def RX12 : String := "GhostQuarterModel"
def TX12 : u_T := fun k => match k with
  | 0 => ("GhostQuarterModel", "now", "[I", true)
  | 1 => ("GhostQuarterModel", "aside", "[I", true)
  | 2 => ("GhostQuarterModel", "kept", "[I", true)
  | 3 => ("GhostQuarterModel", "kindOf", "[I", true)
  | 4 => ("GhostQuarterModel", "houseAt", "[I", true)
  | 5 => ("GhostQuarterModel", "handOf", "[I", true)
  | 6 => ("GhostQuarterModel", "walkMany", "[I", true)
  | 7 => ("GhostQuarterModel", "walkStep", "[B", true)
  | 8 => ("GhostQuarterModel", "dogs", "I", false)
  | 9 => ("GhostQuarterModel", "tape", "[B", true)
  | 10 => ("GhostQuarterModel", "taped", "I", false)
  | 11 => ("GhostQuarterModel", "place0", "I", false)
  | 12 => ("GhostQuarterModel", "length0", "I", false)
  | 13 => ("GhostQuarterModel", "fault", "I", false)
  | 14 => ("GhostQuarterModel", "number0", "I", false)
  | 15 => ("GhostQuarterModel", "open", "I", false)
  | 16 => ("GhostQuarterModel", "codeMany", "I", false)
  | 17 => ("GhostQuarterModel", "waiting", "I", false)
  | 18 => ("GhostQuarterModel", "saidMany", "I", false)
  | 19 => ("GhostQuarterModel", "clauses", "I", false)
  | 20 => ("GhostQuarterModel", "said", "[I", true)
  | 21 => ("GhostQuarterModel", "waitsAt", "[I", true)
  | 22 => ("GhostQuarterModel", "saidLetter", "[I", true)
  | 23 => ("GhostQuarterModel", "saidFrom", "[I", true)
  | 24 => ("GhostQuarterModel", "saidHalf", "[I", true)
  | 25 => ("GhostQuarterModel", "saidTo", "[I", true)
  | 26 => ("GhostQuarterModel", "codes", "[I", true)
  | 27 => ("GhostQuarterModel", "clauseOf", "[I", true)
  | 28 => ("GhostQuarterModel", "codeFrom", "[I", true)
  | 29 => ("GhostQuarterModel", "codeHalf", "[I", true)
  | 30 => ("GhostQuarterModel", "codeTo", "[I", true)
  | 31 => ("GhostQuarterModel", "newKind", "[I", true)
  | 32 => ("GhostQuarterModel", "newHouse", "[I", true)
  | 33 => ("GhostQuarterModel", "newStep", "[B", true)
  | 34 => ("GhostQuarterModel", "roundFrom", "[I", true)
  | 35 => ("GhostQuarterModel", "roundAt", "[I", true)
  | 36 => ("GhostQuarterModel", "roundTimes", "[I", true)
  | 37 => ("GhostQuarterModel", "newMany", "I", false)
  | 38 => ("GhostQuarterModel", "rounds", "I", false)
  | 39 => ("GhostQuarterModel", "stepFrom", "I", false)
  | 40 => ("GhostQuarterModel", "stepTimes", "I", false)
  | 41 => ("GhostQuarterModel", "stack", "[I", true)
  | 42 => ("GhostQuarterModel", "facts", "[I", true)
  | 43 => ("GhostQuarterModel", "paysAt", "[I", true)
  | 44 => ("GhostQuarterModel", "spotAt", "[I", true)
  | 45 => ("GhostQuarterModel", "coinsNow", "I", false)
  | 46 => ("GhostQuarterModel", "paysNow", "I", false)
  | 47 => ("GhostQuarterModel", "barks", "I", false)
  | 48 => ("GhostQuarterModel", "seenMinutes", "I", false)
  | 49 => ("GhostQuarterModel", "fearNow", "I", false)
  | 50 => ("GhostQuarterModel", "dreadOf", "[I", true)
  | 51 => ("GhostQuarterModel", "dreadThen", "[I", true)
  | 52 => ("GhostQuarterModel", "costTo", "[I", true)
  | 53 => ("GhostQuarterModel", "canBoth", "[Z", true)
  | 54 => ("GhostQuarterModel", "rowsOf", "[I", true)
  | 55 => ("GhostQuarterModel", "differOf", "[I", true)
  | 56 => ("GhostQuarterModel", "rotaHouse", "[I", true)
  | 57 => ("GhostQuarterModel", "rotaMany", "I", false)
  | 58 => ("GhostQuarterModel", "rotaMost", "I", false)
  | 59 => ("GhostQuarterModel", "restOf", "[J", true)
  | 60 => ("GhostQuarterModel", "taxOf", "[I", true)
  | _ => ("GhostQuarterModel", "isKept", "Z", false)
def tyX12 : Nat → FieldType := fun k => match k with
  | 0 => .array .int
  | 1 => .array .int
  | 2 => .array .int
  | 3 => .array .int
  | 4 => .array .int
  | 5 => .array .int
  | 6 => .array .int
  | 7 => .array .byte
  | 8 => .int
  | 9 => .array .byte
  | 10 => .int
  | 11 => .int
  | 12 => .int
  | 13 => .int
  | 14 => .int
  | 15 => .int
  | 16 => .int
  | 17 => .int
  | 18 => .int
  | 19 => .int
  | 20 => .array .int
  | 21 => .array .int
  | 22 => .array .int
  | 23 => .array .int
  | 24 => .array .int
  | 25 => .array .int
  | 26 => .array .int
  | 27 => .array .int
  | 28 => .array .int
  | 29 => .array .int
  | 30 => .array .int
  | 31 => .array .int
  | 32 => .array .int
  | 33 => .array .byte
  | 34 => .array .int
  | 35 => .array .int
  | 36 => .array .int
  | 37 => .int
  | 38 => .int
  | 39 => .int
  | 40 => .int
  | 41 => .array .int
  | 42 => .array .int
  | 43 => .array .int
  | 44 => .array .int
  | 45 => .int
  | 46 => .int
  | 47 => .int
  | 48 => .int
  | 49 => .int
  | 50 => .array .int
  | 51 => .array .int
  | 52 => .array .int
  | 53 => .array .boolean
  | 54 => .array .int
  | 55 => .array .int
  | 56 => .array .int
  | 57 => .int
  | 58 => .int
  | 59 => .array .long
  | 60 => .array .int
  | _ => .boolean
abbrev wsX120 : List Cond := u_ws RX12 TX12 62
theorem nmX12 : ∀ a, a < 62 → ∀ b, b < 62 → a ≠ b → (TX12 a).2.1 ≠ (TX12 b).2.1 := by decide +kernel
theorem tyX12_ok : ∀ k, k < 62 → parseFieldDescriptor (TX12 k).2.2.1 = some (tyX12 k) := by decide +kernel
abbrev cX12_init : ByteArray := prog_14_method_1_code
def yX12_init : MethodName := ⟨RX12, "<init>", "()V"⟩
abbrev cX12_in : ByteArray := prog_14_method_2_code
def yX12_in : MethodName := ⟨RX12, "in", "(III)Z"⟩
abbrev cX12_min : ByteArray := prog_14_method_3_code
def yX12_min : MethodName := ⟨RX12, "min", "(II)I"⟩
abbrev cX12_max : ByteArray := prog_14_method_4_code
def yX12_max : MethodName := ⟨RX12, "max", "(II)I"⟩
abbrev cX12_size : ByteArray := prog_14_method_5_code
def yX12_size : MethodName := ⟨RX12, "size", "(I)I"⟩
abbrev cX12_has : ByteArray := prog_14_method_6_code
def yX12_has : MethodName := ⟨RX12, "has", "(II)Z"⟩
abbrev cX12_bits : ByteArray := prog_14_method_7_code
def yX12_bits : MethodName := ⟨RX12, "bits", "(I)I"⟩
abbrev cX12_isTen : ByteArray := prog_14_method_8_code
def yX12_isTen : MethodName := ⟨RX12, "isTen", "(I)Z"⟩
abbrev cX12_hasSpot : ByteArray := prog_14_method_9_code
def yX12_hasSpot : MethodName := ⟨RX12, "hasSpot", "(I)Z"⟩
abbrev cX12_isTold : ByteArray := prog_14_method_10_code
def yX12_isTold : MethodName := ⟨RX12, "isTold", "(I)Z"⟩
abbrev cX12_isThere : ByteArray := prog_14_method_11_code
def yX12_isThere : MethodName := ⟨RX12, "isThere", "(I)Z"⟩
abbrev cX12_farOf : ByteArray := prog_14_method_12_code
def yX12_farOf : MethodName := ⟨RX12, "farOf", "(II)I"⟩
abbrev cX12_beside : ByteArray := prog_14_method_13_code
def yX12_beside : MethodName := ⟨RX12, "beside", "(II)I"⟩
abbrev cX12_stepTo : ByteArray := prog_14_method_14_code
def yX12_stepTo : MethodName := ⟨RX12, "stepTo", "(II)I"⟩
abbrev cX12_isSeen : ByteArray := prog_14_method_15_code
def yX12_isSeen : MethodName := ⟨RX12, "isSeen", "(II)Z"⟩
abbrev cX12_types : ByteArray := prog_14_method_16_code
def yX12_types : MethodName := ⟨RX12, "types", "(I)V"⟩
abbrev cX12_feed : ByteArray := prog_14_method_17_code
def yX12_feed : MethodName := ⟨RX12, "feed", "(IIIII)I"⟩
abbrev cX12_here : ByteArray := prog_14_method_18_code
def yX12_here : MethodName := ⟨RX12, "here", "()I"⟩
abbrev cX12_isDigit : ByteArray := prog_14_method_19_code
def yX12_isDigit : MethodName := ⟨RX12, "isDigit", "()Z"⟩
abbrev cX12_wrongAt : ByteArray := prog_14_method_20_code
def yX12_wrongAt : MethodName := ⟨RX12, "wrongAt", "(II)Z"⟩
abbrev cX12_takes : ByteArray := prog_14_method_21_code
def yX12_takes : MethodName := ⟨RX12, "takes", "(I)Z"⟩
abbrev cX12_readsNumber : ByteArray := prog_14_method_22_code
def yX12_readsNumber : MethodName := ⟨RX12, "readsNumber", "()Z"⟩
abbrev cX12_notes : ByteArray := prog_14_method_23_code
def yX12_notes : MethodName := ⟨RX12, "notes", "(II)V"⟩
abbrev cX12_opens : ByteArray := prog_14_method_24_code
def yX12_opens : MethodName := ⟨RX12, "opens", "(I)Z"⟩
abbrev cX12_waitTop : ByteArray := prog_14_method_25_code
def yX12_waitTop : MethodName := ⟨RX12, "waitTop", "()I"⟩
abbrev cX12_factOf : ByteArray := prog_14_method_26_code
def yX12_factOf : MethodName := ⟨RX12, "factOf", "(I)I"⟩
abbrev cX12_sumSign : ByteArray := prog_14_method_27_code
def yX12_sumSign : MethodName := ⟨RX12, "sumSign", "(I)I"⟩
abbrev cX12_closesSums : ByteArray := prog_14_method_28_code
def yX12_closesSums : MethodName := ⟨RX12, "closesSums", "(Z)V"⟩
abbrev cX12_readsFactor : ByteArray := prog_14_method_29_code
def yX12_readsFactor : MethodName := ⟨RX12, "readsFactor", "()Z"⟩
abbrev cX12_hasOpenSum : ByteArray := prog_14_method_30_code
def yX12_hasOpenSum : MethodName := ⟨RX12, "hasOpenSum", "(I)Z"⟩
abbrev cX12_readsSum : ByteArray := prog_14_method_31_code
def yX12_readsSum : MethodName := ⟨RX12, "readsSum", "()Z"⟩
abbrev cX12_endsPiece : ByteArray := prog_14_method_32_code
def yX12_endsPiece : MethodName := ⟨RX12, "endsPiece", "()V"⟩
abbrev cX12_lands : ByteArray := prog_14_method_33_code
def yX12_lands : MethodName := ⟨RX12, "lands", "(Z)V"⟩
abbrev cX12_jumps : ByteArray := prog_14_method_34_code
def yX12_jumps : MethodName := ⟨RX12, "jumps", "(I)V"⟩
abbrev cX12_readsCompared : ByteArray := prog_14_method_35_code
def yX12_readsCompared : MethodName := ⟨RX12, "readsCompared", "()Z"⟩
abbrev cX12_readsCondition : ByteArray := prog_14_method_36_code
def yX12_readsCondition : MethodName := ⟨RX12, "readsCondition", "()Z"⟩
abbrev cX12_isSpotAt : ByteArray := prog_14_method_37_code
def yX12_isSpotAt : MethodName := ⟨RX12, "isSpotAt", "(I)Z"⟩
abbrev cX12_readsRow : ByteArray := prog_14_method_38_code
def yX12_readsRow : MethodName := ⟨RX12, "readsRow", "(I)Z"⟩
abbrev cX12_quarter : ByteArray := prog_14_method_39_code
def yX12_quarter : MethodName := ⟨RX12, "quarter", "(I)I"⟩
abbrev cX12_wayOf : ByteArray := prog_14_method_40_code
def yX12_wayOf : MethodName := ⟨RX12, "wayOf", "(I)I"⟩
abbrev cX12_repeats : ByteArray := prog_14_method_41_code
def yX12_repeats : MethodName := ⟨RX12, "repeats", "(III)Z"⟩
abbrev cX12_readsTimes : ByteArray := prog_14_method_42_code
def yX12_readsTimes : MethodName := ⟨RX12, "readsTimes", "()V"⟩
abbrev cX12_readsStep : ByteArray := prog_14_method_43_code
def yX12_readsStep : MethodName := ⟨RX12, "readsStep", "()Z"⟩
abbrev cX12_endsRounds : ByteArray := prog_14_method_44_code
def yX12_endsRounds : MethodName := ⟨RX12, "endsRounds", "()Z"⟩
abbrev cX12_walk : ByteArray := prog_14_method_45_code
def yX12_walk : MethodName := ⟨RX12, "walk", "(II)I"⟩
abbrev cX12_isClause : ByteArray := prog_14_method_46_code
def yX12_isClause : MethodName := ⟨RX12, "isClause", "(I)Z"⟩
abbrev cX12_readsClause : ByteArray := prog_14_method_47_code
def yX12_readsClause : MethodName := ⟨RX12, "readsClause", "()Z"⟩
abbrev cX12_law : ByteArray := prog_14_method_48_code
def yX12_law : MethodName := ⟨RX12, "law", "(I)I"⟩
abbrev cX12_reckon : ByteArray := prog_14_method_49_code
def yX12_reckon : MethodName := ⟨RX12, "reckon", "(III)I"⟩
abbrev cX12_comesTo : ByteArray := prog_14_method_50_code
def yX12_comesTo : MethodName := ⟨RX12, "comesTo", "(II)I"⟩
abbrev cX12_byLaw : ByteArray := prog_14_method_51_code
def yX12_byLaw : MethodName := ⟨RX12, "byLaw", "(II)I"⟩
abbrev cX12_feels : ByteArray := prog_14_method_52_code
def yX12_feels : MethodName := ⟨RX12, "feels", "(II)V"⟩
abbrev cX12_mayHaunt : ByteArray := prog_14_method_53_code
def yX12_mayHaunt : MethodName := ⟨RX12, "mayHaunt", "(II)Z"⟩
abbrev cX12_feelsStranger : ByteArray := prog_14_method_54_code
def yX12_feelsStranger : MethodName := ⟨RX12, "feelsStranger", "(IIII)V"⟩
abbrev cX12_fearOf : ByteArray := prog_14_method_55_code
def yX12_fearOf : MethodName := ⟨RX12, "fearOf", "(IIII)I"⟩
abbrev cX12_rumourOf : ByteArray := prog_14_method_56_code
def yX12_rumourOf : MethodName := ⟨RX12, "rumourOf", "(II)I"⟩
abbrev cX12_stranger : ByteArray := prog_14_method_57_code
def yX12_stranger : MethodName := ⟨RX12, "stranger", "(IIII)Z"⟩
abbrev cX12_dog : ByteArray := prog_14_method_58_code
def yX12_dog : MethodName := ⟨RX12, "dog", "(IZ)Z"⟩
abbrev cX12_tells : ByteArray := prog_14_method_59_code
def yX12_tells : MethodName := ⟨RX12, "tells", "(I)Z"⟩
abbrev cX12_hand : ByteArray := prog_14_method_60_code
def yX12_hand : MethodName := ⟨RX12, "hand", "(II)Z"⟩
abbrev cX12_minuteOf : ByteArray := prog_14_method_61_code
def yX12_minuteOf : MethodName := ⟨RX12, "minuteOf", "(III)V"⟩
abbrev cX12_nightOf : ByteArray := prog_14_method_62_code
def yX12_nightOf : MethodName := ⟨RX12, "nightOf", "(I)V"⟩
abbrev cX12_haunts : ByteArray := prog_14_method_63_code
def yX12_haunts : MethodName := ⟨RX12, "haunts", "(I)I"⟩
abbrev cX12_copies : ByteArray := prog_14_method_64_code
def yX12_copies : MethodName := ⟨RX12, "copies", "([I[I)V"⟩
abbrev cX12_tried : ByteArray := prog_14_method_65_code
def yX12_tried : MethodName := ⟨RX12, "tried", "(II)I"⟩
abbrev cX12_housesSeen : ByteArray := prog_14_method_66_code
def yX12_housesSeen : MethodName := ⟨RX12, "housesSeen", "(I)I"⟩
abbrev cX12_strangerIs : ByteArray := prog_14_method_67_code
def yX12_strangerIs : MethodName := ⟨RX12, "strangerIs", "(II)I"⟩
abbrev cX12_houseIs : ByteArray := prog_14_method_68_code
def yX12_houseIs : MethodName := ⟨RX12, "houseIs", "(II)I"⟩
abbrev cX12_watchedFrom : ByteArray := prog_14_method_69_code
def yX12_watchedFrom : MethodName := ⟨RX12, "watchedFrom", "(I)I"⟩
abbrev cX12_watch : ByteArray := prog_14_method_70_code
def yX12_watch : MethodName := ⟨RX12, "watch", "(I)I"⟩
abbrev cX12_feared : ByteArray := prog_14_method_71_code
def yX12_feared : MethodName := ⟨RX12, "feared", "(II)I"⟩
abbrev cX12_goesOn : ByteArray := prog_14_method_72_code
def yX12_goesOn : MethodName := ⟨RX12, "goesOn", "(III)I"⟩
abbrev cX12_meet : ByteArray := prog_14_method_73_code
def yX12_meet : MethodName := ⟨RX12, "meet", "(III)I"⟩
abbrev cX12_fearAt : ByteArray := prog_14_method_74_code
def yX12_fearAt : MethodName := ⟨RX12, "fearAt", "(III)I"⟩
abbrev cX12_dread : ByteArray := prog_14_method_75_code
def yX12_dread : MethodName := ⟨RX12, "dread", "(III)I"⟩
abbrev cX12_seers : ByteArray := prog_14_method_76_code
def yX12_seers : MethodName := ⟨RX12, "seers", "(I)I"⟩
abbrev cX12_laysCosts : ByteArray := prog_14_method_77_code
def yX12_laysCosts : MethodName := ⟨RX12, "laysCosts", "(IZ)V"⟩
abbrev cX12_unseen : ByteArray := prog_14_method_78_code
def yX12_unseen : MethodName := ⟨RX12, "unseen", "(III)I"⟩
abbrev cX12_areSights : ByteArray := prog_14_method_79_code
def yX12_areSights : MethodName := ⟨RX12, "areSights", "(I)Z"⟩
abbrev cX12_laysBoth : ByteArray := prog_14_method_80_code
def yX12_laysBoth : MethodName := ⟨RX12, "laysBoth", "(I)V"⟩
abbrev cX12_areApart : ByteArray := prog_14_method_81_code
def yX12_areApart : MethodName := ⟨RX12, "areApart", "(II)Z"⟩
abbrev cX12_ghostsFor : ByteArray := prog_14_method_82_code
def yX12_ghostsFor : MethodName := ⟨RX12, "ghostsFor", "(I)I"⟩
abbrev cX12_fromWhere : ByteArray := prog_14_method_83_code
def yX12_fromWhere : MethodName := ⟨RX12, "fromWhere", "(I)I"⟩
abbrev cX12_sightings : ByteArray := prog_14_method_84_code
def yX12_sightings : MethodName := ⟨RX12, "sightings", "(II)I"⟩
abbrev cX12_rotaState : ByteArray := prog_14_method_85_code
def yX12_rotaState : MethodName := ⟨RX12, "rotaState", "(III)I"⟩
abbrev cX12_countIn : ByteArray := prog_14_method_86_code
def yX12_countIn : MethodName := ⟨RX12, "countIn", "(II)I"⟩
abbrev cX12_differs : ByteArray := prog_14_method_87_code
def yX12_differs : MethodName := ⟨RX12, "differs", "(I)I"⟩
abbrev cX12_mayNext : ByteArray := prog_14_method_88_code
def yX12_mayNext : MethodName := ⟨RX12, "mayNext", "(IIII)Z"⟩
abbrev cX12_laysRotas : ByteArray := prog_14_method_89_code
def yX12_laysRotas : MethodName := ⟨RX12, "laysRotas", "(I)V"⟩
abbrev cX12_sumOf : ByteArray := prog_14_method_90_code
def yX12_sumOf : MethodName := ⟨RX12, "sumOf", "(I)I"⟩
abbrev cX12_firstIn : ByteArray := prog_14_method_91_code
def yX12_firstIn : MethodName := ⟨RX12, "firstIn", "(I)I"⟩
abbrev cX12_rotas : ByteArray := prog_14_method_92_code
def yX12_rotas : MethodName := ⟨RX12, "rotas", "(IIII)I"⟩
abbrev cX12_spotsSet : ByteArray := prog_14_method_93_code
def yX12_spotsSet : MethodName := ⟨RX12, "spotsSet", "()I"⟩
abbrev cX12_draws : ByteArray := prog_14_method_94_code
def yX12_draws : MethodName := ⟨RX12, "draws", "()I"⟩
abbrev cX12_goes : ByteArray := prog_14_method_95_code
def yX12_goes : MethodName := ⟨RX12, "goes", "(II)I"⟩
abbrev cX12_without : ByteArray := prog_14_method_96_code
def yX12_without : MethodName := ⟨RX12, "without", "(II)J"⟩
abbrev cX12_tens : ByteArray := prog_14_method_97_code
def yX12_tens : MethodName := ⟨RX12, "tens", "(I)J"⟩
abbrev cX12_gcd : ByteArray := prog_14_method_98_code
def yX12_gcd : MethodName := ⟨RX12, "gcd", "(JJ)J"⟩
abbrev cX12_odds : ByteArray := prog_14_method_99_code
def yX12_odds : MethodName := ⟨RX12, "odds", "(III)J"⟩
abbrev cX12_watered : ByteArray := prog_14_method_100_code
def yX12_watered : MethodName := ⟨RX12, "watered", "(I)I"⟩
abbrev cX12_tax : ByteArray := prog_14_method_101_code
def yX12_tax : MethodName := ⟨RX12, "tax", "(I)I"⟩
abbrev cX12_ledger : ByteArray := prog_14_method_102_code
def yX12_ledger : MethodName := ⟨RX12, "ledger", "(IIII)I"⟩
abbrev cX12_greaterBy : ByteArray := prog_14_method_103_code
def yX12_greaterBy : MethodName := ⟨RX12, "greaterBy", "(II)I"⟩
abbrev cX12_seed : ByteArray := prog_14_method_104_code
def yX12_seed : MethodName := ⟨RX12, "seed", "(I)Z"⟩
abbrev cX12_keep : ByteArray := prog_14_method_105_code
def yX12_keep : MethodName := ⟨RX12, "keep", "()I"⟩
abbrev cX12_undo : ByteArray := prog_14_method_106_code
def yX12_undo : MethodName := ⟨RX12, "undo", "()Z"⟩
abbrev cX12_tapeNumber : ByteArray := prog_14_method_107_code
def yX12_tapeNumber : MethodName := ⟨RX12, "tapeNumber", "(I)I"⟩
abbrev cX12_check : ByteArray := prog_14_method_108_code
def yX12_check : MethodName := ⟨RX12, "check", "(I)I"⟩
abbrev cX12_count : ByteArray := prog_14_method_109_code
def yX12_count : MethodName := ⟨RX12, "count", "(I)I"⟩
def RJ6 : String := "java/lang/Integer"
abbrev cJ6_bitCount_0f7a4 : ByteArray := prog_15_method_49_code
def yJ6_bitCount_0f7a4 : MethodName := ⟨RJ6, "bitCount", "(I)I"⟩
def RJ9 : String := "java/lang/Math"
abbrev cJ9_abs_0f7a4 : ByteArray := prog_16_method_59_code
def yJ9_abs_0f7a4 : MethodName := ⟨RJ9, "abs", "(I)I"⟩
abbrev cJ9_max_7cf53 : ByteArray := prog_16_method_65_code
def yJ9_max_7cf53 : MethodName := ⟨RJ9, "max", "(II)I"⟩
abbrev cJ9_min_7cf53 : ByteArray := prog_16_method_69_code
def yJ9_min_7cf53 : MethodName := ⟨RJ9, "min", "(II)I"⟩
def RL : String := "GhostQuarterLaw"
abbrev cL_law : ByteArray := code
def yL_law : MethodName := ⟨RL, "law", "([I)Z"⟩
abbrev vwCl : List vw_C := [(RX0, TX0, 11), (RX1, TX1, 4), (RX2, TX2, 9), (RX3, TX3, 6), (RX4, TX4, 7), (RX6, TX6, 4), (RX7, TX7, 2), (RX8, TX8, 8), (RX9, TX9, 5), (RX10, TX10, 13), (RX11, TX11, 16), (RX12, TX12, 62)]
theorem lw_memr {big : List Cond} (ws : List Cond) (ps : List Nat) (hp : ws = ps.filterMap (fun i => big[i]?)) : ∀ w ∈ ws, w ∈ big := by
  intro w hw
  rw [hp] at hw
  obtain ⟨i, -, hi⟩ := List.mem_filterMap.mp hw
  exact List.mem_of_getElem? hi
set_option maxRecDepth 100000 in
theorem iX0 : ∀ w ∈ wsX00, w ∈ lw_tbl := lw_memr _ [454, 456, 458, 460, 462, 464, 466, 468, 470, 472, 474] (by decide +kernel)
set_option maxRecDepth 100000 in
theorem iX1 : ∀ w ∈ wsX10, w ∈ lw_tbl := lw_memr _ [209, 211, 213, 215] (by decide +kernel)
set_option maxRecDepth 100000 in
theorem iX2 : ∀ w ∈ wsX20, w ∈ lw_tbl := lw_memr _ [291, 293, 295, 297, 299, 301, 303, 305, 307] (by decide +kernel)
set_option maxRecDepth 100000 in
theorem iX3 : ∀ w ∈ wsX30, w ∈ lw_tbl := lw_memr _ [325, 327, 329, 331, 333, 335] (by decide +kernel)
set_option maxRecDepth 100000 in
theorem iX4 : ∀ w ∈ wsX40, w ∈ lw_tbl := lw_memr _ [370, 372, 374, 376, 378, 380, 382] (by decide +kernel)
set_option maxRecDepth 100000 in
theorem iX6 : ∀ w ∈ wsX60, w ∈ lw_tbl := lw_memr _ [348, 350, 352, 354] (by decide +kernel)
set_option maxRecDepth 100000 in
theorem iX7 : ∀ w ∈ wsX70, w ∈ lw_tbl := lw_memr _ [144, 146] (by decide +kernel)
set_option maxRecDepth 100000 in
theorem iX8 : ∀ w ∈ wsX80, w ∈ lw_tbl := lw_memr _ [256, 258, 260, 262, 264, 266, 268, 270] (by decide +kernel)
set_option maxRecDepth 100000 in
theorem iX9 : ∀ w ∈ wsX90, w ∈ lw_tbl := lw_memr _ [423, 425, 427, 429, 431] (by decide +kernel)
set_option maxRecDepth 100000 in
theorem iX10 : ∀ w ∈ wsX100, w ∈ lw_tbl := lw_memr _ [172, 174, 176, 178, 180, 182, 184, 186, 188, 190, 192, 194, 196] (by decide +kernel)
set_option maxRecDepth 100000 in
theorem iX11 : ∀ w ∈ wsX110, w ∈ lw_tbl := lw_memr _ [493, 495, 497, 499, 501, 503, 505, 507, 509, 511, 513, 515, 517, 519, 521, 523] (by decide +kernel)
set_option maxRecDepth 100000 in
theorem iX12 : ∀ w ∈ wsX120, w ∈ lw_tbl := lw_memr _ [1216, 1218, 1220, 1222, 1224, 1226, 1228, 1230, 1232, 1234, 1236, 1238, 1240, 1242, 1244, 1246, 1248, 1250, 1252, 1254, 1256, 1258, 1260, 1262, 1264, 1266, 1268, 1270, 1272, 1274, 1276, 1278, 1280, 1282, 1284, 1286, 1288, 1290, 1292, 1294, 1296, 1298, 1300, 1302, 1304, 1306, 1308, 1310, 1312, 1314, 1316, 1318, 1320, 1322, 1324, 1326, 1328, 1330, 1332, 1334, 1336, 1338] (by decide +kernel)
end
section
/-! PART 02: the machine as the methods of these classes see it ('E': the law's script, in its local 0). A world of cells at b, b + 1, ..; what they hold is a value 'Mem' (ints, longs, references by their number); locals are a list; 'G' is the judgement W over such a world. -/
abbrev Sh : Type := Nat ⊕ (FieldType × Nat)
abbrev Mem : Type := (Nat → Nat → Int32) × (Nat → Nat → Int64) × (Nat → Nat → Option Nat)
abbrev LV : Type := Int32 ⊕ (Int64 ⊕ Nat)
abbrev LS0 : Type := List (Option LV)
abbrev vI (x : Int32) : LV := Sum.inl x
abbrev vL (x : Int64) : LV := Sum.inr (Sum.inl x)
abbrev vR (k : Nat) : LV := Sum.inr (Sum.inr k)
def mI (M : Mem) (k j : Nat) : Int32 := M.1 k j
def mL (M : Mem) (k j : Nat) : Int64 := M.2.1 k j
def mR (M : Mem) (k j : Nat) : Option Nat := M.2.2 k j
def u2 {α : Type} (f : Nat → Nat → α) (k j : Nat) (v : α) : Nat → Nat → α := fun k' j' => if k' = k ∧ j' = j then v else f k' j'
def sI (M : Mem) (k j : Nat) (v : Int32) : Mem := (u2 M.1 k j v, M.2)
def sL (M : Mem) (k j : Nat) (v : Int64) : Mem := (M.1, u2 M.2.1 k j v, M.2.2)
def sR (M : Mem) (k j : Nat) (v : Option Nat) : Mem := (M.1, M.2.1, u2 M.2.2 k j v)
theorem mI_sI (M : Mem) (k j : Nat) (v : Int32) (k' j' : Nat) : mI (sI M k j v) k' j' = if k' = k ∧ j' = j then v else mI M k' j' := rfl
theorem mL_sI (M : Mem) (k j : Nat) (v : Int32) (k' j' : Nat) : mL (sI M k j v) k' j' = mL M k' j' := rfl
theorem mR_sI (M : Mem) (k j : Nat) (v : Int32) (k' j' : Nat) : mR (sI M k j v) k' j' = mR M k' j' := rfl
theorem mL_sL (M : Mem) (k j : Nat) (v : Int64) (k' j' : Nat) : mL (sL M k j v) k' j' = if k' = k ∧ j' = j then v else mL M k' j' := rfl
theorem mI_sL (M : Mem) (k j : Nat) (v : Int64) (k' j' : Nat) : mI (sL M k j v) k' j' = mI M k' j' := rfl
theorem mR_sL (M : Mem) (k j : Nat) (v : Int64) (k' j' : Nat) : mR (sL M k j v) k' j' = mR M k' j' := rfl
theorem mR_sR (M : Mem) (k j : Nat) (v : Option Nat) (k' j' : Nat) : mR (sR M k j v) k' j' = if k' = k ∧ j' = j then v else mR M k' j' := rfl
theorem mI_sR (M : Mem) (k j : Nat) (v : Option Nat) (k' j' : Nat) : mI (sR M k j v) k' j' = mI M k' j' := rfl
theorem mL_sR (M : Mem) (k j : Nat) (v : Option Nat) (k' j' : Nat) : mL (sR M k j v) k' j' = mL M k' j' := rfl
def cv (b : Nat) (v : LV) : Value := match v with
  | .inl x => .int x
  | .inr (.inl x) => .long x
  | .inr (.inr k) => .ref (b + k)
/-! locals -/
def isLg (v : Option (Option LV)) : Bool := match v with
  | some (some (.inr (.inl _))) => true
  | _ => false
def okS (L : LS0) (i : Nat) : Bool := match i with
  | 0 => true
  | j + 1 => !(isLg L[j]?)
def LocOK (E : Option Nat) (b nL : Nat) (ls : Array Slot) (L : LS0) : Prop := ls.size = nL ∧ lv_wf ls ∧ L.length = nL ∧ (∀ (i : Nat) (v : LV), L[i]? = some (some v) → ls[i]? = some (.val (cv b v))) ∧ ∀ a : Nat, E = some a → ls[0]? = some (.val (.ref a))
def lva (b : Nat) (L : LS0) : List (Nat × Value) := (List.range L.length).filterMap fun i => match L[i]? with
  | some (some v) => some (i, cv b v)
  | _ => none
theorem lva_mem {b : Nat} {L : LS0} {i : Nat} {v : LV} (h : L[i]? = some (some v)) : (i, cv b v) ∈ lva b L := by
  refine List.mem_filterMap.mpr ⟨i, List.mem_range.mpr (List.getElem?_eq_some_iff.mp h).1, ?_⟩
  rw [h]
theorem lva_of {b : Nat} {L : LS0} {q : Nat × Value} (h : q ∈ lva b L) : ∃ v, L[q.1]? = some (some v) ∧ q.2 = cv b v := by
  obtain ⟨i, -, hi⟩ := List.mem_filterMap.mp h
  cases hL : L[i]? with
  | none => rw [hL] at hi; cases hi
  | some o =>
    cases o with
    | none => rw [hL] at hi; cases hi
    | some v =>
      rw [hL] at hi
      have := Option.some.inj hi
      subst this
      exact ⟨v, hL, rfl⟩
def lvE (E : Option Nat) (b : Nat) (L : LS0) : List (Nat × Value) := (match E with
  | some a => [(0, .ref a)]
  | none => []) ++ lva b L
theorem LocOK.has {E : Option Nat} {b nL : Nat} {ls : Array Slot} {L : LS0} (h : LocOK E b nL ls L) : lv_has ls nL (lvE E b L) := by
  refine ⟨h.1, h.2.1, fun q hq => ?_⟩
  rcases List.mem_append.mp hq with hq | hq
  · cases hE : E with
    | none => rw [hE] at hq; cases hq
    | some a =>
      rw [hE] at hq
      rcases List.mem_cons.mp hq with rfl | hq
      · exact h.2.2.2.2 a hE
      · cases hq
  · obtain ⟨v, h1, h2⟩ := lva_of hq
    rw [h2]
    exact h.2.2.2.1 _ _ h1
theorem cv_cat1 (b : Nat) {v : LV} (h : isLg (some (some v)) = false) : (cv b v).category = 1 := by
  rcases v with x | x | k
  · rfl
  · simp [isLg] at h
  · rfl
theorem lvE_a {E : Option Nat} {b : Nat} {L : LS0} {a : Nat} (h : E = some a) : (0, Value.ref a) ∈ lvE E b L := by
  subst h
  exact List.mem_append_left _ List.mem_cons_self
theorem lvE_b {E : Option Nat} {b : Nat} {L : LS0} {q : Nat × Value} (h : q ∈ lva b L) : q ∈ lvE E b L := List.mem_append_right _ h
theorem loc_st1 {E : Option Nat} {b nL : Nat} {ls ls' : Array Slot} {L : LS0} {i : Nat} {v : LV} (h : LocOK E b nL ls L) (hE : E = none ∨ i ≠ 0) (hi : i < nL) (ho : okS L i = true) (h' : lv_has ls' nL ((i, cv b v) :: (lvE E b L).filter (fun q => !(q.1 == i) && !(q.1 + 1 == i && q.2.category == 2)))) : LocOK E b nL ls' (L.set i (some v)) := by
  have hl : i < L.length := by rw [h.2.2.1]; exact hi
  refine ⟨h'.1, h'.2.1, by rw [List.length_set]; exact h.2.2.1, fun j w hj => ?_, fun a ha => ?_⟩
  · by_cases hji : j = i
    · subst hji
      rw [List.getElem?_set_self hl] at hj
      cases hj
      exact h'.2.2 (j, cv b v) List.mem_cons_self
    · rw [List.getElem?_set_ne (Ne.symm hji)] at hj
      refine h'.2.2 (j, cv b w) (List.mem_cons_of_mem _ (List.mem_filter.mpr ⟨lvE_b (lva_mem hj), ?_⟩))
      by_cases hs : j + 1 = i
      · subst hs
        have ho2 : isLg L[j]? = false := by simpa [okS] using ho
        rw [hj] at ho2
        simp [hji, cv_cat1 b ho2]
      · simp [hji, hs]
  · have hi0 : i ≠ 0 := hE.resolve_left (by rw [ha]; exact fun q => by cases q)
    refine h'.2.2 (0, .ref a) (List.mem_cons_of_mem _ (List.mem_filter.mpr ⟨lvE_a ha, ?_⟩))
    simp [Ne.symm hi0, Value.category]
theorem loc_st2 {E : Option Nat} {b nL : Nat} {ls ls' : Array Slot} {L : LS0} {i : Nat} {v : LV} (h : LocOK E b nL ls L) (hE : E = none ∨ i ≠ 0) (hi : i + 1 < nL) (ho : okS L i = true) (h' : lv_has ls' nL ((i, cv b v) :: (lvE E b L).filter (fun q => !(q.1 == i) && (!(q.1 == i + 1) && !(q.1 + 1 == i && q.2.category == 2))))) : LocOK E b nL ls' ((L.set i (some v)).set (i + 1) none) := by
  have hl : i < L.length := by rw [h.2.2.1]; omega
  refine ⟨h'.1, h'.2.1, by rw [List.length_set, List.length_set]; exact h.2.2.1, fun j w hj => ?_, fun a ha => ?_⟩
  · by_cases hj1 : j = i + 1
    · subst hj1
      rw [List.getElem?_set_self (by rw [List.length_set, h.2.2.1]; exact hi)] at hj
      cases hj
    · rw [List.getElem?_set_ne (Ne.symm hj1)] at hj
      by_cases hji : j = i
      · subst hji
        rw [List.getElem?_set_self hl] at hj
        cases hj
        exact h'.2.2 (j, cv b v) List.mem_cons_self
      · rw [List.getElem?_set_ne (Ne.symm hji)] at hj
        refine h'.2.2 (j, cv b w) (List.mem_cons_of_mem _ (List.mem_filter.mpr ⟨lvE_b (lva_mem hj), ?_⟩))
        by_cases hs : j + 1 = i
        · subst hs
          have ho2 : isLg L[j]? = false := by simpa [okS] using ho
          rw [hj] at ho2
          simp [hji, hj1, cv_cat1 b ho2]
        · simp [hji, hj1, hs]
  · have hi0 : i ≠ 0 := hE.resolve_left (by rw [ha]; exact fun q => by cases q)
    refine h'.2.2 (0, .ref a) (List.mem_cons_of_mem _ (List.mem_filter.mpr ⟨lvE_a ha, ?_⟩))
    simp [Ne.symm hi0, Value.category]
/-! the world -/
def wcl : List (Nat × (Nat → FieldType)) := [(11, tyX0), (4, tyX1), (9, tyX2), (6, tyX3), (7, tyX4), (4, tyX6), (2, tyX7), (8, tyX8), (5, tyX9), (13, tyX10), (16, tyX11), (62, tyX12)]
def ncl (ci : Nat) : Nat := ((wcl[ci]?).getD (0, fun _ => .int)).1
def tcl (ci : Nat) : Nat → FieldType := ((wcl[ci]?).getD (0, fun _ => .int)).2
def wfld (b : Nat) (M : Mem) (k j : Nat) (ty : FieldType) : Value := match ty with
  | .object _ => va_rf ((mR M k j).map (b + ·))
  | .array _ => va_rf ((mR M k j).map (b + ·))
  | _ => .int (mI M k j)
def wfs (b : Nat) (M : Mem) (k ci : Nat) : List Value := (List.range (ncl ci)).map fun j => wfld b M k j (tcl ci j)
def warr (b : Nat) (M : Mem) (k : Nat) (ty : FieldType) : (Nat → Int32) ⊕ (Nat → Int64) ⊕ (Nat → UInt32) ⊕ (Nat → UInt64) ⊕ (Nat → Option Nat) := match ty with
  | .long => .inr (.inl (mL M k))
  | .array _ => .inr (.inr (.inr (.inr (fun j => (mR M k j).map (b + ·)))))
  | _ => .inl (mI M k)
def went (b : Nat) (cA : FieldType → ClassId) (M : Mem) (k : Nat) (sh : Sh) : va_E := match sh with
  | .inl ci => .inr (ci, wfs b M k ci)
  | .inr (ty, n) => .inl (cA ty, n, warr b M k ty)
def wld (b : Nat) (cA : FieldType → ClassId) (Y : List Sh) (M : Mem) : va_W := Y.mapIdx fun k sh => (b + k, went b cA M k sh)
def wtys (cA : FieldType → ClassId) : List (ClassId × FieldType) := [(cA .int, .int), (cA .long, .long), (cA .byte, .byte), (cA .boolean, .boolean), (cA (.array .int), .array .int)]
theorem wld_get {b : Nat} {cA : FieldType → ClassId} {Y : List Sh} {M : Mem} {k : Nat} {sh : Sh} (h : Y[k]? = some sh) : (wld b cA Y M)[k]? = some (b + k, went b cA M k sh) := by
  unfold wld
  rw [List.getElem?_mapIdx, h]
  rfl
theorem wld_of {b : Nat} {cA : FieldType → ClassId} {Y : List Sh} {M : Mem} {k : Nat} {q : Nat × va_E} (h : (wld b cA Y M)[k]? = some q) : q.1 = b + k := by
  unfold wld at h
  rw [List.getElem?_mapIdx] at h
  cases hY : Y[k]? with
  | none => rw [hY] at h; cases h
  | some sh => rw [hY] at h; cases h; rfl
theorem wld_D {b : Nat} {cA : FieldType → ClassId} {Y : List Sh} {M : Mem} : va_D (fun q => b ≤ q) (wld b cA Y M) := by
  refine ⟨fun i j p q hi hj h => ?_, fun k q h => ?_⟩
  · rw [wld_of hi, wld_of hj] at h
    omega
  · rw [wld_of h]
    exact Nat.le_add_right b k
theorem wld_set {b : Nat} {cA : FieldType → ClassId} {Y : List Sh} {M M' : Mem} {k : Nat} {sh : Sh} {e : va_E} (h : Y[k]? = some sh) (he : went b cA M' k sh = e) (ho : ∀ k' sh', k' ≠ k → went b cA M' k' sh' = went b cA M k' sh') : (wld b cA Y M).set k (b + k, e) = wld b cA Y M' := by
  subst he
  have hk : k < (wld b cA Y M).length := (List.getElem?_eq_some_iff.mp (wld_get h)).1
  apply List.ext_getElem?
  intro i
  by_cases hi : i = k
  · subst hi
    rw [List.getElem?_set_self hk, wld_get h]
  · rw [List.getElem?_set_ne (Ne.symm hi)]
    unfold wld
    rw [List.getElem?_mapIdx, List.getElem?_mapIdx]
    cases Y[i]? with
    | none => rfl
    | some sh' => simp [ho i sh' hi]
/-- a change of one cell's content changes no other cell -/
def offK (M M' : Mem) (k : Nat) : Prop := ∀ k', k' ≠ k → (∀ j, mI M' k' j = mI M k' j) ∧ (∀ j, mL M' k' j = mL M k' j) ∧ (∀ j, mR M' k' j = mR M k' j)
theorem went_off {b : Nat} {cA : FieldType → ClassId} {M M' : Mem} {k : Nat} (h : offK M M' k) : ∀ k' sh', k' ≠ k → went b cA M' k' sh' = went b cA M k' sh' := by
  intro k' sh' hk
  obtain ⟨h1, h2, h3⟩ := h k' hk
  have f1 : mI M' k' = mI M k' := funext h1
  have f2 : mL M' k' = mL M k' := funext h2
  have f3 : mR M' k' = mR M k' := funext h3
  rcases sh' with ci | ⟨ty, n⟩
  · show Sum.inr (ci, wfs b M' k' ci) = Sum.inr (ci, wfs b M k' ci)
    have e : wfs b M' k' ci = wfs b M k' ci := by
      unfold wfs
      apply List.map_congr_left
      intro j _
      unfold wfld
      rw [h1 j, h3 j]
    rw [e]
  · show Sum.inl (cA ty, n, warr b M' k' ty) = Sum.inl (cA ty, n, warr b M k' ty)
    have e : warr b M' k' ty = warr b M k' ty := by
      unfold warr
      rw [f1, f2, f3]
    rw [e]
theorem off_sI (M : Mem) (k j : Nat) (v : Int32) : offK M (sI M k j v) k := fun k' hk => ⟨fun j' => by rw [mI_sI, if_neg (fun q => hk q.1)], fun _ => rfl, fun _ => rfl⟩
theorem off_sL (M : Mem) (k j : Nat) (v : Int64) : offK M (sL M k j v) k := fun k' hk => ⟨fun _ => rfl, fun j' => by rw [mL_sL, if_neg (fun q => hk q.1)], fun _ => rfl⟩
theorem off_sR (M : Mem) (k j : Nat) (v : Option Nat) : offK M (sR M k j v) k := fun k' hk => ⟨fun _ => rfl, fun _ => rfl, fun j' => by rw [mR_sR, if_neg (fun q => hk q.1)]⟩
def isIty (ty : FieldType) : Bool := match ty with
  | .int => true
  | .byte => true
  | .boolean => true
  | _ => false
theorem warr_int {b : Nat} {M : Mem} {k : Nat} {ty : FieldType} (h : isIty ty = true) : warr b M k ty = .inl (mI M k) := by
  cases ty <;> first | rfl | (simp [isIty] at h)
theorem wfld_int {b : Nat} {M : Mem} {k j : Nat} {ty : FieldType} (h : isIty ty = true) : wfld b M k j ty = .int (mI M k j) := by
  cases ty <;> first | rfl | (simp [isIty] at h)
def isRty (ty : FieldType) : Bool := match ty with
  | .object _ => true
  | .array _ => true
  | _ => false
theorem wfld_ref {b : Nat} {M : Mem} {k j : Nat} {ty : FieldType} (h : isRty ty = true) : wfld b M k j ty = va_rf ((mR M k j).map (b + ·)) := by
  cases ty <;> first | rfl | (simp [isRty] at h)
theorem mI_upd (M : Mem) (k j : Nat) (v : Int32) : mI (sI M k j v) k = upd (mI M k) j v := by
  funext j'
  rw [mI_sI]
  unfold upd
  by_cases h : j' = j
  · rw [if_pos ⟨rfl, h⟩, if_pos h]
  · rw [if_neg (fun q => h q.2), if_neg h]
theorem mL_upd (M : Mem) (k j : Nat) (v : Int64) : mL (sL M k j v) k = vp_updL (mL M k) j v := by
  funext j'
  rw [mL_sL]
  unfold vp_updL
  by_cases h : j' = j
  · rw [if_pos ⟨rfl, h⟩, if_pos h]
  · rw [if_neg (fun q => h q.2), if_neg h]
theorem wfs_len (b : Nat) (M : Mem) (k ci : Nat) : (wfs b M k ci).length = ncl ci := by simp [wfs]
theorem wfs_get (b : Nat) (M : Mem) (k ci : Nat) {j : Nat} (h : j < ncl ci) : (wfs b M k ci)[j]? = some (wfld b M k j (tcl ci j)) := by
  simp [wfs, h]
theorem wfs_set {b : Nat} {M M' : Mem} {k ci j : Nat} {v : Value} (hv : wfld b M' k j (tcl ci j) = v) (ho : ∀ j', j' ≠ j → mI M' k j' = mI M k j' ∧ mR M' k j' = mR M k j') : (wfs b M k ci).set j v = wfs b M' k ci := by
  subst hv
  apply List.ext_getElem?
  intro i
  by_cases hi : i < ncl ci
  · by_cases hij : i = j
    · subst hij
      rw [List.getElem?_set_self (by rw [wfs_len]; exact hi), wfs_get b M' k ci hi]
    · rw [List.getElem?_set_ne (Ne.symm hij), wfs_get b M k ci hi, wfs_get b M' k ci hi]
      unfold wfld
      rw [(ho i hij).1, (ho i hij).2]
  · rw [List.getElem?_eq_none (by rw [List.length_set, wfs_len]; omega), List.getElem?_eq_none (by rw [wfs_len]; omega)]
/-! what stands fast about a state: words of nest mates, the two static rows -/
def lw_g : List Cond := lw_tbl.filter goodWord
def isNw (w : Cond) : Bool := match w with
  | .methodLinkNest .. => true
  | .fieldLinkNest .. => true
  | _ => false
def lw_n : List Cond := lw_tbl.filter isNw
def stpX (j : Nat) : Int32 := match j with
  | 1 => 1
  | 3 => -1
  | _ => 0
def stpY (j : Nat) : Int32 := match j with
  | 0 => 1
  | 2 => -1
  | _ => 0
def stX : Nat → Value := fun j => .int (stpX j)
def stY : Nat → Value := fun j => .int (stpY j)
/-- rows of rows of ints have been made before -/
def aoA (U : State) : Prop := (Cond.arrayOver (.array .int)).before #[] U = true
theorem aoA.moved {u U : State} (hvm : u.vm.Alike U.vm) (h : aoA u) : aoA U := by
  obtain ⟨comp, c, k, h1, h2, h3, h4, h5⟩ := arrayOverA_spec h
  obtain ⟨k', hk', he⟩ := hvm.2.2 _ _ h3
  have hi : (U.vm.classes.findIdx? fun (x : Class) => match x.kind with | .array component _ => component == comp | _ => false) = some c := by
    have e1 := va_idx_bare U.vm comp
    have e2 := va_idx_bare u.vm comp
    have e4 : U.vm.bare = u.vm.bare := by first | exact hvm.bare_eq | exact hvm.bare_eq.symm
    rw [e4] at e1
    exact e1.symm.trans (e2.trans h2)
  have hkind : k'.kind = .array comp (.array .int) := by rw [he]; exact h4
  have f1 : U.vm.findClass (FieldType.array .int).toString = some comp := by rw [hvm.findClass]; exact h1
  have f2 : U.vm.findClass ("[" ++ (FieldType.array .int).toString) = some c := by rw [hvm.findClass]; exact h5
  unfold aoA Cond.before Cond.holds
  simp only [Cond.value]
  rw [f1, Option.bind_some]
  refine (congrArg (fun o : Option Nat => (o.bind (fun c => (U.vm.classes[c]?).map fun (k : Class) => match k.kind with | .array _ ty => decide (ty = FieldType.array .int) && decide (U.vm.findClass ("[" ++ (FieldType.array .int).toString) = some c) | _ => false) == some true)) hi).trans ?_
  simp [hk', hkind, f2]
def ST (b : Nat) (U : State) : Prop := (∀ w ∈ lw_n, va_Nw w U) ∧ (∃ t, va_Z "GhostQuarter" "STEP_X" "[I" (.ref t) (fun q => b ≤ q) U U.heap ∧ va_T .int t 5 stX (fun q => b ≤ q) U U.heap) ∧ (∃ t, va_Z "GhostQuarter" "STEP_Y" "[I" (.ref t) (fun q => b ≤ q) U U.heap ∧ va_T .int t 5 stY (fun q => b ≤ q) U U.heap) ∧ aoA U
def Wd (b : Nat) (D : va_G) (cA : FieldType → ClassId) (Y : List Sh) (M : Mem) (U : State) : Prop := U.heap.size = b + Y.length ∧ va_P D vwCl (wld b cA Y M) U.heap ∧ va_K D vwCl (wtys cA) U ∧ ST b U
def WdP (b : Nat) (D : va_G) (cA : FieldType → ClassId) (Y : List Sh) (M : Mem) (U : State) : Prop := U.heap.size = b + Y.length ∧ va_P D vwCl (wld b cA Y M) U.heap
theorem lw_n_warm {w : Cond} (hw : w ∈ lw_n) {s U : State} (hW : s.WarmedH U.vm) (h : va_Nw w s) : va_Nw w U := by
  have h2 := (List.mem_filter.mp hw).2
  cases w <;> first | exact va_Nw.warmM hW h | exact va_Nw.warmF hW h | cases h2
theorem lw_n_tab {w : Cond} (hw : w ∈ lw_n) : w.onTables = true := by
  have h2 := (List.mem_filter.mp hw).2
  cases w <;> first | rfl | cases h2
theorem ST.warm {b : Nat} {s U : State} {H : Heap} {locs : List Loc} (h : ST b s) (hW : s.WarmedH U.vm) (hS : va_S (fun q => b ≤ q) s.heap H locs) (hU : U.heap = H) : ST b U := by
  obtain ⟨h1, ⟨t1, a1, a2⟩, ⟨t2, b1, b2⟩, h4⟩ := h
  have k := hS.2.1
  rw [← hU] at k
  exact ⟨fun w hw => lw_n_warm hw hW (h1 w hw), ⟨t1, (va_Z.moved hW.alike a1).kept k, (va_T.moved hW.alike a2).kept k⟩, ⟨t2, (va_Z.moved hW.alike b1).kept k, (va_T.moved hW.alike b2).kept k⟩, h4.moved hW.alike⟩
theorem ST.calling {b : Nat} {U : State} {g : JFrame} {mk : MethodId} {a : Array Value} (h : ST b U) : ST b (U.calling g mk a) := by
  obtain ⟨h1, ⟨t1, a1, a2⟩, ⟨t2, b1, b2⟩, h4⟩ := h
  exact ⟨fun w hw => va_Nw.same (u := U) (U := U.calling g mk a) (lw_n_tab hw) rfl (h1 w hw), ⟨t1, va_Z.moved (u := U) (U := U.calling g mk a) (Vm.Alike.refl U.vm) a1, va_T.moved (u := U) (U := U.calling g mk a) (Vm.Alike.refl U.vm) a2⟩, ⟨t2, va_Z.moved (u := U) (U := U.calling g mk a) (Vm.Alike.refl U.vm) b1, va_T.moved (u := U) (U := U.calling g mk a) (Vm.Alike.refl U.vm) b2⟩, aoA.moved (u := U) (U := U.calling g mk a) (Vm.Alike.refl U.vm) h4⟩
theorem Wd.calling {b : Nat} {D : va_G} {cA : FieldType → ClassId} {Y : List Sh} {M : Mem} {U : State} {g : JFrame} {mk : MethodId} {a : Array Value} (h : Wd b D cA Y M U) : Wd b D cA Y M (U.calling g mk a) := ⟨h.1, h.2.1, va_K.moved (u := U) (U := U.calling g mk a) (Vm.Alike.refl U.vm) h.2.2.1, h.2.2.2.calling⟩
end
section
/-! PART 03: one instruction each, over the world of part 02 -/
abbrev Px : Type := (Program × Launch × Env × Room × State × MethodId × Array Value × List Frame × Method × Code × (State → Prop)) × (ByteArray × String × Nat × Nat × Nat × va_G × (FieldType → ClassId) × Nat × Nat × Option Nat × String)
abbrev xp (Z : Px) : Program := Z.1.1
abbrev xl (Z : Px) : Launch := Z.1.2.1
abbrev xe (Z : Px) : Env := Z.1.2.2.1
abbrev xR (Z : Px) : Room := Z.1.2.2.2.1
abbrev xs (Z : Px) : State := Z.1.2.2.2.2.1
abbrev xm (Z : Px) : MethodId := Z.1.2.2.2.2.2.1
abbrev xargs (Z : Px) : Array Value := Z.1.2.2.2.2.2.2.1
abbrev xbelow (Z : Px) : List Frame := Z.1.2.2.2.2.2.2.2.1
abbrev xmeth (Z : Px) : Method := Z.1.2.2.2.2.2.2.2.2.1
abbrev xc (Z : Px) : Code := Z.1.2.2.2.2.2.2.2.2.2.1
abbrev xQ (Z : Px) : State → Prop := Z.1.2.2.2.2.2.2.2.2.2.2
abbrev xcc (Z : Px) : ByteArray := Z.2.1
abbrev xown (Z : Px) : String := Z.2.2.1
abbrev xnL (Z : Px) : Nat := Z.2.2.2.1
abbrev xd (Z : Px) : Nat := Z.2.2.2.2.1
abbrev xb (Z : Px) : Nat := Z.2.2.2.2.2.1
abbrev xD (Z : Px) : va_G := Z.2.2.2.2.2.2.1
abbrev xA (Z : Px) : FieldType → ClassId := Z.2.2.2.2.2.2.2.1
abbrev xy0 (Z : Px) : Nat := Z.2.2.2.2.2.2.2.2.1
abbrev xs0 (Z : Px) : Nat := Z.2.2.2.2.2.2.2.2.2.1
abbrev xE (Z : Px) : Option Nat := Z.2.2.2.2.2.2.2.2.2.2.1
abbrev xnm (Z : Px) : String := Z.2.2.2.2.2.2.2.2.2.2.2
/-- the slots of a world's cells -/
def szS (sh : Sh) : Nat := match sh with
  | .inl ci => ncl ci
  | .inr (_, n) => n
def szs (Y : List Sh) : Nat := (Y.map szS).sum
def Cx (Z : Px) : Prop := (xp Z).tables.exec = Jvm.exec ∧ (xc Z).code = xcc Z ∧ (xs Z).vm.findClass (xown Z) = some (xm Z).cls ∧ (∀ w ∈ lw_g, w.before (xargs Z) (xs Z) = true) ∧ va_K (xD Z) vwCl (wtys (xA Z)) (xs Z) ∧ ST (xb Z) (xs Z) ∧ (xc Z).maxLocals = xnL Z ∧ xd Z ≤ (xR Z).frames ∧ 32 * xd Z ≤ (xR Z).locals ∧ xb Z ≤ (xs Z).heap.size ∧ (xmeth Z).name = xnm Z
/-- at 'pc', with stack, locals, cells 'Y' holding 'M': the machine comes to its end -/
def G (Z : Px) (Y : List Sh) (pc : Nat) (st : List Value) (L : LS0) (M : Mem) : Prop :=
  ∀ (H : Heap) (lo : List Loc) (ls : Array Slot), H.size = xb Z + Y.length → va_P (xD Z) vwCl (wld (xb Z) (xA Z) Y M) H → va_S (fun q => xb Z ≤ q) (xs Z).heap H lo → LocOK (xE Z) (xb Z) (xnL Z) ls L →
    W (xp Z) (xl Z) (xe Z) (xR Z) (xs Z) (xm Z) (xargs Z) (xbelow Z) (xmeth Z) (xc Z) H lo (Y.length - xy0 Z) (szs Y - xs0 Z) (xQ Z) (F0 (xm Z) pc ls st)
theorem mem_g {w : Cond} {i : Nat} (h : lw_tbl[i]? = some w) (hg : goodWord w = true) : w ∈ lw_g := List.mem_filter.mpr ⟨List.mem_of_getElem? h, hg⟩
theorem mem_n {w : Cond} {i : Nat} (h : lw_tbl[i]? = some w) (hg : isNw w = true) : w ∈ lw_n := List.mem_filter.mpr ⟨List.mem_of_getElem? h, hg⟩
theorem u_ws_g (C : String) (T : u_T) (N : Nat) (h : ∀ w ∈ u_ws C T N, w ∈ lw_tbl) : ∀ w ∈ u_ws C T N, w ∈ lw_g := by
  intro w hw
  refine List.mem_filter.mpr ⟨h w hw, ?_⟩
  obtain ⟨k, -, hk⟩ := List.mem_map.mp hw
  rw [← hk]
  unfold u_lay
  split <;> rfl
section RULES
variable {Z : Px} {Y : List Sh} {pc : Nat} {st : List Value} {L : LS0} {M : Mem}
theorem g_iconst (C : Cx Z) {n : Int} {v : Int32} (d : decode (xcc Z) pc = .ok (.iconst n, 1)) (hv : Int32.ofInt n = v) (k : G Z Y (pc + 1) (.int v :: st) L M) : G Z Y pc st L M := fun H lo ls a1 a2 a3 a4 => lv_iconst C.1 C.2.1 d hv (k H lo ls a1 a2 a3 a4)
theorem g_bipush (C : Cx Z) {n : Int} {v : Int32} (d : decode (xcc Z) pc = .ok (.bipush n, 2)) (hv : (Int8.ofInt n).toInt32 = v) (k : G Z Y (pc + 2) (.int v :: st) L M) : G Z Y pc st L M := fun H lo ls a1 a2 a3 a4 => lv_bipush C.1 C.2.1 d hv (k H lo ls a1 a2 a3 a4)
theorem g_sipush (C : Cx Z) {n : Int} {v : Int32} (d : decode (xcc Z) pc = .ok (.sipush n, 3)) (hv : (Int16.ofInt n).toInt32 = v) (k : G Z Y (pc + 3) (.int v :: st) L M) : G Z Y pc st L M := fun H lo ls a1 a2 a3 a4 => lv_sipush C.1 C.2.1 d hv (k H lo ls a1 a2 a3 a4)
theorem g_ldc (C : Cx Z) {i : Nat} {v : Int32} (hw : (Cond.constant (xown Z) i v) ∈ lw_g) (d : decode (xcc Z) pc = .ok (.ldc i, 2)) (k : G Z Y (pc + 2) (.int v :: st) L M) : G Z Y pc st L M := fun H lo ls a1 a2 a3 a4 => lv_ldc C.1 C.2.1 C.2.2.1 (C.2.2.2.1 _ hw) d (k H lo ls a1 a2 a3 a4)
theorem g_ldcw (C : Cx Z) {i : Nat} {v : Int32} (hw : (Cond.constant (xown Z) i v) ∈ lw_g) (d : decode (xcc Z) pc = .ok (.ldc_w i, 3)) (k : G Z Y (pc + 3) (.int v :: st) L M) : G Z Y pc st L M := fun H lo ls a1 a2 a3 a4 => lv_ldcw C.1 C.2.1 C.2.2.1 (C.2.2.2.1 _ hw) d (k H lo ls a1 a2 a3 a4)
theorem g_ldc2 (C : Cx Z) {i : Nat} {v : Int64} (hw : (Cond.constantLong (xown Z) i v) ∈ lw_g) (d : decode (xcc Z) pc = .ok (.ldc2_w i, 3)) (k : G Z Y (pc + 3) (.long v :: st) L M) : G Z Y pc st L M := fun H lo ls a1 a2 a3 a4 => lv_ldc2 C.1 C.2.1 C.2.2.1 (C.2.2.2.1 _ hw) d (k H lo ls a1 a2 a3 a4)
theorem g_lconst (C : Cx Z) {n : Fin 2} {v : Int64} (d : decode (xcc Z) pc = .ok (.lconst n, 1)) (hv : Int64.ofNat (n : Nat) = v) (k : G Z Y (pc + 1) (.long v :: st) L M) : G Z Y pc st L M := fun H lo ls a1 a2 a3 a4 => lv_lconst C.1 C.2.1 d hv (k H lo ls a1 a2 a3 a4)
theorem g_iload_n (C : Cx Z) {n : Fin 4} {i : Nat} {x : Int32} (d : decode (xcc Z) pc = .ok (.iload_n n, 1)) (hi : (n : Nat) = i) (hl : L[i]? = some (some (vI x))) (k : G Z Y (pc + 1) (.int x :: st) L M) : G Z Y pc st L M := fun H lo ls a1 a2 a3 a4 => lv_iload_n C.1 C.2.1 d hi (a4.2.2.2.1 i _ hl) (k H lo ls a1 a2 a3 a4)
theorem g_iload (C : Cx Z) {i : Nat} {x : Int32} (d : decode (xcc Z) pc = .ok (.iload i, 2)) (hl : L[i]? = some (some (vI x))) (k : G Z Y (pc + 2) (.int x :: st) L M) : G Z Y pc st L M := fun H lo ls a1 a2 a3 a4 => lv_iload C.1 C.2.1 d (a4.2.2.2.1 i _ hl) (k H lo ls a1 a2 a3 a4)
theorem g_lload_n (C : Cx Z) {n : Fin 4} {i : Nat} {x : Int64} (d : decode (xcc Z) pc = .ok (.lload_n n, 1)) (hi : (n : Nat) = i) (hl : L[i]? = some (some (vL x))) (k : G Z Y (pc + 1) (.long x :: st) L M) : G Z Y pc st L M := fun H lo ls a1 a2 a3 a4 => lv_lload_n C.1 C.2.1 d hi (a4.2.2.2.1 i _ hl) (k H lo ls a1 a2 a3 a4)
theorem g_lload (C : Cx Z) {i : Nat} {x : Int64} (d : decode (xcc Z) pc = .ok (.lload i, 2)) (hl : L[i]? = some (some (vL x))) (k : G Z Y (pc + 2) (.long x :: st) L M) : G Z Y pc st L M := fun H lo ls a1 a2 a3 a4 => lv_lload C.1 C.2.1 d (a4.2.2.2.1 i _ hl) (k H lo ls a1 a2 a3 a4)
theorem g_aload_n (C : Cx Z) {n : Fin 4} {i x : Nat} (d : decode (xcc Z) pc = .ok (.aload_n n, 1)) (hi : (n : Nat) = i) (hl : L[i]? = some (some (vR x))) (k : G Z Y (pc + 1) (.ref (xb Z + x) :: st) L M) : G Z Y pc st L M := fun H lo ls a1 a2 a3 a4 => lv_aload_n C.1 C.2.1 d hi (a4.2.2.2.1 i _ hl) (k H lo ls a1 a2 a3 a4)
theorem g_aload (C : Cx Z) {i x : Nat} (d : decode (xcc Z) pc = .ok (.aload i, 2)) (hl : L[i]? = some (some (vR x))) (k : G Z Y (pc + 2) (.ref (xb Z + x) :: st) L M) : G Z Y pc st L M := fun H lo ls a1 a2 a3 a4 => lv_aload C.1 C.2.1 d (a4.2.2.2.1 i _ hl) (k H lo ls a1 a2 a3 a4)
theorem g_istore_n (C : Cx Z) {n : Fin 4} {i : Nat} {x : Int32} (d : decode (xcc Z) pc = .ok (.istore_n n, 1)) (hi : (n : Nat) = i) (hn : i < xnL Z) (ho : okS L i = true) (hE : xE Z = none ∨ i ≠ 0) (k : G Z Y (pc + 1) st (L.set i (some (vI x))) M) : G Z Y pc (.int x :: st) L M := fun H lo ls a1 a2 a3 a4 => lv_istore_n C.1 C.2.1 d hi a4.has hn rfl fun ls' h' => k H lo ls' a1 a2 a3 (loc_st1 (v := vI x) a4 hE hn ho h')
theorem g_istore (C : Cx Z) {i : Nat} {x : Int32} (d : decode (xcc Z) pc = .ok (.istore i, 2)) (hn : i < xnL Z) (ho : okS L i = true) (hE : xE Z = none ∨ i ≠ 0) (k : G Z Y (pc + 2) st (L.set i (some (vI x))) M) : G Z Y pc (.int x :: st) L M := fun H lo ls a1 a2 a3 a4 => lv_istore C.1 C.2.1 d a4.has hn rfl fun ls' h' => k H lo ls' a1 a2 a3 (loc_st1 (v := vI x) a4 hE hn ho h')
theorem g_astore_n (C : Cx Z) {n : Fin 4} {i x : Nat} (d : decode (xcc Z) pc = .ok (.astore_n n, 1)) (hi : (n : Nat) = i) (hn : i < xnL Z) (ho : okS L i = true) (hE : xE Z = none ∨ i ≠ 0) (k : G Z Y (pc + 1) st (L.set i (some (vR x))) M) : G Z Y pc (.ref (xb Z + x) :: st) L M := fun H lo ls a1 a2 a3 a4 => lv_astore_n C.1 C.2.1 d hi a4.has hn rfl fun ls' h' => k H lo ls' a1 a2 a3 (loc_st1 (v := vR x) a4 hE hn ho h')
theorem g_astore (C : Cx Z) {i x : Nat} (d : decode (xcc Z) pc = .ok (.astore i, 2)) (hn : i < xnL Z) (ho : okS L i = true) (hE : xE Z = none ∨ i ≠ 0) (k : G Z Y (pc + 2) st (L.set i (some (vR x))) M) : G Z Y pc (.ref (xb Z + x) :: st) L M := fun H lo ls a1 a2 a3 a4 => lv_astore C.1 C.2.1 d a4.has hn rfl fun ls' h' => k H lo ls' a1 a2 a3 (loc_st1 (v := vR x) a4 hE hn ho h')
theorem g_lstore_n (C : Cx Z) {n : Fin 4} {i : Nat} {x : Int64} (d : decode (xcc Z) pc = .ok (.lstore_n n, 1)) (hi : (n : Nat) = i) (hn : i + 1 < xnL Z) (ho : okS L i = true) (hE : xE Z = none ∨ i ≠ 0) (k : G Z Y (pc + 1) st ((L.set i (some (vL x))).set (i + 1) none) M) : G Z Y pc (.long x :: st) L M := fun H lo ls a1 a2 a3 a4 => lv_lstore_n C.1 C.2.1 d hi a4.has hn rfl fun ls' h' => k H lo ls' a1 a2 a3 (loc_st2 (v := vL x) a4 hE hn ho h')
theorem g_lstore (C : Cx Z) {i : Nat} {x : Int64} (d : decode (xcc Z) pc = .ok (.lstore i, 2)) (hn : i + 1 < xnL Z) (ho : okS L i = true) (hE : xE Z = none ∨ i ≠ 0) (k : G Z Y (pc + 2) st ((L.set i (some (vL x))).set (i + 1) none) M) : G Z Y pc (.long x :: st) L M := fun H lo ls a1 a2 a3 a4 => lv_lstore C.1 C.2.1 d a4.has hn rfl fun ls' h' => k H lo ls' a1 a2 a3 (loc_st2 (v := vL x) a4 hE hn ho h')
theorem g_iinc (C : Cx Z) {i : Nat} {n : Int} {x v : Int32} (d : decode (xcc Z) pc = .ok (.iinc i n, 3)) (hl : L[i]? = some (some (vI x))) (hv : x + Int32.ofInt n = v) (hn : i < xnL Z) (ho : okS L i = true) (hE : xE Z = none ∨ i ≠ 0) (k : G Z Y (pc + 3) st (L.set i (some (vI v))) M) : G Z Y pc st L M := fun H lo ls a1 a2 a3 a4 => by
  obtain ⟨j, hj⟩ := List.getElem?_of_mem (lvE_b (E := xE Z) (lva_mem (b := xb Z) hl))
  exact lv_iinc C.1 C.2.1 d a4.has hj hv hn rfl fun ls' h' => k H lo ls' a1 a2 a3 (loc_st1 (v := vI v) a4 hE hn ho h')
theorem g_iadd (C : Cx Z) {x y : Int32} (d : decode (xcc Z) pc = .ok (.iadd, 1)) (k : G Z Y (pc + 1) (.int (x + y) :: st) L M) : G Z Y pc (.int y :: .int x :: st) L M := fun H lo ls a1 a2 a3 a4 => lv_iadd C.1 C.2.1 d (k H lo ls a1 a2 a3 a4)
theorem g_isub (C : Cx Z) {x y : Int32} (d : decode (xcc Z) pc = .ok (.isub, 1)) (k : G Z Y (pc + 1) (.int (x - y) :: st) L M) : G Z Y pc (.int y :: .int x :: st) L M := fun H lo ls a1 a2 a3 a4 => lv_isub C.1 C.2.1 d (k H lo ls a1 a2 a3 a4)
theorem g_imul (C : Cx Z) {x y : Int32} (d : decode (xcc Z) pc = .ok (.imul, 1)) (k : G Z Y (pc + 1) (.int (x * y) :: st) L M) : G Z Y pc (.int y :: .int x :: st) L M := fun H lo ls a1 a2 a3 a4 => lv_imul C.1 C.2.1 d (k H lo ls a1 a2 a3 a4)
theorem g_iand (C : Cx Z) {x y : Int32} (d : decode (xcc Z) pc = .ok (.iand, 1)) (k : G Z Y (pc + 1) (.int (x &&& y) :: st) L M) : G Z Y pc (.int y :: .int x :: st) L M := fun H lo ls a1 a2 a3 a4 => lv_iand C.1 C.2.1 d (k H lo ls a1 a2 a3 a4)
theorem g_ior (C : Cx Z) {x y : Int32} (d : decode (xcc Z) pc = .ok (.ior, 1)) (k : G Z Y (pc + 1) (.int (x ||| y) :: st) L M) : G Z Y pc (.int y :: .int x :: st) L M := fun H lo ls a1 a2 a3 a4 => lv_ior C.1 C.2.1 d (k H lo ls a1 a2 a3 a4)
theorem g_ixor (C : Cx Z) {x y : Int32} (d : decode (xcc Z) pc = .ok (.ixor, 1)) (k : G Z Y (pc + 1) (.int (x ^^^ y) :: st) L M) : G Z Y pc (.int y :: .int x :: st) L M := fun H lo ls a1 a2 a3 a4 => lv_ixor C.1 C.2.1 d (k H lo ls a1 a2 a3 a4)
theorem g_idiv (C : Cx Z) {x y : Int32} (d : decode (xcc Z) pc = .ok (.idiv, 1)) (hne : ¬ y = 0) (k : G Z Y (pc + 1) (.int (x / y) :: st) L M) : G Z Y pc (.int y :: .int x :: st) L M := fun H lo ls a1 a2 a3 a4 => lv_idiv C.1 C.2.1 d hne (k H lo ls a1 a2 a3 a4)
theorem g_irem (C : Cx Z) {x y : Int32} (d : decode (xcc Z) pc = .ok (.irem, 1)) (hne : ¬ y = 0) (k : G Z Y (pc + 1) (.int (x - x / y * y) :: st) L M) : G Z Y pc (.int y :: .int x :: st) L M := fun H lo ls a1 a2 a3 a4 => lv_irem C.1 C.2.1 d hne (k H lo ls a1 a2 a3 a4)
theorem g_ineg (C : Cx Z) {x : Int32} (d : decode (xcc Z) pc = .ok (.ineg, 1)) (k : G Z Y (pc + 1) (.int (-x) :: st) L M) : G Z Y pc (.int x :: st) L M := fun H lo ls a1 a2 a3 a4 => lv_ineg C.1 C.2.1 d (k H lo ls a1 a2 a3 a4)
theorem g_ishl (C : Cx Z) {x y : Int32} (d : decode (xcc Z) pc = .ok (.ishl, 1)) (k : G Z Y (pc + 1) (.int (x <<< (y &&& 31)) :: st) L M) : G Z Y pc (.int y :: .int x :: st) L M := fun H lo ls a1 a2 a3 a4 => lv_ishl C.1 C.2.1 d (k H lo ls a1 a2 a3 a4)
theorem g_ishr (C : Cx Z) {x y : Int32} (d : decode (xcc Z) pc = .ok (.ishr, 1)) (k : G Z Y (pc + 1) (.int (x >>> (y &&& 31)) :: st) L M) : G Z Y pc (.int y :: .int x :: st) L M := fun H lo ls a1 a2 a3 a4 => lv_ishr C.1 C.2.1 d (k H lo ls a1 a2 a3 a4)
theorem g_iushr (C : Cx Z) {x y : Int32} (d : decode (xcc Z) pc = .ok (.iushr, 1)) (k : G Z Y (pc + 1) (.int (x.toUInt32 >>> (y.toUInt32 &&& Int32.toUInt32 31)).toInt32 :: st) L M) : G Z Y pc (.int y :: .int x :: st) L M := fun H lo ls a1 a2 a3 a4 => lv_iushr C.1 C.2.1 d rfl (k H lo ls a1 a2 a3 a4)
theorem g_ladd (C : Cx Z) {x y : Int64} (d : decode (xcc Z) pc = .ok (.ladd, 1)) (k : G Z Y (pc + 1) (.long (x + y) :: st) L M) : G Z Y pc (.long y :: .long x :: st) L M := fun H lo ls a1 a2 a3 a4 => lv_ladd C.1 C.2.1 d (k H lo ls a1 a2 a3 a4)
theorem g_lsub (C : Cx Z) {x y : Int64} (d : decode (xcc Z) pc = .ok (.lsub, 1)) (k : G Z Y (pc + 1) (.long (x - y) :: st) L M) : G Z Y pc (.long y :: .long x :: st) L M := fun H lo ls a1 a2 a3 a4 => lv_lsub C.1 C.2.1 d (k H lo ls a1 a2 a3 a4)
theorem g_lmul (C : Cx Z) {x y : Int64} (d : decode (xcc Z) pc = .ok (.lmul, 1)) (k : G Z Y (pc + 1) (.long (x * y) :: st) L M) : G Z Y pc (.long y :: .long x :: st) L M := fun H lo ls a1 a2 a3 a4 => lv_lmul C.1 C.2.1 d (k H lo ls a1 a2 a3 a4)
theorem g_land (C : Cx Z) {x y : Int64} (d : decode (xcc Z) pc = .ok (.land, 1)) (k : G Z Y (pc + 1) (.long (x &&& y) :: st) L M) : G Z Y pc (.long y :: .long x :: st) L M := fun H lo ls a1 a2 a3 a4 => lv_land C.1 C.2.1 d (k H lo ls a1 a2 a3 a4)
theorem g_lor (C : Cx Z) {x y : Int64} (d : decode (xcc Z) pc = .ok (.lor, 1)) (k : G Z Y (pc + 1) (.long (x ||| y) :: st) L M) : G Z Y pc (.long y :: .long x :: st) L M := fun H lo ls a1 a2 a3 a4 => lv_lor C.1 C.2.1 d (k H lo ls a1 a2 a3 a4)
theorem g_ldiv (C : Cx Z) {x y : Int64} (d : decode (xcc Z) pc = .ok (.ldiv, 1)) (hne : ¬ y = 0) (k : G Z Y (pc + 1) (.long (x / y) :: st) L M) : G Z Y pc (.long y :: .long x :: st) L M := fun H lo ls a1 a2 a3 a4 => lv_ldiv C.1 C.2.1 d hne (k H lo ls a1 a2 a3 a4)
theorem g_lrem (C : Cx Z) {x y : Int64} (d : decode (xcc Z) pc = .ok (.lrem, 1)) (hne : ¬ y = 0) (k : G Z Y (pc + 1) (.long (x - x / y * y) :: st) L M) : G Z Y pc (.long y :: .long x :: st) L M := fun H lo ls a1 a2 a3 a4 => lv_lrem C.1 C.2.1 d hne (k H lo ls a1 a2 a3 a4)
theorem g_lshl (C : Cx Z) {x : Int64} {y : Int32} (d : decode (xcc Z) pc = .ok (.lshl, 1)) (k : G Z Y (pc + 1) (.long (x <<< (y.toInt64 &&& 63)) :: st) L M) : G Z Y pc (.int y :: .long x :: st) L M := fun H lo ls a1 a2 a3 a4 => lv_lshl C.1 C.2.1 d rfl (k H lo ls a1 a2 a3 a4)
theorem g_lshr (C : Cx Z) {x : Int64} {y : Int32} (d : decode (xcc Z) pc = .ok (.lshr, 1)) (k : G Z Y (pc + 1) (.long (x >>> (y.toInt64 &&& 63)) :: st) L M) : G Z Y pc (.int y :: .long x :: st) L M := fun H lo ls a1 a2 a3 a4 => lv_lshr C.1 C.2.1 d rfl (k H lo ls a1 a2 a3 a4)
theorem g_lcmp (C : Cx Z) {x y : Int64} (d : decode (xcc Z) pc = .ok (.lcmp, 1)) (k : G Z Y (pc + 1) (.int (lg_cmp x y) :: st) L M) : G Z Y pc (.long y :: .long x :: st) L M := fun H lo ls a1 a2 a3 a4 => W.lcmp C.1 C.2.1 d (k H lo ls a1 a2 a3 a4)
theorem g_i2l (C : Cx Z) {x : Int32} (d : decode (xcc Z) pc = .ok (.i2l, 1)) (k : G Z Y (pc + 1) (.long x.toInt64 :: st) L M) : G Z Y pc (.int x :: st) L M := fun H lo ls a1 a2 a3 a4 => lv_i2l C.1 C.2.1 d rfl (k H lo ls a1 a2 a3 a4)
theorem g_l2i (C : Cx Z) {x : Int64} (d : decode (xcc Z) pc = .ok (.l2i, 1)) (k : G Z Y (pc + 1) (.int x.toInt32 :: st) L M) : G Z Y pc (.long x :: st) L M := fun H lo ls a1 a2 a3 a4 => lv_l2i C.1 C.2.1 d rfl (k H lo ls a1 a2 a3 a4)
theorem g_i2b (C : Cx Z) {x : Int32} (d : decode (xcc Z) pc = .ok (.i2b, 1)) (k : G Z Y (pc + 1) (.int x.toInt8.toInt32 :: st) L M) : G Z Y pc (.int x :: st) L M := fun H lo ls a1 a2 a3 a4 => lv_i2b C.1 C.2.1 d rfl (k H lo ls a1 a2 a3 a4)
theorem g_dup (C : Cx Z) {x : Nat} (d : decode (xcc Z) pc = .ok (.dup, 1)) (k : G Z Y (pc + 1) (.ref x :: .ref x :: st) L M) : G Z Y pc (.ref x :: st) L M := fun H lo ls a1 a2 a3 a4 => lv_dup C.1 C.2.1 d rfl (k H lo ls a1 a2 a3 a4)
theorem g_dup2 (C : Cx Z) {x : Nat} {i : Int32} (d : decode (xcc Z) pc = .ok (.dup2, 1)) (k : G Z Y (pc + 1) (.int i :: .ref x :: .int i :: .ref x :: st) L M) : G Z Y pc (.int i :: .ref x :: st) L M := fun H lo ls a1 a2 a3 a4 => lv_dup2_11 C.1 C.2.1 d rfl rfl (k H lo ls a1 a2 a3 a4)
theorem g_pop (C : Cx Z) {i : Int32} (d : decode (xcc Z) pc = .ok (.pop, 1)) (k : G Z Y (pc + 1) st L M) : G Z Y pc (.int i :: st) L M := fun H lo ls a1 a2 a3 a4 => lv_pop C.1 C.2.1 d rfl (k H lo ls a1 a2 a3 a4)
theorem g_pop2 (C : Cx Z) {i : Int64} (d : decode (xcc Z) pc = .ok (.pop2, 1)) (k : G Z Y (pc + 1) st L M) : G Z Y pc (.long i :: st) L M := fun H lo ls a1 a2 a3 a4 => lv_pop2_2 C.1 C.2.1 d rfl (k H lo ls a1 a2 a3 a4)
theorem g_goto (C : Cx Z) {off : Int} {tgt : Nat} (d : decode (xcc Z) pc = .ok (.goto off, 3)) (ht : (pc : Int) + off = (tgt : Int)) (k : G Z Y tgt st L M) : G Z Y pc st L M := fun H lo ls a1 a2 a3 a4 => lv_goto C.1 C.2.1 d ht (k H lo ls a1 a2 a3 a4)
/-! branches -/
def crel (op : Jvm.ClassFile.Cond) (x y : Int32) : Bool := match op with
  | .eq => decide (x = y)
  | .ne => decide (¬ x = y)
  | .lt => decide (x < y)
  | .ge => decide (y ≤ x)
  | .gt => decide (y < x)
  | .le => decide (x ≤ y)
def cneg (op : Jvm.ClassFile.Cond) : Jvm.ClassFile.Cond := match op with
  | .eq => .ne
  | .ne => .eq
  | .lt => .ge
  | .ge => .lt
  | .gt => .le
  | .le => .gt
theorem crel_neg (op : Jvm.ClassFile.Cond) (x y : Int32) : crel (cneg op) x y = !crel op x y := by
  have h : ∀ a b : Int32, (a < b) ↔ ¬ b ≤ a := fun a b => by
    rw [Int32.lt_iff_toInt_lt, Int32.le_iff_toInt_le]
    omega
  cases op
  · simp [crel, cneg]
  · simp [crel, cneg]
  · simp only [crel, cneg, h x y, decide_not, Bool.not_not]
  · simp only [crel, cneg, h x y, decide_not]
  · simp only [crel, cneg, h y x, decide_not, Bool.not_not]
  · simp only [crel, cneg, h y x, decide_not]
theorem g_icmp (C : Cx Z) {op : Jvm.ClassFile.Cond} {x y : Int32} {off : Int} {tgt : Nat} (d : decode (xcc Z) pc = .ok (.if_icmp op off, 3)) (ht : (pc : Int) + off = (tgt : Int)) (kt : crel op x y = true → G Z Y tgt st L M) (kf : crel op x y = false → G Z Y (pc + 3) st L M) : G Z Y pc (.int y :: .int x :: st) L M := fun H lo ls a1 a2 a3 a4 => by
  cases op
  · exact lv_icmp_eq C.1 C.2.1 d ht (fun h => kt (by simp [crel, h]) H lo ls a1 a2 a3 a4) (fun h => kf (by simp [crel, h]) H lo ls a1 a2 a3 a4)
  · exact lv_icmp_ne C.1 C.2.1 d ht (fun h => kt (by simp [crel, h]) H lo ls a1 a2 a3 a4) (fun h => kf (by simp [crel, h]) H lo ls a1 a2 a3 a4)
  · exact lv_icmp_lt C.1 C.2.1 d ht (fun h => kt (by unfold crel; exact decide_eq_true h) H lo ls a1 a2 a3 a4) (fun h => kf (by unfold crel; exact decide_eq_false h) H lo ls a1 a2 a3 a4)
  · exact lv_icmp_ge C.1 C.2.1 d ht (fun h => kt (by unfold crel; exact decide_eq_true h) H lo ls a1 a2 a3 a4) (fun h => kf (by unfold crel; exact decide_eq_false h) H lo ls a1 a2 a3 a4)
  · exact lv_icmp_gt C.1 C.2.1 d ht (fun h => kt (by unfold crel; exact decide_eq_true h) H lo ls a1 a2 a3 a4) (fun h => kf (by unfold crel; exact decide_eq_false h) H lo ls a1 a2 a3 a4)
  · exact lv_icmp_le C.1 C.2.1 d ht (fun h => kt (by unfold crel; exact decide_eq_true h) H lo ls a1 a2 a3 a4) (fun h => kf (by unfold crel; exact decide_eq_false h) H lo ls a1 a2 a3 a4)
theorem g_if (C : Cx Z) {op : Jvm.ClassFile.Cond} {x : Int32} {off : Int} {tgt : Nat} (d : decode (xcc Z) pc = .ok (.ifCond op off, 3)) (ht : (pc : Int) + off = (tgt : Int)) (kt : crel op x 0 = true → G Z Y tgt st L M) (kf : crel op x 0 = false → G Z Y (pc + 3) st L M) : G Z Y pc (.int x :: st) L M := fun H lo ls a1 a2 a3 a4 => by
  cases op
  · exact lv_if_eq C.1 C.2.1 d ht (fun h => kt (by simp [crel, h]) H lo ls a1 a2 a3 a4) (fun h => kf (by simp [crel, h]) H lo ls a1 a2 a3 a4)
  · exact lv_if_ne C.1 C.2.1 d ht (fun h => kt (by simp [crel, h]) H lo ls a1 a2 a3 a4) (fun h => kf (by simp [crel, h]) H lo ls a1 a2 a3 a4)
  · exact lv_if_lt C.1 C.2.1 d ht (fun h => kt (by unfold crel; exact decide_eq_true h) H lo ls a1 a2 a3 a4) (fun h => kf (by unfold crel; exact decide_eq_false h) H lo ls a1 a2 a3 a4)
  · exact lv_if_ge C.1 C.2.1 d ht (fun h => kt (by unfold crel; exact decide_eq_true h) H lo ls a1 a2 a3 a4) (fun h => kf (by unfold crel; exact decide_eq_false h) H lo ls a1 a2 a3 a4)
  · exact lv_if_gt C.1 C.2.1 d ht (fun h => kt (by unfold crel; exact decide_eq_true h) H lo ls a1 a2 a3 a4) (fun h => kf (by unfold crel; exact decide_eq_false h) H lo ls a1 a2 a3 a4)
  · exact lv_if_le C.1 C.2.1 d ht (fun h => kt (by unfold crel; exact decide_eq_true h) H lo ls a1 a2 a3 a4) (fun h => kf (by unfold crel; exact decide_eq_false h) H lo ls a1 a2 a3 a4)
def swT (pc : Nat) (dflt lo hi : Int) (offs : Array Int) (x : Int32) : Int := if x.toInt < lo ∨ hi < x.toInt then (pc : Int) + dflt else (pc : Int) + (offs[(x.toInt - lo).toNat]?).getD 0
theorem g_table (C : Cx Z) {dflt lo hi : Int} {offs : Array Int} {len tgt : Nat} {x : Int32} (d : decode (xcc Z) pc = .ok (.tableswitch dflt lo hi offs, len)) (hs : (offs.size : Int) = hi - lo + 1) (ht : swT pc dflt lo hi offs x = (tgt : Int)) (kk : G Z Y tgt st L M) : G Z Y pc (.int x :: st) L M := fun H lo2 ls a1 a2 a3 a4 => by
  unfold swT at ht
  by_cases h : x.toInt < lo ∨ hi < x.toInt
  · rw [if_pos h] at ht
    exact lv_tableOut C.1 C.2.1 d h ht (kk H lo2 ls a1 a2 a3 a4)
  · rw [if_neg h] at ht
    have h1 : ¬ x.toInt < lo := fun q => h (Or.inl q)
    have h2 : ¬ hi < x.toInt := fun q => h (Or.inr q)
    have h3 : (x.toInt - lo).toNat < offs.size := by omega
    have h4 : offs[(x.toInt - lo).toNat]? = some offs[(x.toInt - lo).toNat] := Array.getElem?_eq_getElem h3
    rw [h4, Option.getD_some] at ht
    exact lv_tableIn C.1 C.2.1 d h1 h2 h4 ht (kk H lo2 ls a1 a2 a3 a4)
theorem g_lookup (C : Cx Z) {dflt : Int} {ps : Array (Int × Int)} {len tgt : Nat} {x : Int32} (d : decode (xcc Z) pc = .ok (.lookupswitch dflt ps, len)) (hp : (ps.toList.zip (ps.toList.drop 1)).all (fun (a, next) => a.1 < next.1) = true) (ht : (pc : Int) + Op.lookupswitch.offset ps.toList dflt x.toInt = (tgt : Int)) (kk : G Z Y tgt st L M) : G Z Y pc (.int x :: st) L M := fun H lo2 ls a1 a2 a3 a4 => lv_lookup C.1 C.2.1 d hp rfl ht (kk H lo2 ls a1 a2 a3 a4)
/-! fields and rows -/
def clOK (ci : Nat) (Cn : String) (T : u_T) (N : Nat) : Prop := vwCl[ci]? = some (Cn, T, N) ∧ ncl ci = N ∧ (∀ w ∈ u_ws Cn T N, w ∈ lw_g) ∧ (∀ k, k < N → parseFieldDescriptor (T k).2.2.1 = some (tcl ci k)) ∧ ∀ a, a < N → ∀ b, b < N → a ≠ b → (T a).2.1 ≠ (T b).2.1
theorem g_getI (C : Cx Z) {ci N k j index : Nat} {Cn : String} {T : u_T} (K : clOK ci Cn T N) (hY : Y[k]? = some (.inl ci)) (hj : j < N) (hw : Cond.fieldLink (xown Z) index (T j).1 (T j).2.1 (T j).2.2.1 ∈ lw_g) (hty : isIty (tcl ci j) = true) (d : decode (xcc Z) pc = .ok (.getfield index, 3)) (kk : G Z Y (pc + 3) (.int (mI M k j) :: st) L M) : G Z Y pc (.ref (xb Z + k) :: st) L M := fun H lo ls a1 a2 a3 a4 =>
  va_get C.1 C.2.1 C.2.2.2.1 K.2.2.1 C.2.2.1 C.2.2.2.2.1 a2 k (wld_get hY) K.1 j hj (C.2.2.2.1 _ hw) (fun _ h => h) (by rw [wfs_get _ _ _ _ (by rw [K.2.1]; exact hj), wfld_int hty]) d (kk H lo ls a1 a2 a3 a4)
theorem g_getR (C : Cx Z) {ci N k j index t : Nat} {Cn : String} {T : u_T} (K : clOK ci Cn T N) (hY : Y[k]? = some (.inl ci)) (hj : j < N) (hw : Cond.fieldLink (xown Z) index (T j).1 (T j).2.1 (T j).2.2.1 ∈ lw_g) (hty : isRty (tcl ci j) = true) (ht : mR M k j = some t) (d : decode (xcc Z) pc = .ok (.getfield index, 3)) (kk : G Z Y (pc + 3) (.ref (xb Z + t) :: st) L M) : G Z Y pc (.ref (xb Z + k) :: st) L M := fun H lo ls a1 a2 a3 a4 =>
  va_get C.1 C.2.1 C.2.2.2.1 K.2.2.1 C.2.2.1 C.2.2.2.2.1 a2 k (wld_get hY) K.1 j hj (C.2.2.2.1 _ hw) (fun _ h => h) (by rw [wfs_get _ _ _ _ (by rw [K.2.1]; exact hj), wfld_ref hty, ht]; rfl) d (kk H lo ls a1 a2 a3 a4)
theorem g_put0 (C : Cx Z) {ci N k j index : Nat} {Cn : String} {T : u_T} {v : Value} {M' : Mem} (K : clOK ci Cn T N) (hY : Y[k]? = some (.inl ci)) (hj : j < N) (hw : Cond.fieldLink (xown Z) index (T j).1 (T j).2.1 (T j).2.2.1 ∈ lw_g) (hfin : (T j).2.2.2 = false) (hn : narrow (tcl ci j) v = v) (hfit : fits (tcl ci j) v = true) (hM : offK M M' k) (hv : wfld (xb Z) M' k j (tcl ci j) = v) (ho : ∀ j', j' ≠ j → mI M' k j' = mI M k j' ∧ mR M' k j' = mR M k j') (d : decode (xcc Z) pc = .ok (.putfield index, 3)) (kk : G Z Y (pc + 3) st L M') : G Z Y pc (v :: .ref (xb Z + k) :: st) L M := fun H lo ls a1 a2 a3 a4 => by
  have he := wld_get (b := xb Z) (cA := xA Z) (M := M) hY
  have hl : j < (wfs (xb Z) M k ci).length := by rw [wfs_len, K.2.1]; exact hj
  have hap := va_apart (own := xown Z) C.2.2.2.1 K.2.2.1 (tcl ci) K.2.2.2.1 K.2.2.2.2 C.2.2.2.2.1 K.1
  obtain ⟨r, h1, cell, q1, q2, q3, q4⟩ := a2 k _ he
  have hr : r = (Cn, T, N) := Option.some.inj (h1.symm.trans K.1)
  subst hr
  obtain ⟨hS, hfc, kC, hkC, hkind⟩ := C.2.2.2.2.1.1 ci _ K.1
  obtain ⟨cf, kf, fi, f, hi, hsl⟩ := hS j hj
  have hlay := C.2.2.2.1 _ (K.2.2.1 _ (u_in_lay hj))
  unfold u_lay at hlay
  rw [if_neg (by rw [hfin]; decide)] at hlay
  have hst := (u_facts hfc hkC (u_lays C.2.2.2.1 K.2.2.1 hj) hi).1
  have h6 := u_store hfc hkC hkind hlay hi (K.2.2.2.1 j hj) hn hfit
  refine W.putK C.1 C.2.1 (f := f) ⟨C.2.2.1, C.2.2.2.1 _ hw, ⟨_, _, _, hi⟩, hst⟩ (by rw [q2]; exact h6) q1 q3 (by rw [hsl]; exact k2_hasslot (q4 j hj)) rfl rfl d fun H' e1 e2 e3 => ?_
  rw [hsl] at e1 ⊢
  have hp := a2.set (e := .inr (ci, (wfs (xb Z) M k ci).set j v)) wld_D he ⟨_, K.1, t_OB.to (V := updV (vp_V (wfs (xb Z) M k ci)) j v) ⟨_, e1, q2, q3, t_set q4 hap hj v⟩ (fun j _ => vp_updV_set hl v j)⟩ e3
  have hp2 : va_P (xD Z) vwCl (wld (xb Z) (xA Z) Y M') H' := by
    rw [← wld_set (M := M) (M' := M') (b := xb Z) (cA := xA Z) (e := .inr (ci, (wfs (xb Z) M k ci).set j v)) hY (by rw [wfs_set hv ho]; rfl) (went_off hM)]
    exact hp
  exact kk H' _ ls (e2.trans a1) hp2 (a3.put e2 e3 (Nat.le_add_right _ _)) a4
theorem g_putI (C : Cx Z) {ci N k j index : Nat} {Cn : String} {T : u_T} {x : Int32} (K : clOK ci Cn T N) (hY : Y[k]? = some (.inl ci)) (hj : j < N) (hw : Cond.fieldLink (xown Z) index (T j).1 (T j).2.1 (T j).2.2.1 ∈ lw_g) (hfin : (T j).2.2.2 = false) (hty : isIty (tcl ci j) = true) (hx : narrow (tcl ci j) (.int x) = .int x ∧ fits (tcl ci j) (.int x) = true) (d : decode (xcc Z) pc = .ok (.putfield index, 3)) (kk : G Z Y (pc + 3) st L (sI M k j x)) : G Z Y pc (.int x :: .ref (xb Z + k) :: st) L M :=
  g_put0 C K hY hj hw hfin hx.1 hx.2 (off_sI M k j x) (by rw [wfld_int hty, mI_sI, if_pos ⟨rfl, rfl⟩]) (fun j' h => ⟨by rw [mI_sI, if_neg (fun q => h q.2)], rfl⟩) d kk
theorem g_putR (C : Cx Z) {ci N k j index t : Nat} {Cn : String} {T : u_T} (K : clOK ci Cn T N) (hY : Y[k]? = some (.inl ci)) (hj : j < N) (hw : Cond.fieldLink (xown Z) index (T j).1 (T j).2.1 (T j).2.2.1 ∈ lw_g) (hfin : (T j).2.2.2 = false) (hty : isRty (tcl ci j) = true) (d : decode (xcc Z) pc = .ok (.putfield index, 3)) (kk : G Z Y (pc + 3) st L (sR M k j (some t))) : G Z Y pc (.ref (xb Z + t) :: .ref (xb Z + k) :: st) L M :=
  g_put0 C K hY hj hw hfin (by cases h : tcl ci j <;> rw [h] at hty <;> first | rfl | (simp [isRty] at hty)) (by cases h : tcl ci j <;> rw [h] at hty <;> first | rfl | (simp [isRty] at hty)) (off_sR M k j (some t)) (by rw [wfld_ref hty, mR_sR, if_pos ⟨rfl, rfl⟩]; rfl) (fun j' h => ⟨rfl, by rw [mR_sR, if_neg (fun q => h q.2)]⟩) d kk
theorem g_iald (C : Cx Z) {k n : Nat} {i : Int32} (hY : Y[k]? = some (.inr (.int, n))) (hi : vp_in i n) (d : decode (xcc Z) pc = .ok (.iaload, 1)) (kk : G Z Y (pc + 1) (.int (mI M k i.toNatClampNeg) :: st) L M) : G Z Y pc (.int i :: .ref (xb Z + k) :: st) L M := fun H lo ls a1 a2 a3 a4 =>
  va_iald C.1 C.2.1 C.2.2.2.2.1 a2 k 0 (wld_get hY) rfl hi d (kk H lo ls a1 a2 a3 a4)
theorem g_bald (C : Cx Z) {k n : Nat} {i : Int32} (hY : Y[k]? = some (.inr (.byte, n))) (hi : vp_in i n) (d : decode (xcc Z) pc = .ok (.baload, 1)) (kk : G Z Y (pc + 1) (.int (mI M k i.toNatClampNeg) :: st) L M) : G Z Y pc (.int i :: .ref (xb Z + k) :: st) L M := fun H lo ls a1 a2 a3 a4 =>
  va_bald C.1 C.2.1 C.2.2.2.2.1 a2 k 2 (wld_get hY) rfl hi d (kk H lo ls a1 a2 a3 a4)
theorem g_zald (C : Cx Z) {k n : Nat} {i : Int32} (hY : Y[k]? = some (.inr (.boolean, n))) (hi : vp_in i n) (d : decode (xcc Z) pc = .ok (.baload, 1)) (kk : G Z Y (pc + 1) (.int (mI M k i.toNatClampNeg) :: st) L M) : G Z Y pc (.int i :: .ref (xb Z + k) :: st) L M := fun H lo ls a1 a2 a3 a4 =>
  va_zald C.1 C.2.1 C.2.2.2.2.1 a2 k 3 (wld_get hY) rfl hi d (kk H lo ls a1 a2 a3 a4)
theorem g_lald (C : Cx Z) {k n : Nat} {i : Int32} (hY : Y[k]? = some (.inr (.long, n))) (hi : vp_in i n) (d : decode (xcc Z) pc = .ok (.laload, 1)) (kk : G Z Y (pc + 1) (.long (mL M k i.toNatClampNeg) :: st) L M) : G Z Y pc (.int i :: .ref (xb Z + k) :: st) L M := fun H lo ls a1 a2 a3 a4 =>
  va_lald C.1 C.2.1 C.2.2.2.2.1 a2 k 1 (wld_get hY) rfl hi d (kk H lo ls a1 a2 a3 a4)
theorem g_aald (C : Cx Z) {k n t : Nat} {i : Int32} (hY : Y[k]? = some (.inr (.array .int, n))) (hi : vp_in i n) (ht : mR M k i.toNatClampNeg = some t) (d : decode (xcc Z) pc = .ok (.aaload, 1)) (kk : G Z Y (pc + 1) (.ref (xb Z + t) :: st) L M) : G Z Y pc (.int i :: .ref (xb Z + k) :: st) L M := fun H lo ls a1 a2 a3 a4 => by
  have ha := wld_get (b := xb Z) (cA := xA Z) (M := M) hY
  have hlt : i.toNatClampNeg < n := Nat.not_le.mp fun q => hi (Or.inr q)
  have h1 := a2 k _ ha
  exact W.aald (v := .ref (xb Z + t)) (ty := .array .int) C.1 C.2.1 h1 ((C.2.2.2.2.1.2 4 _ rfl).1 n (fun j => va_rf ((mR M k j).map (xb Z + ·)))) rfl (fun q => by cases q) (by show ¬ (i < 0 ∨ (arrV _ _ _).slots.size ≤ _); rw [arrV_size]; exact hi) (by show (arrV _ _ _).slots[_]? = _; rw [arrV_read _ _ hlt]; show some (va_rf ((mR M k i.toNatClampNeg).map (xb Z + ·))) = _; rw [ht]; rfl) rfl rfl d (kk H lo ls a1 a2 a3 a4)
theorem g_st0 {k : Nat} {M' : Mem} {sh : Sh} {H H1 : Heap} {lo : List Loc} {ls : Array Slot} {idx : Nat} (hY : Y[k]? = some sh) (hM : offK M M' k) (a1 : H.size = xb Z + Y.length) (a2 : va_P (xD Z) vwCl (wld (xb Z) (xA Z) Y M) H) (a3 : va_S (fun q => xb Z ≤ q) (xs Z).heap H lo) (a4 : LocOK (xE Z) (xb Z) (xnL Z) ls L) (he : va_at (xD Z) vwCl (xb Z + k, went (xb Z) (xA Z) M' k sh) H1) (z : H1.size = H.size) (oq : ∀ q : Nat, q ≠ xb Z + k → H1[q]? = H[q]?) (kk : G Z Y pc st L M') : W (xp Z) (xl Z) (xe Z) (xR Z) (xs Z) (xm Z) (xargs Z) (xbelow Z) (xmeth Z) (xc Z) H1 (lo ++ [⟨xb Z + k, idx⟩]) (Y.length - xy0 Z) (szs Y - xs0 Z) (xQ Z) (F0 (xm Z) pc ls st) := by
  have hp := a2.set wld_D (wld_get hY) he oq
  rw [wld_set (M' := M') hY rfl (went_off hM)] at hp
  exact kk H1 _ ls (z.trans a1) hp (a3.put z oq (Nat.le_add_right _ _)) a4
theorem g_iast (C : Cx Z) {k n : Nat} {i x : Int32} (hY : Y[k]? = some (.inr (.int, n))) (hi : vp_in i n) (d : decode (xcc Z) pc = .ok (.iastore, 1)) (kk : G Z Y (pc + 1) st L (sI M k i.toNatClampNeg x)) : G Z Y pc (.int x :: .int i :: .ref (xb Z + k) :: st) L M := fun H lo ls a1 a2 a3 a4 => by
  refine W.iast C.1 C.2.1 (a2 k _ (wld_get hY)) ((C.2.2.2.2.1.2 0 _ rfl).1 n (fun j => .int (mI M k j))) (fun q => by cases q) (by show ¬ (i < 0 ∨ (arrV _ _ _).slots.size ≤ _); rw [arrV_size]; exact hi) rfl rfl d fun H1 e z oq => ?_
  refine g_st0 hY (off_sI M k i.toNatClampNeg x) a1 a2 a3 a4 ?_ z oq kk
  show H1[xb Z + k]? = some (vp_cell _ _)
  rw [e]
  show some ((arrV (xA Z .int) n (fun j => .int (mI M k j))).setSlot _ _) = some (arrV (xA Z .int) n (fun j => .int (mI (sI M k i.toNatClampNeg x) k j)))
  rw [mI_upd, arrV_store]
  congr 2
  funext q
  by_cases hq : q = i.toNatClampNeg
  · subst hq
    simp [updV, upd]
  · simp [updV, upd, hq]
theorem g_bast (C : Cx Z) {k n : Nat} {i x : Int32} (hY : Y[k]? = some (.inr (.byte, n))) (hi : vp_in i n) (d : decode (xcc Z) pc = .ok (.bastore, 1)) (kk : G Z Y (pc + 1) st L (sI M k i.toNatClampNeg (vp_nar .byte x))) : G Z Y pc (.int x :: .int i :: .ref (xb Z + k) :: st) L M := fun H lo ls a1 a2 a3 a4 => by
  refine W.bast C.1 C.2.1 (a2 k _ (wld_get hY)) ((C.2.2.2.2.1.2 2 _ rfl).1 n (fun j => .int (mI M k j))) (fun q => by cases q) (by show ¬ (i < 0 ∨ (arrV _ _ _).slots.size ≤ _); rw [arrV_size]; exact hi) rfl rfl d fun H1 e z oq => ?_
  refine g_st0 hY (off_sI M k i.toNatClampNeg (vp_nar .byte x)) a1 a2 a3 a4 ?_ z oq kk
  show H1[xb Z + k]? = some (vp_cell _ _)
  rw [e]
  show some ((arrV (xA Z .byte) n (fun j => .int (mI M k j))).setSlot _ _) = some (arrV (xA Z .byte) n (fun j => .int (mI (sI M k i.toNatClampNeg (vp_nar .byte x)) k j)))
  rw [mI_upd, arrV_store]
  congr 2
  funext q
  by_cases hq : q = i.toNatClampNeg
  · subst hq
    simp [updV, upd, vp_nar]
    try rfl
  · simp [updV, upd, hq]
theorem g_zast (C : Cx Z) {k n : Nat} {i x : Int32} (hY : Y[k]? = some (.inr (.boolean, n))) (hi : vp_in i n) (d : decode (xcc Z) pc = .ok (.bastore, 1)) (kk : G Z Y (pc + 1) st L (sI M k i.toNatClampNeg (vp_nar .boolean x))) : G Z Y pc (.int x :: .int i :: .ref (xb Z + k) :: st) L M := fun H lo ls a1 a2 a3 a4 => by
  refine W.zast C.1 C.2.1 (a2 k _ (wld_get hY)) ((C.2.2.2.2.1.2 3 _ rfl).1 n (fun j => .int (mI M k j))) (fun q => by cases q) (by show ¬ (i < 0 ∨ (arrV _ _ _).slots.size ≤ _); rw [arrV_size]; exact hi) rfl rfl d fun H1 e z oq => ?_
  refine g_st0 hY (off_sI M k i.toNatClampNeg (vp_nar .boolean x)) a1 a2 a3 a4 ?_ z oq kk
  show H1[xb Z + k]? = some (vp_cell _ _)
  rw [e]
  show some ((arrV (xA Z .boolean) n (fun j => .int (mI M k j))).setSlot _ _) = some (arrV (xA Z .boolean) n (fun j => .int (mI (sI M k i.toNatClampNeg (vp_nar .boolean x)) k j)))
  rw [mI_upd, arrV_store]
  congr 2
  funext q
  by_cases hq : q = i.toNatClampNeg
  · subst hq
    simp [updV, upd, vp_nar]
    try rfl
  · simp [updV, upd, hq]
theorem g_last (C : Cx Z) {k n : Nat} {i : Int32} {x : Int64} (hY : Y[k]? = some (.inr (.long, n))) (hi : vp_in i n) (d : decode (xcc Z) pc = .ok (.lastore, 1)) (kk : G Z Y (pc + 1) st L (sL M k i.toNatClampNeg x)) : G Z Y pc (.long x :: .int i :: .ref (xb Z + k) :: st) L M := fun H lo ls a1 a2 a3 a4 => by
  refine W.last C.1 C.2.1 (a2 k _ (wld_get hY)) ((C.2.2.2.2.1.2 1 _ rfl).1 n (fun j => .long (mL M k j))) (fun q => by cases q) (by show ¬ (i < 0 ∨ (arrV _ _ _).slots.size ≤ _); rw [arrV_size]; exact hi) rfl rfl d fun H1 e z oq => ?_
  refine g_st0 hY (off_sL M k i.toNatClampNeg x) a1 a2 a3 a4 ?_ z oq kk
  show H1[xb Z + k]? = some (vp_cell _ _)
  rw [e]
  show some ((arrV (xA Z .long) n (fun j => .long (mL M k j))).setSlot _ _) = some (arrV (xA Z .long) n (fun j => .long (mL (sL M k i.toNatClampNeg x) k j)))
  rw [mL_upd, arrV_store]
  congr 2
  funext q
  by_cases hq : q = i.toNatClampNeg
  · subst hq
    simp [updV, vp_updL]
  · simp [updV, vp_updL, hq]
/-! the static rows: getstatic, an index, iaload -/
theorem g_stX (C : Cx Z) {index : Nat} (hw : Cond.fieldLinkNest (xown Z) index "GhostQuarter" "STEP_X" "[I" "GhostQuarter" ∈ lw_n) (d : decode (xcc Z) pc = .ok (.getstatic index, 3)) (kk : ∀ t : Nat, va_T .int t 5 stX (fun q => xb Z ≤ q) (xs Z) (xs Z).heap → G Z Y (pc + 3) (.ref t :: st) L M) : G Z Y pc st L M := fun H lo ls a1 a2 a3 a4 => by
  obtain ⟨h1, ⟨t1, c1, c2⟩, -⟩ := C.2.2.2.2.2.1
  exact va_getsN C.1 C.2.1 c1 a3 C.2.2.1 (va_Nw.use rfl (h1 _ hw)) (fun _ h => h) d (kk t1 c2 H lo ls a1 a2 a3 a4)
theorem g_stY (C : Cx Z) {index : Nat} (hw : Cond.fieldLinkNest (xown Z) index "GhostQuarter" "STEP_Y" "[I" "GhostQuarter" ∈ lw_n) (d : decode (xcc Z) pc = .ok (.getstatic index, 3)) (kk : ∀ t : Nat, va_T .int t 5 stY (fun q => xb Z ≤ q) (xs Z) (xs Z).heap → G Z Y (pc + 3) (.ref t :: st) L M) : G Z Y pc st L M := fun H lo ls a1 a2 a3 a4 => by
  obtain ⟨h1, -, ⟨t1, c1, c2⟩, -⟩ := C.2.2.2.2.2.1
  exact va_getsN C.1 C.2.1 c1 a3 C.2.2.1 (va_Nw.use rfl (h1 _ hw)) (fun _ h => h) d (kk t1 c2 H lo ls a1 a2 a3 a4)
theorem g_sti (C : Cx Z) {t : Nat} {f : Nat → Value} {i v : Int32} (hT : va_T .int t 5 f (fun q => xb Z ≤ q) (xs Z) (xs Z).heap) (hi : vp_in i 5) (hv : f i.toNatClampNeg = .int v) (d : decode (xcc Z) pc = .ok (.iaload, 1)) (kk : G Z Y (pc + 1) (.int v :: st) L M) : G Z Y pc (.int i :: .ref t :: st) L M := fun H lo ls a1 a2 a3 a4 =>
  va_ti C.1 C.2.1 hT a3 hi hv d (kk H lo ls a1 a2 a3 a4)
end RULES
end
section
/-! PART 04: what a method's run ends with; calls, returns; new cells -/
def catW (st : List Value) : Nat := (st.map fun v => v.category).sum
def rmD (d mc ms : Nat) : Room := { frames := d, cells := mc, slots := ms, locals := 32 * d }
def QC (ret : Option FieldType) (b : Nat) (D : va_G) (cA : FieldType → ClassId) (r : LV) (Y : List Sh) (M : Mem) : Array Value → State → Outcome → State → Prop := match ret with
  | none => va_Qv (fun _ : Unit => True) (fun _ t => WdP b D cA Y M t) (fun q => b ≤ q)
  | some .long => va_Ql (fun (x : Int64) (_ : Unit) => vL x = r) (fun _ t => WdP b D cA Y M t) (fun q => b ≤ q)
  | some _ => va_Qi (fun (x : Int32) (_ : Unit) => vI x = r) (fun _ t => WdP b D cA Y M t) (fun q => b ≤ q)
def wsM (y : MethodName) (bytes : ByteArray) (n : Nat) (ret : Option FieldType) : List Cond := .code y bytes n ret :: lw_g
/-- a run of method y at depth d of calls: from arguments as and cells Y holding M, to the answer r and cells Y1 holding M1 -/
def Snd (y : MethodName) (bytes : ByteArray) (n : Nat) (ret : Option FieldType) (d : Nat) (as : List LV) (Y : List Sh) (M : Mem) (r : LV) (Y1 : List Sh) (M1 : Mem) : Prop :=
  ∀ (l : Launch) (b : Nat) (D : va_G) (cA : FieldType → ClassId),
    Met l y (wsM y bytes n ret) (rmD d (Y1.length - Y.length) (szs Y1 - szs Y)) (va_Pc (as.map (cv b)) (Wd b D cA Y M)) (QC ret b D cA r Y1 M1) (Y1.length - Y.length) (szs Y1 - szs Y) (fun q => b ≤ q)
theorem goodIn_g {c : Cond} (hc : c ∈ lw_g) : GoodIn lw_g (c :: lw_g) := fun w h => by
  have hm : w ∈ lw_g := by
    rcases List.mem_cons.mp h with h | h
    · rw [h]; exact hc
    · exact h
  exact ⟨hm, good_of_word (List.mem_filter.mp hm).2⟩
theorem blind_Wd {vs : List Value} {b : Nat} {D : va_G} {cA : FieldType → ClassId} {Y : List Sh} {M : Mem} : FrameBlind (va_Pc vs (Wd b D cA Y M)) := fun _ _ _ _ h => ⟨h.1, h.2.calling⟩
/-- the room that a run from Y to Y1 needs of its caller -/
def Fit (Z : Px) (Y Y1 : List Sh) : Prop := xy0 Z ≤ Y.length ∧ Y.length ≤ Y1.length ∧ xs0 Z ≤ szs Y ∧ szs Y ≤ szs Y1 ∧ Y1.length - xy0 Z ≤ (xR Z).cells ∧ szs Y1 - xs0 Z ≤ (xR Z).slots
theorem Fit.here {Z : Px} {Y Y1 : List Sh} (F : Fit Z Y Y1) : (Y.length - xy0 Z) + (Y1.length - Y.length) ≤ (xR Z).cells ∧ (szs Y - xs0 Z) + (szs Y1 - szs Y) ≤ (xR Z).slots := by
  obtain ⟨h1, h2, h3, h4, h5, h6⟩ := F
  constructor <;> omega
theorem Fit.c {Z : Px} {Y Y1 : List Sh} (F : Fit Z Y Y1) : (Y.length - xy0 Z) + (Y1.length - Y.length) = Y1.length - xy0 Z := by
  obtain ⟨h1, h2, h3, h4, h5, h6⟩ := F
  omega
theorem Fit.s {Z : Px} {Y Y1 : List Sh} (F : Fit Z Y Y1) : (szs Y - xs0 Z) + (szs Y1 - szs Y) = szs Y1 - xs0 Z := by
  obtain ⟨h1, h2, h3, h4, h5, h6⟩ := F
  omega
/-- a callee as its caller has it at hand -/
def Cal (Z : Px) (y : MethodName) (bytes : ByteArray) (n : Nat) (ret : Option FieldType) (d np : Nat) : Prop :=
  Cond.code y bytes n ret ∈ lw_g ∧ Cond.initialized y.cls ∈ lw_g ∧ (y.cls ≠ "java/lang/invoke/MethodHandle" ∧ y.cls ≠ "java/lang/invoke/VarHandle" ∧ (parseMethodDescriptor y.desc).map (fun d => d.parameters.length) = some np) ∧ d + 1 ≤ xd Z ∧ n ≤ 13
section CALLS
variable {Z : Px} {pc : Nat} {st : List Value} {L : LS0} {M M1 : Mem} {Y Y1 : List Sh} {y : MethodName} {bytes : ByteArray} {n d index : Nat} {ret : Option FieldType} {r : LV}
theorem cal_B (C : Cx Z) {np mc ms : Nat} (K : Cal Z y bytes n ret d np) (hl : Cond.methodLink (xown Z) index y ∈ lw_g) : CallB (xR Z) (xs Z) (xargs Z) (xown Z) index y bytes n ret (wsM y bytes n ret) (rmD d mc ms) mc ms np := by
  obtain ⟨k1, k2, k3, k4, k5⟩ := K
  obtain ⟨-, -, -, c4, -, -, -, c8, c9, -⟩ := C
  exact callB_of np c4 (goodIn_g k1) rfl rfl rfl (c4 _ k2) (c4 _ hl) k3 ⟨Nat.le_trans k4 c8, Nat.le_trans (by show 8 + (n + 11) + 32 * d ≤ 32 * xd Z; omega) c9⟩
theorem cal_N (C : Cx Z) {np mc ms : Nat} {host : String} (K : Cal Z y bytes n ret d np) (hl : Cond.methodLinkNest (xown Z) index y host ∈ lw_n) : va_CN (xR Z) (xs Z) (xargs Z) (xown Z) index y host bytes n ret (wsM y bytes n ret) (rmD d mc ms) mc ms np := by
  obtain ⟨k1, k2, k3, k4, k5⟩ := K
  obtain ⟨-, -, -, c4, -, c6, -, c8, c9, -⟩ := C
  exact va_cnB np c4 (goodIn_g k1) rfl rfl rfl (c6.1 _ hl) (c4 _ k2) k3 ⟨Nat.le_trans k4 c8, Nat.le_trans (by show 8 + (n + 11) + 32 * d ≤ 32 * xd Z; omega) c9⟩
theorem pre_Wd (C : Cx Z) {as : List LV} {H : Heap} {lo : List Loc} (a1 : H.size = xb Z + Y.length) (a2 : va_P (xD Z) vwCl (wld (xb Z) (xA Z) Y M) H) (a3 : va_S (fun q => xb Z ≤ q) (xs Z).heap H lo) : ∀ U : State, U.heap = H → (xs Z).WarmedH U.vm → va_Pc (as.map (cv (xb Z))) (Wd (xb Z) (xD Z) (xA Z) Y M) (as.map (cv (xb Z))).toArray U := fun U hU hW =>
  ⟨rfl, by rw [hU]; exact a1, by rw [hU]; exact a2, va_K.moved hW.alike C.2.2.2.2.1, ST.warm C.2.2.2.2.2.1 hW a3 hU⟩
/-- the run of a call, by whatever instruction -/
def Runs (Z : Px) (Y : List Sh) (pc : Nat) (M : Mem) (ret : Option FieldType) (as : List LV) (r : LV) (Y1 : List Sh) (M1 : Mem) : Prop :=
  ∀ (st : List Value) (L : LS0), catW st ≤ 8 → ∀ (H : Heap) (lo : List Loc) (ls : Array Slot), H.size = xb Z + Y.length → va_P (xD Z) vwCl (wld (xb Z) (xA Z) Y M) H → va_S (fun q => xb Z ≤ q) (xs Z).heap H lo → LocOK (xE Z) (xb Z) (xnL Z) ls L →
    va_Run (xp Z) (xl Z) (xe Z) (xR Z) (xs Z) (xm Z) (xargs Z) (xbelow Z) (xmeth Z) (xc Z) H lo (Y.length - xy0 Z) (szs Y - xs0 Z) (Y1.length - Y.length) (szs Y1 - szs Y) (F0 (xm Z) pc ls ((as.map (cv (xb Z))).reverse ++ st)) st (QC ret (xb Z) (xD Z) (xA Z) r Y1 M1 (as.map (cv (xb Z))).toArray) (fun q => xb Z ≤ q)
theorem runs_S (C : Cx Z) (F : Fit Z Y Y1) {as : List LV} (S : Snd y bytes n ret d as Y M r Y1 M1) (K : Cal Z y bytes n ret d as.length) (hl : Cond.methodLink (xown Z) index y ∈ lw_g) (hs : Cond.static y ∈ lw_g) (dg : decode (xcc Z) pc = .ok (.invokestatic index, 3)) : Runs Z Y pc M ret as r Y1 M1 := fun st L hc H lo ls a1 a2 a3 a4 =>
  va_runS ⟨C.1, C.2.1, C.2.2.2.2.2.2.1, C.2.2.1, C.2.2.2.1⟩ (S (xl Z) (xb Z) (xD Z) (xA Z)) ⟨cal_B C K hl, C.2.2.2.1 _ hs⟩ ⟨blind_Wd, pre_Wd C a1 a2 a3⟩ rfl (by simp) a4.1 rfl (lv_room (m := xm Z) (pc := pc) (ls := ls) (rest := []) hc) dg F.here
theorem runs_SN (C : Cx Z) (F : Fit Z Y Y1) {as : List LV} (S : Snd y bytes n ret d as Y M r Y1 M1) {host : String} (K : Cal Z y bytes n ret d as.length) (hl : Cond.methodLinkNest (xown Z) index y host ∈ lw_n) (hs : Cond.static y ∈ lw_g) (dg : decode (xcc Z) pc = .ok (.invokestatic index, 3)) : Runs Z Y pc M ret as r Y1 M1 := fun st L hc H lo ls a1 a2 a3 a4 =>
  va_runSN ⟨C.1, C.2.1, C.2.2.2.2.2.2.1, C.2.2.1, C.2.2.2.1⟩ (S (xl Z) (xb Z) (xD Z) (xA Z)) ⟨cal_N C K hl, C.2.2.2.1 _ hs, trivial⟩ ⟨blind_Wd, pre_Wd C a1 a2 a3⟩ rfl (by simp) a4.1 rfl (lv_room (m := xm Z) (pc := pc) (ls := ls) (rest := []) hc) dg F.here
theorem runs_V (C : Cx Z) (F : Fit Z Y Y1) {as : List LV} {k ci N : Nat} (S : Snd y bytes n ret d (vR k :: as) Y M r Y1 M1) {TT : u_T} (K : Cal Z y bytes n ret d as.length) (hci : clOK ci y.cls TT N) (hY : Y[k]? = some (.inl ci)) (hl : Cond.methodLink (xown Z) index y ∈ lw_g) (hi : Cond.instanceMethod y ∈ lw_g) (hs : Cond.selects y.cls y y ∈ lw_g) (dg : decode (xcc Z) pc = .ok (.invokevirtual index, 3)) : Runs Z Y pc M ret (vR k :: as) r Y1 M1 := fun st L hc H lo ls a1 a2 a3 a4 => by
  have h := va_runV (rest := st) (As := as.map (cv (xb Z))) (b := xb Z + k) (g := F0 (xm Z) pc ls (((vR k :: as).map (cv (xb Z))).reverse ++ st)) ⟨C.1, C.2.1, C.2.2.2.2.2.2.1, C.2.2.1, C.2.2.2.1⟩ (S (xl Z) (xb Z) (xD Z) (xA Z)) ⟨cal_B C K hl, C.2.2.2.1 _ hi, C.2.2.2.1 _ hs⟩ ⟨blind_Wd, va_recv C.2.2.2.2.1 a2 hci.1 (wld_get hY), pre_Wd C (as := vR k :: as) a1 a2 a3⟩ (cells := Y.length - xy0 Z) (slots := szs Y - xs0 Z) (below := xbelow Z) (meth := xmeth Z) (e := xe Z) (locs := lo) rfl (by simp) a4.1 (by simp [cv]) (lv_room (m := xm Z) (pc := pc) (ls := ls) (rest := []) hc) dg F.here
  exact h
theorem runs_I (C : Cx Z) (F : Fit Z Y Y1) {as : List LV} {k : Nat} (S : Snd y bytes n none d (vR k :: as) Y M r Y1 M1) (K : Cal Z y bytes n none d as.length) (hl : Cond.methodLink (xown Z) index y ∈ lw_g) (hi : Cond.instanceMethod y ∈ lw_g) (hn : y.name = "<init>") (dg : decode (xcc Z) pc = .ok (.invokespecial index, 3)) : Runs Z Y pc M none (vR k :: as) r Y1 M1 := fun st L hc H lo ls a1 a2 a3 a4 => by
  have h := va_runI (rest := st) (As := as.map (cv (xb Z))) (b := xb Z + k) (g := F0 (xm Z) pc ls (((vR k :: as).map (cv (xb Z))).reverse ++ st)) ⟨C.1, C.2.1, C.2.2.2.2.2.2.1, C.2.2.1, C.2.2.2.1⟩ (S (xl Z) (xb Z) (xD Z) (xA Z)) ⟨cal_B C K hl, hn, C.2.2.2.1 _ hi⟩ ⟨blind_Wd, pre_Wd C (as := vR k :: as) a1 a2 a3⟩ (cells := Y.length - xy0 Z) (slots := szs Y - xs0 Z) (below := xbelow Z) (meth := xmeth Z) (e := xe Z) (locs := lo) rfl (by simp) a4.1 (by simp [cv]) (lv_room (m := xm Z) (pc := pc) (ls := ls) (rest := []) hc) dg F.here
  exact h
theorem runs_IN (C : Cx Z) (F : Fit Z Y Y1) {as : List LV} {k : Nat} (S : Snd y bytes n none d (vR k :: as) Y M r Y1 M1) {host : String} (K : Cal Z y bytes n none d as.length) (hl : Cond.methodLinkNest (xown Z) index y host ∈ lw_n) (hi : Cond.instanceMethod y ∈ lw_g) (hn : y.name = "<init>") (dg : decode (xcc Z) pc = .ok (.invokespecial index, 3)) : Runs Z Y pc M none (vR k :: as) r Y1 M1 := fun st L hc H lo ls a1 a2 a3 a4 => by
  have h := va_runIN (rest := st) (As := as.map (cv (xb Z))) (b := xb Z + k) (g := F0 (xm Z) pc ls (((vR k :: as).map (cv (xb Z))).reverse ++ st)) ⟨C.1, C.2.1, C.2.2.2.2.2.2.1, C.2.2.1, C.2.2.2.1⟩ (S (xl Z) (xb Z) (xD Z) (xA Z)) ⟨cal_N C K hl, hn, C.2.2.2.1 _ hi⟩ ⟨blind_Wd, pre_Wd C (as := vR k :: as) a1 a2 a3⟩ (cells := Y.length - xy0 Z) (slots := szs Y - xs0 Z) (below := xbelow Z) (meth := xmeth Z) (e := xe Z) (locs := lo) rfl (by simp) a4.1 (by simp [cv]) (lv_room (m := xm Z) (pc := pc) (ls := ls) (rest := []) hc) dg F.here
  exact h
theorem g_calli (C : Cx Z) (F : Fit Z Y Y1) {ty : FieldType} (hty : isIty ty = true) {as : List LV} {x : Int32} (hr : Runs Z Y pc M (some ty) as (vI x) Y1 M1) (hc : catW st ≤ 8) (kk : G Z Y1 (pc + 3) (.int x :: st) L M1) : G Z Y pc ((as.map (cv (xb Z))).reverse ++ st) L M := fun H lo ls a1 a2 a3 a4 => by
  have h := hr st L hc H lo ls a1 a2 a3 a4
  have e : QC (some ty) (xb Z) (xD Z) (xA Z) (vI x) Y1 M1 = va_Qi (fun (z : Int32) (_ : Unit) => vI z = vI x) (fun _ t => WdP (xb Z) (xD Z) (xA Z) Y1 M1 t) (fun q => xb Z ≤ q) := by
    cases ty <;> first | rfl | (simp [isIty] at hty)
  rw [e] at h
  refine va_calli h a3 (fun _ _ q => q) (fun _ q => q) (fun r u t H1 lo1 ht1 hvm hw hB hz1 hk1 hS => ?_)
  have h1 := hB.1
  have h2 := hB.2
  rw [ht1] at h1 h2
  cases hw
  rw [F.c, F.s]
  exact kk H1 lo1 ls h1 h2 hS a4
theorem g_calll (C : Cx Z) (F : Fit Z Y Y1) {as : List LV} {x : Int64} (hr : Runs Z Y pc M (some .long) as (vL x) Y1 M1) (hc : catW st ≤ 8) (kk : G Z Y1 (pc + 3) (.long x :: st) L M1) : G Z Y pc ((as.map (cv (xb Z))).reverse ++ st) L M := fun H lo ls a1 a2 a3 a4 => by
  have h := hr st L hc H lo ls a1 a2 a3 a4
  refine va_calll (a := (as.map (cv (xb Z))).toArray) h a3 (fun _ _ q => q) (fun _ q => q) (fun r u t H1 lo1 ht1 hvm hw hB hz1 hk1 hS => ?_)
  have h1 := hB.1
  have h2 := hB.2
  rw [ht1] at h1 h2
  cases hw
  rw [F.c, F.s]
  exact kk H1 lo1 ls h1 h2 hS a4
theorem g_callv (C : Cx Z) (F : Fit Z Y Y1) {as : List LV} (hr : Runs Z Y pc M none as r Y1 M1) (hc : catW st ≤ 8) (kk : G Z Y1 (pc + 3) st L M1) : G Z Y pc ((as.map (cv (xb Z))).reverse ++ st) L M := fun H lo ls a1 a2 a3 a4 => by
  have h := hr st L hc H lo ls a1 a2 a3 a4
  refine va_callv (a := (as.map (cv (xb Z))).toArray) h a3 (fun _ _ q => q) (fun _ q => q) (fun u t H1 lo1 ht1 hvm hw hB hz1 hk1 hS => ?_)
  have h1 := hB.1
  have h2 := hB.2
  rw [ht1] at h1 h2
  rw [F.c, F.s]
  exact kk H1 lo1 ls h1 h2 hS a4
end CALLS
/-! a method's entry and its ends -/
def argW (as : List LV) : Nat := (as.map fun v => if isLg (some (some v)) then 2 else 1).sum
def argL (as : List LV) : LS0 := as.flatMap fun v => if isLg (some (some v)) then [some v, none] else [some v]
def entL (nL : Nat) (as : List LV) : LS0 := argL as ++ List.replicate (nL - argW as) none
theorem argL_len (as : List LV) : (argL as).length = argW as := by
  induction as with
  | nil => rfl
  | cons v l ih =>
    unfold argL argW at *
    rw [List.flatMap_cons, List.length_append, ih, List.map_cons, List.sum_cons]
    by_cases h : isLg (some (some v)) = true <;> simp [h]
theorem argL_sl (b : Nat) (as : List LV) : lg_sl (as.map (cv b)) = (argL as).map (fun o => match o with
  | some v => Slot.val (cv b v)
  | none => Slot.second) := by
  induction as with
  | nil => rfl
  | cons v l ih =>
    unfold argL lg_sl at *
    rw [List.map_cons, List.flatMap_cons, ih, List.flatMap_cons, List.map_append]
    rcases v with x | x | k
    · rfl
    · rfl
    · rfl
theorem loc_entry (b nL : Nat) (as : List LV) (h : argW as ≤ nL) : LocOK none b nL ((lg_sl (as.map (cv b)) ++ List.replicate (nL - (lg_sl (as.map (cv b))).length) Slot.unset).toArray) (entL nL as) := by
  have hl : (lg_sl (as.map (cv b))).length = argW as := by rw [argL_sl, List.length_map, argL_len]
  have h0 := lv_entry (as.map (cv b)) (n := nL) (by rw [hl]; exact h)
  refine ⟨h0.1, h0.2.1, by unfold entL; rw [List.length_append, argL_len, List.length_replicate]; omega, fun i v hi => ?_, fun a h => by cases h⟩
  unfold entL at hi
  by_cases hk : i < argW as
  · rw [List.getElem?_append_left (by rw [argL_len]; exact hk)] at hi
    rw [List.getElem?_toArray, List.getElem?_append_left (by rw [hl]; exact hk), argL_sl, List.getElem?_map, hi]
    rfl
  · rw [List.getElem?_append_right (by rw [argL_len]; omega)] at hi
    have h2 := List.eq_of_mem_replicate (List.mem_of_getElem? hi)
    cases h2
/-- what a method's body may use at a return -/
def Rets (Z : Px) (ret : Option FieldType) (r : LV) (Y1 : List Sh) (M1 : Mem) : Prop :=
  (ret = none → ∀ (pc : Nat) (L : LS0), decode (xcc Z) pc = .ok (.return_, 1) → G Z Y1 pc [] L M1) ∧
  (ret = some .long → ∀ (pc : Nat) (L : LS0) (x : Int64), decode (xcc Z) pc = .ok (.lreturn, 1) → vL x = r → G Z Y1 pc [.long x] L M1) ∧
  (∀ ty, ret = some ty → isIty ty = true → ∀ (pc : Nat) (L : LS0) (x : Int32), decode (xcc Z) pc = .ok (.ireturn, 1) → narrow ty (.int x) = .int x → vI x = r → G Z Y1 pc [.int x] L M1)
abbrev Px0 : Type := Program × Launch × Env × Room × State × MethodId × Array Value × List Frame × Method × Code × (State → Prop)
theorem Snd.of {y : MethodName} {bytes : ByteArray} {n d : Nat} {ret : Option FieldType} {as : List LV} {Y Y1 : List Sh} {M M1 : Mem} {r : LV} (own : String) (ho : y.cls = own) (hy : plainName y.cls = true) (hw : argW as ≤ n)
    (body : ∀ (P : Px0) (b : Nat) (D : va_G) (cA : FieldType → ClassId), Cx (P, (bytes, own, n, d, b, D, cA, Y.length, szs Y, none, y.name)) → (xR (P, (bytes, own, n, d, b, D, cA, Y.length, szs Y, none, y.name))).cells = Y1.length - Y.length → (xR (P, (bytes, own, n, d, b, D, cA, Y.length, szs Y, none, y.name))).slots = szs Y1 - szs Y → Rets (P, (bytes, own, n, d, b, D, cA, Y.length, szs Y, none, y.name)) ret r Y1 M1 → G (P, (bytes, own, n, d, b, D, cA, Y.length, szs Y, none, y.name)) Y 0 [] (entL n as) M) : Snd y bytes n ret d as Y M r Y1 M1 := by
  subst ho
  intro l b D cA
  refine Met.ofW (cc := bytes) (maxL := n) (ret := ret) hy rfl ?_
  intro p e s m args below meth c s₁ B hml hv
  obtain ⟨rfl, hsz, hP, hK, hST⟩ := hv
  have hts : ∀ w ∈ wsM y bytes n ret, w.before ((as.map (cv b)).toArray) s = true := atoms_spec (ws := wsM y bytes n ret) B.pre
  have hlocks : meth.locks = false := B.notSynchronized
  have hr : meth.sig.returnType = ret := B.returns
  have hx : p.tables.exec = Jvm.exec := B.exec
  have hb : c.code = bytes := B.bytes
  have hnm : meth.name = y.name := (name_of_methodNamed B.named B.method).1
  let Z : Px := ((p, l, e, rmD d (Y1.length - Y.length) (szs Y1 - szs Y), s, m, (as.map (cv b)).toArray, below, meth, c, MQ below (QC ret b D cA r Y1 M1) ((as.map (cv b)).toArray) s (Y1.length - Y.length) (szs Y1 - szs Y) (fun q => b ≤ q)), (bytes, y.cls, n, d, b, D, cA, Y.length, szs Y, none, y.name))
  have hC : Cx Z := ⟨hx, hb, findClass_of_methodNamed B.named, fun w hw => hts w (List.mem_cons_of_mem _ hw), hK, hST, hml, Nat.le_refl _, Nat.le_refl _, by show b ≤ s.heap.size; omega, hnm⟩
  have hR : Rets Z ret r Y1 M1 := by
    refine ⟨fun h0 pc L hd H lo ls a1 a2 a3 a4 => ?_, fun h0 pc L x hd hQ H lo ls a1 a2 a3 a4 => ?_, fun ty h0 hty pc L x hd hn hQ H lo ls a1 a2 a3 a4 => ?_⟩
    · subst h0
      exact W.vret hx hb hr (fun t ht hW => ⟨⟨(), rfl, trivial, by rw [ht]; exact a1, by rw [ht]; exact a2⟩, a3.F ht⟩) a3.2.2 hd hlocks
    · subst h0
      exact W.lret hx hb hr (fun t ht hW => ⟨⟨x, (), rfl, hQ, by rw [ht]; exact a1, by rw [ht]; exact a2⟩, a3.F ht⟩) a3.2.2 hd hlocks
    · subst h0
      have eQ : QC (some ty) b D cA r Y1 M1 = va_Qi (fun (z : Int32) (_ : Unit) => vI z = r) (fun _ t => WdP b D cA Y1 M1 t) (fun q => b ≤ q) := by
        cases ty <;> first | rfl | (simp [isIty] at hty)
      show W p l e (rmD d (Y1.length - Y.length) (szs Y1 - szs Y)) s m _ below meth c H lo (Y1.length - Y.length) (szs Y1 - szs Y) (MQ below (QC (some ty) b D cA r Y1 M1) _ s (Y1.length - Y.length) (szs Y1 - szs Y) (fun q => b ≤ q)) _
      rw [eQ]
      exact W.zret hx hb hr hn (fun t ht hW => ⟨⟨x, (), rfl, hQ, by rw [ht]; exact a1, by rw [ht]; exact a2⟩, a3.F ht⟩) a3.2.2 hd hlocks
  have hG := body Z.1 b D cA hC rfl rfl hR
  rw [lg_entry_eq]
  have hG2 := hG s.heap [] _ hsz hP va_S.rf (loc_entry b n as hw)
  rw [show Y.length - xy0 Z = 0 from Nat.sub_self _, show szs Y - xs0 Z = 0 from Nat.sub_self _] at hG2
  exact hG2
/-! new cells -/
section NEW
variable {Z : Px} {pc : Nat} {st : List Value} {L : LS0} {M : Mem} {Y : List Sh}
theorem wld_app (b : Nat) (cA : FieldType → ClassId) (Y : List Sh) (M : Mem) (sh : Sh) : wld b cA (Y ++ [sh]) M = wld b cA Y M ++ [(b + Y.length, went b cA M Y.length sh)] := by
  unfold wld
  rw [List.mapIdx_append]
  simp
theorem szs_app (Y : List Sh) (sh : Sh) : szs (Y ++ [sh]) = szs Y + szS sh := by simp [szs]
theorem p_app {D : va_G} {b : Nat} {cA : FieldType → ClassId} {sh : Sh} {H H1 : Heap} (a1 : H.size = b + Y.length) (a2 : va_P D vwCl (wld b cA Y M) H) (o1 : ∀ q, q < H.size → H1[q]? = H[q]?) (e : va_at D vwCl (b + Y.length, went b cA M Y.length sh) H1) : va_P D vwCl (wld b cA (Y ++ [sh]) M) H1 := by
  rw [wld_app]
  refine (a2.kept (fun k x hx => o1 x.1 ((a2 k x hx).lt))).app (fun k x hx => ?_)
  have hz : k < 1 := (List.getElem?_eq_some_iff.mp hx).1
  rw [show k = 0 by omega] at hx
  cases hx
  exact e
theorem g_new (C : Cx Z) {ci N index : Nat} {Cn : String} {T : u_T} (F : Fit Z Y (Y ++ [.inl ci])) (K : clOK ci Cn T N) (hcl : Cond.classLink (xown Z) index Cn ∈ lw_g) (hins : Cond.instantiable Cn N ∈ lw_g) (hini : Cond.initialized Cn ∈ lw_g) (hty : ∀ j, j < N → isIty (tcl ci j) = true ∨ isRty (tcl ci j) = true) (hz : ∀ j, mI M Y.length j = 0 ∧ mR M Y.length j = none) (d : decode (xcc Z) pc = .ok (.new index, 3)) (kk : G Z (Y ++ [.inl ci]) (pc + 3) (.ref (xb Z + Y.length) :: st) L M) : G Z Y pc st L M := fun H lo ls a1 a2 a3 a4 => by
  have hKn := C.2.2.2.2.1.1 ci _ K.1
  have hf := F.here
  have e1 : (Y ++ [(.inl ci : Sh)]).length - Y.length = 1 := by simp
  have e2 : szs (Y ++ [(.inl ci : Sh)]) - szs Y = N := by rw [szs_app, ← K.2.1]; show szs Y + ncl ci - szs Y = ncl ci; omega
  have ec := F.c
  have es := F.s
  rw [e1, e2] at hf
  rw [e1] at ec
  rw [e2] at es
  refine W.newcK C.1 C.2.1 C.2.2.1 (C.2.2.2.1 _ hcl) (C.2.2.2.1 _ hins) (C.2.2.2.1 _ hini) rfl d hf.1 hf.2 hKn.2.1 a1 fun H1 kC hkC e z o => ?_
  rw [ec, es]
  refine kk H1 lo ls (by rw [z, List.length_append]; rfl) (p_app a1 a2 (fun q hq => o q (by rw [← a1]; exact hq)) ?_) ⟨Nat.le_trans a3.1 (by rw [a1, z]; omega), fun q h1 h2 => (o q (by rw [← a1]; exact Nat.lt_of_lt_of_le h1 a3.1)).trans (a3.2.1 q h1 h2), a3.2.2⟩ a4
  refine ⟨_, K.1, (u_born (tcl ci) C.2.2.2.1 K.2.2.1 hKn hkC e K.2.2.2.1).to (fun j hj => ?_)⟩
  show defaultValue (tcl ci j) = (wfs (xb Z) M Y.length ci).getD j .null
  rw [List.getD_eq_getElem?_getD, wfs_get _ _ _ _ (by rw [K.2.1]; exact hj), Option.getD_some]
  rcases hty j hj with h | h
  · rw [wfld_int h, (hz j).1]
    cases ht : tcl ci j <;> rw [ht] at h <;> first | rfl | (simp [isIty] at h)
  · rw [wfld_ref h, (hz j).2]
    cases ht : tcl ci j <;> rw [ht] at h <;> first | rfl | (simp [isRty] at h)
theorem g_newarr (C : Cx Z) {ty : FieldType} {n : Int32} {N : Nat} (atype : ArrayType) (hat : newarray.typeOf atype = ty) (F : Fit Z Y (Y ++ [.inr (ty, N)])) (hA : Cond.arrayClass ty ∈ lw_g) (hfc : ∀ cA : ClassId, (xs Z).vm.findClass ("[" ++ ty.toString) = some cA → cA = xA Z ty) (hn : ¬ n < 0) (hN : n.toNatClampNeg = N) (hbytes : N * componentBytes ty ≤ 536870912) (hz : ∀ cA : ClassId, vp_cell cA (N, warr (xb Z) M Y.length ty) = arrV cA N (fun _ => defaultValue ty)) (d : decode (xcc Z) pc = .ok (.newarray atype, 2)) (kk : G Z (Y ++ [.inr (ty, N)]) (pc + 2) (.ref (xb Z + Y.length) :: st) L M) : G Z Y pc (.int n :: st) L M := fun H lo ls a1 a2 a3 a4 => by
  subst hat
  have hf := F.here
  have e1 : (Y ++ [Sum.inr (newarray.typeOf atype, N)]).length - Y.length = 1 := by simp
  have e2 : szs (Y ++ [Sum.inr (newarray.typeOf atype, N)]) - szs Y = N := by rw [szs_app]; show szs Y + N - szs Y = N; omega
  have ec := F.c
  have es := F.s
  rw [e1, e2] at hf
  rw [e1] at ec
  rw [e2] at es
  refine va_newaK C.1 C.2.1 (C.2.2.2.1 _ hA) rfl d rfl hn hN hbytes hf.1 hf.2 a1 fun H1 cA e z o hAr hNm => ?_
  rw [ec, es]
  refine kk H1 lo ls (by rw [z, List.length_append]; rfl) (p_app a1 a2 (fun q hq => o q (by rw [← a1]; exact hq)) ?_) ⟨Nat.le_trans a3.1 (by rw [a1, z]; omega), fun q h1 h2 => (o q (by rw [← a1]; exact Nat.lt_of_lt_of_le h1 a3.1)).trans (a3.2.1 q h1 h2), a3.2.2⟩ a4
  show H1[xb Z + Y.length]? = some (vp_cell (xA Z _) (N, warr (xb Z) M Y.length _))
  rw [hz, ← hfc cA hNm]
  exact e
theorem g_objInit (C : Cx Z) {index x : Nat} (hl : Cond.methodLink (xown Z) index objectInit ∈ lw_g) (hi : Cond.instanceMethod objectInit ∈ lw_g) (hcd : Cond.code objectInit ⟨#[0xb1]⟩ 1 none ∈ lw_g) (hd : 1 ≤ xd Z) (hst : catW st ≤ 8) (d : decode (xcc Z) pc = .ok (.invokespecial index, 3)) (kk : G Z Y (pc + 3) st L M) : G Z Y pc (.ref (xb Z + x) :: st) L M := fun H lo ls a1 a2 a3 a4 => by
  obtain ⟨c1, c2, c3, c4, -, -, c7, c8, c9, -⟩ := C
  refine W.objInit c1 c2 c3 (c4 _ hl) (c4 _ hi) (c4 _ hcd) rfl (by show ls.size = _; rw [a4.1, c7]) rfl d (Nat.le_trans hd c8) ?_ (kk H lo ls a1 a2 a3 a4)
  have h8 := lv_room (m := xm Z) (pc := pc) (ls := ls) (rest := (.ref (xb Z + x) :: st : List Value)) (st := st) hst
  exact Nat.le_trans (Nat.add_le_add_right h8 12) (by omega)
theorem g_putF0 (C : Cx Z) {ci N k j index : Nat} {Cn : String} {T : u_T} {v : Value} {M' : Mem} (K : clOK ci Cn T N) (hY : Y[k]? = some (.inl ci)) (hj : j < N) (hw : Cond.fieldLink (xown Z) index (T j).1 (T j).2.1 (T j).2.2.1 ∈ lw_g) (hfin : (T j).2.2.2 = true) (hnm : xnm Z = "<init>") (hdecl : (T j).1 = xown Z) (hn : narrow (tcl ci j) v = v) (hfit : fits (tcl ci j) v = true) (hM : offK M M' k) (hv : wfld (xb Z) M' k j (tcl ci j) = v) (ho : ∀ j', j' ≠ j → mI M' k j' = mI M k j' ∧ mR M' k j' = mR M k j') (d : decode (xcc Z) pc = .ok (.putfield index, 3)) (kk : G Z Y (pc + 3) st L M') : G Z Y pc (v :: .ref (xb Z + k) :: st) L M := fun H lo ls a1 a2 a3 a4 => by
  have he := wld_get (b := xb Z) (cA := xA Z) (M := M) hY
  have hl : j < (wfs (xb Z) M k ci).length := by rw [wfs_len, K.2.1]; exact hj
  have hap := va_apart (own := xown Z) C.2.2.2.1 K.2.2.1 (tcl ci) K.2.2.2.1 K.2.2.2.2 C.2.2.2.2.1 K.1
  obtain ⟨r, h1, cell, q1, q2, q3, q4⟩ := a2 k _ he
  have hr : r = (Cn, T, N) := Option.some.inj (h1.symm.trans K.1)
  subst hr
  obtain ⟨hS, hfc, kC, hkC, hkind⟩ := C.2.2.2.2.1.1 ci _ K.1
  obtain ⟨cf, kf, fi, f, hi, hsl⟩ := hS j hj
  have hlay := C.2.2.2.1 _ (K.2.2.1 _ (u_in_lay hj))
  unfold u_lay at hlay
  rw [if_pos hfin] at hlay
  have hst := (u_facts hfc hkC (u_lays C.2.2.2.1 K.2.2.1 hj) hi).1
  have hcf : (xm Z).cls = cf := by
    obtain ⟨_, _, c', _, _, _, -, -, hf', -, -, -, hown2, -⟩ := Cond.laysFinal_spec hlay
    have e1 : c' = cf := by have := hi.symm.trans hf'; simp at this; exact this.1.symm
    rw [hdecl] at hown2
    rw [← e1]; exact Option.some.inj (C.2.2.1.symm.trans hown2)
  have h6 := u_fits hfc hkC hkind (Or.inr hlay) hi (K.2.2.2.1 j hj) hn hfit
  refine W.putFinK C.1 C.2.1 (f := f) C.2.2.1 (C.2.2.2.1 _ hw) hi hst hcf (C.2.2.2.2.2.2.2.2.2.2.trans hnm) (by rw [q2]; exact h6) q1 q3 (by rw [hsl]; exact k2_hasslot (q4 j hj)) rfl rfl d fun H' e1 e2 e3 => ?_
  rw [hsl] at e1 ⊢
  have hp := a2.set (e := .inr (ci, (wfs (xb Z) M k ci).set j v)) wld_D he ⟨_, K.1, t_OB.to (V := updV (vp_V (wfs (xb Z) M k ci)) j v) ⟨_, e1, q2, q3, t_set q4 hap hj v⟩ (fun j _ => vp_updV_set hl v j)⟩ e3
  have hp2 : va_P (xD Z) vwCl (wld (xb Z) (xA Z) Y M') H' := by
    rw [← wld_set (M := M) (M' := M') (b := xb Z) (cA := xA Z) (e := .inr (ci, (wfs (xb Z) M k ci).set j v)) hY (by rw [wfs_set hv ho]; rfl) (went_off hM)]
    exact hp
  exact kk H' _ ls (e2.trans a1) hp2 (a3.put e2 e3 (Nat.le_add_right _ _)) a4
theorem g_putFI (C : Cx Z) {ci N k j index : Nat} {Cn : String} {T : u_T} {x : Int32} (K : clOK ci Cn T N) (hY : Y[k]? = some (.inl ci)) (hj : j < N) (hw : Cond.fieldLink (xown Z) index (T j).1 (T j).2.1 (T j).2.2.1 ∈ lw_g) (hfin : (T j).2.2.2 = true) (hnm : xnm Z = "<init>") (hdecl : (T j).1 = xown Z) (hty : isIty (tcl ci j) = true) (hx : narrow (tcl ci j) (.int x) = .int x ∧ fits (tcl ci j) (.int x) = true) (d : decode (xcc Z) pc = .ok (.putfield index, 3)) (kk : G Z Y (pc + 3) st L (sI M k j x)) : G Z Y pc (.int x :: .ref (xb Z + k) :: st) L M :=
  g_putF0 C K hY hj hw hfin hnm hdecl hx.1 hx.2 (off_sI M k j x) (by rw [wfld_int hty, mI_sI, if_pos ⟨rfl, rfl⟩]) (fun j' h => ⟨by rw [mI_sI, if_neg (fun q => h q.2)], rfl⟩) d kk
theorem g_putFR (C : Cx Z) {ci N k j index t : Nat} {Cn : String} {T : u_T} (K : clOK ci Cn T N) (hY : Y[k]? = some (.inl ci)) (hj : j < N) (hw : Cond.fieldLink (xown Z) index (T j).1 (T j).2.1 (T j).2.2.1 ∈ lw_g) (hfin : (T j).2.2.2 = true) (hnm : xnm Z = "<init>") (hdecl : (T j).1 = xown Z) (hty : isRty (tcl ci j) = true) (d : decode (xcc Z) pc = .ok (.putfield index, 3)) (kk : G Z Y (pc + 3) st L (sR M k j (some t))) : G Z Y pc (.ref (xb Z + t) :: .ref (xb Z + k) :: st) L M :=
  g_putF0 C K hY hj hw hfin hnm hdecl (by cases h : tcl ci j <;> rw [h] at hty <;> first | rfl | (simp [isRty] at hty)) (by cases h : tcl ci j <;> rw [h] at hty <;> first | rfl | (simp [isRty] at hty)) (off_sR M k j (some t)) (by rw [wfld_ref hty, mR_sR, if_pos ⟨rfl, rfl⟩]; rfl) (fun j' h => ⟨rfl, by rw [mR_sR, if_neg (fun q => h q.2)]⟩) d kk
/-! new int[N][K] -/
theorem vr_outer (c : ClassId) (N h0 : Nat) : ∀ i : Nat, Jvm.Free.Multi.outerC c N h0 i = arrV c N (fun j => va_rf (if j < i then some (h0 + 1 + j) else none))
  | 0 => by
    show ({ cls := c, slots := Array.replicate N .null, vm := .none } : Cell) = _
    rw [arrV_new]
    congr 1
  | i + 1 => by
    show (Jvm.Free.Multi.outerC c N h0 i).setSlot i (.ref (h0 + 1 + i)) = _
    rw [vr_outer c N h0 i, arrV_store]
    congr 1
    funext j
    by_cases e : j = i
    · subst e
      simp [updV, va_rf]
    · by_cases h : j < i
      · simp [updV, e, h, Nat.lt_succ_of_lt h]
      · simp [updV, e, h, show ¬ j < i + 1 by omega]
theorem wld_app2 (b : Nat) (cA : FieldType → ClassId) (Y Y2 : List Sh) (M : Mem) : wld b cA (Y ++ Y2) M = wld b cA Y M ++ Y2.mapIdx fun k sh => (b + (k + Y.length), went b cA M (k + Y.length) sh) := by
  unfold wld
  rw [List.mapIdx_append]
abbrev mulY (N K : Nat) : List Sh := .inr (.array .int, N) :: List.replicate N (.inr (.int, K))
theorem g_multi (C : Cx Z) {index N K : Nat} {n k : Int32} (F : Fit Z Y (Y ++ mulY N K)) (hcl : Cond.classLink (xown Z) index ("[" ++ (FieldType.array .int).toString) ∈ lw_g) (hA : Cond.arrayClass .int ∈ lw_g) (hfc1 : ∀ c : ClassId, (xs Z).vm.findClass ("[" ++ (FieldType.array .int).toString) = some c → c = xA Z (.array .int)) (hfc2 : ∀ c : ClassId, (xs Z).vm.findClass (FieldType.array .int).toString = some c → c = xA Z .int) (hn : ¬ n < 0) (hk : ¬ k < 0) (hN : n.toNatClampNeg = N) (hK : k.toNatClampNeg = K) (hb1 : N * 4 ≤ 536870912) (hb2 : K * 4 ≤ 536870912)
    (hz1 : ∀ j, mR M Y.length j = if j < N then some (Y.length + 1 + j) else none) (hz2 : ∀ i j, i < N → mI M (Y.length + 1 + i) j = 0) (d : decode (xcc Z) pc = .ok (.multianewarray index 2, 4)) (kk : G Z (Y ++ mulY N K) (pc + 4) (.ref (xb Z + Y.length) :: st) L M) : G Z Y pc (.int k :: .int n :: st) L M := by
  subst hN
  subst hK
  intro H lo ls a1 a2 a3 a4 T hT Xs
  have hf := F.here
  have e1 : (Y ++ mulY n.toNatClampNeg k.toNatClampNeg).length - Y.length = 1 + n.toNatClampNeg := by simp [Nat.add_comm]
  have e2 : szs (Y ++ mulY n.toNatClampNeg k.toNatClampNeg) - szs Y = n.toNatClampNeg + n.toNatClampNeg * k.toNatClampNeg := by simp [szs, szS]
  have ec := F.c
  have es := F.s
  rw [e1, e2] at hf
  rw [e1, ← Nat.add_assoc] at ec
  rw [e2, ← Nat.add_assoc] at es
  obtain ⟨vm₁, cA, cy, -, fA, fC, -, -, X', step⟩ := Xs.multianewarray2F C.1 C.2.2.1 (C.2.2.2.1 _ hcl) (show (Cond.arrayOver (.array .int)).before (xargs Z) (xs Z) = true from C.2.2.2.2.2.1.2.2.2) (C.2.2.2.1 _ hA) (g := F0 (xm Z) pc ls (.int k :: .int n :: st)) rfl (by rw [C.2.1]; exact d) rfl hn hk hb1 hb2 (by omega) rfl rfl hf.1 hf.2
  have ca := hfc1 cA fA
  have cb := hfc2 cy fC
  subst ca
  subst cb
  generalize hF : Jvm.Free.Multi.fill (T.setVm vm₁) (xA Z (.array .int)) (xA Z .int) n.toNatClampNeg k.toNatClampNeg (defaultValue .int) n.toNatClampNeg = F' at X' step
  have hTh : (T.setVm vm₁).heap = H := hT
  obtain ⟨f1, f2, -, -⟩ := Jvm.Free.Multi.fill_facts (T.setVm vm₁) (xA Z (.array .int)) (xA Z .int) n.toNatClampNeg k.toNatClampNeg (defaultValue .int) n.toNatClampNeg
  rw [hF, hTh] at f1 f2
  have hold : ∀ x : Nat, x < H.size → F'.heap[x]? = H[x]? := fun x hx => by
    have := Jvm.Free.Multi.fill_old (T.setVm vm₁) (xA Z (.array .int)) (xA Z .int) n.toNatClampNeg k.toNatClampNeg (defaultValue .int) (a := x) (by rw [hTh]; exact hx) n.toNatClampNeg
    rw [hF, hTh] at this
    exact this
  have hrow : ∀ j : Nat, j < n.toNatClampNeg → F'.heap[H.size + 1 + j]? = some (Jvm.Free.Multi.innerC (xA Z .int) k.toNatClampNeg (defaultValue .int)) := fun j hj => by
    have := Jvm.Free.Multi.fill_inner (T.setVm vm₁) (xA Z (.array .int)) (xA Z .int) n.toNatClampNeg k.toNatClampNeg (defaultValue .int) n.toNatClampNeg j hj
    rw [hF, hTh] at this
    exact this
  have hin : Jvm.Free.Multi.innerC (xA Z .int) k.toNatClampNeg (defaultValue .int) = arrV (xA Z .int) k.toNatClampNeg (fun _ => .int 0) := by
    rw [← arrV_new]
    rfl
  have hout := vr_outer (xA Z (.array .int)) n.toNatClampNeg H.size n.toNatClampNeg
  have hp : va_P (xD Z) vwCl (wld (xb Z) (xA Z) (Y ++ mulY n.toNatClampNeg k.toNatClampNeg) M) F'.heap := by
    rw [wld_app2]
    refine (a2.kept (fun k x hx => hold x.1 ((a2 k x hx).lt))).app (fun q x hx => ?_)
    rw [List.getElem?_mapIdx] at hx
    cases q with
    | zero =>
      cases hx
      show F'.heap[xb Z + (0 + Y.length)]? = some (vp_cell (xA Z (.array .int)) (n.toNatClampNeg, .inr (.inr (.inr (.inr (fun j => (mR M (0 + Y.length) j).map (xb Z + ·)))))))
      rw [Nat.zero_add, ← a1, f2, hout, vp_cell_q]
      congr 2
      funext j
      rw [hz1]
      by_cases hj : j < n.toNatClampNeg
      · rw [if_pos hj, if_pos hj, a1]
        exact congrArg (fun z => va_rf (some z)) (show xb Z + Y.length + 1 + j = xb Z + (Y.length + 1 + j) by omega)
      · rw [if_neg hj, if_neg hj]
        rfl
    | succ q =>
      rw [List.getElem?_cons_succ] at hx
      by_cases hq : q < n.toNatClampNeg
      · rw [List.getElem?_replicate, if_pos hq] at hx
        cases hx
        show F'.heap[xb Z + (q + 1 + Y.length)]? = some (vp_cell (xA Z .int) (k.toNatClampNeg, .inl (mI M (q + 1 + Y.length))))
        rw [show xb Z + (q + 1 + Y.length) = H.size + 1 + q by omega, hrow q hq, hin, vp_cell_i]
        congr 2
        funext j
        rw [show q + 1 + Y.length = Y.length + 1 + q by omega, hz2 q j hq]
      · rw [List.getElem?_replicate, if_neg hq] at hx
        cases hx
  have hsz : F'.heap.size = xb Z + (Y ++ mulY n.toNatClampNeg k.toNatClampNeg).length := by
    rw [f1, a1]
    simp
    omega
  have hk := kk F'.heap lo ls hsz hp ⟨Nat.le_trans a3.1 (by rw [hsz, a1]; simp), fun q h1 h2 => (hold q (Nat.lt_of_lt_of_le h1 a3.1)).trans (a3.2.1 q h1 h2), a3.2.2⟩ a4
  rw [← ec, ← es] at hk
  obtain ⟨t, b1, b2⟩ := hk F' rfl X'
  refine ⟨t, step t ?_, b2⟩
  rw [show T.heap.size = xb Z + Y.length by rw [hT, a1]]
  exact b1
/-! the law's script -/
theorem g_ldX (C : Cx Z) {a : Nat} (hE : xE Z = some a) (d : decode (xcc Z) pc = .ok (.aload_n 0, 1)) (kk : G Z Y (pc + 1) (.ref a :: st) L M) : G Z Y pc st L M := fun H lo ls a1 a2 a3 a4 => lv_aload_n C.1 C.2.1 d rfl (a4.2.2.2.2 a hE) (kk H lo ls a1 a2 a3 a4)
theorem g_alenX (C : Cx Z) {a n : Nat} {f : Nat → Int32} (hX : va_X a n f (xs Z) (xs Z).heap) (ha : a < (xs Z).heap.size ∧ a < xb Z) (d : decode (xcc Z) pc = .ok (.arraylength, 1)) (kk : G Z Y (pc + 1) (.int (Int32.ofNat n) :: st) L M) : G Z Y pc (.ref a :: st) L M := fun H lo ls a1 a2 a3 a4 => va_slen C.1 C.2.1 hX ha.1 (Nat.not_le.mpr ha.2) a3 d (kk H lo ls a1 a2 a3 a4)
theorem g_aldX (C : Cx Z) {a n : Nat} {f : Nat → Int32} {i : Int32} (hX : va_X a n f (xs Z) (xs Z).heap) (ha : a < (xs Z).heap.size ∧ a < xb Z) (hi : vp_in i n) (d : decode (xcc Z) pc = .ok (.iaload, 1)) (kk : G Z Y (pc + 1) (.int (f i.toNatClampNeg) :: st) L M) : G Z Y pc (.int i :: .ref a :: st) L M := fun H lo ls a1 a2 a3 a4 => va_sld C.1 C.2.1 hX ha.1 (Nat.not_le.mpr ha.2) a3 hi d (kk H lo ls a1 a2 a3 a4)
end NEW
end
section
/-! PART 05: the machine's ints and longs as integers: 'w32', 'w64' wrap, 'in32', 'in64' say where they lie -/
def w32 (z : Int) : Int := z.bmod 4294967296
def w64 (z : Int) : Int := z.bmod 18446744073709551616
def w8 (z : Int) : Int := z.bmod 256
def in32 (z : Int) : Prop := -2147483648 ≤ z ∧ z < 2147483648
def in64 (z : Int) : Prop := -9223372036854775808 ≤ z ∧ z < 9223372036854775808
def i32 (z : Int) : Int32 := Int32.ofInt z
def i64 (z : Int) : Int64 := Int64.ofInt z
def bAnd (x y : Int) : Int := (i32 x &&& i32 y).toInt
def bOr (x y : Int) : Int := (i32 x ||| i32 y).toInt
def bXor (x y : Int) : Int := (i32 x ^^^ i32 y).toInt
def bShl (x y : Int) : Int := (i32 x <<< (i32 y &&& 31)).toInt
def bShr (x y : Int) : Int := (i32 x >>> (i32 y &&& 31)).toInt
def bUsh (x y : Int) : Int := ((i32 x).toUInt32 >>> ((i32 y).toUInt32 &&& Int32.toUInt32 31)).toInt32.toInt
def bAndL (x y : Int) : Int := (i64 x &&& i64 y).toInt
def bOrL (x y : Int) : Int := (i64 x ||| i64 y).toInt
def bShlL (x y : Int) : Int := (i64 x <<< ((i32 y).toInt64 &&& 63)).toInt
def bShrL (x y : Int) : Int := (i64 x >>> ((i32 y).toInt64 &&& 63)).toInt
def lcm3 (x y : Int) : Int := if x < y then -1 else if x = y then 0 else 1
theorem w32_of {z : Int} (h : in32 z) : w32 z = z := Int.bmod_eq_of_le (by have := h.1; omega) (by have := h.2; omega)
theorem w64_of {z : Int} (h : in64 z) : w64 z = z := Int.bmod_eq_of_le (by have := h.1; omega) (by have := h.2; omega)
theorem w8_of {z : Int} (h1 : -128 ≤ z) (h2 : z < 128) : w8 z = z := Int.bmod_eq_of_le (by omega) (by omega)
theorem in_w32 (z : Int) : in32 (w32 z) := by
  have h1 := Int.le_bmod (x := z) (m := 4294967296) (by decide)
  have h2 := Int.bmod_lt (x := z) (m := 4294967296) (by decide)
  constructor
  · show -2147483648 ≤ z.bmod 4294967296
    omega
  · show z.bmod 4294967296 < 2147483648
    omega
theorem in_w64 (z : Int) : in64 (w64 z) := by
  have h1 := Int.le_bmod (x := z) (m := 18446744073709551616) (by decide)
  have h2 := Int.bmod_lt (x := z) (m := 18446744073709551616) (by decide)
  constructor
  · show -9223372036854775808 ≤ z.bmod 18446744073709551616
    omega
  · show z.bmod 18446744073709551616 < 9223372036854775808
    omega
theorem in_w8 (z : Int) : in32 (w8 z) := by
  have h1 := Int.le_bmod (x := z) (m := 256) (by decide)
  have h2 := Int.bmod_lt (x := z) (m := 256) (by decide)
  constructor
  · show -2147483648 ≤ z.bmod 256
    omega
  · show z.bmod 256 < 2147483648
    omega
theorem in_t32 (x : Int32) : in32 x.toInt := ⟨x.le_toInt, x.toInt_lt⟩
theorem in_t64 (x : Int64) : in64 x.toInt := ⟨x.le_toInt, x.toInt_lt⟩
theorem t_i32 (z : Int) : (i32 z).toInt = w32 z := Int32.toInt_ofInt
theorem t_i64 (z : Int) : (i64 z).toInt = w64 z := Int64.toInt_ofInt
theorem t_i32' {z : Int} (h : in32 z) : (i32 z).toInt = z := (t_i32 z).trans (w32_of h)
theorem t_i64' {z : Int} (h : in64 z) : (i64 z).toInt = z := (t_i64 z).trans (w64_of h)
theorem i32_t (x : Int32) : i32 x.toInt = x := Int32.ofInt_toInt x
theorem i64_t (x : Int64) : i64 x.toInt = x := Int64.ofInt_toInt x
theorem i32_w (z : Int) : i32 (w32 z) = i32 z := Int32.toInt.inj (by rw [t_i32, t_i32, w32_of (in_w32 z)])
theorem i64_w (z : Int) : i64 (w64 z) = i64 z := Int64.toInt.inj (by rw [t_i64, t_i64, w64_of (in_w64 z)])
theorem i32_add (x y : Int) : i32 (w32 (x + y)) = i32 x + i32 y := Int32.toInt.inj (by
  rw [i32_w, Int32.toInt_add, t_i32, t_i32, t_i32]
  simp [w32, Int.add_bmod_bmod, Int.bmod_add_bmod])
theorem i32_sub (x y : Int) : i32 (w32 (x - y)) = i32 x - i32 y := Int32.toInt.inj (by
  rw [i32_w, Int32.toInt_sub, t_i32, t_i32, t_i32]
  simp [w32, Int.sub_bmod_bmod, Int.bmod_sub_bmod])
theorem i32_mul (x y : Int) : i32 (w32 (x * y)) = i32 x * i32 y := Int32.toInt.inj (by
  rw [i32_w, Int32.toInt_mul, t_i32, t_i32, t_i32]
  simp [w32, Int.mul_bmod_bmod, Int.bmod_mul_bmod])
theorem i32_neg (x : Int) : i32 (w32 (-x)) = -i32 x := Int32.toInt.inj (by
  rw [i32_w, Int32.toInt_neg, t_i32, t_i32]
  simp [w32])
theorem i64_add (x y : Int) : i64 (w64 (x + y)) = i64 x + i64 y := Int64.toInt.inj (by
  rw [i64_w, Int64.toInt_add, t_i64, t_i64, t_i64]
  simp [w64, Int.add_bmod_bmod, Int.bmod_add_bmod])
theorem i64_sub (x y : Int) : i64 (w64 (x - y)) = i64 x - i64 y := Int64.toInt.inj (by
  rw [i64_w, Int64.toInt_sub, t_i64, t_i64, t_i64]
  simp [w64, Int.sub_bmod_bmod, Int.bmod_sub_bmod])
theorem i64_mul (x y : Int) : i64 (w64 (x * y)) = i64 x * i64 y := Int64.toInt.inj (by
  rw [i64_w, Int64.toInt_mul, t_i64, t_i64, t_i64]
  simp [w64, Int.mul_bmod_bmod, Int.bmod_mul_bmod])
theorem i32_div {x y : Int} (hx : in32 x) (hy : in32 y) : i32 (w32 (x.tdiv y)) = i32 x / i32 y := Int32.toInt.inj (by
  rw [i32_w, Int32.toInt_div, t_i32, t_i32' hx, t_i32' hy]
  rfl)
theorem i64_div {x y : Int} (hx : in64 x) (hy : in64 y) : i64 (w64 (x.tdiv y)) = i64 x / i64 y := Int64.toInt.inj (by
  rw [i64_w, Int64.toInt_div, t_i64, t_i64' hx, t_i64' hy]
  rfl)
theorem tm_abs (x y : Int) : (x.tmod y).natAbs ≤ x.natAbs := by
  rw [Int.natAbs_tmod]
  exact Nat.mod_le _ _
theorem in32_tmod {x : Int} (y : Int) (hx : in32 x) : in32 (x.tmod y) := by
  have h1 := tm_abs x y
  by_cases h0 : 0 ≤ x
  · have h2 := Int.tmod_nonneg y h0
    obtain ⟨a, b⟩ := hx
    constructor <;> omega
  · have h2 : x.tmod y ≤ 0 := by
      have := Int.tmod_nonneg y (a := -x) (by omega)
      rw [Int.neg_tmod] at this
      omega
    obtain ⟨a, b⟩ := hx
    constructor <;> omega
theorem in64_tmod {x : Int} (y : Int) (hx : in64 x) : in64 (x.tmod y) := by
  have h1 := tm_abs x y
  by_cases h0 : 0 ≤ x
  · have h2 := Int.tmod_nonneg y h0
    obtain ⟨a, b⟩ := hx
    constructor <;> omega
  · have h2 : x.tmod y ≤ 0 := by
      have := Int.tmod_nonneg y (a := -x) (by omega)
      rw [Int.neg_tmod] at this
      omega
    obtain ⟨a, b⟩ := hx
    constructor <;> omega
theorem i32_rem {x y : Int} (hx : in32 x) (hy : in32 y) : i32 (x.tmod y) = i32 x - i32 x / i32 y * i32 y := by
  rw [← i32_div hx hy, ← i32_mul, ← i32_sub]
  refine Int32.toInt.inj ?_
  rw [t_i32, t_i32, w32_of (in_w32 _), w32_of (in32_tmod y hx)]
  have h : w32 (x - w32 (w32 (x.tdiv y) * y)) = w32 (x - x.tdiv y * y) := by
    simp [w32, Int.sub_bmod_bmod, Int.bmod_mul_bmod]
  rw [h, show x - x.tdiv y * y = x.tmod y by have := Int.tmod_add_mul_tdiv x y; rw [Int.mul_comm] at this; omega, w32_of (in32_tmod y hx)]
theorem i64_rem {x y : Int} (hx : in64 x) (hy : in64 y) : i64 (x.tmod y) = i64 x - i64 x / i64 y * i64 y := by
  rw [← i64_div hx hy, ← i64_mul, ← i64_sub]
  refine Int64.toInt.inj ?_
  rw [t_i64, t_i64, w64_of (in_w64 _), w64_of (in64_tmod y hx)]
  have h : w64 (x - w64 (w64 (x.tdiv y) * y)) = w64 (x - x.tdiv y * y) := by
    simp [w64, Int.sub_bmod_bmod, Int.bmod_mul_bmod]
  rw [h, show x - x.tdiv y * y = x.tmod y by have := Int.tmod_add_mul_tdiv x y; rw [Int.mul_comm] at this; omega, w64_of (in64_tmod y hx)]
theorem i32_l2i {x : Int} (hx : in64 x) : i32 (w32 x) = (i64 x).toInt32 := Int32.toInt.inj (by
  rw [i32_w, t_i32, Int64.toInt_toInt32, t_i64' hx]
  rfl)
theorem i64_i2l {x : Int} (hx : in32 x) : i64 x = (i32 x).toInt64 := Int64.toInt.inj (by
  rw [Int32.toInt_toInt64, t_i32' hx, t_i64' ⟨by have := hx.1; omega, by have := hx.2; omega⟩])
theorem i32_i2b {x : Int} (hx : in32 x) : i32 (w8 x) = (i32 x).toInt8.toInt32 := Int32.toInt.inj (by
  rw [Int8.toInt_toInt32, Int32.toInt_toInt8, t_i32' hx, t_i32' (in_w8 x)]
  rfl)
theorem in64_32 {x : Int} (h : in32 x) : in64 x := ⟨by have := h.1; omega, by have := h.2; omega⟩
theorem eq_i32 {x y : Int} (hx : in32 x) (hy : in32 y) : i32 x = i32 y ↔ x = y := ⟨fun h => by have := congrArg Int32.toInt h; rwa [t_i32' hx, t_i32' hy] at this, fun h => by rw [h]⟩
theorem lt_i32 {x y : Int} (hx : in32 x) (hy : in32 y) : i32 x < i32 y ↔ x < y := by rw [Int32.lt_iff_toInt_lt, t_i32' hx, t_i32' hy]
theorem le_i32 {x y : Int} (hx : in32 x) (hy : in32 y) : i32 x ≤ i32 y ↔ x ≤ y := by rw [Int32.le_iff_toInt_le, t_i32' hx, t_i32' hy]
theorem eq_i64 {x y : Int} (hx : in64 x) (hy : in64 y) : i64 x = i64 y ↔ x = y := ⟨fun h => by have := congrArg Int64.toInt h; rwa [t_i64' hx, t_i64' hy] at this, fun h => by rw [h]⟩
theorem lt_i64 {x y : Int} (hx : in64 x) (hy : in64 y) : i64 x < i64 y ↔ x < y := by rw [Int64.lt_iff_toInt_lt, t_i64' hx, t_i64' hy]
theorem ne0_i32 {y : Int} (hy : in32 y) (h : y ≠ 0) : ¬ i32 y = 0 := fun q => h ((eq_i32 hy ⟨by decide, by decide⟩).mp (q.trans (by decide)))
theorem ne0_i64 {y : Int} (hy : in64 y) (h : y ≠ 0) : ¬ i64 y = 0 := fun q => h ((eq_i64 hy ⟨by decide, by decide⟩).mp (q.trans (by decide)))
theorem nat_i32 {x : Int} (hx : in32 x) : (i32 x).toNatClampNeg = x.toNat := by rw [← Int32.toNat_toInt, t_i32' hx]
theorem vp_i32 {x : Int} {n : Nat} (hx : in32 x) (h0 : 0 ≤ x) (h1 : x < n) : vp_in (i32 x) n := by
  unfold vp_in
  rw [nat_i32 hx]
  intro q
  rcases q with q | q
  · rw [show (0 : Int32) = i32 0 by decide, lt_i32 hx ⟨by decide, by decide⟩] at q
    omega
  · omega
theorem cmp_i64 {x y : Int} (hx : in64 x) (hy : in64 y) : lg_cmp (i64 x) (i64 y) = i32 (lcm3 x y) := by
  unfold lg_cmp lcm3
  simp only [gt_iff_lt, lt_i64 hy hx, eq_i64 hx hy]
  by_cases h : x < y
  · rw [if_neg (by omega), if_neg (by omega), if_pos h]
    decide
  · by_cases h2 : x = y
    · rw [if_neg (by omega), if_pos h2, if_neg h, if_pos h2]
      decide
    · rw [if_pos (by omega), if_neg h, if_neg h2]
      decide
theorem in_lcm3 (x y : Int) : in32 (lcm3 x y) := by
  unfold lcm3
  split
  · exact ⟨by decide, by decide⟩
  · split <;> exact ⟨by decide, by decide⟩
end
section
/-! PART 06: a small machine of our own: methods as lists of instructions by number, cells as integers; 'exec' runs them -/
abbrev Vv : Type := Int ⊕ (Int ⊕ (Nat ⊕ Nat))
abbrev vi (x : Int) : Vv := Sum.inl x
abbrev vl (x : Int) : Vv := Sum.inr (Sum.inl x)
abbrev vr (k : Nat) : Vv := Sum.inr (Sum.inr (Sum.inl k))
abbrev vx (k : Nat) : Vv := Sum.inr (Sum.inr (Sum.inr k))
abbrev MM : Type := Nat → Nat → Int
abbrev YY : Type := List (Nat × Nat)
abbrev LL : Type := List (Option Vv)
/-- an instruction: op, a, b, c, number, table, form, index, places of words -/
abbrev MI : Type := Nat × Nat × Nat × Nat × Int × List (Int × Nat) × Nat × Nat × List Nat
def stM (M : MM) (k j : Nat) (v : Int) : MM := fun k' j' => if k' = k ∧ j' = j then v else M k' j'
def zrM (M : MM) (k : Nat) : MM := fun k' j' => if k' = k then 0 else M k' j'
def muM (M : MM) (k n : Nat) : MM := fun k' j => if k' = k then (if j < n then ((k + 2 + j : Nat) : Int) else 0) else if k < k' ∧ k' ≤ k + n then 0 else M k' j
def kd (Y : YY) (k : Nat) : Nat := match Y[k]? with
  | some p => p.1
  | none => 99
def ln (Y : YY) (k : Nat) : Int := match Y[k]? with
  | some p => (p.2 : Int)
  | none => 0
def xar (sc : List Int) (k : Nat) : List Int := match k with
  | 0 => [0, 1, 0, -1, 0]
  | 1 => [1, 0, -1, 0, 0]
  | _ => sc
def rfO (f : Nat) (z : Int) : Nat := match f with
  | t + 1 => t
  | 0 => z.toNat - 1
def rfK (f : Nat) (z : Int) : Bool := match f with
  | _ + 1 => true
  | 0 => decide (0 < z)
def bin (a : Nat) (x y : Int) : Int := match a with
  | 0 => w32 (x + y)
  | 1 => w32 (x - y)
  | 2 => w32 (x * y)
  | 3 => bAnd x y
  | 4 => bOr x y
  | 5 => bXor x y
  | 6 => bShl x y
  | 7 => bShr x y
  | 8 => bUsh x y
  | 9 => w32 (x.tdiv y)
  | _ => x.tmod y
def mAbs (x : Int) : Int := if 0 ≤ x then x else w32 (0 - x)
def mMax (x y : Int) : Int := if x < y then y else x
def mMin (x y : Int) : Int := if y < x then y else x
def mMM (a : Nat) (x y : Int) : Int := match a with
  | 1 => mMax x y
  | _ => mMin x y
def bok (a : Nat) (y : Int) : Bool := match a with
  | 9 => decide (y ≠ 0)
  | 10 => decide (y ≠ 0)
  | _ => true
def lbn (a : Nat) (x y : Int) : Int := match a with
  | 0 => w64 (x + y)
  | 1 => w64 (x - y)
  | 2 => w64 (x * y)
  | 3 => bAndL x y
  | 4 => bOrL x y
  | 5 => w64 (x.tdiv y)
  | _ => x.tmod y
def lok (a : Nat) (y : Int) : Bool := match a with
  | 5 => decide (y ≠ 0)
  | 6 => decide (y ≠ 0)
  | _ => true
def cmpB (b : Nat) (x y : Int) : Bool := match b with
  | 0 => decide (x = y)
  | 1 => decide (x ≠ y)
  | 2 => decide (x < y)
  | 3 => decide (y ≤ x)
  | 4 => decide (y < x)
  | _ => decide (x ≤ y)
def swt (tab : List (Int × Nat)) (t : Nat) (x : Int) : Nat := match tab with
  | [] => t
  | p :: ps => if x = p.1 then p.2 else swt ps t x
def isLv (v : Vv) : Bool := match v with
  | .inr (.inl _) => true
  | _ => false
def isXv (v : Vv) : Bool := match v with
  | .inr (.inr (.inr _)) => true
  | _ => false
def ctV (v : Vv) : Nat := match isLv v with
  | true => 2
  | false => 1
def catV (st : List Vv) : Nat := (st.map ctV).sum
def okSt (L : LL) (i : Nat) : Bool := match i with
  | 0 => true
  | j + 1 => match L[j]? with
    | some (some (.inr (.inl _))) => false
    | _ => true
def argLL (as : List Vv) : LL := as.flatMap fun v => match isLv v with
  | true => [some v, none]
  | false => [some v]
def entLL (nL : Nat) (as : List Vv) : LL := argLL as ++ List.replicate (nL - catV as) none
def psh (c : Nat) (r : Vv) (st : List Vv) : List Vv := match c with
  | 0 => st
  | _ => r :: st
def bl2 (c : Nat) (x : Int) : Bool := match c with
  | 0 => true
  | _ => decide (x = 0) || decide (x = 1)
/-- what an instruction does: next (if the guard holds), branch, switch, call, return, new cells, goto -/
abbrev Act : Type := (Bool × List Vv × LL × MM) ⊕ ((Bool × Nat × List Vv) ⊕ ((Int × List (Int × Nat) × Nat × List Vv) ⊕ ((Bool × Nat × List Vv × Nat × List Vv) ⊕ ((Bool × Vv) ⊕ ((List Vv × YY × MM) ⊕ (Nat × List Vv))))))
abbrev aN (c : Bool) (st : List Vv) (L : LL) (M : MM) : Option Act := some (.inl (c, st, L, M))
abbrev aB (c : Bool) (t : Nat) (st : List Vv) : Option Act := some (.inr (.inl (c, t, st)))
abbrev aS (x : Int) (tab : List (Int × Nat)) (t : Nat) (st : List Vv) : Option Act := some (.inr (.inr (.inl (x, tab, t, st))))
abbrev aC (g : Bool) (m : Nat) (as : List Vv) (c : Nat) (st : List Vv) : Option Act := some (.inr (.inr (.inr (.inl (g, m, as, c, st)))))
abbrev aR (c : Bool) (v : Vv) : Option Act := some (.inr (.inr (.inr (.inr (.inl (c, v))))))
abbrev aA (st : List Vv) (Y : YY) (M : MM) : Option Act := some (.inr (.inr (.inr (.inr (.inr (.inl (st, Y, M)))))))
abbrev aG (t : Nat) (st : List Vv) : Option Act := some (.inr (.inr (.inr (.inr (.inr (.inr (t, st)))))))
def rcv (sub ci : Nat) (Y : YY) (as : List Vv) : Bool := match sub with
  | 2 => match as with
    | .inr (.inr (.inl k)) :: _ => kd Y k == 10 + ci
    | _ => false
  | 3 => match as with
    | .inr (.inr (.inl _)) :: _ => true
    | _ => false
  | 4 => match as with
    | .inr (.inr (.inl _)) :: _ => true
    | _ => false
  | _ => true
def stp (F : Nat → Nat → Nat) (X : Nat → List Int) (Y : YY) (M : MM) (L : LL) (st : List Vv) (mi : MI) : Option Act := match mi with
  | (op, a, b, c, v, tab, sub, _, pl) => match op with
    | 0 => aN true (vi v :: st) L M
    | 1 => aN true (vl v :: st) L M
    | 2 => match L[a]? with
      | some (some (.inl x)) => aN true (vi x :: st) L M
      | _ => none
    | 3 => match L[a]? with
      | some (some (.inr (.inl x))) => aN true (vl x :: st) L M
      | _ => none
    | 4 => match L[a]? with
      | some (some (.inr (.inr (.inl k)))) => aN true (vr k :: st) L M
      | _ => none
    | 5 => match st with
      | .inl x :: st' => aN (okSt L a && Nat.blt a L.length) st' (L.set a (some (vi x))) M
      | _ => none
    | 6 => match st with
      | .inr (.inl x) :: st' => aN (okSt L a && Nat.blt (a + 1) L.length) st' ((L.set a (some (vl x))).set (a + 1) none) M
      | _ => none
    | 7 => match st with
      | .inr (.inr (.inl k)) :: st' => aN (okSt L a && Nat.blt a L.length) st' (L.set a (some (vr k))) M
      | _ => none
    | 8 => match L[a]? with
      | some (some (.inl x)) => aN (okSt L a) st (L.set a (some (vi (w32 (x + v))))) M
      | _ => none
    | 9 => match st with
      | .inl y :: .inl x :: st' => aN (bok a y) (vi (bin a x y) :: st') L M
      | _ => none
    | 10 => match st with
      | .inl x :: st' => match a with
        | 0 => aN true (vi (w32 (-x)) :: st') L M
        | _ => aN true (vi (w8 x) :: st') L M
      | _ => none
    | 11 => match st with
      | .inr (.inl y) :: .inr (.inl x) :: st' => aN (lok a y) (vl (lbn a x y) :: st') L M
      | _ => none
    | 12 => match a with
      | 0 => match st with
        | .inl x :: st' => aN true (vl x :: st') L M
        | _ => none
      | _ => match st with
        | .inr (.inl x) :: st' => aN true (vi (w32 x) :: st') L M
        | _ => none
    | 13 => match st with
      | .inl y :: .inr (.inl x) :: st' => match a with
        | 0 => aN true (vl (bShlL x y) :: st') L M
        | _ => aN true (vl (bShrL x y) :: st') L M
      | _ => none
    | 14 => match st with
      | .inr (.inl y) :: .inr (.inl x) :: st' => aN true (vi (lcm3 x y) :: st') L M
      | _ => none
    | 15 => aG a st
    | 16 => match st with
      | .inl x :: st' => aB (cmpB b x 0) a st'
      | _ => none
    | 17 => match st with
      | .inl y :: .inl x :: st' => aB (cmpB b x y) a st'
      | _ => none
    | 18 => match st with
      | .inl x :: st' => aS x tab a st'
      | _ => none
    | 19 => match st with
      | .inr (.inr (.inl k)) :: st' => aN (kd Y k == 10 + a) (vi (M k b) :: st') L M
      | _ => none
    | 20 => match st with
      | .inr (.inr (.inl k)) :: st' => aN ((kd Y k == 10 + a) && rfK (F k b) (M k b)) (vr (rfO (F k b) (M k b)) :: st') L M
      | _ => none
    | 21 => match st with
      | .inl x :: .inr (.inr (.inl k)) :: st' => aN ((kd Y k == 10 + a) && bl2 c x) st' L (stM M k b x)
      | _ => none
    | 22 => match st with
      | .inr (.inr (.inl t)) :: .inr (.inr (.inl k)) :: st' => aN ((kd Y k == 10 + a) && (F k b == 0)) st' L (stM M k b ((t : Int) + 1))
      | _ => none
    | 23 => match st with
      | .inl x :: .inr (.inr (.inl k)) :: st' => aN ((kd Y k == 10 + a) && bl2 c x) st' L (stM M k b x)
      | _ => none
    | 24 => match st with
      | .inr (.inr (.inl t)) :: .inr (.inr (.inl k)) :: st' => aN ((kd Y k == 10 + a) && (F k b == 0)) st' L (stM M k b ((t : Int) + 1))
      | _ => none
    | 25 => match st with
      | .inl x :: .inr (.inr (.inl k)) :: st' => match a with
        | 3 => aN ((kd Y k == a) && (decide (0 ≤ x) && decide (x < ln Y k))) (vl (M k x.toNat) :: st') L M
        | 4 => aN ((kd Y k == a) && (decide (0 ≤ x) && (decide (x < ln Y k) && rfK (F k x.toNat) (M k x.toNat)))) (vr (rfO (F k x.toNat) (M k x.toNat)) :: st') L M
        | _ => aN ((kd Y k == a) && (decide (0 ≤ x) && decide (x < ln Y k))) (vi (M k x.toNat) :: st') L M
      | .inl x :: .inr (.inr (.inr k)) :: st' => match a with
        | 0 => aN (decide (0 ≤ x) && decide (x < ((X k).length : Int))) (vi ((X k).getD x.toNat 0) :: st') L M
        | _ => none
      | _ => none
    | 26 => match a with
      | 3 => match st with
        | .inr (.inl z) :: .inl x :: .inr (.inr (.inl k)) :: st' => aN ((kd Y k == a) && (decide (0 ≤ x) && decide (x < ln Y k))) st' L (stM M k x.toNat z)
        | _ => none
      | 0 => match st with
        | .inl z :: .inl x :: .inr (.inr (.inl k)) :: st' => aN ((kd Y k == a) && (decide (0 ≤ x) && decide (x < ln Y k))) st' L (stM M k x.toNat z)
        | _ => none
      | 1 => match st with
        | .inl z :: .inl x :: .inr (.inr (.inl k)) :: st' => aN ((kd Y k == a) && (decide (0 ≤ x) && decide (x < ln Y k))) st' L (stM M k x.toNat (w8 z))
        | _ => none
      | 2 => match st with
        | .inl z :: .inl x :: .inr (.inr (.inl k)) :: st' => aN ((kd Y k == a) && (decide (0 ≤ x) && (decide (x < ln Y k) && bl2 1 z))) st' L (stM M k x.toNat z)
        | _ => none
      | _ => none
    | 27 => match a with
      | 0 => aN true (vx 0 :: st) L M
      | 1 => aN true (vx 1 :: st) L M
      | _ => none
    | 28 => aN true (vx 2 :: st) L M
    | 29 => match st with
      | .inr (.inr (.inr 2)) :: st' => aN true (vi ((X 2).length : Int) :: st') L M
      | _ => none
    | 30 => match (st.take b).all (fun v => !isXv v) && (Nat.ble (catV (st.drop b)) 8 && (st.take b).length == b) with
      | true => aC (rcv sub (pl.getD 3 0) Y (st.take b).reverse) a (st.take b).reverse c (st.drop b)
      | false => none
    | 31 => match a with
      | 0 => match st with
        | [] => aR true (vi 0)
        | _ => none
      | 1 => match st with
        | [.inl x] => aR (bl2 c x) (vi x)
        | _ => none
      | _ => match st with
        | [.inr (.inl x)] => aR true (vl x)
        | _ => none
    | 32 => match st with
      | .inr (.inr (.inl k)) :: st' => aN true (vr k :: vr k :: st') L M
      | _ => none
    | 33 => match st with
      | .inl x :: .inr (.inr (.inl k)) :: st' => aN true (vi x :: vr k :: vi x :: vr k :: st') L M
      | _ => none
    | 34 => match a with
      | 0 => match st with
        | .inl _ :: st' => aN true st' L M
        | _ => none
      | _ => match st with
        | .inr (.inl _) :: st' => aN true st' L M
        | _ => none
    | 35 => aA (vr Y.length :: st) (Y ++ [(10 + a, 0)]) (zrM M Y.length)
    | 36 => match st with
      | .inl x :: st' => match decide (0 ≤ x) && decide (x < 200000) with
        | true => aA (vr Y.length :: st') (Y ++ [(a, x.toNat)]) (zrM M Y.length)
        | false => none
      | _ => none
    | 37 => match st with
      | .inl y :: .inl x :: st' => match decide (0 ≤ x) && (decide (x < 200000) && (decide (0 ≤ y) && decide (y < 200000))) with
        | true => aA (vr Y.length :: st') (Y ++ ((4, x.toNat) :: List.replicate x.toNat (0, y.toNat))) (muM M Y.length x.toNat)
        | false => none
      | _ => none
    | 38 => match st with
      | .inr (.inr (.inl _)) :: st' => match Nat.ble (catV st') 8 with
        | true => aN true st' L M
        | false => none
      | _ => none
    | 39 => match a with
      | 0 => match st with
        | .inl x :: st' => match Nat.ble (catV st') 8 with
          | true => aN true (vi (mAbs x) :: st') L M
          | false => none
        | _ => none
      | _ => match st with
        | .inl y :: .inl x :: st' => match Nat.ble (catV st') 8 with
          | true => aN true (vi (mMM a x y) :: st') L M
          | false => none
        | _ => none
    | _ => none
def exec (P : Nat → Nat × List MI) (F : Nat → Nat → Nat) (X : Nat → List Int) : Nat → Nat → Nat → Nat → List Vv → LL → YY → MM → Option (Vv × YY × MM)
  | 0, _, _, _, _, _, _, _ => none
  | n + 1, d, m, i, st, L, Y, M => match (P m).2[i]? with
    | none => none
    | some mi => match stp F X Y M L st mi with
      | none => none
      | some (.inl (c, st', L', M')) => match c with
        | true => exec P F X n d m (i + 1) st' L' Y M'
        | false => none
      | some (.inr (.inl (c, t, st'))) => match c with
        | true => exec P F X n d m t st' L Y M
        | false => exec P F X n d m (i + 1) st' L Y M
      | some (.inr (.inr (.inl (x, tab, t, st')))) => exec P F X n d m (swt tab t x) st' L Y M
      | some (.inr (.inr (.inr (.inl (g, m', as, c, st'))))) => match d with
        | 0 => none
        | d' + 1 => match g && (Nat.ble (catV as) (P m').1 && Nat.ble 1 d') with
          | true => match exec P F X n d' m' 0 [] (entLL (P m').1 as) Y M with
            | none => none
            | some (r, Y1, M1) => exec P F X n (d' + 1) m (i + 1) (psh c r st') L Y1 M1
          | false => none
      | some (.inr (.inr (.inr (.inr (.inl (c, v)))))) => match c with
        | true => some (v, Y, M)
        | false => none
      | some (.inr (.inr (.inr (.inr (.inr (.inl (st', Y', M'))))))) => exec P F X n d m (i + 1) st' L Y' M'
      | some (.inr (.inr (.inr (.inr (.inr (.inr (t, st'))))))) => exec P F X n d m t st' L Y M
/-! more fuel, the same run -/
theorem exec_up (P : Nat → Nat × List MI) (F : Nat → Nat → Nat) (X : Nat → List Int) : ∀ (n d m i : Nat) (st : List Vv) (L : LL) (Y : YY) (M : MM) (o : Vv × YY × MM), exec P F X n d m i st L Y M = some o → exec P F X (n + 1) d m i st L Y M = some o := by
  intro n
  induction n with
  | zero => intro d m i st L Y M o h; cases h
  | succ n ih =>
    intro d m i st L Y M o h
    rw [exec] at h ⊢
    revert h
    cases (P m).2[i]? with
    | none => exact id
    | some mi =>
      dsimp only
      cases stp F X Y M L st mi with
      | none => exact id
      | some act =>
        rcases act with ⟨c, st', L', M'⟩ | ⟨c, t, st'⟩ | ⟨x, tab, t, st'⟩ | ⟨g, m', as, c, st'⟩ | ⟨c, v⟩ | ⟨st', Y', M'⟩ | ⟨t, st'⟩ <;> dsimp only
        · cases c
          · exact id
          · exact ih _ _ _ _ _ _ _ _
        · cases c <;> exact ih _ _ _ _ _ _ _ _
        · exact ih _ _ _ _ _ _ _ _
        · cases d with
          | zero => exact id
          | succ d =>
            dsimp only
            cases g && (Nat.ble (catV as) (P m').1 && Nat.ble 1 d) with
            | false => exact id
            | true =>
              dsimp only
              cases h1 : exec P F X n d m' 0 [] (entLL (P m').1 as) Y M with
              | none => intro h; cases h
              | some q =>
                rw [ih _ _ _ _ _ _ _ _ h1]
                exact ih _ _ _ _ _ _ _ _
        · exact id
        · exact ih _ _ _ _ _ _ _ _
        · exact ih _ _ _ _ _ _ _ _
theorem exec_add (P : Nat → Nat × List MI) (F : Nat → Nat → Nat) (X : Nat → List Int) {n d m i : Nat} {st : List Vv} {L : LL} {Y : YY} {M : MM} {o : Vv × YY × MM} (h : exec P F X n d m i st L Y M = some o) : ∀ k, exec P F X (n + k) d m i st L Y M = some o
  | 0 => h
  | k + 1 => exec_up P F X _ _ _ _ _ _ _ _ _ (exec_add P F X h k)
end
section
/-! PART 07: what is asked of a method's printed instructions against its bytes and the tables' words, by program; what stays as it runs -/
abbrev Rec : Type := MethodName × ByteArray × String × Nat × Option FieldType × List MI × List Nat × Nat × Nat
abbrev rY (R : Rec) : MethodName := R.1
abbrev rBy (R : Rec) : ByteArray := R.2.1
abbrev rOwn (R : Rec) : String := R.2.2.1
abbrev rNL (R : Rec) : Nat := R.2.2.2.1
abbrev rRet (R : Rec) : Option FieldType := R.2.2.2.2.1
abbrev rCode (R : Rec) : List MI := R.2.2.2.2.2.1
abbrev rPcs (R : Rec) : List Nat := R.2.2.2.2.2.2.1
abbrev rPc (R : Rec) : Nat := R.2.2.2.2.2.2.2.1
abbrev rPi (R : Rec) : Nat := R.2.2.2.2.2.2.2.2
def PP (RT : List Rec) (m : Nat) : Nat × List MI := match RT[m]? with
  | some R => (rNL R, rCode R)
  | none => (0, [])
def rpc (R : Rec) (i : Nat) : Nat := (rPcs R).getD i 0
def tyc (t : Nat) : FieldType := match t with
  | 0 => .int
  | 1 => .byte
  | 2 => .boolean
  | 3 => .long
  | _ => .array .int
def shm (p : Nat × Nat) : Sh := match Nat.blt p.1 10 with
  | true => .inr (tyc p.1, p.2)
  | false => .inl (p.1 - 10)
def R_law0 : String := "GhostQuarterLaw"
/-- the tables' words in their printed pieces: place = 1000 * piece + place in it; piece 0: those of the private methods -/
def lw_ch (k : Nat) : List Cond := match k with
  | 0 => k2_sels lw_privs
  | 1 => tables_1_1
  | 2 => tables_1_2
  | 3 => tables_1_3
  | 4 => tables_1_4
  | 5 => tables_1_5
  | 6 => tables_1_6
  | 7 => tables_1_7
  | _ => []
def ckw (p : Nat) (w : Cond) : Bool := decide ((lw_ch (p / 1000))[p % 1000]? = some w) && goodWord w
def ckn (p : Nat) (w : Cond) : Bool := decide ((lw_ch (p / 1000))[p % 1000]? = some w) && isNw w
theorem lw_ch_mem {k j : Nat} {w : Cond} (h : (lw_ch k)[j]? = some w) : w ∈ lw_tbl := by
  have h := List.mem_of_getElem? h
  unfold lw_tbl tables_1
  simp only [List.mem_append]
  unfold lw_ch at h
  split at h
  · exact Or.inl h
  · exact Or.inr (Or.inl h)
  · exact Or.inr (Or.inr (Or.inl h))
  · exact Or.inr (Or.inr (Or.inr (Or.inl h)))
  · exact Or.inr (Or.inr (Or.inr (Or.inr (Or.inl h))))
  · exact Or.inr (Or.inr (Or.inr (Or.inr (Or.inr (Or.inl h)))))
  · exact Or.inr (Or.inr (Or.inr (Or.inr (Or.inr (Or.inr (Or.inl h))))))
  · exact Or.inr (Or.inr (Or.inr (Or.inr (Or.inr (Or.inr (Or.inr (h)))))))
  · cases h
theorem ckw_g {p : Nat} {w : Cond} (h : ckw p w = true) : w ∈ lw_g := by
  unfold ckw at h
  rw [Bool.and_eq_true, decide_eq_true_eq] at h
  exact List.mem_filter.mpr ⟨lw_ch_mem h.1, h.2⟩
theorem ckn_n {p : Nat} {w : Cond} (h : ckn p w = true) : w ∈ lw_n := by
  unfold ckn at h
  rw [Bool.and_eq_true, decide_eq_true_eq] at h
  exact List.mem_filter.mpr ⟨lw_ch_mem h.1, h.2⟩
def dk (R : Rec) (i : Nat) (ins : Instr) (len : Nat) : Bool := decide (decode (rBy R) (rpc R i) = .ok (ins, len))
def nxk (R : Rec) (i len : Nat) : Bool := decide (rpc R (i + 1) = rpc R i + len)
def dn (R : Rec) (i : Nat) (ins : Instr) (len : Nat) : Bool := dk R i ins len && nxk R i len
theorem dk_d {R : Rec} {i : Nat} {ins : Instr} {len : Nat} (h : dk R i ins len = true) : decode (rBy R) (rpc R i) = .ok (ins, len) := of_decide_eq_true h
theorem dn_d {R : Rec} {i : Nat} {ins : Instr} {len : Nat} (h : dn R i ins len = true) : decode (rBy R) (rpc R i) = .ok (ins, len) ∧ rpc R (i + 1) = rpc R i + len := by
  unfold dn at h
  rw [Bool.and_eq_true] at h
  exact ⟨dk_d h.1, of_decide_eq_true h.2⟩
def in32b (v : Int) : Bool := decide (-2147483648 ≤ v) && decide (v < 2147483648)
def in64b (v : Int) : Bool := decide (-9223372036854775808 ≤ v) && decide (v < 9223372036854775808)
theorem in32b_d {v : Int} (h : in32b v = true) : in32 v := by
  unfold in32b at h
  rw [Bool.and_eq_true] at h
  exact ⟨of_decide_eq_true h.1, of_decide_eq_true h.2⟩
theorem in64b_d {v : Int} (h : in64b v = true) : in64 v := by
  unfold in64b at h
  rw [Bool.and_eq_true] at h
  exact ⟨of_decide_eq_true h.1, of_decide_eq_true h.2⟩
def st0k (R : Rec) (a : Nat) : Bool := decide (rOwn R ≠ R_law0) || decide (a ≠ 0)
def cnd (b : Nat) : Jvm.ClassFile.Cond := match b with
  | 0 => .eq
  | 1 => .ne
  | 2 => .lt
  | 3 => .ge
  | 4 => .gt
  | _ => .le
def aty (a : Nat) : ArrayType := match a with
  | 0 => .int
  | 1 => .byte
  | 2 => .boolean
  | _ => .long
def offR (R : Rec) (i a : Nat) : Int := (rpc R a : Int) - (rpc R i : Int)
def fldk (R : Rec) (idx p a b : Nat) (fin : Bool) (any : Bool) : Bool := match vwCl[a]? with
  | some q => decide (b < q.2.2) && (ckw p (.fieldLink (rOwn R) idx (q.2.1 b).1 (q.2.1 b).2.1 (q.2.1 b).2.2.1) && (any || ((q.2.1 b).2.2.2 == fin && (!fin || decide ((q.2.1 b).1 = rOwn R)))))
  | none => false
def rk (ret : Option FieldType) : Nat := match ret with
  | none => 0
  | some .long => 2
  | some t => if isIty t then 1 else 9
def npk (R : Rec) (b : Nat) : Bool := decide ((parseMethodDescriptor (rY R).desc).map (fun d => d.parameters.length) = some b)
def clk (R R' : Rec) (i b sub idx : Nat) (pl : List Nat) : Bool := match sub with
  | 0 => dk R i (.invokestatic idx) 3 && (npk R' b && (ckw (pl.getD 0 0) (.methodLink (rOwn R) idx (rY R')) && ckw (pl.getD 1 0) (.static (rY R'))))
  | 1 => dk R i (.invokestatic idx) 3 && (npk R' b && (ckn (pl.getD 0 0) (.methodLinkNest (rOwn R) idx (rY R') "GhostQuarter") && ckw (pl.getD 1 0) (.static (rY R'))))
  | 2 => dk R i (.invokevirtual idx) 3 && (npk R' (b - 1) && (decide (0 < b) && (ckw (pl.getD 0 0) (.methodLink (rOwn R) idx (rY R')) && (ckw (pl.getD 1 0) (.instanceMethod (rY R')) && (ckw (pl.getD 2 0) (.selects (rY R').cls (rY R') (rY R')) && (match vwCl[pl.getD 3 0]? with
    | some q => decide (q.1 = (rY R').cls)
    | none => false))))))
  | 3 => dk R i (.invokespecial idx) 3 && (npk R' (b - 1) && (decide (0 < b) && (ckw (pl.getD 0 0) (.methodLink (rOwn R) idx (rY R')) && (ckw (pl.getD 1 0) (.instanceMethod (rY R')) && (decide ((rY R').name = "<init>") && decide (rRet R' = none))))))
  | 4 => dk R i (.invokespecial idx) 3 && (npk R' (b - 1) && (decide (0 < b) && (ckn (pl.getD 0 0) (.methodLinkNest (rOwn R) idx (rY R') "GhostQuarter") && (ckw (pl.getD 1 0) (.instanceMethod (rY R')) && (decide ((rY R').name = "<init>") && decide (rRet R' = none))))))
  | _ => false
def okI (RT : List Rec) (R : Rec) (i : Nat) (mi : MI) : Bool := match mi with
  | (op, a, b, c, v, tab, sub, idx, pl) => match op with
    | 0 => in32b v && (match sub with
      | 0 => dn R i (.iconst v) 1
      | 1 => dn R i (.bipush v) 2 && decide ((Int8.ofInt v).toInt32 = i32 v)
      | 2 => dn R i (.sipush v) 3 && decide ((Int16.ofInt v).toInt32 = i32 v)
      | 3 => dn R i (.ldc idx) 2 && ckw (pl.getD 0 0) (.constant (rOwn R) idx (i32 v))
      | _ => dn R i (.ldc_w idx) 3 && ckw (pl.getD 0 0) (.constant (rOwn R) idx (i32 v)))
    | 1 => in64b v && (match sub with
      | 0 => dn R i (.lconst (Fin.ofNat 2 idx)) 1 && decide (Int64.ofNat ((Fin.ofNat 2 idx : Fin 2) : Nat) = i64 v)
      | _ => dn R i (.ldc2_w idx) 3 && ckw (pl.getD 0 0) (.constantLong (rOwn R) idx (i64 v)))
    | 2 => match sub with
      | 0 => decide (((Fin.ofNat 4 a : Fin 4) : Nat) = a) && dn R i (.iload_n (Fin.ofNat 4 a)) 1
      | _ => dn R i (.iload a) 2
    | 3 => match sub with
      | 0 => decide (((Fin.ofNat 4 a : Fin 4) : Nat) = a) && dn R i (.lload_n (Fin.ofNat 4 a)) 1
      | _ => dn R i (.lload a) 2
    | 4 => match sub with
      | 0 => decide (((Fin.ofNat 4 a : Fin 4) : Nat) = a) && dn R i (.aload_n (Fin.ofNat 4 a)) 1
      | _ => dn R i (.aload a) 2
    | 5 => st0k R a && (match sub with
      | 0 => decide (((Fin.ofNat 4 a : Fin 4) : Nat) = a) && dn R i (.istore_n (Fin.ofNat 4 a)) 1
      | _ => dn R i (.istore a) 2)
    | 6 => st0k R a && (match sub with
      | 0 => decide (((Fin.ofNat 4 a : Fin 4) : Nat) = a) && dn R i (.lstore_n (Fin.ofNat 4 a)) 1
      | _ => dn R i (.lstore a) 2)
    | 7 => st0k R a && (match sub with
      | 0 => decide (((Fin.ofNat 4 a : Fin 4) : Nat) = a) && dn R i (.astore_n (Fin.ofNat 4 a)) 1
      | _ => dn R i (.astore a) 2)
    | 8 => st0k R a && dn R i (.iinc a v) 3
    | 9 => match a with
      | 0 => dn R i .iadd 1
      | 1 => dn R i .isub 1
      | 2 => dn R i .imul 1
      | 3 => dn R i .iand 1
      | 4 => dn R i .ior 1
      | 5 => dn R i .ixor 1
      | 6 => dn R i .ishl 1
      | 7 => dn R i .ishr 1
      | 8 => dn R i .iushr 1
      | 9 => dn R i .idiv 1
      | 10 => dn R i .irem 1
      | _ => false
    | 10 => match a with
      | 0 => dn R i .ineg 1
      | _ => dn R i .i2b 1
    | 11 => match a with
      | 0 => dn R i .ladd 1
      | 1 => dn R i .lsub 1
      | 2 => dn R i .lmul 1
      | 3 => dn R i .land 1
      | 4 => dn R i .lor 1
      | 5 => dn R i .ldiv 1
      | 6 => dn R i .lrem 1
      | _ => false
    | 12 => match a with
      | 0 => dn R i .i2l 1
      | _ => dn R i .l2i 1
    | 13 => match a with
      | 0 => dn R i .lshl 1
      | _ => dn R i .lshr 1
    | 14 => dn R i .lcmp 1
    | 15 => dk R i (.goto (offR R i a)) 3
    | 16 => dn R i (.ifCond (cnd b) (offR R i a)) 3
    | 17 => dn R i (.if_icmp (cnd b) (offR R i a)) 3
    | 18 => match sub with
      | 0 => dk R i (.tableswitch (offR R i a) v (v + tab.length - 1) (tab.map fun p => offR R i p.2).toArray) idx && decide (tab.map (fun p => p.1) = (List.range tab.length).map (fun (j : Nat) => v + (j : Int)))
      | _ => dk R i (.lookupswitch (offR R i a) (tab.map fun p => (p.1, offR R i p.2)).toArray) idx && (((tab.map fun p => (p.1, offR R i p.2)).toArray.toList.zip ((tab.map fun p => (p.1, offR R i p.2)).toArray.toList.drop 1)).all (fun (a, next) => a.1 < next.1))
    | 19 => fldk R idx (pl.getD 0 0) a b false true && (isIty (tcl a b) && dn R i (.getfield idx) 3)
    | 20 => fldk R idx (pl.getD 0 0) a b false true && (isRty (tcl a b) && dn R i (.getfield idx) 3)
    | 21 => fldk R idx (pl.getD 0 0) a b false false && ((match c with
      | 0 => decide (tcl a b = .int)
      | _ => decide (tcl a b = .boolean)) && dn R i (.putfield idx) 3)
    | 22 => fldk R idx (pl.getD 0 0) a b false false && (isRty (tcl a b) && dn R i (.putfield idx) 3)
    | 23 => fldk R idx (pl.getD 0 0) a b true false && ((match c with
      | 0 => decide (tcl a b = .int)
      | _ => decide (tcl a b = .boolean)) && (decide ((rY R).name = "<init>") && dn R i (.putfield idx) 3))
    | 24 => fldk R idx (pl.getD 0 0) a b true false && (isRty (tcl a b) && (decide ((rY R).name = "<init>") && dn R i (.putfield idx) 3))
    | 25 => match a with
      | 0 => dn R i .iaload 1
      | 1 => dn R i .baload 1
      | 2 => dn R i .baload 1
      | 3 => dn R i .laload 1
      | 4 => dn R i .aaload 1
      | _ => false
    | 26 => match a with
      | 0 => dn R i .iastore 1
      | 1 => dn R i .bastore 1
      | 2 => dn R i .bastore 1
      | 3 => dn R i .lastore 1
      | _ => false
    | 27 => match a with
      | 0 => dn R i (.getstatic idx) 3 && ckn (pl.getD 0 0) (.fieldLinkNest (rOwn R) idx "GhostQuarter" "STEP_X" "[I" "GhostQuarter")
      | _ => dn R i (.getstatic idx) 3 && ckn (pl.getD 0 0) (.fieldLinkNest (rOwn R) idx "GhostQuarter" "STEP_Y" "[I" "GhostQuarter")
    | 28 => dn R i (.aload_n 0) 1 && decide (rOwn R = R_law0)
    | 29 => dn R i .arraylength 1
    | 30 => match RT[a]? with
      | some R' => decide (c = rk (rRet R') ∧ c < 3) && (decide (rOwn R' ≠ R_law0) && (clk R R' i b sub idx pl && nxk R i 3))
      | none => false
    | 31 => match a with
      | 0 => dk R i .return_ 1 && decide (rRet R = none)
      | 1 => dk R i .ireturn 1 && (match c with
        | 0 => decide (rRet R = some .int)
        | _ => decide (rRet R = some .boolean))
      | _ => dk R i .lreturn 1 && decide (rRet R = some .long)
    | 32 => dn R i .dup 1
    | 33 => dn R i .dup2 1
    | 34 => match a with
      | 0 => dn R i .pop 1
      | _ => dn R i .pop2 1
    | 35 => match vwCl[a]? with
      | some q => ckw (pl.getD 0 0) (.classLink (rOwn R) idx q.1) && (ckw (pl.getD 1 0) (.instantiable q.1 q.2.2) && (ckw (pl.getD 2 0) (.initialized q.1) && ((List.range q.2.2).all (fun j => isIty (tcl a j) || isRty (tcl a j)) && dn R i (.new idx) 3)))
      | none => false
    | 36 => decide (a < 4) && (ckw (pl.getD 0 0) (.arrayClass (tyc a)) && dn R i (.newarray (aty a)) 2)
    | 37 => ckw (pl.getD 0 0) (.classLink (rOwn R) idx ("[" ++ (FieldType.array .int).toString)) && (ckw (pl.getD 1 0) (.arrayClass .int) && dn R i (.multianewarray idx 2) 4)
    | 38 => ckw (pl.getD 0 0) (.methodLink (rOwn R) idx objectInit) && (ckw (pl.getD 1 0) (.instanceMethod objectInit) && (ckw (pl.getD 2 0) (.code objectInit ⟨#[0xb1]⟩ 1 none) && dn R i (.invokespecial idx) 3))
    | 39 => dn R i (.invokestatic idx) 3 && (ckw (pl.getD 1 0) (.initialized "java/lang/Math") && (match a with
      | 0 => ckw (pl.getD 0 0) (.methodLink (rOwn R) idx Lib.Math.abs.name) && (ckw (pl.getD 2 0) (.static Lib.Math.abs.name) && ckw (pl.getD 3 0) (.code Lib.Math.abs.name Lib.Math.abs.code 1 (some .int)))
      | 1 => ckw (pl.getD 0 0) (.methodLink (rOwn R) idx Lib.Math.max.name) && (ckw (pl.getD 2 0) (.static Lib.Math.max.name) && ckw (pl.getD 3 0) (.code Lib.Math.max.name Lib.Math.max.code 2 (some .int)))
      | 2 => ckw (pl.getD 0 0) (.methodLink (rOwn R) idx Lib.Math.min.name) && (ckw (pl.getD 2 0) (.static Lib.Math.min.name) && ckw (pl.getD 3 0) (.code Lib.Math.min.name Lib.Math.min.code 2 (some .int)))
      | _ => false))
    | _ => false
def okH (R : Rec) : Bool := ckw (rPc R) (.code (rY R) (rBy R) (rNL R) (rRet R)) && (ckw (rPi R) (.initialized (rY R).cls) && (decide ((rY R).cls ≠ "java/lang/invoke/MethodHandle") && (decide ((rY R).cls ≠ "java/lang/invoke/VarHandle") && (decide ((rY R).cls = rOwn R) && (plainName (rY R).cls && (decide (rNL R ≤ 13) && decide (rpc R 0 = 0)))))))
def okC (RT : List Rec) (R : Rec) : Bool := (rCode R).zipIdx.all (fun p => okI RT R p.2 p.1)
theorem okC_at {RT : List Rec} {R : Rec} (h : okC RT R = true) {i : Nat} {mi : MI} (hi : (rCode R)[i]? = some mi) : okI RT R i mi = true := by
  unfold okC at h
  rw [List.all_eq_true] at h
  exact h (mi, i) (List.mem_iff_getElem?.mpr ⟨i, by rw [List.getElem?_zipIdx, hi]; simp⟩)
/-! what stays -/
def okv (v : Vv) : Prop := match v with
  | .inl x => in32 x
  | .inr (.inl x) => in64 x
  | _ => True
def okLv (L : LL) : Prop := ∀ (i : Nat) (v : Vv), L[i]? = some (some v) → okv v ∧ isXv v = false
def Inv (F : Nat → Nat → Nat) (Y : YY) (M : MM) : Prop := (∀ (k : Nat) (p : Nat × Nat), Y[k]? = some p → ∀ j, (10 ≤ p.1 → isIty (tcl (p.1 - 10) j) = true → in32 (M k j)) ∧ (p.1 ≤ 2 → in32 (M k j)) ∧ (p.1 = 3 → in64 (M k j))) ∧ ∀ (k j t : Nat), F k j = t + 1 → M k j = (t : Int) + 1 ∧ ∃ p : Nat × Nat, Y[k]? = some p ∧ ((10 ≤ p.1 ∧ isRty (tcl (p.1 - 10) j) = true) ∨ p.1 = 4)
theorem kd_ge {Y : YY} {k c : Nat} (hc : c ≠ 99) (h : (kd Y k == c) = true) : ∃ n, Y[k]? = some (c, n) := by
  unfold kd at h
  cases hY : Y[k]? with
  | none => rw [hY] at h; simp at h; exact absurd h.symm hc
  | some p => rw [hY] at h; simp at h; exact ⟨p.2, by rw [← h]⟩
theorem ln_of {Y : YY} {k c n : Nat} (h : Y[k]? = some (c, n)) : ln Y k = (n : Int) := by
  unfold ln
  rw [h]
theorem iR_no {ty : FieldType} (h : isIty ty = true) : isRty ty = false := by
  cases ty <;> first | rfl | (simp [isIty] at h)
theorem in32_0 : in32 0 := ⟨by decide, by decide⟩
theorem in32_1 : in32 1 := ⟨by decide, by decide⟩
theorem in64_0 : in64 0 := ⟨by decide, by decide⟩
theorem stM_at (M : MM) (k j : Nat) (v : Int) (k' j' : Nat) : stM M k j v k' j' = if k' = k ∧ j' = j then v else M k' j' := rfl
/-- a store of an int (or long) into a place of that type -/
theorem Inv.st {F : Nat → Nat → Nat} {Y : YY} {M : MM} (h : Inv F Y M) {k j : Nat} {x : Int} {p : Nat × Nat} (hp : Y[k]? = some p) (hx : (p.1 = 3 → in64 x) ∧ (p.1 ≠ 3 → in32 x)) (hr : ¬ ((10 ≤ p.1 ∧ isRty (tcl (p.1 - 10) j) = true) ∨ p.1 = 4)) : Inv F Y (stM M k j x) := by
  refine ⟨fun k' p' hp' j' => ?_, fun k' j' t ht => ?_⟩
  · rw [stM_at]
    by_cases hk : k' = k ∧ j' = j
    · obtain ⟨rfl, rfl⟩ := hk
      have e := hp'.symm.trans hp
      cases e
      rw [if_pos ⟨rfl, rfl⟩]
      exact ⟨fun h1 _ => hx.2 (by omega), fun h1 => hx.2 (by omega), fun h1 => hx.1 h1⟩
    · rw [if_neg hk]
      exact h.1 k' p' hp' j'
  · obtain ⟨h1, p2, h2, h3⟩ := h.2 k' j' t ht
    refine ⟨?_, p2, h2, h3⟩
    rw [stM_at, if_neg, h1]
    rintro ⟨rfl, rfl⟩
    have e := h2.symm.trans hp
    cases e
    exact hr h3
/-- a store of a reference -/
theorem Inv.sr {F : Nat → Nat → Nat} {Y : YY} {M : MM} (h : Inv F Y M) {k j t : Nat} {p : Nat × Nat} (hp : Y[k]? = some p) (hr : 10 ≤ p.1 ∧ isRty (tcl (p.1 - 10) j) = true) (hF : F k j = 0) : Inv F Y (stM M k j ((t : Int) + 1)) := by
  refine ⟨fun k' p' hp' j' => ?_, fun k' j' t' ht => ?_⟩
  · rw [stM_at]
    by_cases hk : k' = k ∧ j' = j
    · obtain ⟨rfl, rfl⟩ := hk
      have e := hp'.symm.trans hp
      cases e
      refine ⟨fun h1 h2 => ?_, fun h1 => absurd hr.1 (by omega), fun h1 => absurd hr.1 (by omega)⟩
      rw [iR_no h2] at hr
      exact absurd hr.2 (by decide)
    · rw [if_neg hk]
      exact h.1 k' p' hp' j'
  · obtain ⟨h1, p2, h2, h3⟩ := h.2 k' j' t' ht
    refine ⟨?_, p2, h2, h3⟩
    rw [stM_at, if_neg, h1]
    rintro ⟨rfl, rfl⟩
    rw [hF] at ht
    cases ht
theorem get_app {Y Y2 : YY} {k : Nat} {p : Nat × Nat} (h : Y[k]? = some p) : (Y ++ Y2)[k]? = some p := by
  rw [List.getElem?_append_left (List.getElem?_eq_some_iff.mp h).1]
  exact h
theorem Inv.app {F : Nat → Nat → Nat} {Y Y2 : YY} {M M2 : MM} (h : Inv F Y M) (ho : ∀ k, k < Y.length → ∀ j, M2 k j = M k j) (h0 : ∀ (k : Nat) (p : Nat × Nat), Y2[k]? = some p → p.1 ≠ 4 → ∀ j, M2 (Y.length + k) j = 0) : Inv F (Y ++ Y2) M2 := by
  refine ⟨fun k p hp j => ?_, fun k j t ht => ?_⟩
  · by_cases hk : k < Y.length
    · rw [List.getElem?_append_left hk] at hp
      rw [ho k hk j]
      exact h.1 k p hp j
    · rw [List.getElem?_append_right (by omega)] at hp
      by_cases h4 : p.1 = 4
      · exact ⟨fun h1 => absurd h1 (by omega), fun h1 => absurd h1 (by omega), fun h1 => absurd h1 (by omega)⟩
      · have := h0 _ p hp h4 j
        rw [show Y.length + (k - Y.length) = k by omega] at this
        rw [this]
        exact ⟨fun _ _ => in32_0, fun _ => in32_0, fun _ => in64_0⟩
  · obtain ⟨h1, p, h2, h3⟩ := h.2 k j t ht
    exact ⟨by rw [ho k (List.getElem?_eq_some_iff.mp h2).1 j, h1], p, get_app h2, h3⟩
theorem okLv.set {L : LL} (h : okLv L) {i : Nat} {v : Vv} (hv : okv v) (hx : isXv v = false) : okLv (L.set i (some v)) := by
  intro j w hj
  by_cases hji : i = j
  · subst hji
    rw [List.getElem?_set] at hj
    by_cases hl : i < L.length
    · simp [hl] at hj
      subst hj
      exact ⟨hv, hx⟩
    · simp [hl] at hj
  · rw [List.getElem?_set_ne hji] at hj
    exact h j w hj
theorem okLv.no {L : LL} (h : okLv L) {i : Nat} : okLv (L.set i none) := by
  intro j w hj
  by_cases hji : i = j
  · subst hji
    rw [List.getElem?_set] at hj
    by_cases hl : i < L.length
    · simp [hl] at hj
    · simp [hl] at hj
  · rw [List.getElem?_set_ne hji] at hj
    exact h j w hj
theorem in_bin {a : Nat} {x y : Int} (hx : in32 x) (hy : in32 y) : in32 (bin a x y) := by
  unfold bin
  split
  · exact in_w32 _
  · exact in_w32 _
  · exact in_w32 _
  · exact in_t32 _
  · exact in_t32 _
  · exact in_t32 _
  · exact in_t32 _
  · exact in_t32 _
  · exact in_t32 _
  · exact in_w32 _
  · exact in32_tmod y hx
theorem in_lbn {a : Nat} {x y : Int} (hx : in64 x) (hy : in64 y) : in64 (lbn a x y) := by
  unfold lbn
  split
  · exact in_w64 _
  · exact in_w64 _
  · exact in_w64 _
  · exact in_t64 _
  · exact in_t64 _
  · exact in_w64 _
  · exact in64_tmod y hx
theorem bl2_d {c : Nat} {x : Int} (h : bl2 c x = true) : c = 0 ∨ x = 0 ∨ x = 1 := by
  unfold bl2 at h
  split at h
  · exact Or.inl rfl
  · rw [Bool.or_eq_true, decide_eq_true_eq, decide_eq_true_eq] at h
    exact Or.inr h
end
section
/-! PART 08: stp and okI, an op each-/
section EQS
variable {RT : List Rec} {R : Rec} {F : Nat → Nat → Nat} {X : Nat → List Int} {Y : YY} {M : MM} {L : LL} {st : List Vv} {i a b c sub idx : Nat} {v : Int} {tab : List (Int × Nat)} {pl : List Nat}
theorem st_0 : stp F X Y M L st (0, a, b, c, v, tab, sub, idx, pl) = (aN true (vi v :: st) L M) := rfl
theorem st_1 : stp F X Y M L st (1, a, b, c, v, tab, sub, idx, pl) = (aN true (vl v :: st) L M) := rfl
theorem st_2 : stp F X Y M L st (2, a, b, c, v, tab, sub, idx, pl) = (match L[a]? with
      | some (some (.inl x)) => aN true (vi x :: st) L M
      | _ => none) := rfl
theorem st_3 : stp F X Y M L st (3, a, b, c, v, tab, sub, idx, pl) = (match L[a]? with
      | some (some (.inr (.inl x))) => aN true (vl x :: st) L M
      | _ => none) := rfl
theorem st_4 : stp F X Y M L st (4, a, b, c, v, tab, sub, idx, pl) = (match L[a]? with
      | some (some (.inr (.inr (.inl k)))) => aN true (vr k :: st) L M
      | _ => none) := rfl
theorem st_5 : stp F X Y M L st (5, a, b, c, v, tab, sub, idx, pl) = (match st with
      | .inl x :: st' => aN (okSt L a && Nat.blt a L.length) st' (L.set a (some (vi x))) M
      | _ => none) := rfl
theorem st_6 : stp F X Y M L st (6, a, b, c, v, tab, sub, idx, pl) = (match st with
      | .inr (.inl x) :: st' => aN (okSt L a && Nat.blt (a + 1) L.length) st' ((L.set a (some (vl x))).set (a + 1) none) M
      | _ => none) := rfl
theorem st_7 : stp F X Y M L st (7, a, b, c, v, tab, sub, idx, pl) = (match st with
      | .inr (.inr (.inl k)) :: st' => aN (okSt L a && Nat.blt a L.length) st' (L.set a (some (vr k))) M
      | _ => none) := rfl
theorem st_8 : stp F X Y M L st (8, a, b, c, v, tab, sub, idx, pl) = (match L[a]? with
      | some (some (.inl x)) => aN (okSt L a) st (L.set a (some (vi (w32 (x + v))))) M
      | _ => none) := rfl
theorem st_9 : stp F X Y M L st (9, a, b, c, v, tab, sub, idx, pl) = (match st with
      | .inl y :: .inl x :: st' => aN (bok a y) (vi (bin a x y) :: st') L M
      | _ => none) := rfl
theorem st_10 : stp F X Y M L st (10, a, b, c, v, tab, sub, idx, pl) = (match st with
      | .inl x :: st' => match a with
        | 0 => aN true (vi (w32 (-x)) :: st') L M
        | _ => aN true (vi (w8 x) :: st') L M
      | _ => none) := rfl
theorem st_11 : stp F X Y M L st (11, a, b, c, v, tab, sub, idx, pl) = (match st with
      | .inr (.inl y) :: .inr (.inl x) :: st' => aN (lok a y) (vl (lbn a x y) :: st') L M
      | _ => none) := rfl
theorem st_12 : stp F X Y M L st (12, a, b, c, v, tab, sub, idx, pl) = (match a with
      | 0 => match st with
        | .inl x :: st' => aN true (vl x :: st') L M
        | _ => none
      | _ => match st with
        | .inr (.inl x) :: st' => aN true (vi (w32 x) :: st') L M
        | _ => none) := rfl
theorem st_13 : stp F X Y M L st (13, a, b, c, v, tab, sub, idx, pl) = (match st with
      | .inl y :: .inr (.inl x) :: st' => match a with
        | 0 => aN true (vl (bShlL x y) :: st') L M
        | _ => aN true (vl (bShrL x y) :: st') L M
      | _ => none) := rfl
theorem st_14 : stp F X Y M L st (14, a, b, c, v, tab, sub, idx, pl) = (match st with
      | .inr (.inl y) :: .inr (.inl x) :: st' => aN true (vi (lcm3 x y) :: st') L M
      | _ => none) := rfl
theorem st_15 : stp F X Y M L st (15, a, b, c, v, tab, sub, idx, pl) = (aG a st) := rfl
theorem st_16 : stp F X Y M L st (16, a, b, c, v, tab, sub, idx, pl) = (match st with
      | .inl x :: st' => aB (cmpB b x 0) a st'
      | _ => none) := rfl
theorem st_17 : stp F X Y M L st (17, a, b, c, v, tab, sub, idx, pl) = (match st with
      | .inl y :: .inl x :: st' => aB (cmpB b x y) a st'
      | _ => none) := rfl
theorem st_18 : stp F X Y M L st (18, a, b, c, v, tab, sub, idx, pl) = (match st with
      | .inl x :: st' => aS x tab a st'
      | _ => none) := rfl
theorem st_19 : stp F X Y M L st (19, a, b, c, v, tab, sub, idx, pl) = (match st with
      | .inr (.inr (.inl k)) :: st' => aN (kd Y k == 10 + a) (vi (M k b) :: st') L M
      | _ => none) := rfl
theorem st_20 : stp F X Y M L st (20, a, b, c, v, tab, sub, idx, pl) = (match st with
      | .inr (.inr (.inl k)) :: st' => aN ((kd Y k == 10 + a) && rfK (F k b) (M k b)) (vr (rfO (F k b) (M k b)) :: st') L M
      | _ => none) := rfl
theorem st_21 : stp F X Y M L st (21, a, b, c, v, tab, sub, idx, pl) = (match st with
      | .inl x :: .inr (.inr (.inl k)) :: st' => aN ((kd Y k == 10 + a) && bl2 c x) st' L (stM M k b x)
      | _ => none) := rfl
theorem st_22 : stp F X Y M L st (22, a, b, c, v, tab, sub, idx, pl) = (match st with
      | .inr (.inr (.inl t)) :: .inr (.inr (.inl k)) :: st' => aN ((kd Y k == 10 + a) && (F k b == 0)) st' L (stM M k b ((t : Int) + 1))
      | _ => none) := rfl
theorem st_23 : stp F X Y M L st (23, a, b, c, v, tab, sub, idx, pl) = (match st with
      | .inl x :: .inr (.inr (.inl k)) :: st' => aN ((kd Y k == 10 + a) && bl2 c x) st' L (stM M k b x)
      | _ => none) := rfl
theorem st_24 : stp F X Y M L st (24, a, b, c, v, tab, sub, idx, pl) = (match st with
      | .inr (.inr (.inl t)) :: .inr (.inr (.inl k)) :: st' => aN ((kd Y k == 10 + a) && (F k b == 0)) st' L (stM M k b ((t : Int) + 1))
      | _ => none) := rfl
theorem st_25 : stp F X Y M L st (25, a, b, c, v, tab, sub, idx, pl) = (match st with
      | .inl x :: .inr (.inr (.inl k)) :: st' => match a with
        | 3 => aN ((kd Y k == a) && (decide (0 ≤ x) && decide (x < ln Y k))) (vl (M k x.toNat) :: st') L M
        | 4 => aN ((kd Y k == a) && (decide (0 ≤ x) && (decide (x < ln Y k) && rfK (F k x.toNat) (M k x.toNat)))) (vr (rfO (F k x.toNat) (M k x.toNat)) :: st') L M
        | _ => aN ((kd Y k == a) && (decide (0 ≤ x) && decide (x < ln Y k))) (vi (M k x.toNat) :: st') L M
      | .inl x :: .inr (.inr (.inr k)) :: st' => match a with
        | 0 => aN (decide (0 ≤ x) && decide (x < ((X k).length : Int))) (vi ((X k).getD x.toNat 0) :: st') L M
        | _ => none
      | _ => none) := rfl
theorem st_26 : stp F X Y M L st (26, a, b, c, v, tab, sub, idx, pl) = (match a with
      | 3 => match st with
        | .inr (.inl z) :: .inl x :: .inr (.inr (.inl k)) :: st' => aN ((kd Y k == a) && (decide (0 ≤ x) && decide (x < ln Y k))) st' L (stM M k x.toNat z)
        | _ => none
      | 0 => match st with
        | .inl z :: .inl x :: .inr (.inr (.inl k)) :: st' => aN ((kd Y k == a) && (decide (0 ≤ x) && decide (x < ln Y k))) st' L (stM M k x.toNat z)
        | _ => none
      | 1 => match st with
        | .inl z :: .inl x :: .inr (.inr (.inl k)) :: st' => aN ((kd Y k == a) && (decide (0 ≤ x) && decide (x < ln Y k))) st' L (stM M k x.toNat (w8 z))
        | _ => none
      | 2 => match st with
        | .inl z :: .inl x :: .inr (.inr (.inl k)) :: st' => aN ((kd Y k == a) && (decide (0 ≤ x) && (decide (x < ln Y k) && bl2 1 z))) st' L (stM M k x.toNat z)
        | _ => none
      | _ => none) := rfl
theorem st_27 : stp F X Y M L st (27, a, b, c, v, tab, sub, idx, pl) = (match a with
      | 0 => aN true (vx 0 :: st) L M
      | 1 => aN true (vx 1 :: st) L M
      | _ => none) := rfl
theorem st_28 : stp F X Y M L st (28, a, b, c, v, tab, sub, idx, pl) = (aN true (vx 2 :: st) L M) := rfl
theorem st_29 : stp F X Y M L st (29, a, b, c, v, tab, sub, idx, pl) = (match st with
      | .inr (.inr (.inr 2)) :: st' => aN true (vi ((X 2).length : Int) :: st') L M
      | _ => none) := rfl
theorem st_30 : stp F X Y M L st (30, a, b, c, v, tab, sub, idx, pl) = (match (st.take b).all (fun v => !isXv v) && (Nat.ble (catV (st.drop b)) 8 && (st.take b).length == b) with
      | true => aC (rcv sub (pl.getD 3 0) Y (st.take b).reverse) a (st.take b).reverse c (st.drop b)
      | false => none) := rfl
theorem st_31 : stp F X Y M L st (31, a, b, c, v, tab, sub, idx, pl) = (match a with
      | 0 => match st with
        | [] => aR true (vi 0)
        | _ => none
      | 1 => match st with
        | [.inl x] => aR (bl2 c x) (vi x)
        | _ => none
      | _ => match st with
        | [.inr (.inl x)] => aR true (vl x)
        | _ => none) := rfl
theorem st_32 : stp F X Y M L st (32, a, b, c, v, tab, sub, idx, pl) = (match st with
      | .inr (.inr (.inl k)) :: st' => aN true (vr k :: vr k :: st') L M
      | _ => none) := rfl
theorem st_33 : stp F X Y M L st (33, a, b, c, v, tab, sub, idx, pl) = (match st with
      | .inl x :: .inr (.inr (.inl k)) :: st' => aN true (vi x :: vr k :: vi x :: vr k :: st') L M
      | _ => none) := rfl
theorem st_34 : stp F X Y M L st (34, a, b, c, v, tab, sub, idx, pl) = (match a with
      | 0 => match st with
        | .inl _ :: st' => aN true st' L M
        | _ => none
      | _ => match st with
        | .inr (.inl _) :: st' => aN true st' L M
        | _ => none) := rfl
theorem st_35 : stp F X Y M L st (35, a, b, c, v, tab, sub, idx, pl) = (aA (vr Y.length :: st) (Y ++ [(10 + a, 0)]) (zrM M Y.length)) := rfl
theorem st_36 : stp F X Y M L st (36, a, b, c, v, tab, sub, idx, pl) = (match st with
      | .inl x :: st' => match decide (0 ≤ x) && decide (x < 200000) with
        | true => aA (vr Y.length :: st') (Y ++ [(a, x.toNat)]) (zrM M Y.length)
        | false => none
      | _ => none) := rfl
theorem st_37 : stp F X Y M L st (37, a, b, c, v, tab, sub, idx, pl) = (match st with
      | .inl y :: .inl x :: st' => match decide (0 ≤ x) && (decide (x < 200000) && (decide (0 ≤ y) && decide (y < 200000))) with
        | true => aA (vr Y.length :: st') (Y ++ ((4, x.toNat) :: List.replicate x.toNat (0, y.toNat))) (muM M Y.length x.toNat)
        | false => none
      | _ => none) := rfl
theorem st_38 : stp F X Y M L st (38, a, b, c, v, tab, sub, idx, pl) = (match st with
      | .inr (.inr (.inl _)) :: st' => match Nat.ble (catV st') 8 with
        | true => aN true st' L M
        | false => none
      | _ => none) := rfl
theorem st_39 : stp F X Y M L st (39, a, b, c, v, tab, sub, idx, pl) = (match a with
      | 0 => match st with
        | .inl x :: st' => match Nat.ble (catV st') 8 with
          | true => aN true (vi (mAbs x) :: st') L M
          | false => none
        | _ => none
      | _ => match st with
        | .inl y :: .inl x :: st' => match Nat.ble (catV st') 8 with
          | true => aN true (vi (mMM a x y) :: st') L M
          | false => none
        | _ => none) := rfl
theorem ok_0 : okI RT R i (0, a, b, c, v, tab, sub, idx, pl) = (in32b v && (match sub with
      | 0 => dn R i (.iconst v) 1
      | 1 => dn R i (.bipush v) 2 && decide ((Int8.ofInt v).toInt32 = i32 v)
      | 2 => dn R i (.sipush v) 3 && decide ((Int16.ofInt v).toInt32 = i32 v)
      | 3 => dn R i (.ldc idx) 2 && ckw (pl.getD 0 0) (.constant (rOwn R) idx (i32 v))
      | _ => dn R i (.ldc_w idx) 3 && ckw (pl.getD 0 0) (.constant (rOwn R) idx (i32 v)))) := rfl
theorem ok_1 : okI RT R i (1, a, b, c, v, tab, sub, idx, pl) = (in64b v && (match sub with
      | 0 => dn R i (.lconst (Fin.ofNat 2 idx)) 1 && decide (Int64.ofNat ((Fin.ofNat 2 idx : Fin 2) : Nat) = i64 v)
      | _ => dn R i (.ldc2_w idx) 3 && ckw (pl.getD 0 0) (.constantLong (rOwn R) idx (i64 v)))) := rfl
theorem ok_2 : okI RT R i (2, a, b, c, v, tab, sub, idx, pl) = (match sub with
      | 0 => decide (((Fin.ofNat 4 a : Fin 4) : Nat) = a) && dn R i (.iload_n (Fin.ofNat 4 a)) 1
      | _ => dn R i (.iload a) 2) := rfl
theorem ok_3 : okI RT R i (3, a, b, c, v, tab, sub, idx, pl) = (match sub with
      | 0 => decide (((Fin.ofNat 4 a : Fin 4) : Nat) = a) && dn R i (.lload_n (Fin.ofNat 4 a)) 1
      | _ => dn R i (.lload a) 2) := rfl
theorem ok_4 : okI RT R i (4, a, b, c, v, tab, sub, idx, pl) = (match sub with
      | 0 => decide (((Fin.ofNat 4 a : Fin 4) : Nat) = a) && dn R i (.aload_n (Fin.ofNat 4 a)) 1
      | _ => dn R i (.aload a) 2) := rfl
theorem ok_5 : okI RT R i (5, a, b, c, v, tab, sub, idx, pl) = (st0k R a && (match sub with
      | 0 => decide (((Fin.ofNat 4 a : Fin 4) : Nat) = a) && dn R i (.istore_n (Fin.ofNat 4 a)) 1
      | _ => dn R i (.istore a) 2)) := rfl
theorem ok_6 : okI RT R i (6, a, b, c, v, tab, sub, idx, pl) = (st0k R a && (match sub with
      | 0 => decide (((Fin.ofNat 4 a : Fin 4) : Nat) = a) && dn R i (.lstore_n (Fin.ofNat 4 a)) 1
      | _ => dn R i (.lstore a) 2)) := rfl
theorem ok_7 : okI RT R i (7, a, b, c, v, tab, sub, idx, pl) = (st0k R a && (match sub with
      | 0 => decide (((Fin.ofNat 4 a : Fin 4) : Nat) = a) && dn R i (.astore_n (Fin.ofNat 4 a)) 1
      | _ => dn R i (.astore a) 2)) := rfl
theorem ok_8 : okI RT R i (8, a, b, c, v, tab, sub, idx, pl) = (st0k R a && dn R i (.iinc a v) 3) := rfl
theorem ok_9 : okI RT R i (9, a, b, c, v, tab, sub, idx, pl) = (match a with
      | 0 => dn R i .iadd 1
      | 1 => dn R i .isub 1
      | 2 => dn R i .imul 1
      | 3 => dn R i .iand 1
      | 4 => dn R i .ior 1
      | 5 => dn R i .ixor 1
      | 6 => dn R i .ishl 1
      | 7 => dn R i .ishr 1
      | 8 => dn R i .iushr 1
      | 9 => dn R i .idiv 1
      | 10 => dn R i .irem 1
      | _ => false) := rfl
theorem ok_10 : okI RT R i (10, a, b, c, v, tab, sub, idx, pl) = (match a with
      | 0 => dn R i .ineg 1
      | _ => dn R i .i2b 1) := rfl
theorem ok_11 : okI RT R i (11, a, b, c, v, tab, sub, idx, pl) = (match a with
      | 0 => dn R i .ladd 1
      | 1 => dn R i .lsub 1
      | 2 => dn R i .lmul 1
      | 3 => dn R i .land 1
      | 4 => dn R i .lor 1
      | 5 => dn R i .ldiv 1
      | 6 => dn R i .lrem 1
      | _ => false) := rfl
theorem ok_12 : okI RT R i (12, a, b, c, v, tab, sub, idx, pl) = (match a with
      | 0 => dn R i .i2l 1
      | _ => dn R i .l2i 1) := rfl
theorem ok_13 : okI RT R i (13, a, b, c, v, tab, sub, idx, pl) = (match a with
      | 0 => dn R i .lshl 1
      | _ => dn R i .lshr 1) := rfl
theorem ok_14 : okI RT R i (14, a, b, c, v, tab, sub, idx, pl) = (dn R i .lcmp 1) := rfl
theorem ok_15 : okI RT R i (15, a, b, c, v, tab, sub, idx, pl) = (dk R i (.goto (offR R i a)) 3) := rfl
theorem ok_16 : okI RT R i (16, a, b, c, v, tab, sub, idx, pl) = (dn R i (.ifCond (cnd b) (offR R i a)) 3) := rfl
theorem ok_17 : okI RT R i (17, a, b, c, v, tab, sub, idx, pl) = (dn R i (.if_icmp (cnd b) (offR R i a)) 3) := rfl
theorem ok_18 : okI RT R i (18, a, b, c, v, tab, sub, idx, pl) = (match sub with
      | 0 => dk R i (.tableswitch (offR R i a) v (v + tab.length - 1) (tab.map fun p => offR R i p.2).toArray) idx && decide (tab.map (fun p => p.1) = (List.range tab.length).map (fun (j : Nat) => v + (j : Int)))
      | _ => dk R i (.lookupswitch (offR R i a) (tab.map fun p => (p.1, offR R i p.2)).toArray) idx && (((tab.map fun p => (p.1, offR R i p.2)).toArray.toList.zip ((tab.map fun p => (p.1, offR R i p.2)).toArray.toList.drop 1)).all (fun (a, next) => a.1 < next.1))) := rfl
theorem ok_19 : okI RT R i (19, a, b, c, v, tab, sub, idx, pl) = (fldk R idx (pl.getD 0 0) a b false true && (isIty (tcl a b) && dn R i (.getfield idx) 3)) := rfl
theorem ok_20 : okI RT R i (20, a, b, c, v, tab, sub, idx, pl) = (fldk R idx (pl.getD 0 0) a b false true && (isRty (tcl a b) && dn R i (.getfield idx) 3)) := rfl
theorem ok_21 : okI RT R i (21, a, b, c, v, tab, sub, idx, pl) = (fldk R idx (pl.getD 0 0) a b false false && ((match c with
      | 0 => decide (tcl a b = .int)
      | _ => decide (tcl a b = .boolean)) && dn R i (.putfield idx) 3)) := rfl
theorem ok_22 : okI RT R i (22, a, b, c, v, tab, sub, idx, pl) = (fldk R idx (pl.getD 0 0) a b false false && (isRty (tcl a b) && dn R i (.putfield idx) 3)) := rfl
theorem ok_23 : okI RT R i (23, a, b, c, v, tab, sub, idx, pl) = (fldk R idx (pl.getD 0 0) a b true false && ((match c with
      | 0 => decide (tcl a b = .int)
      | _ => decide (tcl a b = .boolean)) && (decide ((rY R).name = "<init>") && dn R i (.putfield idx) 3))) := rfl
theorem ok_24 : okI RT R i (24, a, b, c, v, tab, sub, idx, pl) = (fldk R idx (pl.getD 0 0) a b true false && (isRty (tcl a b) && (decide ((rY R).name = "<init>") && dn R i (.putfield idx) 3))) := rfl
theorem ok_25 : okI RT R i (25, a, b, c, v, tab, sub, idx, pl) = (match a with
      | 0 => dn R i .iaload 1
      | 1 => dn R i .baload 1
      | 2 => dn R i .baload 1
      | 3 => dn R i .laload 1
      | 4 => dn R i .aaload 1
      | _ => false) := rfl
theorem ok_26 : okI RT R i (26, a, b, c, v, tab, sub, idx, pl) = (match a with
      | 0 => dn R i .iastore 1
      | 1 => dn R i .bastore 1
      | 2 => dn R i .bastore 1
      | 3 => dn R i .lastore 1
      | _ => false) := rfl
theorem ok_27 : okI RT R i (27, a, b, c, v, tab, sub, idx, pl) = (match a with
      | 0 => dn R i (.getstatic idx) 3 && ckn (pl.getD 0 0) (.fieldLinkNest (rOwn R) idx "GhostQuarter" "STEP_X" "[I" "GhostQuarter")
      | _ => dn R i (.getstatic idx) 3 && ckn (pl.getD 0 0) (.fieldLinkNest (rOwn R) idx "GhostQuarter" "STEP_Y" "[I" "GhostQuarter")) := rfl
theorem ok_28 : okI RT R i (28, a, b, c, v, tab, sub, idx, pl) = (dn R i (.aload_n 0) 1 && decide (rOwn R = R_law0)) := rfl
theorem ok_29 : okI RT R i (29, a, b, c, v, tab, sub, idx, pl) = (dn R i .arraylength 1) := rfl
theorem ok_30 : okI RT R i (30, a, b, c, v, tab, sub, idx, pl) = (match RT[a]? with
      | some R' => decide (c = rk (rRet R') ∧ c < 3) && (decide (rOwn R' ≠ R_law0) && (clk R R' i b sub idx pl && nxk R i 3))
      | none => false) := rfl
theorem ok_31 : okI RT R i (31, a, b, c, v, tab, sub, idx, pl) = (match a with
      | 0 => dk R i .return_ 1 && decide (rRet R = none)
      | 1 => dk R i .ireturn 1 && (match c with
        | 0 => decide (rRet R = some .int)
        | _ => decide (rRet R = some .boolean))
      | _ => dk R i .lreturn 1 && decide (rRet R = some .long)) := rfl
theorem ok_32 : okI RT R i (32, a, b, c, v, tab, sub, idx, pl) = (dn R i .dup 1) := rfl
theorem ok_33 : okI RT R i (33, a, b, c, v, tab, sub, idx, pl) = (dn R i .dup2 1) := rfl
theorem ok_34 : okI RT R i (34, a, b, c, v, tab, sub, idx, pl) = (match a with
      | 0 => dn R i .pop 1
      | _ => dn R i .pop2 1) := rfl
theorem ok_35 : okI RT R i (35, a, b, c, v, tab, sub, idx, pl) = (match vwCl[a]? with
      | some q => ckw (pl.getD 0 0) (.classLink (rOwn R) idx q.1) && (ckw (pl.getD 1 0) (.instantiable q.1 q.2.2) && (ckw (pl.getD 2 0) (.initialized q.1) && ((List.range q.2.2).all (fun j => isIty (tcl a j) || isRty (tcl a j)) && dn R i (.new idx) 3)))
      | none => false) := rfl
theorem ok_36 : okI RT R i (36, a, b, c, v, tab, sub, idx, pl) = (decide (a < 4) && (ckw (pl.getD 0 0) (.arrayClass (tyc a)) && dn R i (.newarray (aty a)) 2)) := rfl
theorem ok_37 : okI RT R i (37, a, b, c, v, tab, sub, idx, pl) = (ckw (pl.getD 0 0) (.classLink (rOwn R) idx ("[" ++ (FieldType.array .int).toString)) && (ckw (pl.getD 1 0) (.arrayClass .int) && dn R i (.multianewarray idx 2) 4)) := rfl
theorem ok_38 : okI RT R i (38, a, b, c, v, tab, sub, idx, pl) = (ckw (pl.getD 0 0) (.methodLink (rOwn R) idx objectInit) && (ckw (pl.getD 1 0) (.instanceMethod objectInit) && (ckw (pl.getD 2 0) (.code objectInit ⟨#[0xb1]⟩ 1 none) && dn R i (.invokespecial idx) 3))) := rfl
theorem ok_39 : okI RT R i (39, a, b, c, v, tab, sub, idx, pl) = (dn R i (.invokestatic idx) 3 && (ckw (pl.getD 1 0) (.initialized "java/lang/Math") && (match a with
      | 0 => ckw (pl.getD 0 0) (.methodLink (rOwn R) idx Lib.Math.abs.name) && (ckw (pl.getD 2 0) (.static Lib.Math.abs.name) && ckw (pl.getD 3 0) (.code Lib.Math.abs.name Lib.Math.abs.code 1 (some .int)))
      | 1 => ckw (pl.getD 0 0) (.methodLink (rOwn R) idx Lib.Math.max.name) && (ckw (pl.getD 2 0) (.static Lib.Math.max.name) && ckw (pl.getD 3 0) (.code Lib.Math.max.name Lib.Math.max.code 2 (some .int)))
      | 2 => ckw (pl.getD 0 0) (.methodLink (rOwn R) idx Lib.Math.min.name) && (ckw (pl.getD 2 0) (.static Lib.Math.min.name) && ckw (pl.getD 3 0) (.code Lib.Math.min.name Lib.Math.min.code 2 (some .int)))
      | _ => false))) := rfl
theorem st_40 (op : Nat) : stp F X Y M L st (op + 40, a, b, c, v, tab, sub, idx, pl) = none := rfl
end EQS
end
section
/-! PART 09: each op read backwards-/
section INV
variable {RT : List Rec} {R : Rec} {F : Nat → Nat → Nat} {X : Nat → List Int} {Y : YY} {M M' : MM} {L L' : LL} {st st' : List Vv} {i a b c sub idx : Nat} {v : Int} {tab : List (Int × Nat)} {pl : List Nat}
theorem sn {α β : Type} {x y : α} (h : (some (Sum.inl x) : Option (α ⊕ β)) = some (.inl y)) : x = y := Sum.inl.inj (Option.some.inj h)
theorem sn4 {g : Bool} {s s' : List Vv} {l l' : LL} {m m' : MM} (h : aN g s l m = some (.inl (true, s', l', m'))) : g = true ∧ s' = s ∧ l' = l ∧ m' = m := by
  have h := sn h
  simp only [Prod.mk.injEq] at h
  exact ⟨h.1, h.2.1.symm, h.2.2.1.symm, h.2.2.2.symm⟩
theorem an2 {x y : Bool} (h : (x && y) = true) : x = true ∧ y = true := by rwa [Bool.and_eq_true] at h
theorem an3 {x y z : Bool} (h : (x && (y && z)) = true) : x = true ∧ y = true ∧ z = true := ⟨(an2 h).1, an2 (an2 h).2⟩
theorem an4 {x y z w : Bool} (h : (x && (y && (z && w))) = true) : x = true ∧ y = true ∧ z = true ∧ w = true := ⟨(an2 h).1, an3 (an2 h).2⟩

theorem in_0 (hs : stp F X Y M L st (0, a, b, c, v, tab, sub, idx, pl) = some (.inl (true, st', L', M'))) : st' = vi v :: st ∧ L' = L ∧ M' = M := by
  rw [st_0] at hs
  exact (sn4 hs).2
theorem in_1 (hs : stp F X Y M L st (1, a, b, c, v, tab, sub, idx, pl) = some (.inl (true, st', L', M'))) : st' = vl v :: st ∧ L' = L ∧ M' = M := by
  rw [st_1] at hs
  exact (sn4 hs).2
theorem in_2 (hs : stp F X Y M L st (2, a, b, c, v, tab, sub, idx, pl) = some (.inl (true, st', L', M'))) : ∃ x : Int, L[a]? = some (some (vi x)) ∧ st' = vi x :: st ∧ L' = L ∧ M' = M := by
  rw [st_2] at hs
  split at hs
  · rename_i _ x hx
    exact ⟨x, hx, (sn4 hs).2⟩
  · cases hs
theorem in_3 (hs : stp F X Y M L st (3, a, b, c, v, tab, sub, idx, pl) = some (.inl (true, st', L', M'))) : ∃ x : Int, L[a]? = some (some (vl x)) ∧ st' = vl x :: st ∧ L' = L ∧ M' = M := by
  rw [st_3] at hs
  split at hs
  · rename_i _ x hx
    exact ⟨x, hx, (sn4 hs).2⟩
  · cases hs
theorem in_4 (hs : stp F X Y M L st (4, a, b, c, v, tab, sub, idx, pl) = some (.inl (true, st', L', M'))) : ∃ x : Nat, L[a]? = some (some (vr x)) ∧ st' = vr x :: st ∧ L' = L ∧ M' = M := by
  rw [st_4] at hs
  split at hs
  · rename_i _ x hx
    exact ⟨x, hx, (sn4 hs).2⟩
  · cases hs
theorem in_5 (hs : stp F X Y M L st (5, a, b, c, v, tab, sub, idx, pl) = some (.inl (true, st', L', M'))) : ∃ (x : Int) (s0 : List Vv), st = vi x :: s0 ∧ okSt L a = true ∧ a < L.length ∧ st' = s0 ∧ L' = L.set a (some (vi x)) ∧ M' = M := by
  rw [st_5] at hs
  split at hs
  · rename_i _ x s0
    obtain ⟨h1, h2⟩ := sn4 hs
    exact ⟨x, s0, rfl, (an2 h1).1, Nat.le_of_ble_eq_true (an2 h1).2, h2⟩
  · cases hs
theorem in_7 (hs : stp F X Y M L st (7, a, b, c, v, tab, sub, idx, pl) = some (.inl (true, st', L', M'))) : ∃ (x : Nat) (s0 : List Vv), st = vr x :: s0 ∧ okSt L a = true ∧ a < L.length ∧ st' = s0 ∧ L' = L.set a (some (vr x)) ∧ M' = M := by
  rw [st_7] at hs
  split at hs
  · rename_i _ x s0
    obtain ⟨h1, h2⟩ := sn4 hs
    exact ⟨x, s0, rfl, (an2 h1).1, Nat.le_of_ble_eq_true (an2 h1).2, h2⟩
  · cases hs
theorem in_6 (hs : stp F X Y M L st (6, a, b, c, v, tab, sub, idx, pl) = some (.inl (true, st', L', M'))) : ∃ (x : Int) (s0 : List Vv), st = vl x :: s0 ∧ okSt L a = true ∧ a + 1 < L.length ∧ st' = s0 ∧ L' = (L.set a (some (vl x))).set (a + 1) none ∧ M' = M := by
  rw [st_6] at hs
  split at hs
  · rename_i _ x s0
    obtain ⟨h1, h2⟩ := sn4 hs
    exact ⟨x, s0, rfl, (an2 h1).1, Nat.le_of_ble_eq_true (an2 h1).2, h2⟩
  · cases hs
theorem in_8 (hs : stp F X Y M L st (8, a, b, c, v, tab, sub, idx, pl) = some (.inl (true, st', L', M'))) : ∃ x : Int, L[a]? = some (some (vi x)) ∧ okSt L a = true ∧ st' = st ∧ L' = L.set a (some (vi (w32 (x + v)))) ∧ M' = M := by
  rw [st_8] at hs
  split at hs
  · rename_i _ x hx
    obtain ⟨h1, h2⟩ := sn4 hs
    exact ⟨x, hx, h1, h2⟩
  · cases hs
theorem in_9 (hs : stp F X Y M L st (9, a, b, c, v, tab, sub, idx, pl) = some (.inl (true, st', L', M'))) : ∃ (y x : Int) (s0 : List Vv), st = vi y :: vi x :: s0 ∧ bok a y = true ∧ st' = vi (bin a x y) :: s0 ∧ L' = L ∧ M' = M := by
  rw [st_9] at hs
  split at hs
  · rename_i _ y x s0
    exact ⟨y, x, s0, rfl, sn4 hs⟩
  · cases hs
theorem in_10 (hs : stp F X Y M L st (10, a, b, c, v, tab, sub, idx, pl) = some (.inl (true, st', L', M'))) : ∃ (x : Int) (s0 : List Vv), st = vi x :: s0 ∧ ((a = 0 ∧ st' = vi (w32 (-x)) :: s0) ∨ (a ≠ 0 ∧ st' = vi (w8 x) :: s0)) ∧ L' = L ∧ M' = M := by
  rw [st_10] at hs
  split at hs
  · rename_i _ x s0
    split at hs
    · exact ⟨x, s0, rfl, Or.inl ⟨rfl, (sn4 hs).2.1⟩, (sn4 hs).2.2⟩
    · rename_i ha
      exact ⟨x, s0, rfl, Or.inr ⟨ha, (sn4 hs).2.1⟩, (sn4 hs).2.2⟩
  · cases hs
theorem in_11 (hs : stp F X Y M L st (11, a, b, c, v, tab, sub, idx, pl) = some (.inl (true, st', L', M'))) : ∃ (y x : Int) (s0 : List Vv), st = vl y :: vl x :: s0 ∧ lok a y = true ∧ st' = vl (lbn a x y) :: s0 ∧ L' = L ∧ M' = M := by
  rw [st_11] at hs
  split at hs
  · rename_i _ y x s0
    exact ⟨y, x, s0, rfl, sn4 hs⟩
  · cases hs
theorem in_12 (hs : stp F X Y M L st (12, a, b, c, v, tab, sub, idx, pl) = some (.inl (true, st', L', M'))) : ∃ (x : Int) (s0 : List Vv), ((a = 0 ∧ st = vi x :: s0 ∧ st' = vl x :: s0) ∨ (a ≠ 0 ∧ st = vl x :: s0 ∧ st' = vi (w32 x) :: s0)) ∧ L' = L ∧ M' = M := by
  rw [st_12] at hs
  split at hs
  · split at hs
    · rename_i _ x s0
      exact ⟨x, s0, Or.inl ⟨rfl, rfl, (sn4 hs).2.1⟩, (sn4 hs).2.2⟩
    · cases hs
  · rename_i ha
    split at hs
    · rename_i _ x s0
      exact ⟨x, s0, Or.inr ⟨ha, rfl, (sn4 hs).2.1⟩, (sn4 hs).2.2⟩
    · cases hs
theorem in_13 (hs : stp F X Y M L st (13, a, b, c, v, tab, sub, idx, pl) = some (.inl (true, st', L', M'))) : ∃ (y x : Int) (s0 : List Vv), st = vi y :: vl x :: s0 ∧ ((a = 0 ∧ st' = vl (bShlL x y) :: s0) ∨ (a ≠ 0 ∧ st' = vl (bShrL x y) :: s0)) ∧ L' = L ∧ M' = M := by
  rw [st_13] at hs
  split at hs
  · rename_i _ y x s0
    split at hs
    · exact ⟨y, x, s0, rfl, Or.inl ⟨rfl, (sn4 hs).2.1⟩, (sn4 hs).2.2⟩
    · rename_i ha
      exact ⟨y, x, s0, rfl, Or.inr ⟨ha, (sn4 hs).2.1⟩, (sn4 hs).2.2⟩
  · cases hs
theorem in_14 (hs : stp F X Y M L st (14, a, b, c, v, tab, sub, idx, pl) = some (.inl (true, st', L', M'))) : ∃ (y x : Int) (s0 : List Vv), st = vl y :: vl x :: s0 ∧ st' = vi (lcm3 x y) :: s0 ∧ L' = L ∧ M' = M := by
  rw [st_14] at hs
  split at hs
  · rename_i _ y x s0
    exact ⟨y, x, s0, rfl, (sn4 hs).2⟩
  · cases hs
theorem in_19 (hs : stp F X Y M L st (19, a, b, c, v, tab, sub, idx, pl) = some (.inl (true, st', L', M'))) : ∃ (k : Nat) (s0 : List Vv), st = vr k :: s0 ∧ (kd Y k == 10 + a) = true ∧ st' = vi (M k b) :: s0 ∧ L' = L ∧ M' = M := by
  rw [st_19] at hs
  split at hs
  · rename_i _ k s0
    exact ⟨k, s0, rfl, sn4 hs⟩
  · cases hs
theorem in_20 (hs : stp F X Y M L st (20, a, b, c, v, tab, sub, idx, pl) = some (.inl (true, st', L', M'))) : ∃ (k : Nat) (s0 : List Vv), st = vr k :: s0 ∧ (kd Y k == 10 + a) = true ∧ rfK (F k b) (M k b) = true ∧ st' = vr (rfO (F k b) (M k b)) :: s0 ∧ L' = L ∧ M' = M := by
  rw [st_20] at hs
  split at hs
  · rename_i _ k s0
    obtain ⟨h1, h2⟩ := sn4 hs
    exact ⟨k, s0, rfl, (an2 h1).1, (an2 h1).2, h2⟩
  · cases hs
theorem in_21 (hs : stp F X Y M L st (21, a, b, c, v, tab, sub, idx, pl) = some (.inl (true, st', L', M'))) : ∃ (x : Int) (k : Nat) (s0 : List Vv), st = vi x :: vr k :: s0 ∧ (kd Y k == 10 + a) = true ∧ bl2 c x = true ∧ st' = s0 ∧ L' = L ∧ M' = stM M k b x := by
  rw [st_21] at hs
  split at hs
  · rename_i _ x k s0
    obtain ⟨h1, h2⟩ := sn4 hs
    exact ⟨x, k, s0, rfl, (an2 h1).1, (an2 h1).2, h2⟩
  · cases hs
theorem in_23 (hs : stp F X Y M L st (23, a, b, c, v, tab, sub, idx, pl) = some (.inl (true, st', L', M'))) : ∃ (x : Int) (k : Nat) (s0 : List Vv), st = vi x :: vr k :: s0 ∧ (kd Y k == 10 + a) = true ∧ bl2 c x = true ∧ st' = s0 ∧ L' = L ∧ M' = stM M k b x := by
  rw [st_23] at hs
  split at hs
  · rename_i _ x k s0
    obtain ⟨h1, h2⟩ := sn4 hs
    exact ⟨x, k, s0, rfl, (an2 h1).1, (an2 h1).2, h2⟩
  · cases hs
theorem in_22 (hs : stp F X Y M L st (22, a, b, c, v, tab, sub, idx, pl) = some (.inl (true, st', L', M'))) : ∃ (t k : Nat) (s0 : List Vv), st = vr t :: vr k :: s0 ∧ (kd Y k == 10 + a) = true ∧ (F k b == 0) = true ∧ st' = s0 ∧ L' = L ∧ M' = stM M k b ((t : Int) + 1) := by
  rw [st_22] at hs
  split at hs
  · rename_i _ t k s0
    obtain ⟨h1, h2⟩ := sn4 hs
    exact ⟨t, k, s0, rfl, (an2 h1).1, (an2 h1).2, h2⟩
  · cases hs
theorem in_24 (hs : stp F X Y M L st (24, a, b, c, v, tab, sub, idx, pl) = some (.inl (true, st', L', M'))) : ∃ (t k : Nat) (s0 : List Vv), st = vr t :: vr k :: s0 ∧ (kd Y k == 10 + a) = true ∧ (F k b == 0) = true ∧ st' = s0 ∧ L' = L ∧ M' = stM M k b ((t : Int) + 1) := by
  rw [st_24] at hs
  split at hs
  · rename_i _ t k s0
    obtain ⟨h1, h2⟩ := sn4 hs
    exact ⟨t, k, s0, rfl, (an2 h1).1, (an2 h1).2, h2⟩
  · cases hs
theorem in_25 (hs : stp F X Y M L st (25, a, b, c, v, tab, sub, idx, pl) = some (.inl (true, st', L', M'))) : (∃ (x : Int) (k : Nat) (s0 : List Vv), st = vi x :: vr k :: s0 ∧ (kd Y k == a) = true ∧ 0 ≤ x ∧ x < ln Y k ∧ L' = L ∧ M' = M ∧ ((a = 3 ∧ st' = vl (M k x.toNat) :: s0) ∨ (a = 4 ∧ rfK (F k x.toNat) (M k x.toNat) = true ∧ st' = vr (rfO (F k x.toNat) (M k x.toNat)) :: s0) ∨ (a ≠ 3 ∧ a ≠ 4 ∧ st' = vi (M k x.toNat) :: s0))) ∨ (∃ (x : Int) (k : Nat) (s0 : List Vv), st = vi x :: vx k :: s0 ∧ a = 0 ∧ 0 ≤ x ∧ x < ((X k).length : Int) ∧ st' = vi ((X k).getD x.toNat 0) :: s0 ∧ L' = L ∧ M' = M) := by
  rw [st_25] at hs
  split at hs
  · rename_i _ x k s0
    split at hs
    · obtain ⟨h1, h2, h3, h4⟩ := sn4 hs
      obtain ⟨g1, g2, g3⟩ := an3 h1
      exact Or.inl ⟨x, k, s0, rfl, g1, of_decide_eq_true g2, of_decide_eq_true g3, h3, h4, Or.inl ⟨rfl, h2⟩⟩
    · obtain ⟨h1, h2, h3, h4⟩ := sn4 hs
      obtain ⟨g1, g2, g3, g4⟩ := an4 h1
      exact Or.inl ⟨x, k, s0, rfl, g1, of_decide_eq_true g2, of_decide_eq_true g3, h3, h4, Or.inr (Or.inl ⟨rfl, g4, h2⟩)⟩
    · rename_i ha hb
      obtain ⟨h1, h2, h3, h4⟩ := sn4 hs
      obtain ⟨g1, g2, g3⟩ := an3 h1
      exact Or.inl ⟨x, k, s0, rfl, g1, of_decide_eq_true g2, of_decide_eq_true g3, h3, h4, Or.inr (Or.inr ⟨ha, hb, h2⟩)⟩
  · rename_i _ x k s0
    split at hs
    · obtain ⟨h1, h2⟩ := sn4 hs
      exact Or.inr ⟨x, k, s0, rfl, rfl, of_decide_eq_true (an2 h1).1, of_decide_eq_true (an2 h1).2, h2⟩
    · cases hs
  · cases hs
theorem in_26 (hs : stp F X Y M L st (26, a, b, c, v, tab, sub, idx, pl) = some (.inl (true, st', L', M'))) : ∃ (z x : Int) (k : Nat) (s0 : List Vv) (w : Int), (kd Y k == a) = true ∧ 0 ≤ x ∧ x < ln Y k ∧ st' = s0 ∧ L' = L ∧ M' = stM M k x.toNat w ∧ ((a = 3 ∧ st = vl z :: vi x :: vr k :: s0 ∧ w = z) ∨ (a = 0 ∧ st = vi z :: vi x :: vr k :: s0 ∧ w = z) ∨ (a = 1 ∧ st = vi z :: vi x :: vr k :: s0 ∧ w = w8 z) ∨ (a = 2 ∧ st = vi z :: vi x :: vr k :: s0 ∧ w = z ∧ bl2 1 z = true)) := by
  rw [st_26] at hs
  split at hs
  · split at hs
    · rename_i _ z x k s0
      obtain ⟨h1, h2, h3, h4⟩ := sn4 hs
      obtain ⟨g1, g2, g3⟩ := an3 h1
      exact ⟨z, x, k, s0, _, g1, of_decide_eq_true g2, of_decide_eq_true g3, h2, h3, h4, Or.inl ⟨rfl, rfl, rfl⟩⟩
    · cases hs
  · split at hs
    · rename_i _ z x k s0
      obtain ⟨h1, h2, h3, h4⟩ := sn4 hs
      obtain ⟨g1, g2, g3⟩ := an3 h1
      exact ⟨z, x, k, s0, _, g1, of_decide_eq_true g2, of_decide_eq_true g3, h2, h3, h4, Or.inr (Or.inl ⟨rfl, rfl, rfl⟩)⟩
    · cases hs
  · split at hs
    · rename_i _ z x k s0
      obtain ⟨h1, h2, h3, h4⟩ := sn4 hs
      obtain ⟨g1, g2, g3⟩ := an3 h1
      exact ⟨z, x, k, s0, _, g1, of_decide_eq_true g2, of_decide_eq_true g3, h2, h3, h4, Or.inr (Or.inr (Or.inl ⟨rfl, rfl, rfl⟩))⟩
    · cases hs
  · split at hs
    · rename_i _ z x k s0
      obtain ⟨h1, h2, h3, h4⟩ := sn4 hs
      obtain ⟨g1, g2, g3, g4⟩ := an4 h1
      exact ⟨z, x, k, s0, _, g1, of_decide_eq_true g2, of_decide_eq_true g3, h2, h3, h4, Or.inr (Or.inr (Or.inr ⟨rfl, rfl, rfl, g4⟩))⟩
    · cases hs
  · cases hs
theorem in_27 (hs : stp F X Y M L st (27, a, b, c, v, tab, sub, idx, pl) = some (.inl (true, st', L', M'))) : (a = 0 ∨ a = 1) ∧ st' = vx a :: st ∧ L' = L ∧ M' = M := by
  rw [st_27] at hs
  split at hs
  · exact ⟨Or.inl rfl, (sn4 hs).2⟩
  · exact ⟨Or.inr rfl, (sn4 hs).2⟩
  · cases hs
theorem in_28 (hs : stp F X Y M L st (28, a, b, c, v, tab, sub, idx, pl) = some (.inl (true, st', L', M'))) : st' = vx 2 :: st ∧ L' = L ∧ M' = M := by
  rw [st_28] at hs
  exact (sn4 hs).2
theorem in_29 (hs : stp F X Y M L st (29, a, b, c, v, tab, sub, idx, pl) = some (.inl (true, st', L', M'))) : ∃ s0 : List Vv, st = vx 2 :: s0 ∧ st' = vi ((X 2).length : Int) :: s0 ∧ L' = L ∧ M' = M := by
  rw [st_29] at hs
  split at hs
  · rename_i _ s0
    exact ⟨s0, rfl, (sn4 hs).2⟩
  · cases hs
theorem in_32 (hs : stp F X Y M L st (32, a, b, c, v, tab, sub, idx, pl) = some (.inl (true, st', L', M'))) : ∃ (k : Nat) (s0 : List Vv), st = vr k :: s0 ∧ st' = vr k :: vr k :: s0 ∧ L' = L ∧ M' = M := by
  rw [st_32] at hs
  split at hs
  · rename_i _ k s0
    exact ⟨k, s0, rfl, (sn4 hs).2⟩
  · cases hs
theorem in_33 (hs : stp F X Y M L st (33, a, b, c, v, tab, sub, idx, pl) = some (.inl (true, st', L', M'))) : ∃ (x : Int) (k : Nat) (s0 : List Vv), st = vi x :: vr k :: s0 ∧ st' = vi x :: vr k :: vi x :: vr k :: s0 ∧ L' = L ∧ M' = M := by
  rw [st_33] at hs
  split at hs
  · rename_i _ x k s0
    exact ⟨x, k, s0, rfl, (sn4 hs).2⟩
  · cases hs
theorem in_34 (hs : stp F X Y M L st (34, a, b, c, v, tab, sub, idx, pl) = some (.inl (true, st', L', M'))) : ∃ (x : Int) (s0 : List Vv), ((a = 0 ∧ st = vi x :: s0) ∨ (a ≠ 0 ∧ st = vl x :: s0)) ∧ st' = s0 ∧ L' = L ∧ M' = M := by
  rw [st_34] at hs
  split at hs
  · split at hs
    · rename_i _ x s0
      exact ⟨x, s0, Or.inl ⟨rfl, rfl⟩, (sn4 hs).2⟩
    · cases hs
  · rename_i ha
    split at hs
    · rename_i _ x s0
      exact ⟨x, s0, Or.inr ⟨ha, rfl⟩, (sn4 hs).2⟩
    · cases hs
theorem in_38 (hs : stp F X Y M L st (38, a, b, c, v, tab, sub, idx, pl) = some (.inl (true, st', L', M'))) : ∃ (k : Nat) (s0 : List Vv), st = vr k :: s0 ∧ catV s0 ≤ 8 ∧ st' = s0 ∧ L' = L ∧ M' = M := by
  rw [st_38] at hs
  split at hs
  · rename_i _ k s0
    split at hs
    · rename_i hb
      exact ⟨k, s0, rfl, Nat.le_of_ble_eq_true hb, (sn4 hs).2⟩
    · cases hs
  · cases hs
theorem in_39 (hs : stp F X Y M L st (39, a, b, c, v, tab, sub, idx, pl) = some (.inl (true, st', L', M'))) : ((a = 0 ∧ ∃ (x : Int) (s0 : List Vv), st = vi x :: s0 ∧ catV s0 ≤ 8 ∧ st' = vi (mAbs x) :: s0) ∨ (a ≠ 0 ∧ ∃ (y x : Int) (s0 : List Vv), st = vi y :: vi x :: s0 ∧ catV s0 ≤ 8 ∧ st' = vi (mMM a x y) :: s0)) ∧ L' = L ∧ M' = M := by
  rw [st_39] at hs
  split at hs
  · split at hs
    · rename_i _ x s0
      split at hs
      · rename_i hb
        exact ⟨Or.inl ⟨rfl, x, s0, rfl, Nat.le_of_ble_eq_true hb, (sn4 hs).2.1⟩, (sn4 hs).2.2⟩
      · cases hs
    · cases hs
  · rename_i ha
    split at hs
    · rename_i _ y x s0
      split at hs
      · rename_i hb
        exact ⟨Or.inr ⟨ha, y, x, s0, rfl, Nat.le_of_ble_eq_true hb, (sn4 hs).2.1⟩, (sn4 hs).2.2⟩
      · cases hs
    · cases hs
theorem in_15 (hs : stp F X Y M L st (15, a, b, c, v, tab, sub, idx, pl) = some (.inl (true, st', L', M'))) : False := by
  rw [st_15] at hs
  cases hs
theorem in_16 (hs : stp F X Y M L st (16, a, b, c, v, tab, sub, idx, pl) = some (.inl (true, st', L', M'))) : False := by
  rw [st_16] at hs
  split at hs <;> cases hs
theorem in_17 (hs : stp F X Y M L st (17, a, b, c, v, tab, sub, idx, pl) = some (.inl (true, st', L', M'))) : False := by
  rw [st_17] at hs
  split at hs <;> cases hs
theorem in_18 (hs : stp F X Y M L st (18, a, b, c, v, tab, sub, idx, pl) = some (.inl (true, st', L', M'))) : False := by
  rw [st_18] at hs
  split at hs <;> cases hs
theorem in_30 (hs : stp F X Y M L st (30, a, b, c, v, tab, sub, idx, pl) = some (.inl (true, st', L', M'))) : False := by
  rw [st_30] at hs
  split at hs <;> cases hs
theorem in_31 (hs : stp F X Y M L st (31, a, b, c, v, tab, sub, idx, pl) = some (.inl (true, st', L', M'))) : False := by
  rw [st_31] at hs
  split at hs <;> (split at hs <;> cases hs)
theorem in_35 (hs : stp F X Y M L st (35, a, b, c, v, tab, sub, idx, pl) = some (.inl (true, st', L', M'))) : False := by
  rw [st_35] at hs
  cases hs
theorem in_36 (hs : stp F X Y M L st (36, a, b, c, v, tab, sub, idx, pl) = some (.inl (true, st', L', M'))) : False := by
  rw [st_36] at hs
  split at hs
  · split at hs <;> cases hs
  · cases hs
theorem in_37 (hs : stp F X Y M L st (37, a, b, c, v, tab, sub, idx, pl) = some (.inl (true, st', L', M'))) : False := by
  rw [st_37] at hs
  split at hs
  · split at hs <;> cases hs
  · cases hs
end INV
end
section
/-! PART 10: what a run keeps: the ranges of numbers, the fixed references; how many cells there are-/
section KEEPS
variable {RT : List Rec} {R : Rec} {F : Nat → Nat → Nat} {X : Nat → List Int} {Y : YY} {M M' : MM} {L L' : LL} {st st' : List Vv} {i a b c sub idx : Nat} {v : Int} {tab : List (Int × Nat)} {pl : List Nat}
abbrev okX (X : Nat → List Int) : Prop := ∀ k, (∀ z ∈ X k, in32 z) ∧ in32 ((X k).length : Int)
abbrev okVs (st : List Vv) : Prop := ∀ z ∈ st, okv z
theorem okVs.un {z : Vv} {s : List Vv} (h : okVs (z :: s)) : okv z ∧ okVs s := List.forall_mem_cons.mp h
theorem okVs.kk {z : Vv} {s : List Vv} (h1 : okv z) (h2 : okVs s) : okVs (z :: s) := List.forall_mem_cons.mpr ⟨h1, h2⟩
abbrev Kp (F : Nat → Nat → Nat) (Y : YY) (M : MM) (st : List Vv) (L : LL) : Prop := Inv F Y M ∧ okVs st ∧ okLv L
theorem fldk_ty {R : Rec} {idx p a b : Nat} {fin any : Bool} (h : fldk R idx p a b fin any = true) : a < 12 := by
  unfold fldk at h
  cases hv : vwCl[a]? with
  | none => rw [hv] at h; cases h
  | some q => exact (List.getElem?_eq_some_iff.mp hv).1
theorem Inv.fI {R : Rec} {k idx p : Nat} (h : Inv F Y M) {fin any : Bool} (hf : fldk R idx p a b fin any = true) (hk : (kd Y k == 10 + a) = true) (hty : isIty (tcl a b) = true) : in32 (M k b) := by
  have ha := fldk_ty hf
  obtain ⟨n, hn⟩ := kd_ge (by omega) hk
  have := (h.1 k _ hn b).1 (Nat.le_add_right 10 a)
  rw [Nat.add_sub_cancel_left] at this
  exact this hty
theorem Inv.fS {R : Rec} {k idx p : Nat} {x : Int} (h : Inv F Y M) {fin any : Bool} (hf : fldk R idx p a b fin any = true) (hk : (kd Y k == 10 + a) = true) (hty : isIty (tcl a b) = true) (hx : in32 x) : Inv F Y (stM M k b x) := by
  have ha := fldk_ty hf
  obtain ⟨n, hn⟩ := kd_ge (by omega) hk
  refine h.st hn ⟨fun q => absurd q (by show 10 + a ≠ 3; omega), fun _ => hx⟩ ?_
  show ¬ ((10 ≤ 10 + a ∧ isRty (tcl (10 + a - 10) b) = true) ∨ 10 + a = 4)
  rw [Nat.add_sub_cancel_left, iR_no hty]
  rintro (h | h)
  · cases h.2
  · omega
theorem Inv.fR {R : Rec} {k idx p t : Nat} (h : Inv F Y M) {fin any : Bool} (hf : fldk R idx p a b fin any = true) (hk : (kd Y k == 10 + a) = true) (hty : isRty (tcl a b) = true) (hF : F k b = 0) : Inv F Y (stM M k b ((t : Int) + 1)) := by
  have ha := fldk_ty hf
  obtain ⟨n, hn⟩ := kd_ge (by omega) hk
  refine h.sr hn ⟨Nat.le_add_right 10 a, ?_⟩ hF
  show isRty (tcl (10 + a - 10) b) = true
  rw [Nat.add_sub_cancel_left]
  exact hty
theorem ty_c {c : Nat} {t : FieldType} (h : (match c with
      | 0 => decide (t = .int)
      | _ => decide (t = .boolean)) = true) : isIty t = true := by
  split at h
  · rw [of_decide_eq_true h]
    rfl
  · rw [of_decide_eq_true h]
    rfl

theorem kp_0 (hX : okX X) (hk : okI RT R i (0, a, b, c, v, tab, sub, idx, pl) = true) (hs : stp F X Y M L st (0, a, b, c, v, tab, sub, idx, pl) = some (.inl (true, st', L', M'))) (K : Kp F Y M st L) : Kp F Y M' st' L' := by
  rw [ok_0] at hk
  have h := in_0 hs
  obtain ⟨rfl, rfl, rfl⟩ := h
  exact ⟨K.1, .kk (in32b_d (an2 hk).1) K.2.1, K.2.2⟩
theorem kp_1 (hX : okX X) (hk : okI RT R i (1, a, b, c, v, tab, sub, idx, pl) = true) (hs : stp F X Y M L st (1, a, b, c, v, tab, sub, idx, pl) = some (.inl (true, st', L', M'))) (K : Kp F Y M st L) : Kp F Y M' st' L' := by
  rw [ok_1] at hk
  have h := in_1 hs
  obtain ⟨rfl, rfl, rfl⟩ := h
  exact ⟨K.1, .kk (in64b_d (an2 hk).1) K.2.1, K.2.2⟩
theorem kp_2 (hX : okX X) (hk : okI RT R i (2, a, b, c, v, tab, sub, idx, pl) = true) (hs : stp F X Y M L st (2, a, b, c, v, tab, sub, idx, pl) = some (.inl (true, st', L', M'))) (K : Kp F Y M st L) : Kp F Y M' st' L' := by
  rw [ok_2] at hk
  have h := in_2 hs
  obtain ⟨x, hx, rfl, rfl, rfl⟩ := h
  exact ⟨K.1, .kk (K.2.2 a _ hx).1 K.2.1, K.2.2⟩
theorem kp_3 (hX : okX X) (hk : okI RT R i (3, a, b, c, v, tab, sub, idx, pl) = true) (hs : stp F X Y M L st (3, a, b, c, v, tab, sub, idx, pl) = some (.inl (true, st', L', M'))) (K : Kp F Y M st L) : Kp F Y M' st' L' := by
  rw [ok_3] at hk
  have h := in_3 hs
  obtain ⟨x, hx, rfl, rfl, rfl⟩ := h
  exact ⟨K.1, .kk (K.2.2 a _ hx).1 K.2.1, K.2.2⟩
theorem kp_4 (hX : okX X) (hk : okI RT R i (4, a, b, c, v, tab, sub, idx, pl) = true) (hs : stp F X Y M L st (4, a, b, c, v, tab, sub, idx, pl) = some (.inl (true, st', L', M'))) (K : Kp F Y M st L) : Kp F Y M' st' L' := by
  rw [ok_4] at hk
  have h := in_4 hs
  obtain ⟨x, hx, rfl, rfl, rfl⟩ := h
  exact ⟨K.1, .kk (K.2.2 a _ hx).1 K.2.1, K.2.2⟩
theorem kp_5 (hX : okX X) (hk : okI RT R i (5, a, b, c, v, tab, sub, idx, pl) = true) (hs : stp F X Y M L st (5, a, b, c, v, tab, sub, idx, pl) = some (.inl (true, st', L', M'))) (K : Kp F Y M st L) : Kp F Y M' st' L' := by
  rw [ok_5] at hk
  have h := in_5 hs
  obtain ⟨x, s0, rfl, -, -, rfl, rfl, rfl⟩ := h
  exact ⟨K.1, K.2.1.un.2, K.2.2.set K.2.1.un.1 rfl⟩
theorem kp_7 (hX : okX X) (hk : okI RT R i (7, a, b, c, v, tab, sub, idx, pl) = true) (hs : stp F X Y M L st (7, a, b, c, v, tab, sub, idx, pl) = some (.inl (true, st', L', M'))) (K : Kp F Y M st L) : Kp F Y M' st' L' := by
  rw [ok_7] at hk
  have h := in_7 hs
  obtain ⟨x, s0, rfl, -, -, rfl, rfl, rfl⟩ := h
  exact ⟨K.1, K.2.1.un.2, K.2.2.set K.2.1.un.1 rfl⟩
theorem kp_6 (hX : okX X) (hk : okI RT R i (6, a, b, c, v, tab, sub, idx, pl) = true) (hs : stp F X Y M L st (6, a, b, c, v, tab, sub, idx, pl) = some (.inl (true, st', L', M'))) (K : Kp F Y M st L) : Kp F Y M' st' L' := by
  rw [ok_6] at hk
  have h := in_6 hs
  obtain ⟨x, s0, rfl, -, -, rfl, rfl, rfl⟩ := h
  exact ⟨K.1, K.2.1.un.2, (K.2.2.set K.2.1.un.1 rfl).no⟩
theorem kp_8 (hX : okX X) (hk : okI RT R i (8, a, b, c, v, tab, sub, idx, pl) = true) (hs : stp F X Y M L st (8, a, b, c, v, tab, sub, idx, pl) = some (.inl (true, st', L', M'))) (K : Kp F Y M st L) : Kp F Y M' st' L' := by
  rw [ok_8] at hk
  have h := in_8 hs
  obtain ⟨x, hx, -, rfl, rfl, rfl⟩ := h
  exact ⟨K.1, K.2.1, K.2.2.set (v := vi _) (in_w32 _) rfl⟩
theorem kp_9 (hX : okX X) (hk : okI RT R i (9, a, b, c, v, tab, sub, idx, pl) = true) (hs : stp F X Y M L st (9, a, b, c, v, tab, sub, idx, pl) = some (.inl (true, st', L', M'))) (K : Kp F Y M st L) : Kp F Y M' st' L' := by
  rw [ok_9] at hk
  have h := in_9 hs
  obtain ⟨y, x, s0, rfl, -, rfl, rfl, rfl⟩ := h
  exact ⟨K.1, .kk (in_bin K.2.1.un.2.un.1 K.2.1.un.1) K.2.1.un.2.un.2, K.2.2⟩
theorem kp_10 (hX : okX X) (hk : okI RT R i (10, a, b, c, v, tab, sub, idx, pl) = true) (hs : stp F X Y M L st (10, a, b, c, v, tab, sub, idx, pl) = some (.inl (true, st', L', M'))) (K : Kp F Y M st L) : Kp F Y M' st' L' := by
  rw [ok_10] at hk
  have h := in_10 hs
  obtain ⟨x, s0, rfl, h, rfl, rfl⟩ := h
  rcases h with ⟨-, rfl⟩ | ⟨-, rfl⟩
  · exact ⟨K.1, .kk (in_w32 _) K.2.1.un.2, K.2.2⟩
  · exact ⟨K.1, .kk (in_w8 _) K.2.1.un.2, K.2.2⟩
theorem kp_11 (hX : okX X) (hk : okI RT R i (11, a, b, c, v, tab, sub, idx, pl) = true) (hs : stp F X Y M L st (11, a, b, c, v, tab, sub, idx, pl) = some (.inl (true, st', L', M'))) (K : Kp F Y M st L) : Kp F Y M' st' L' := by
  rw [ok_11] at hk
  have h := in_11 hs
  obtain ⟨y, x, s0, rfl, -, rfl, rfl, rfl⟩ := h
  exact ⟨K.1, .kk (in_lbn K.2.1.un.2.un.1 K.2.1.un.1) K.2.1.un.2.un.2, K.2.2⟩
theorem kp_12 (hX : okX X) (hk : okI RT R i (12, a, b, c, v, tab, sub, idx, pl) = true) (hs : stp F X Y M L st (12, a, b, c, v, tab, sub, idx, pl) = some (.inl (true, st', L', M'))) (K : Kp F Y M st L) : Kp F Y M' st' L' := by
  rw [ok_12] at hk
  have h := in_12 hs
  obtain ⟨x, s0, h, rfl, rfl⟩ := h
  rcases h with ⟨-, rfl, rfl⟩ | ⟨-, rfl, rfl⟩
  · exact ⟨K.1, .kk (in64_32 K.2.1.un.1) K.2.1.un.2, K.2.2⟩
  · exact ⟨K.1, .kk (in_w32 _) K.2.1.un.2, K.2.2⟩
theorem kp_13 (hX : okX X) (hk : okI RT R i (13, a, b, c, v, tab, sub, idx, pl) = true) (hs : stp F X Y M L st (13, a, b, c, v, tab, sub, idx, pl) = some (.inl (true, st', L', M'))) (K : Kp F Y M st L) : Kp F Y M' st' L' := by
  rw [ok_13] at hk
  have h := in_13 hs
  obtain ⟨y, x, s0, rfl, h, rfl, rfl⟩ := h
  rcases h with ⟨-, rfl⟩ | ⟨-, rfl⟩
  · exact ⟨K.1, .kk (in_t64 _) K.2.1.un.2.un.2, K.2.2⟩
  · exact ⟨K.1, .kk (in_t64 _) K.2.1.un.2.un.2, K.2.2⟩
theorem kp_14 (hX : okX X) (hk : okI RT R i (14, a, b, c, v, tab, sub, idx, pl) = true) (hs : stp F X Y M L st (14, a, b, c, v, tab, sub, idx, pl) = some (.inl (true, st', L', M'))) (K : Kp F Y M st L) : Kp F Y M' st' L' := by
  rw [ok_14] at hk
  have h := in_14 hs
  obtain ⟨y, x, s0, rfl, rfl, rfl, rfl⟩ := h
  exact ⟨K.1, .kk (in_lcm3 _ _) K.2.1.un.2.un.2, K.2.2⟩
theorem kp_19 (hX : okX X) (hk : okI RT R i (19, a, b, c, v, tab, sub, idx, pl) = true) (hs : stp F X Y M L st (19, a, b, c, v, tab, sub, idx, pl) = some (.inl (true, st', L', M'))) (K : Kp F Y M st L) : Kp F Y M' st' L' := by
  rw [ok_19] at hk
  have h := in_19 hs
  obtain ⟨k, s0, rfl, hkd, rfl, rfl, rfl⟩ := h
  exact ⟨K.1, .kk (K.1.fI (an3 hk).1 hkd (an3 hk).2.1) K.2.1.un.2, K.2.2⟩
theorem kp_20 (hX : okX X) (hk : okI RT R i (20, a, b, c, v, tab, sub, idx, pl) = true) (hs : stp F X Y M L st (20, a, b, c, v, tab, sub, idx, pl) = some (.inl (true, st', L', M'))) (K : Kp F Y M st L) : Kp F Y M' st' L' := by
  rw [ok_20] at hk
  have h := in_20 hs
  obtain ⟨k, s0, rfl, hkd, -, rfl, rfl, rfl⟩ := h
  exact ⟨K.1, .kk trivial K.2.1.un.2, K.2.2⟩
theorem kp_21 (hX : okX X) (hk : okI RT R i (21, a, b, c, v, tab, sub, idx, pl) = true) (hs : stp F X Y M L st (21, a, b, c, v, tab, sub, idx, pl) = some (.inl (true, st', L', M'))) (K : Kp F Y M st L) : Kp F Y M' st' L' := by
  rw [ok_21] at hk
  have h := in_21 hs
  obtain ⟨x, k, s0, rfl, hkd, -, rfl, rfl, rfl⟩ := h
  exact ⟨K.1.fS (an3 hk).1 hkd (ty_c (an3 hk).2.1) K.2.1.un.1, K.2.1.un.2.un.2, K.2.2⟩
theorem kp_23 (hX : okX X) (hk : okI RT R i (23, a, b, c, v, tab, sub, idx, pl) = true) (hs : stp F X Y M L st (23, a, b, c, v, tab, sub, idx, pl) = some (.inl (true, st', L', M'))) (K : Kp F Y M st L) : Kp F Y M' st' L' := by
  rw [ok_23] at hk
  have h := in_23 hs
  obtain ⟨x, k, s0, rfl, hkd, -, rfl, rfl, rfl⟩ := h
  exact ⟨K.1.fS (an3 hk).1 hkd (ty_c (an3 hk).2.1) K.2.1.un.1, K.2.1.un.2.un.2, K.2.2⟩
theorem kp_22 (hX : okX X) (hk : okI RT R i (22, a, b, c, v, tab, sub, idx, pl) = true) (hs : stp F X Y M L st (22, a, b, c, v, tab, sub, idx, pl) = some (.inl (true, st', L', M'))) (K : Kp F Y M st L) : Kp F Y M' st' L' := by
  rw [ok_22] at hk
  have h := in_22 hs
  obtain ⟨t, k, s0, rfl, hkd, hF, rfl, rfl, rfl⟩ := h
  exact ⟨K.1.fR (an3 hk).1 hkd (an3 hk).2.1 (eq_of_beq hF), K.2.1.un.2.un.2, K.2.2⟩
theorem kp_24 (hX : okX X) (hk : okI RT R i (24, a, b, c, v, tab, sub, idx, pl) = true) (hs : stp F X Y M L st (24, a, b, c, v, tab, sub, idx, pl) = some (.inl (true, st', L', M'))) (K : Kp F Y M st L) : Kp F Y M' st' L' := by
  rw [ok_24] at hk
  have h := in_24 hs
  obtain ⟨t, k, s0, rfl, hkd, hF, rfl, rfl, rfl⟩ := h
  exact ⟨K.1.fR (an3 hk).1 hkd (an3 hk).2.1 (eq_of_beq hF), K.2.1.un.2.un.2, K.2.2⟩
theorem kp_25 (hX : okX X) (hk : okI RT R i (25, a, b, c, v, tab, sub, idx, pl) = true) (hs : stp F X Y M L st (25, a, b, c, v, tab, sub, idx, pl) = some (.inl (true, st', L', M'))) (K : Kp F Y M st L) : Kp F Y M' st' L' := by
  rw [ok_25] at hk
  have h := in_25 hs
  rcases h with ⟨x, k, s0, rfl, hkd, -, -, rfl, rfl, h⟩ | ⟨x, k, s0, rfl, -, h0, h1, rfl, rfl, rfl⟩
  · rcases h with ⟨rfl, rfl⟩ | ⟨rfl, -, rfl⟩ | ⟨h3, h4, rfl⟩
    · obtain ⟨n, hn⟩ := kd_ge (by decide) hkd
      exact ⟨K.1, .kk ((K.1.1 k _ hn _).2.2 rfl) K.2.1.un.2.un.2, K.2.2⟩
    · exact ⟨K.1, .kk trivial K.2.1.un.2.un.2, K.2.2⟩
    · have ha : a ≤ 2 := by
        split at hk
        all_goals first | omega | exact absurd rfl h3 | exact absurd rfl h4 | cases hk
      obtain ⟨n, hn⟩ := kd_ge (by omega) hkd
      exact ⟨K.1, .kk ((K.1.1 k _ hn _).2.1 ha) K.2.1.un.2.un.2, K.2.2⟩
  · refine ⟨K.1, .kk ((hX k).1 _ ?_) K.2.1.un.2.un.2, K.2.2⟩
    rw [List.getD_eq_getElem?_getD, List.getElem?_eq_getElem (by omega), Option.getD_some]
    exact List.getElem_mem _
theorem kp_26 (hX : okX X) (hk : okI RT R i (26, a, b, c, v, tab, sub, idx, pl) = true) (hs : stp F X Y M L st (26, a, b, c, v, tab, sub, idx, pl) = some (.inl (true, st', L', M'))) (K : Kp F Y M st L) : Kp F Y M' st' L' := by
  rw [ok_26] at hk
  have h := in_26 hs
  obtain ⟨z, x, k, s0, w, hkd, -, -, rfl, rfl, rfl, h⟩ := h
  rcases h with ⟨rfl, rfl, rfl⟩ | ⟨rfl, rfl, rfl⟩ | ⟨rfl, rfl, rfl⟩ | ⟨rfl, rfl, rfl, -⟩
  · obtain ⟨n, hn⟩ := kd_ge (by decide) hkd
    exact ⟨K.1.st hn ⟨fun _ => K.2.1.un.1, fun q => absurd rfl q⟩ (by show ¬ ((10 ≤ 3 ∧ _) ∨ 3 = 4); omega), K.2.1.un.2.un.2.un.2, K.2.2⟩
  · obtain ⟨n, hn⟩ := kd_ge (by decide) hkd
    exact ⟨K.1.st hn ⟨fun q => absurd q (show ¬ 0 = 3 by decide), fun _ => K.2.1.un.1⟩ (by show ¬ ((10 ≤ 0 ∧ _) ∨ 0 = 4); omega), K.2.1.un.2.un.2.un.2, K.2.2⟩
  · obtain ⟨n, hn⟩ := kd_ge (by decide) hkd
    exact ⟨K.1.st hn ⟨fun q => absurd q (show ¬ 1 = 3 by decide), fun _ => in_w8 _⟩ (by show ¬ ((10 ≤ 1 ∧ _) ∨ 1 = 4); omega), K.2.1.un.2.un.2.un.2, K.2.2⟩
  · obtain ⟨n, hn⟩ := kd_ge (by decide) hkd
    exact ⟨K.1.st hn ⟨fun q => absurd q (show ¬ 2 = 3 by decide), fun _ => K.2.1.un.1⟩ (by show ¬ ((10 ≤ 2 ∧ _) ∨ 2 = 4); omega), K.2.1.un.2.un.2.un.2, K.2.2⟩
theorem kp_27 (hX : okX X) (hk : okI RT R i (27, a, b, c, v, tab, sub, idx, pl) = true) (hs : stp F X Y M L st (27, a, b, c, v, tab, sub, idx, pl) = some (.inl (true, st', L', M'))) (K : Kp F Y M st L) : Kp F Y M' st' L' := by
  rw [ok_27] at hk
  have h := in_27 hs
  obtain ⟨-, rfl, rfl, rfl⟩ := h
  exact ⟨K.1, .kk trivial K.2.1, K.2.2⟩
theorem kp_28 (hX : okX X) (hk : okI RT R i (28, a, b, c, v, tab, sub, idx, pl) = true) (hs : stp F X Y M L st (28, a, b, c, v, tab, sub, idx, pl) = some (.inl (true, st', L', M'))) (K : Kp F Y M st L) : Kp F Y M' st' L' := by
  rw [ok_28] at hk
  have h := in_28 hs
  obtain ⟨rfl, rfl, rfl⟩ := h
  exact ⟨K.1, .kk trivial K.2.1, K.2.2⟩
theorem kp_29 (hX : okX X) (hk : okI RT R i (29, a, b, c, v, tab, sub, idx, pl) = true) (hs : stp F X Y M L st (29, a, b, c, v, tab, sub, idx, pl) = some (.inl (true, st', L', M'))) (K : Kp F Y M st L) : Kp F Y M' st' L' := by
  rw [ok_29] at hk
  have h := in_29 hs
  obtain ⟨s0, rfl, rfl, rfl, rfl⟩ := h
  exact ⟨K.1, .kk (hX 2).2 K.2.1.un.2, K.2.2⟩
theorem kp_32 (hX : okX X) (hk : okI RT R i (32, a, b, c, v, tab, sub, idx, pl) = true) (hs : stp F X Y M L st (32, a, b, c, v, tab, sub, idx, pl) = some (.inl (true, st', L', M'))) (K : Kp F Y M st L) : Kp F Y M' st' L' := by
  rw [ok_32] at hk
  have h := in_32 hs
  obtain ⟨k, s0, rfl, rfl, rfl, rfl⟩ := h
  exact ⟨K.1, .kk trivial K.2.1, K.2.2⟩
theorem kp_33 (hX : okX X) (hk : okI RT R i (33, a, b, c, v, tab, sub, idx, pl) = true) (hs : stp F X Y M L st (33, a, b, c, v, tab, sub, idx, pl) = some (.inl (true, st', L', M'))) (K : Kp F Y M st L) : Kp F Y M' st' L' := by
  rw [ok_33] at hk
  have h := in_33 hs
  obtain ⟨x, k, s0, rfl, rfl, rfl, rfl⟩ := h
  exact ⟨K.1, .kk K.2.1.un.1 (.kk trivial K.2.1), K.2.2⟩
theorem kp_34 (hX : okX X) (hk : okI RT R i (34, a, b, c, v, tab, sub, idx, pl) = true) (hs : stp F X Y M L st (34, a, b, c, v, tab, sub, idx, pl) = some (.inl (true, st', L', M'))) (K : Kp F Y M st L) : Kp F Y M' st' L' := by
  rw [ok_34] at hk
  have h := in_34 hs
  obtain ⟨x, s0, h, rfl, rfl, rfl⟩ := h
  rcases h with ⟨-, rfl⟩ | ⟨-, rfl⟩
  · exact ⟨K.1, K.2.1.un.2, K.2.2⟩
  · exact ⟨K.1, K.2.1.un.2, K.2.2⟩
theorem kp_38 (hX : okX X) (hk : okI RT R i (38, a, b, c, v, tab, sub, idx, pl) = true) (hs : stp F X Y M L st (38, a, b, c, v, tab, sub, idx, pl) = some (.inl (true, st', L', M'))) (K : Kp F Y M st L) : Kp F Y M' st' L' := by
  rw [ok_38] at hk
  have h := in_38 hs
  obtain ⟨k, s0, rfl, -, rfl, rfl, rfl⟩ := h
  exact ⟨K.1, K.2.1.un.2, K.2.2⟩
theorem kp_39 (hX : okX X) (hk : okI RT R i (39, a, b, c, v, tab, sub, idx, pl) = true) (hs : stp F X Y M L st (39, a, b, c, v, tab, sub, idx, pl) = some (.inl (true, st', L', M'))) (K : Kp F Y M st L) : Kp F Y M' st' L' := by
  rw [ok_39] at hk
  have h := in_39 hs
  obtain ⟨h, rfl, rfl⟩ := h
  rcases h with ⟨-, x, s0, rfl, -, rfl⟩ | ⟨-, y, x, s0, rfl, -, rfl⟩
  · refine ⟨K.1, .kk (show in32 (mAbs x) from ?_) K.2.1.un.2, K.2.2⟩
    unfold mAbs
    split
    · exact K.2.1.un.1
    · exact in_w32 _
  · refine ⟨K.1, .kk (show in32 (mMM a x y) from ?_) K.2.1.un.2.un.2, K.2.2⟩
    have hy := K.2.1.un.1
    have hx := K.2.1.un.2.un.1
    unfold mMM
    split
    · unfold mMax
      split
      · exact hy
      · exact hx
    · unfold mMin
      split
      · exact hy
      · exact hx
theorem kp_N {mi : MI} (hX : okX X) (hk : okI RT R i mi = true) (hs : stp F X Y M L st mi = some (.inl (true, st', L', M'))) (K : Kp F Y M st L) : Kp F Y M' st' L' := by
  obtain ⟨op, a, b, c, v, tab, sub, idx, pl⟩ := mi
  match op, hk, hs with
  | 0, hk, hs => exact kp_0 hX hk hs K
  | 1, hk, hs => exact kp_1 hX hk hs K
  | 2, hk, hs => exact kp_2 hX hk hs K
  | 3, hk, hs => exact kp_3 hX hk hs K
  | 4, hk, hs => exact kp_4 hX hk hs K
  | 5, hk, hs => exact kp_5 hX hk hs K
  | 6, hk, hs => exact kp_6 hX hk hs K
  | 7, hk, hs => exact kp_7 hX hk hs K
  | 8, hk, hs => exact kp_8 hX hk hs K
  | 9, hk, hs => exact kp_9 hX hk hs K
  | 10, hk, hs => exact kp_10 hX hk hs K
  | 11, hk, hs => exact kp_11 hX hk hs K
  | 12, hk, hs => exact kp_12 hX hk hs K
  | 13, hk, hs => exact kp_13 hX hk hs K
  | 14, hk, hs => exact kp_14 hX hk hs K
  | 15, hk, hs => exact absurd hs in_15
  | 16, hk, hs => exact absurd hs in_16
  | 17, hk, hs => exact absurd hs in_17
  | 18, hk, hs => exact absurd hs in_18
  | 19, hk, hs => exact kp_19 hX hk hs K
  | 20, hk, hs => exact kp_20 hX hk hs K
  | 21, hk, hs => exact kp_21 hX hk hs K
  | 22, hk, hs => exact kp_22 hX hk hs K
  | 23, hk, hs => exact kp_23 hX hk hs K
  | 24, hk, hs => exact kp_24 hX hk hs K
  | 25, hk, hs => exact kp_25 hX hk hs K
  | 26, hk, hs => exact kp_26 hX hk hs K
  | 27, hk, hs => exact kp_27 hX hk hs K
  | 28, hk, hs => exact kp_28 hX hk hs K
  | 29, hk, hs => exact kp_29 hX hk hs K
  | 30, hk, hs => exact absurd hs in_30
  | 31, hk, hs => exact absurd hs in_31
  | 32, hk, hs => exact kp_32 hX hk hs K
  | 33, hk, hs => exact kp_33 hX hk hs K
  | 34, hk, hs => exact kp_34 hX hk hs K
  | 35, hk, hs => exact absurd hs in_35
  | 36, hk, hs => exact absurd hs in_36
  | 37, hk, hs => exact absurd hs in_37
  | 38, hk, hs => exact kp_38 hX hk hs K
  | 39, hk, hs => exact kp_39 hX hk hs K
  | op + 40, hk, hs => cases hs
theorem kp_B {mi : MI} {g : Bool} {t : Nat} (hs : stp F X Y M L st mi = some (.inr (.inl (g, t, st')))) (K : Kp F Y M st L) : okVs st' := by
  obtain ⟨op, a, b, c, v, tab, sub, idx, pl⟩ := mi
  match op, hs with
  | 16, hs =>
    rw [st_16] at hs
    split at hs
    · cases hs
      exact K.2.1.un.2
    · cases hs
  | 17, hs =>
    rw [st_17] at hs
    split at hs
    · cases hs
      exact K.2.1.un.2.un.2
    · cases hs
  | 0, hs =>
    rw [st_0] at hs
    repeat' first | (cases hs; done) | split at hs
  | 1, hs =>
    rw [st_1] at hs
    repeat' first | (cases hs; done) | split at hs
  | 2, hs =>
    rw [st_2] at hs
    repeat' first | (cases hs; done) | split at hs
  | 3, hs =>
    rw [st_3] at hs
    repeat' first | (cases hs; done) | split at hs
  | 4, hs =>
    rw [st_4] at hs
    repeat' first | (cases hs; done) | split at hs
  | 5, hs =>
    rw [st_5] at hs
    repeat' first | (cases hs; done) | split at hs
  | 6, hs =>
    rw [st_6] at hs
    repeat' first | (cases hs; done) | split at hs
  | 7, hs =>
    rw [st_7] at hs
    repeat' first | (cases hs; done) | split at hs
  | 8, hs =>
    rw [st_8] at hs
    repeat' first | (cases hs; done) | split at hs
  | 9, hs =>
    rw [st_9] at hs
    repeat' first | (cases hs; done) | split at hs
  | 10, hs =>
    rw [st_10] at hs
    repeat' first | (cases hs; done) | split at hs
  | 11, hs =>
    rw [st_11] at hs
    repeat' first | (cases hs; done) | split at hs
  | 12, hs =>
    rw [st_12] at hs
    repeat' first | (cases hs; done) | split at hs
  | 13, hs =>
    rw [st_13] at hs
    repeat' first | (cases hs; done) | split at hs
  | 14, hs =>
    rw [st_14] at hs
    repeat' first | (cases hs; done) | split at hs
  | 15, hs =>
    rw [st_15] at hs
    repeat' first | (cases hs; done) | split at hs
  | 18, hs =>
    rw [st_18] at hs
    repeat' first | (cases hs; done) | split at hs
  | 19, hs =>
    rw [st_19] at hs
    repeat' first | (cases hs; done) | split at hs
  | 20, hs =>
    rw [st_20] at hs
    repeat' first | (cases hs; done) | split at hs
  | 21, hs =>
    rw [st_21] at hs
    repeat' first | (cases hs; done) | split at hs
  | 22, hs =>
    rw [st_22] at hs
    repeat' first | (cases hs; done) | split at hs
  | 23, hs =>
    rw [st_23] at hs
    repeat' first | (cases hs; done) | split at hs
  | 24, hs =>
    rw [st_24] at hs
    repeat' first | (cases hs; done) | split at hs
  | 25, hs =>
    rw [st_25] at hs
    repeat' first | (cases hs; done) | split at hs
  | 26, hs =>
    rw [st_26] at hs
    repeat' first | (cases hs; done) | split at hs
  | 27, hs =>
    rw [st_27] at hs
    repeat' first | (cases hs; done) | split at hs
  | 28, hs =>
    rw [st_28] at hs
    repeat' first | (cases hs; done) | split at hs
  | 29, hs =>
    rw [st_29] at hs
    repeat' first | (cases hs; done) | split at hs
  | 30, hs =>
    rw [st_30] at hs
    repeat' first | (cases hs; done) | split at hs
  | 31, hs =>
    rw [st_31] at hs
    repeat' first | (cases hs; done) | split at hs
  | 32, hs =>
    rw [st_32] at hs
    repeat' first | (cases hs; done) | split at hs
  | 33, hs =>
    rw [st_33] at hs
    repeat' first | (cases hs; done) | split at hs
  | 34, hs =>
    rw [st_34] at hs
    repeat' first | (cases hs; done) | split at hs
  | 35, hs =>
    rw [st_35] at hs
    repeat' first | (cases hs; done) | split at hs
  | 36, hs =>
    rw [st_36] at hs
    repeat' first | (cases hs; done) | split at hs
  | 37, hs =>
    rw [st_37] at hs
    repeat' first | (cases hs; done) | split at hs
  | 38, hs =>
    rw [st_38] at hs
    repeat' first | (cases hs; done) | split at hs
  | 39, hs =>
    rw [st_39] at hs
    repeat' first | (cases hs; done) | split at hs
  | op + 40, hs => cases hs
theorem kp_S {mi : MI} {x : Int} {tb : List (Int × Nat)} {t : Nat} (hs : stp F X Y M L st mi = some (.inr (.inr (.inl (x, tb, t, st'))))) (K : Kp F Y M st L) : okVs st' := by
  obtain ⟨op, a, b, c, v, tab, sub, idx, pl⟩ := mi
  match op, hs with
  | 18, hs =>
    rw [st_18] at hs
    split at hs
    · cases hs
      exact K.2.1.un.2
    · cases hs
  | 0, hs =>
    rw [st_0] at hs
    repeat' first | (cases hs; done) | split at hs
  | 1, hs =>
    rw [st_1] at hs
    repeat' first | (cases hs; done) | split at hs
  | 2, hs =>
    rw [st_2] at hs
    repeat' first | (cases hs; done) | split at hs
  | 3, hs =>
    rw [st_3] at hs
    repeat' first | (cases hs; done) | split at hs
  | 4, hs =>
    rw [st_4] at hs
    repeat' first | (cases hs; done) | split at hs
  | 5, hs =>
    rw [st_5] at hs
    repeat' first | (cases hs; done) | split at hs
  | 6, hs =>
    rw [st_6] at hs
    repeat' first | (cases hs; done) | split at hs
  | 7, hs =>
    rw [st_7] at hs
    repeat' first | (cases hs; done) | split at hs
  | 8, hs =>
    rw [st_8] at hs
    repeat' first | (cases hs; done) | split at hs
  | 9, hs =>
    rw [st_9] at hs
    repeat' first | (cases hs; done) | split at hs
  | 10, hs =>
    rw [st_10] at hs
    repeat' first | (cases hs; done) | split at hs
  | 11, hs =>
    rw [st_11] at hs
    repeat' first | (cases hs; done) | split at hs
  | 12, hs =>
    rw [st_12] at hs
    repeat' first | (cases hs; done) | split at hs
  | 13, hs =>
    rw [st_13] at hs
    repeat' first | (cases hs; done) | split at hs
  | 14, hs =>
    rw [st_14] at hs
    repeat' first | (cases hs; done) | split at hs
  | 15, hs =>
    rw [st_15] at hs
    repeat' first | (cases hs; done) | split at hs
  | 16, hs =>
    rw [st_16] at hs
    repeat' first | (cases hs; done) | split at hs
  | 17, hs =>
    rw [st_17] at hs
    repeat' first | (cases hs; done) | split at hs
  | 19, hs =>
    rw [st_19] at hs
    repeat' first | (cases hs; done) | split at hs
  | 20, hs =>
    rw [st_20] at hs
    repeat' first | (cases hs; done) | split at hs
  | 21, hs =>
    rw [st_21] at hs
    repeat' first | (cases hs; done) | split at hs
  | 22, hs =>
    rw [st_22] at hs
    repeat' first | (cases hs; done) | split at hs
  | 23, hs =>
    rw [st_23] at hs
    repeat' first | (cases hs; done) | split at hs
  | 24, hs =>
    rw [st_24] at hs
    repeat' first | (cases hs; done) | split at hs
  | 25, hs =>
    rw [st_25] at hs
    repeat' first | (cases hs; done) | split at hs
  | 26, hs =>
    rw [st_26] at hs
    repeat' first | (cases hs; done) | split at hs
  | 27, hs =>
    rw [st_27] at hs
    repeat' first | (cases hs; done) | split at hs
  | 28, hs =>
    rw [st_28] at hs
    repeat' first | (cases hs; done) | split at hs
  | 29, hs =>
    rw [st_29] at hs
    repeat' first | (cases hs; done) | split at hs
  | 30, hs =>
    rw [st_30] at hs
    repeat' first | (cases hs; done) | split at hs
  | 31, hs =>
    rw [st_31] at hs
    repeat' first | (cases hs; done) | split at hs
  | 32, hs =>
    rw [st_32] at hs
    repeat' first | (cases hs; done) | split at hs
  | 33, hs =>
    rw [st_33] at hs
    repeat' first | (cases hs; done) | split at hs
  | 34, hs =>
    rw [st_34] at hs
    repeat' first | (cases hs; done) | split at hs
  | 35, hs =>
    rw [st_35] at hs
    repeat' first | (cases hs; done) | split at hs
  | 36, hs =>
    rw [st_36] at hs
    repeat' first | (cases hs; done) | split at hs
  | 37, hs =>
    rw [st_37] at hs
    repeat' first | (cases hs; done) | split at hs
  | 38, hs =>
    rw [st_38] at hs
    repeat' first | (cases hs; done) | split at hs
  | 39, hs =>
    rw [st_39] at hs
    repeat' first | (cases hs; done) | split at hs
  | op + 40, hs => cases hs
theorem kp_C {mi : MI} {g : Bool} {m c' : Nat} {as : List Vv} (hs : stp F X Y M L st mi = some (.inr (.inr (.inr (.inl (g, m, as, c', st')))))) (K : Kp F Y M st L) : okVs st' ∧ okVs as ∧ ∀ z ∈ as, isXv z = false := by
  obtain ⟨op, a, b, c, v, tab, sub, idx, pl⟩ := mi
  match op, hs with
  | 30, hs =>
    rw [st_30] at hs
    split at hs
    · rename_i hb
      cases hs
      refine ⟨fun z hz => K.2.1 z (List.mem_of_mem_drop hz), fun z hz => K.2.1 z (List.mem_of_mem_take (List.mem_reverse.mp hz)), fun z hz => ?_⟩
      have := List.all_eq_true.mp (an2 hb).1 z (List.mem_reverse.mp hz)
      simpa using this
    · cases hs
  | 0, hs =>
    rw [st_0] at hs
    repeat' first | (cases hs; done) | split at hs
  | 1, hs =>
    rw [st_1] at hs
    repeat' first | (cases hs; done) | split at hs
  | 2, hs =>
    rw [st_2] at hs
    repeat' first | (cases hs; done) | split at hs
  | 3, hs =>
    rw [st_3] at hs
    repeat' first | (cases hs; done) | split at hs
  | 4, hs =>
    rw [st_4] at hs
    repeat' first | (cases hs; done) | split at hs
  | 5, hs =>
    rw [st_5] at hs
    repeat' first | (cases hs; done) | split at hs
  | 6, hs =>
    rw [st_6] at hs
    repeat' first | (cases hs; done) | split at hs
  | 7, hs =>
    rw [st_7] at hs
    repeat' first | (cases hs; done) | split at hs
  | 8, hs =>
    rw [st_8] at hs
    repeat' first | (cases hs; done) | split at hs
  | 9, hs =>
    rw [st_9] at hs
    repeat' first | (cases hs; done) | split at hs
  | 10, hs =>
    rw [st_10] at hs
    repeat' first | (cases hs; done) | split at hs
  | 11, hs =>
    rw [st_11] at hs
    repeat' first | (cases hs; done) | split at hs
  | 12, hs =>
    rw [st_12] at hs
    repeat' first | (cases hs; done) | split at hs
  | 13, hs =>
    rw [st_13] at hs
    repeat' first | (cases hs; done) | split at hs
  | 14, hs =>
    rw [st_14] at hs
    repeat' first | (cases hs; done) | split at hs
  | 15, hs =>
    rw [st_15] at hs
    repeat' first | (cases hs; done) | split at hs
  | 16, hs =>
    rw [st_16] at hs
    repeat' first | (cases hs; done) | split at hs
  | 17, hs =>
    rw [st_17] at hs
    repeat' first | (cases hs; done) | split at hs
  | 18, hs =>
    rw [st_18] at hs
    repeat' first | (cases hs; done) | split at hs
  | 19, hs =>
    rw [st_19] at hs
    repeat' first | (cases hs; done) | split at hs
  | 20, hs =>
    rw [st_20] at hs
    repeat' first | (cases hs; done) | split at hs
  | 21, hs =>
    rw [st_21] at hs
    repeat' first | (cases hs; done) | split at hs
  | 22, hs =>
    rw [st_22] at hs
    repeat' first | (cases hs; done) | split at hs
  | 23, hs =>
    rw [st_23] at hs
    repeat' first | (cases hs; done) | split at hs
  | 24, hs =>
    rw [st_24] at hs
    repeat' first | (cases hs; done) | split at hs
  | 25, hs =>
    rw [st_25] at hs
    repeat' first | (cases hs; done) | split at hs
  | 26, hs =>
    rw [st_26] at hs
    repeat' first | (cases hs; done) | split at hs
  | 27, hs =>
    rw [st_27] at hs
    repeat' first | (cases hs; done) | split at hs
  | 28, hs =>
    rw [st_28] at hs
    repeat' first | (cases hs; done) | split at hs
  | 29, hs =>
    rw [st_29] at hs
    repeat' first | (cases hs; done) | split at hs
  | 31, hs =>
    rw [st_31] at hs
    repeat' first | (cases hs; done) | split at hs
  | 32, hs =>
    rw [st_32] at hs
    repeat' first | (cases hs; done) | split at hs
  | 33, hs =>
    rw [st_33] at hs
    repeat' first | (cases hs; done) | split at hs
  | 34, hs =>
    rw [st_34] at hs
    repeat' first | (cases hs; done) | split at hs
  | 35, hs =>
    rw [st_35] at hs
    repeat' first | (cases hs; done) | split at hs
  | 36, hs =>
    rw [st_36] at hs
    repeat' first | (cases hs; done) | split at hs
  | 37, hs =>
    rw [st_37] at hs
    repeat' first | (cases hs; done) | split at hs
  | 38, hs =>
    rw [st_38] at hs
    repeat' first | (cases hs; done) | split at hs
  | 39, hs =>
    rw [st_39] at hs
    repeat' first | (cases hs; done) | split at hs
  | op + 40, hs => cases hs
theorem kp_R {mi : MI} {g : Bool} {w : Vv} (hs : stp F X Y M L st mi = some (.inr (.inr (.inr (.inr (.inl (g, w))))))) (K : Kp F Y M st L) : okv w := by
  obtain ⟨op, a, b, c, v, tab, sub, idx, pl⟩ := mi
  match op, hs with
  | 31, hs =>
    rw [st_31] at hs
    split at hs
    · split at hs
      · cases hs
        exact in32_0
      · cases hs
    · split at hs
      · cases hs
        exact K.2.1.un.1
      · cases hs
    · split at hs
      · cases hs
        exact K.2.1.un.1
      · cases hs
  | 0, hs =>
    rw [st_0] at hs
    repeat' first | (cases hs; done) | split at hs
  | 1, hs =>
    rw [st_1] at hs
    repeat' first | (cases hs; done) | split at hs
  | 2, hs =>
    rw [st_2] at hs
    repeat' first | (cases hs; done) | split at hs
  | 3, hs =>
    rw [st_3] at hs
    repeat' first | (cases hs; done) | split at hs
  | 4, hs =>
    rw [st_4] at hs
    repeat' first | (cases hs; done) | split at hs
  | 5, hs =>
    rw [st_5] at hs
    repeat' first | (cases hs; done) | split at hs
  | 6, hs =>
    rw [st_6] at hs
    repeat' first | (cases hs; done) | split at hs
  | 7, hs =>
    rw [st_7] at hs
    repeat' first | (cases hs; done) | split at hs
  | 8, hs =>
    rw [st_8] at hs
    repeat' first | (cases hs; done) | split at hs
  | 9, hs =>
    rw [st_9] at hs
    repeat' first | (cases hs; done) | split at hs
  | 10, hs =>
    rw [st_10] at hs
    repeat' first | (cases hs; done) | split at hs
  | 11, hs =>
    rw [st_11] at hs
    repeat' first | (cases hs; done) | split at hs
  | 12, hs =>
    rw [st_12] at hs
    repeat' first | (cases hs; done) | split at hs
  | 13, hs =>
    rw [st_13] at hs
    repeat' first | (cases hs; done) | split at hs
  | 14, hs =>
    rw [st_14] at hs
    repeat' first | (cases hs; done) | split at hs
  | 15, hs =>
    rw [st_15] at hs
    repeat' first | (cases hs; done) | split at hs
  | 16, hs =>
    rw [st_16] at hs
    repeat' first | (cases hs; done) | split at hs
  | 17, hs =>
    rw [st_17] at hs
    repeat' first | (cases hs; done) | split at hs
  | 18, hs =>
    rw [st_18] at hs
    repeat' first | (cases hs; done) | split at hs
  | 19, hs =>
    rw [st_19] at hs
    repeat' first | (cases hs; done) | split at hs
  | 20, hs =>
    rw [st_20] at hs
    repeat' first | (cases hs; done) | split at hs
  | 21, hs =>
    rw [st_21] at hs
    repeat' first | (cases hs; done) | split at hs
  | 22, hs =>
    rw [st_22] at hs
    repeat' first | (cases hs; done) | split at hs
  | 23, hs =>
    rw [st_23] at hs
    repeat' first | (cases hs; done) | split at hs
  | 24, hs =>
    rw [st_24] at hs
    repeat' first | (cases hs; done) | split at hs
  | 25, hs =>
    rw [st_25] at hs
    repeat' first | (cases hs; done) | split at hs
  | 26, hs =>
    rw [st_26] at hs
    repeat' first | (cases hs; done) | split at hs
  | 27, hs =>
    rw [st_27] at hs
    repeat' first | (cases hs; done) | split at hs
  | 28, hs =>
    rw [st_28] at hs
    repeat' first | (cases hs; done) | split at hs
  | 29, hs =>
    rw [st_29] at hs
    repeat' first | (cases hs; done) | split at hs
  | 30, hs =>
    rw [st_30] at hs
    repeat' first | (cases hs; done) | split at hs
  | 32, hs =>
    rw [st_32] at hs
    repeat' first | (cases hs; done) | split at hs
  | 33, hs =>
    rw [st_33] at hs
    repeat' first | (cases hs; done) | split at hs
  | 34, hs =>
    rw [st_34] at hs
    repeat' first | (cases hs; done) | split at hs
  | 35, hs =>
    rw [st_35] at hs
    repeat' first | (cases hs; done) | split at hs
  | 36, hs =>
    rw [st_36] at hs
    repeat' first | (cases hs; done) | split at hs
  | 37, hs =>
    rw [st_37] at hs
    repeat' first | (cases hs; done) | split at hs
  | 38, hs =>
    rw [st_38] at hs
    repeat' first | (cases hs; done) | split at hs
  | 39, hs =>
    rw [st_39] at hs
    repeat' first | (cases hs; done) | split at hs
  | op + 40, hs => cases hs
theorem kp_A {mi : MI} {Y' : YY} (hs : stp F X Y M L st mi = some (.inr (.inr (.inr (.inr (.inr (.inl (st', Y', M')))))))) (K : Kp F Y M st L) : Inv F Y' M' ∧ okVs st' ∧ ∃ Y2, Y' = Y ++ Y2 := by
  obtain ⟨op, a, b, c, v, tab, sub, idx, pl⟩ := mi
  have hz : ∀ k, k < Y.length → ∀ j, zrM M Y.length k j = M k j := fun k hk j => if_neg (by omega)
  have hz0 : ∀ (q : Nat × Nat) (k : Nat) (p : Nat × Nat), ([q] : YY)[k]? = some p → p.1 ≠ 4 → ∀ j, zrM M Y.length (Y.length + k) j = 0 := fun q k p hp _ j => by
    have hk : k < 1 := (List.getElem?_eq_some_iff.mp hp).1
    exact if_pos (by omega)
  match op, hs with
  | 35, hs =>
    rw [st_35] at hs
    cases hs
    exact ⟨K.1.app hz (hz0 _), .kk trivial K.2.1, _, rfl⟩
  | 36, hs =>
    rw [st_36] at hs
    split at hs
    · split at hs
      · cases hs
        exact ⟨K.1.app hz (hz0 _), .kk trivial K.2.1.un.2, _, rfl⟩
      · cases hs
    · cases hs
  | 37, hs =>
    rw [st_37] at hs
    split at hs
    · rename_i x s0 _
      split at hs
      · cases hs
        refine ⟨K.1.app (fun k hk j => ?_) (fun k p hp h4 j => ?_), .kk trivial K.2.1.un.2.un.2, _, rfl⟩
        · unfold muM
          rw [if_neg (by omega), if_neg (by omega)]
        · cases k with
          | zero => cases hp; exact absurd rfl h4
          | succ k =>
            rw [List.getElem?_cons_succ, List.getElem?_replicate] at hp
            by_cases hk : k < x.toNat
            · unfold muM
              rw [if_neg (by omega), if_pos (by omega)]
            · rw [if_neg hk] at hp
              cases hp
      · cases hs
    · cases hs
  | 0, hs =>
    rw [st_0] at hs
    repeat' first | (cases hs; done) | split at hs
  | 1, hs =>
    rw [st_1] at hs
    repeat' first | (cases hs; done) | split at hs
  | 2, hs =>
    rw [st_2] at hs
    repeat' first | (cases hs; done) | split at hs
  | 3, hs =>
    rw [st_3] at hs
    repeat' first | (cases hs; done) | split at hs
  | 4, hs =>
    rw [st_4] at hs
    repeat' first | (cases hs; done) | split at hs
  | 5, hs =>
    rw [st_5] at hs
    repeat' first | (cases hs; done) | split at hs
  | 6, hs =>
    rw [st_6] at hs
    repeat' first | (cases hs; done) | split at hs
  | 7, hs =>
    rw [st_7] at hs
    repeat' first | (cases hs; done) | split at hs
  | 8, hs =>
    rw [st_8] at hs
    repeat' first | (cases hs; done) | split at hs
  | 9, hs =>
    rw [st_9] at hs
    repeat' first | (cases hs; done) | split at hs
  | 10, hs =>
    rw [st_10] at hs
    repeat' first | (cases hs; done) | split at hs
  | 11, hs =>
    rw [st_11] at hs
    repeat' first | (cases hs; done) | split at hs
  | 12, hs =>
    rw [st_12] at hs
    repeat' first | (cases hs; done) | split at hs
  | 13, hs =>
    rw [st_13] at hs
    repeat' first | (cases hs; done) | split at hs
  | 14, hs =>
    rw [st_14] at hs
    repeat' first | (cases hs; done) | split at hs
  | 15, hs =>
    rw [st_15] at hs
    repeat' first | (cases hs; done) | split at hs
  | 16, hs =>
    rw [st_16] at hs
    repeat' first | (cases hs; done) | split at hs
  | 17, hs =>
    rw [st_17] at hs
    repeat' first | (cases hs; done) | split at hs
  | 18, hs =>
    rw [st_18] at hs
    repeat' first | (cases hs; done) | split at hs
  | 19, hs =>
    rw [st_19] at hs
    repeat' first | (cases hs; done) | split at hs
  | 20, hs =>
    rw [st_20] at hs
    repeat' first | (cases hs; done) | split at hs
  | 21, hs =>
    rw [st_21] at hs
    repeat' first | (cases hs; done) | split at hs
  | 22, hs =>
    rw [st_22] at hs
    repeat' first | (cases hs; done) | split at hs
  | 23, hs =>
    rw [st_23] at hs
    repeat' first | (cases hs; done) | split at hs
  | 24, hs =>
    rw [st_24] at hs
    repeat' first | (cases hs; done) | split at hs
  | 25, hs =>
    rw [st_25] at hs
    repeat' first | (cases hs; done) | split at hs
  | 26, hs =>
    rw [st_26] at hs
    repeat' first | (cases hs; done) | split at hs
  | 27, hs =>
    rw [st_27] at hs
    repeat' first | (cases hs; done) | split at hs
  | 28, hs =>
    rw [st_28] at hs
    repeat' first | (cases hs; done) | split at hs
  | 29, hs =>
    rw [st_29] at hs
    repeat' first | (cases hs; done) | split at hs
  | 30, hs =>
    rw [st_30] at hs
    repeat' first | (cases hs; done) | split at hs
  | 31, hs =>
    rw [st_31] at hs
    repeat' first | (cases hs; done) | split at hs
  | 32, hs =>
    rw [st_32] at hs
    repeat' first | (cases hs; done) | split at hs
  | 33, hs =>
    rw [st_33] at hs
    repeat' first | (cases hs; done) | split at hs
  | 34, hs =>
    rw [st_34] at hs
    repeat' first | (cases hs; done) | split at hs
  | 38, hs =>
    rw [st_38] at hs
    repeat' first | (cases hs; done) | split at hs
  | 39, hs =>
    rw [st_39] at hs
    repeat' first | (cases hs; done) | split at hs
  | op + 40, hs => cases hs
theorem kp_G {mi : MI} {t : Nat} (hs : stp F X Y M L st mi = some (.inr (.inr (.inr (.inr (.inr (.inr (t, st')))))))) (K : Kp F Y M st L) : okVs st' := by
  obtain ⟨op, a, b, c, v, tab, sub, idx, pl⟩ := mi
  match op, hs with
  | 15, hs =>
    rw [st_15] at hs
    cases hs
    exact K.2.1
  | 0, hs =>
    rw [st_0] at hs
    repeat' first | (cases hs; done) | split at hs
  | 1, hs =>
    rw [st_1] at hs
    repeat' first | (cases hs; done) | split at hs
  | 2, hs =>
    rw [st_2] at hs
    repeat' first | (cases hs; done) | split at hs
  | 3, hs =>
    rw [st_3] at hs
    repeat' first | (cases hs; done) | split at hs
  | 4, hs =>
    rw [st_4] at hs
    repeat' first | (cases hs; done) | split at hs
  | 5, hs =>
    rw [st_5] at hs
    repeat' first | (cases hs; done) | split at hs
  | 6, hs =>
    rw [st_6] at hs
    repeat' first | (cases hs; done) | split at hs
  | 7, hs =>
    rw [st_7] at hs
    repeat' first | (cases hs; done) | split at hs
  | 8, hs =>
    rw [st_8] at hs
    repeat' first | (cases hs; done) | split at hs
  | 9, hs =>
    rw [st_9] at hs
    repeat' first | (cases hs; done) | split at hs
  | 10, hs =>
    rw [st_10] at hs
    repeat' first | (cases hs; done) | split at hs
  | 11, hs =>
    rw [st_11] at hs
    repeat' first | (cases hs; done) | split at hs
  | 12, hs =>
    rw [st_12] at hs
    repeat' first | (cases hs; done) | split at hs
  | 13, hs =>
    rw [st_13] at hs
    repeat' first | (cases hs; done) | split at hs
  | 14, hs =>
    rw [st_14] at hs
    repeat' first | (cases hs; done) | split at hs
  | 16, hs =>
    rw [st_16] at hs
    repeat' first | (cases hs; done) | split at hs
  | 17, hs =>
    rw [st_17] at hs
    repeat' first | (cases hs; done) | split at hs
  | 18, hs =>
    rw [st_18] at hs
    repeat' first | (cases hs; done) | split at hs
  | 19, hs =>
    rw [st_19] at hs
    repeat' first | (cases hs; done) | split at hs
  | 20, hs =>
    rw [st_20] at hs
    repeat' first | (cases hs; done) | split at hs
  | 21, hs =>
    rw [st_21] at hs
    repeat' first | (cases hs; done) | split at hs
  | 22, hs =>
    rw [st_22] at hs
    repeat' first | (cases hs; done) | split at hs
  | 23, hs =>
    rw [st_23] at hs
    repeat' first | (cases hs; done) | split at hs
  | 24, hs =>
    rw [st_24] at hs
    repeat' first | (cases hs; done) | split at hs
  | 25, hs =>
    rw [st_25] at hs
    repeat' first | (cases hs; done) | split at hs
  | 26, hs =>
    rw [st_26] at hs
    repeat' first | (cases hs; done) | split at hs
  | 27, hs =>
    rw [st_27] at hs
    repeat' first | (cases hs; done) | split at hs
  | 28, hs =>
    rw [st_28] at hs
    repeat' first | (cases hs; done) | split at hs
  | 29, hs =>
    rw [st_29] at hs
    repeat' first | (cases hs; done) | split at hs
  | 30, hs =>
    rw [st_30] at hs
    repeat' first | (cases hs; done) | split at hs
  | 31, hs =>
    rw [st_31] at hs
    repeat' first | (cases hs; done) | split at hs
  | 32, hs =>
    rw [st_32] at hs
    repeat' first | (cases hs; done) | split at hs
  | 33, hs =>
    rw [st_33] at hs
    repeat' first | (cases hs; done) | split at hs
  | 34, hs =>
    rw [st_34] at hs
    repeat' first | (cases hs; done) | split at hs
  | 35, hs =>
    rw [st_35] at hs
    repeat' first | (cases hs; done) | split at hs
  | 36, hs =>
    rw [st_36] at hs
    repeat' first | (cases hs; done) | split at hs
  | 37, hs =>
    rw [st_37] at hs
    repeat' first | (cases hs; done) | split at hs
  | 38, hs =>
    rw [st_38] at hs
    repeat' first | (cases hs; done) | split at hs
  | 39, hs =>
    rw [st_39] at hs
    repeat' first | (cases hs; done) | split at hs
  | op + 40, hs => cases hs
end KEEPS
end
section
/-! PART 11: our small machine's cells, locals and stack as the machine's own -/
theorem okLv_rep {n : Nat} : okLv (List.replicate n none) := fun i v h => by
  have := List.eq_of_mem_replicate (List.mem_of_getElem? h)
  cases this
theorem okLv_arg {as : List Vv} (h : okVs as) (hx : ∀ z ∈ as, isXv z = false) : okLv (argLL as) := fun i v hi => by
  obtain ⟨z, hz, hm⟩ := List.mem_flatMap.mp (List.mem_of_getElem? hi)
  have e : v = z := by
    cases hl : isLv z with
    | true =>
      rw [hl] at hm
      rcases List.mem_cons.mp hm with q | q
      · exact Option.some.inj q
      · rcases List.mem_cons.mp q with q | q
        · cases q
        · cases q
    | false =>
      rw [hl] at hm
      rcases List.mem_cons.mp hm with q | q
      · exact Option.some.inj q
      · cases q
  subst e
  exact ⟨h v hz, hx v hz⟩
theorem okLv_ent {as : List Vv} {nL : Nat} (h : okVs as) (hx : ∀ z ∈ as, isXv z = false) : okLv (entLL nL as) := fun i v hi => by
  unfold entLL at hi
  by_cases hl : i < (argLL as).length
  · rw [List.getElem?_append_left hl] at hi
    exact okLv_arg h hx i v hi
  · rw [List.getElem?_append_right (by omega)] at hi
    exact okLv_rep _ v hi
theorem okVs_psh {c : Nat} {r : Vv} {st : List Vv} (hr : okv r) (h : okVs st) : okVs (psh c r st) := by
  unfold psh
  split
  · exact h
  · exact .kk hr h
theorem PP_at {RT : List Rec} {m i : Nat} {mi : MI} (h : (PP RT m).2[i]? = some mi) : ∃ R, RT[m]? = some R ∧ (rCode R)[i]? = some mi ∧ (PP RT m).1 = rNL R := by
  unfold PP at h ⊢
  cases hR : RT[m]? with
  | none => rw [hR] at h; cases h
  | some R => rw [hR] at h; exact ⟨R, rfl, h, rfl⟩
theorem exec_keeps {RT : List Rec} (hRT : ∀ (m : Nat) (R : Rec), RT[m]? = some R → okC RT R = true) {F : Nat → Nat → Nat} {X : Nat → List Int} (hX : okX X) : ∀ (n d m i : Nat) (st : List Vv) (L : LL) (Y : YY) (M : MM) (r : Vv) (Y1 : YY) (M1 : MM), exec (PP RT) F X n d m i st L Y M = some (r, Y1, M1) → Kp F Y M st L → Inv F Y1 M1 ∧ okv r ∧ ∃ Y2, Y1 = Y ++ Y2 := by
  intro n
  induction n with
  | zero => intro d m i st L Y M r Y1 M1 h; cases h
  | succ n ih =>
    intro d m i st L Y M r Y1 M1 h K
    rw [exec] at h
    cases hc : (PP RT m).2[i]? with
    | none => rw [hc] at h; cases h
    | some mi =>
      obtain ⟨R, hR, hi, -⟩ := PP_at hc
      have hk := okC_at (hRT m R hR) hi
      rw [hc] at h
      dsimp only at h
      cases hs : stp F X Y M L st mi with
      | none => rw [hs] at h; cases h
      | some act =>
        rw [hs] at h
        rcases act with ⟨c, st', L', M'⟩ | ⟨c, t, st'⟩ | ⟨x, tab, t, st'⟩ | ⟨g, m', as, c, st'⟩ | ⟨c, v⟩ | ⟨st', Y', M'⟩ | ⟨t, st'⟩ <;> dsimp only at h
        · cases c with
          | false => cases h
          | true => exact ih _ _ _ _ _ _ _ _ _ _ h (kp_N hX hk hs K)
        · cases c with
          | false => exact ih _ _ _ _ _ _ _ _ _ _ h ⟨K.1, kp_B hs K, K.2.2⟩
          | true => exact ih _ _ _ _ _ _ _ _ _ _ h ⟨K.1, kp_B hs K, K.2.2⟩
        · exact ih _ _ _ _ _ _ _ _ _ _ h ⟨K.1, kp_S hs K, K.2.2⟩
        · cases d with
          | zero => cases h
          | succ d =>
            dsimp only at h
            cases hb : g && (Nat.ble (catV as) (PP RT m').1 && Nat.ble 1 d) with
            | false => rw [hb] at h; cases h
            | true =>
              rw [hb] at h
              dsimp only at h
              obtain ⟨k1, k2, k3⟩ := kp_C hs K
              cases h1 : exec (PP RT) F X n d m' 0 [] (entLL (PP RT m').1 as) Y M with
              | none => rw [h1] at h; cases h
              | some q =>
                obtain ⟨r', Y2, M2⟩ := q
                rw [h1] at h
                obtain ⟨i1, i2, Z1, i3⟩ := ih _ _ _ _ _ _ _ _ _ _ h1 ⟨K.1, fun _ q => (by cases q), okLv_ent k2 k3⟩
                obtain ⟨j1, j2, Z2, j3⟩ := ih _ _ _ _ _ _ _ _ _ _ h ⟨i1, okVs_psh i2 k1, K.2.2⟩
                exact ⟨j1, j2, Z1 ++ Z2, by rw [j3, i3, List.append_assoc]⟩
        · cases c with
          | false => cases h
          | true =>
            cases h
            exact ⟨K.1, kp_R hs K, [], (List.append_nil _).symm⟩
        · obtain ⟨k1, k2, Z1, rfl⟩ := kp_A hs K
          obtain ⟨j1, j2, Z2, j3⟩ := ih _ _ _ _ _ _ _ _ _ _ h ⟨k1, k2, K.2.2⟩
          exact ⟨j1, j2, Z1 ++ Z2, by rw [j3, List.append_assoc]⟩
        · exact ih _ _ _ _ _ _ _ _ _ _ h ⟨K.1, kp_G hs K, K.2.2⟩
/-! conversions -/
def cV (v : Vv) : LV := match v with
  | .inl x => vI (i32 x)
  | .inr (.inl x) => vL (i64 x)
  | .inr (.inr (.inl k)) => vR k
  | .inr (.inr (.inr k)) => vR k
def cL (L : LL) : LS0 := L.map fun o => o.map cV
def cM (M : MM) : Mem := (fun k j => i32 (M k j), fun k j => i64 (M k j), fun k j => if M k j ≤ 0 then none else some ((M k j).toNat - 1))
theorem cM_I (M : MM) (k j : Nat) : mI (cM M) k j = i32 (M k j) := rfl
theorem cM_L (M : MM) (k j : Nat) : mL (cM M) k j = i64 (M k j) := rfl
theorem cM_R (M : MM) (k j : Nat) : mR (cM M) k j = if M k j ≤ 0 then none else some ((M k j).toNat - 1) := rfl
theorem cL_at {L : LL} {i : Nat} {v : Vv} (h : L[i]? = some (some v)) : (cL L)[i]? = some (some (cV v)) := by
  unfold cL
  rw [List.getElem?_map, h]
  rfl
theorem cL_set (L : LL) (i : Nat) (v : Vv) : cL (L.set i (some v)) = (cL L).set i (some (cV v)) := by
  unfold cL
  rw [List.map_set]
  rfl
theorem cL_no (L : LL) (i : Nat) : cL (L.set i none) = (cL L).set i none := by
  unfold cL
  rw [List.map_set]
  rfl
theorem cL_len (L : LL) : (cL L).length = L.length := by simp [cL]
theorem isLg_cV (v : Vv) (h : isXv v = false) : isLg (some (some (cV v))) = isLv v := by
  rcases v with x | x | k | k
  · rfl
  · rfl
  · rfl
  · cases h
theorem cL_ok {L : LL} (hL : okLv L) {i : Nat} (h : okSt L i = true) : okS (cL L) i = true := by
  unfold okS
  unfold okSt at h
  cases i with
  | zero => rfl
  | succ j =>
    dsimp only at h ⊢
    unfold cL
    rw [List.getElem?_map]
    cases hl : L[j]? with
    | none => rfl
    | some o =>
      cases o with
      | none => rfl
      | some v =>
        show (!isLg (some (some (cV v)))) = true
        rw [isLg_cV v (hL j v hl).2]
        rw [hl] at h
        rcases v with x | x | k | k
        · rfl
        · cases h
        · rfl
        · rfl
theorem cL_ent {as : List Vv} (hx : ∀ z ∈ as, isXv z = false) (nL : Nat) : cL (entLL nL as) = entL nL (as.map cV) := by
  have h1 : cL (argLL as) = argL (as.map cV) := by
    induction as with
    | nil => rfl
    | cons v l ih =>
      have h2 := ih (fun z hz => hx z (List.mem_cons_of_mem _ hz))
      have h3 := isLg_cV v (hx v List.mem_cons_self)
      unfold argLL cL argL at *
      rw [List.flatMap_cons, List.map_append, h2, List.map_cons, List.flatMap_cons, h3]
      cases isLv v <;> rfl
  have h4 : catV as = argW (as.map cV) := by
    unfold catV argW
    rw [List.map_map]
    congr 1
    apply List.map_congr_left
    intro v hv
    show ctV v = if isLg (some (some (cV v))) then 2 else 1
    rw [isLg_cV v (hx v hv)]
    unfold ctV
    cases isLv v <;> rfl
  unfold entLL entL
  rw [← h4, ← h1]
  simp [cL]
theorem wld_ext {b : Nat} {cA : FieldType → ClassId} {Y : List Sh} {M1 M2 : Mem} (h : ∀ (k : Nat) (sh : Sh), Y[k]? = some sh → went b cA M1 k sh = went b cA M2 k sh) : wld b cA Y M1 = wld b cA Y M2 := by
  apply List.ext_getElem?
  intro k
  unfold wld
  rw [List.getElem?_mapIdx, List.getElem?_mapIdx]
  cases hY : Y[k]? with
  | none => rfl
  | some sh => simp [h k sh hY]
theorem G.cg {Z : Px} {Y : List Sh} {pc : Nat} {st : List Value} {L : LS0} {M1 M2 : Mem} (h : wld (xb Z) (xA Z) Y M1 = wld (xb Z) (xA Z) Y M2) (g : G Z Y pc st L M2) : G Z Y pc st L M1 := fun H lo ls a1 a2 a3 a4 => g H lo ls a1 (by rw [← h]; exact a2) a3 a4
theorem went_eq {b : Nat} {cA : FieldType → ClassId} {M1 M2 : Mem} {k : Nat} (hI : ∀ j, mI M1 k j = mI M2 k j) (hL : ∀ j, mL M1 k j = mL M2 k j) (hR : ∀ j, mR M1 k j = mR M2 k j) (sh : Sh) : went b cA M1 k sh = went b cA M2 k sh := by
  rcases sh with ci | ⟨ty, n⟩
  · show Sum.inr (ci, wfs b M1 k ci) = Sum.inr (ci, wfs b M2 k ci)
    have e : wfs b M1 k ci = wfs b M2 k ci := by
      unfold wfs
      apply List.map_congr_left
      intro j _
      unfold wfld
      rw [hI j, hR j]
    rw [e]
  · show Sum.inl (cA ty, n, warr b M1 k ty) = Sum.inl (cA ty, n, warr b M2 k ty)
    have e : warr b M1 k ty = warr b M2 k ty := by
      unfold warr
      rw [funext hI, funext hL, funext hR]
    rw [e]
theorem wcF {b : Nat} {cA : FieldType → ClassId} {Y : List Sh} {M1 M2 : Mem} {k j ci : Nat} (hY : Y[k]? = some (.inl ci)) (hI : ∀ k' j', ¬ (k' = k ∧ j' = j) ∨ isIty (tcl ci j) = true → mI M1 k' j' = mI M2 k' j') (hL : ∀ k' j', k' ≠ k → mL M1 k' j' = mL M2 k' j') (hR : ∀ k' j', ¬ (k' = k ∧ j' = j) ∨ isRty (tcl ci j) = true → mR M1 k' j' = mR M2 k' j') (ht : isIty (tcl ci j) = true ∨ isRty (tcl ci j) = true) : wld b cA Y M1 = wld b cA Y M2 := by
  refine wld_ext fun k' sh h => ?_
  by_cases hk : k' = k
  · subst hk
    cases hY.symm.trans h
    show Sum.inr (ci, wfs b M1 k' ci) = Sum.inr (ci, wfs b M2 k' ci)
    have e : wfs b M1 k' ci = wfs b M2 k' ci := by
      unfold wfs
      apply List.map_congr_left
      intro j' _
      by_cases hj : j' = j
      · subst hj
        rcases ht with ht | ht
        · rw [wfld_int ht, wfld_int ht, hI k' j' (Or.inr ht)]
        · rw [wfld_ref ht, wfld_ref ht, hR k' j' (Or.inr ht)]
      · unfold wfld
        rw [hI k' j' (Or.inl fun q => hj q.2), hR k' j' (Or.inl fun q => hj q.2)]
    rw [e]
  · exact went_eq (fun j' => hI k' j' (Or.inl fun q => hk q.1)) (fun j' => hL k' j' hk) (fun j' => hR k' j' (Or.inl fun q => hk q.1)) sh
theorem wcA {b : Nat} {cA : FieldType → ClassId} {Y : List Sh} {M1 M2 : Mem} {k n : Nat} {ty : FieldType} (hY : Y[k]? = some (.inr (ty, n))) (hI : ∀ k' j', k' ≠ k ∨ isIty ty = true → mI M1 k' j' = mI M2 k' j') (hL : ∀ k' j', k' ≠ k ∨ ty = .long → mL M1 k' j' = mL M2 k' j') (hR : ∀ k' j', k' ≠ k → mR M1 k' j' = mR M2 k' j') (ht : isIty ty = true ∨ ty = .long) : wld b cA Y M1 = wld b cA Y M2 := by
  refine wld_ext fun k' sh h => ?_
  by_cases hk : k' = k
  · subst hk
    cases hY.symm.trans h
    show Sum.inl (cA ty, n, warr b M1 k' ty) = Sum.inl (cA ty, n, warr b M2 k' ty)
    have e : warr b M1 k' ty = warr b M2 k' ty := by
      rcases ht with ht | ht
      · rw [warr_int ht, warr_int ht, funext fun j' => hI k' j' (Or.inr ht)]
      · subst ht
        show Sum.inr (Sum.inl (mL M1 k')) = Sum.inr (Sum.inl (mL M2 k'))
        rw [funext fun j' => hL k' j' (Or.inr rfl)]
    rw [e]
  · exact went_eq (fun j' => hI k' j' (Or.inl hk)) (fun j' => hL k' j' (Or.inl hk)) (fun j' => hR k' j' hk) sh
theorem offI {M : MM} {k j k' j' : Nat} {x : Int} {y : Int32} : mI (sI (cM M) k j y) k' j' = if k' = k ∧ j' = j then y else i32 (M k' j') := rfl
/-- stores, as the machine has them and as we have them, make the same world -/
theorem wI_fld {b : Nat} {cA : FieldType → ClassId} {Y : List Sh} {M : MM} {k j ci : Nat} {x : Int} (hY : Y[k]? = some (.inl ci)) (ht : isIty (tcl ci j) = true) : wld b cA Y (sI (cM M) k j (i32 x)) = wld b cA Y (cM (stM M k j x)) := by
  refine wcF (j := j) hY (fun k' j' _ => ?_) (fun k' j' h => ?_) (fun k' j' h => ?_) (Or.inl ht)
  · rw [mI_sI, cM_I, cM_I, stM_at]
    split <;> rfl
  · rw [mL_sI, cM_L, cM_L, stM_at, if_neg (fun q => h q.1)]
  · rcases h with h | h
    · rw [mR_sI, cM_R, cM_R, stM_at, if_neg h]
    · rw [iR_no ht] at h
      cases h
theorem wR_fld {b : Nat} {cA : FieldType → ClassId} {Y : List Sh} {M : MM} {k j ci t : Nat} (hY : Y[k]? = some (.inl ci)) (ht : isRty (tcl ci j) = true) : wld b cA Y (sR (cM M) k j (some t)) = wld b cA Y (cM (stM M k j ((t : Int) + 1))) := by
  refine wcF (j := j) hY (fun k' j' h => ?_) (fun k' j' h => ?_) (fun k' j' _ => ?_) (Or.inr ht)
  · rcases h with h | h
    · rw [mI_sR, cM_I, cM_I, stM_at, if_neg h]
    · rw [iR_no h] at ht
      cases ht
  · rw [mL_sR, cM_L, cM_L, stM_at, if_neg (fun q => h q.1)]
  · rw [mR_sR, cM_R, cM_R, stM_at]
    by_cases h : k' = k ∧ j' = j
    · rw [if_pos h, if_pos h, if_neg (by omega)]
      congr 1
    · rw [if_neg h, if_neg h]
theorem wI_arr {b : Nat} {cA : FieldType → ClassId} {Y : List Sh} {M : MM} {k j n : Nat} {ty : FieldType} {x : Int} (hY : Y[k]? = some (.inr (ty, n))) (ht : isIty ty = true) : wld b cA Y (sI (cM M) k j (i32 x)) = wld b cA Y (cM (stM M k j x)) := by
  refine wcA hY (fun k' j' _ => ?_) (fun k' j' h => ?_) (fun k' j' h => ?_) (Or.inl ht)
  · rw [mI_sI, cM_I, cM_I, stM_at]
    split <;> rfl
  · rcases h with h | h
    · rw [mL_sI, cM_L, cM_L, stM_at, if_neg (fun q => h q.1)]
    · subst h
      cases ht
  · rw [mR_sI, cM_R, cM_R, stM_at, if_neg (c := k' = k ∧ j' = j) (fun q => h q.1)]
theorem wL_arr {b : Nat} {cA : FieldType → ClassId} {Y : List Sh} {M : MM} {k j n : Nat} {x : Int} (hY : Y[k]? = some (.inr (.long, n))) : wld b cA Y (sL (cM M) k j (i64 x)) = wld b cA Y (cM (stM M k j x)) := by
  refine wcA hY (fun k' j' h => ?_) (fun k' j' _ => ?_) (fun k' j' h => ?_) (Or.inr rfl)
  · rcases h with h | h
    · rw [mI_sL, cM_I, cM_I, stM_at, if_neg (fun q => h q.1)]
    · cases h
  · rw [mL_sL, cM_L, cM_L, stM_at]
    split <;> rfl
  · rw [mR_sL, cM_R, cM_R, stM_at, if_neg (c := k' = k ∧ j' = j) (fun q => h q.1)]
theorem w_off {b : Nat} {cA : FieldType → ClassId} {Y : List Sh} {M1 M2 : MM} (h : ∀ k, k < Y.length → ∀ j, M1 k j = M2 k j) : wld b cA Y (cM M1) = wld b cA Y (cM M2) :=
  wld_ext fun k sh hk => by
    have hl := (List.getElem?_eq_some_iff.mp hk).1
    exact went_eq (fun j => by rw [cM_I, cM_I, h k hl j]) (fun j => by rw [cM_L, cM_L, h k hl j]) (fun j => by rw [cM_R, cM_R, h k hl j]) sh
theorem shm_f {Y : YY} {k a n : Nat} (h : Y[k]? = some (10 + a, n)) : (Y.map shm)[k]? = some (.inl a) := by
  rw [List.getElem?_map, h]
  show some (shm (10 + a, n)) = _
  unfold shm
  rw [show Nat.blt (10 + a) 10 = false by rw [Bool.eq_false_iff]; intro q; have := Nat.le_of_ble_eq_true q; omega]
  show some (Sum.inl (10 + a - 10)) = _
  rw [Nat.add_sub_cancel_left]
theorem shm_a {Y : YY} {k a n : Nat} (ha : a < 10) (h : Y[k]? = some (a, n)) : (Y.map shm)[k]? = some (.inr (tyc a, n)) := by
  rw [List.getElem?_map, h]
  show some (shm (a, n)) = _
  unfold shm
  rw [show Nat.blt a 10 = true from Nat.ble_eq_true_of_le ha]
end
section
/-! PART 12: a run of our small machine is a run of the machine: one op each -/
def SV (Z : Px) (v : Vv) (w : Value) : Prop := match v with
  | .inl x => w = .int (i32 x)
  | .inr (.inl x) => w = .long (i64 x)
  | .inr (.inr (.inl k)) => w = .ref (xb Z + k)
  | .inr (.inr (.inr 0)) => ∃ t : Nat, w = .ref t ∧ va_T .int t 5 stX (fun q => xb Z ≤ q) (xs Z) (xs Z).heap
  | .inr (.inr (.inr 1)) => ∃ t : Nat, w = .ref t ∧ va_T .int t 5 stY (fun q => xb Z ≤ q) (xs Z) (xs Z).heap
  | .inr (.inr (.inr _)) => ∃ a : Nat, w = .ref a ∧ xE Z = some a
def SS (Z : Px) (vs : List Vv) (ws : List Value) : Prop := match vs, ws with
  | [], [] => True
  | v :: vs, w :: ws => SV Z v w ∧ SS Z vs ws
  | _, _ => False
theorem SS.n {Z : Px} {ws : List Value} (h : SS Z [] ws) : ws = [] := by
  cases ws with
  | nil => rfl
  | cons w ws => exact absurd h (by simp [SS])
theorem SS.u {Z : Px} {v : Vv} {vs : List Vv} {ws : List Value} (h : SS Z (v :: vs) ws) : ∃ (w : Value) (ws' : List Value), ws = w :: ws' ∧ SV Z v w ∧ SS Z vs ws' := by
  cases ws with
  | nil => exact absurd h (by simp [SS])
  | cons w ws => exact ⟨w, ws, rfl, h.1, h.2⟩
theorem SS.uI {Z : Px} {x : Int} {vs : List Vv} {ws : List Value} (h : SS Z (vi x :: vs) ws) : ∃ ws' : List Value, ws = .int (i32 x) :: ws' ∧ SS Z vs ws' := by
  obtain ⟨w, ws', h1, h2, h3⟩ := h.u
  cases h2
  exact ⟨ws', h1, h3⟩
theorem SS.uL {Z : Px} {x : Int} {vs : List Vv} {ws : List Value} (h : SS Z (vl x :: vs) ws) : ∃ ws' : List Value, ws = .long (i64 x) :: ws' ∧ SS Z vs ws' := by
  obtain ⟨w, ws', h1, h2, h3⟩ := h.u
  cases h2
  exact ⟨ws', h1, h3⟩
theorem SS.uR {Z : Px} {k : Nat} {vs : List Vv} {ws : List Value} (h : SS Z (vr k :: vs) ws) : ∃ ws' : List Value, ws = .ref (xb Z + k) :: ws' ∧ SS Z vs ws' := by
  obtain ⟨w, ws', h1, h2, h3⟩ := h.u
  cases h2
  exact ⟨ws', h1, h3⟩
theorem SS.k {Z : Px} {v : Vv} {vs : List Vv} {w : Value} {ws : List Value} (h1 : SV Z v w) (h2 : SS Z vs ws) : SS Z (v :: vs) (w :: ws) := ⟨h1, h2⟩
/-- what stands fast in a method's run -/
def Bd (sc : List Int) (R : Rec) (d : Nat) (Z : Px) : Prop := Cx Z ∧ xcc Z = rBy R ∧ xown Z = rOwn R ∧ xnL Z = rNL R ∧ xd Z = d ∧ xnm Z = (rY R).name ∧ ((rOwn R ≠ R_law0 ∧ xE Z = none) ∨ (rOwn R = R_law0 ∧ ∃ a, xE Z = some a)) ∧ ∀ a, xE Z = some a → va_X a sc.length (fun j => i32 (sc.getD j 0)) (xs Z) (xs Z).heap ∧ a < (xs Z).heap.size ∧ a < xb Z
theorem clK (ci : Nat) (q : vw_C) (h : vwCl[ci]? = some q) : clOK ci q.1 q.2.1 q.2.2 := by
  match ci, h with
  | 0, h => cases h; exact ⟨rfl, rfl, u_ws_g _ _ _ iX0, tyX0_ok, nmX0⟩
  | 1, h => cases h; exact ⟨rfl, rfl, u_ws_g _ _ _ iX1, tyX1_ok, nmX1⟩
  | 2, h => cases h; exact ⟨rfl, rfl, u_ws_g _ _ _ iX2, tyX2_ok, nmX2⟩
  | 3, h => cases h; exact ⟨rfl, rfl, u_ws_g _ _ _ iX3, tyX3_ok, nmX3⟩
  | 4, h => cases h; exact ⟨rfl, rfl, u_ws_g _ _ _ iX4, tyX4_ok, nmX4⟩
  | 5, h => cases h; exact ⟨rfl, rfl, u_ws_g _ _ _ iX6, tyX6_ok, nmX6⟩
  | 6, h => cases h; exact ⟨rfl, rfl, u_ws_g _ _ _ iX7, tyX7_ok, nmX7⟩
  | 7, h => cases h; exact ⟨rfl, rfl, u_ws_g _ _ _ iX8, tyX8_ok, nmX8⟩
  | 8, h => cases h; exact ⟨rfl, rfl, u_ws_g _ _ _ iX9, tyX9_ok, nmX9⟩
  | 9, h => cases h; exact ⟨rfl, rfl, u_ws_g _ _ _ iX10, tyX10_ok, nmX10⟩
  | 10, h => cases h; exact ⟨rfl, rfl, u_ws_g _ _ _ iX11, tyX11_ok, nmX11⟩
  | 11, h => cases h; exact ⟨rfl, rfl, u_ws_g _ _ _ iX12, tyX12_ok, nmX12⟩
  | n + 12, h => cases h
section SOUND
variable {RT : List Rec} {R : Rec} {F : Nat → Nat → Nat} {sc : List Int} {d : Nat} {Z : Px} {Y : YY} {M M' : MM} {L L' : LL} {st st' : List Vv} {sv : List Value} {i a b c sub idx : Nat} {v : Int} {tab : List (Int × Nat)} {pl : List Nat}
theorem Bd.dc (B : Bd sc R d Z) {pc : Nat} {q : Instr × Nat} (h : decode (rBy R) pc = .ok q) : decode (xcc Z) pc = .ok q := by
  rw [B.2.1]
  exact h
theorem Bd.st0 (B : Bd sc R d Z) {a : Nat} (h : st0k R a = true) : xE Z = none ∨ a ≠ 0 := by
  unfold st0k at h
  rw [Bool.or_eq_true, decide_eq_true_eq, decide_eq_true_eq] at h
  rcases B.2.2.2.2.2.2.1 with q | q
  · exact Or.inl q.2
  · exact Or.inr (h.resolve_left fun z => z q.1)
theorem okX_xar (h : (∀ z ∈ sc, in32 z) ∧ in32 (sc.length : Int)) : okX (xar sc) := fun k => by
  unfold xar
  split
  · refine ⟨fun z hz => ?_, ⟨by simp, by simp⟩⟩
    simp only [List.mem_cons, List.not_mem_nil, or_false] at hz
    constructor <;> omega
  · refine ⟨fun z hz => ?_, ⟨by simp, by simp⟩⟩
    simp only [List.mem_cons, List.not_mem_nil, or_false] at hz
    constructor <;> omega
  · exact h
theorem fldk_K {idx p a b : Nat} {fin any : Bool} (h : fldk R idx p a b fin any = true) : ∃ q, vwCl[a]? = some q ∧ b < q.2.2 ∧ (.fieldLink (rOwn R) idx (q.2.1 b).1 (q.2.1 b).2.1 (q.2.1 b).2.2.1) ∈ lw_g ∧ (any = false → (q.2.1 b).2.2.2 = fin ∧ (fin = true → (q.2.1 b).1 = rOwn R)) := by
  unfold fldk at h
  cases hv : vwCl[a]? with
  | none => rw [hv] at h; cases h
  | some q =>
    rw [hv] at h
    obtain ⟨h1, h2, h3⟩ := an3 h
    refine ⟨q, rfl, of_decide_eq_true h1, ckw_g h2, fun ha => ?_⟩
    subst ha
    rw [Bool.false_or] at h3
    refine ⟨eq_of_beq (an2 h3).1, fun hf => ?_⟩
    subst hf
    simpa using (an2 h3).2
theorem mR_rf {F : Nat → Nat → Nat} {Y : YY} {M : MM} {k j : Nat} (hI : Inv F Y M) (h : rfK (F k j) (M k j) = true) : mR (cM M) k j = some (rfO (F k j) (M k j)) := by
  rw [cM_R]
  cases hF : F k j with
  | zero =>
    rw [hF] at h
    rw [if_neg (by have := of_decide_eq_true h; omega)]
    rfl
  | succ t =>
    have h2 := (hI.2 k j t hF).1
    rw [if_neg (by omega), h2]
    show some (((t : Int) + 1).toNat - 1) = some t
    congr 1
theorem cx_hv (hty : isIty FieldType.int = true) : True := trivial
theorem nf_I {t : FieldType} {c : Nat} {x : Int} (ht : (match c with
      | 0 => decide (t = .int)
      | _ => decide (t = .boolean)) = true) (h : bl2 c x = true) : narrow t (.int (i32 x)) = .int (i32 x) ∧ fits t (.int (i32 x)) = true := by
  split at ht
  · rw [of_decide_eq_true ht]
    exact ⟨rfl, rfl⟩
  · rename_i hc
    rw [of_decide_eq_true ht]
    rcases bl2_d h with h | h | h
    · exact absurd h hc
    · subst h
      exact ⟨by decide, rfl⟩
    · subst h
      exact ⟨by decide, rfl⟩
abbrev Go (R : Rec) (Z : Px) (Y : YY) (i : Nat) (st : List Vv) (L : LL) (M : MM) : Prop := ∀ sv, SS Z st sv → G Z (Y.map shm) (rpc R i) sv (cL L) (cM M)

theorem so_0 (B : Bd sc R d Z) (hk : okI RT R i (0, a, b, c, v, tab, sub, idx, pl) = true) (hs : stp F (xar sc) Y M L st (0, a, b, c, v, tab, sub, idx, pl) = some (.inl (true, st', L', M'))) (K : Kp F Y M st L) (hS : SS Z st sv) (k : Go R Z Y (i + 1) st' L' M') : G Z (Y.map shm) (rpc R i) sv (cL L) (cM M) := by
  rw [ok_0] at hk
  have h := in_0 hs
  obtain ⟨rfl, rfl, rfl⟩ := h
  have k2 := k _ (SS.k (v := vi v) (w := .int (i32 v)) rfl hS)
  obtain ⟨h1, h2⟩ := an2 hk
  split at h2
  · obtain ⟨e1, e2⟩ := dn_d h2
    rw [e2] at k2
    exact g_iconst B.1 (B.dc e1) rfl k2
  · obtain ⟨e1, e2⟩ := dn_d (an2 h2).1
    rw [e2] at k2
    exact g_bipush B.1 (B.dc e1) (of_decide_eq_true (an2 h2).2) k2
  · obtain ⟨e1, e2⟩ := dn_d (an2 h2).1
    rw [e2] at k2
    exact g_sipush B.1 (B.dc e1) (of_decide_eq_true (an2 h2).2) k2
  · obtain ⟨e1, e2⟩ := dn_d (an2 h2).1
    rw [e2] at k2
    exact g_ldc B.1 (by rw [B.2.2.1]; exact ckw_g (an2 h2).2) (B.dc e1) k2
  · obtain ⟨e1, e2⟩ := dn_d (an2 h2).1
    rw [e2] at k2
    exact g_ldcw B.1 (by rw [B.2.2.1]; exact ckw_g (an2 h2).2) (B.dc e1) k2
theorem so_1 (B : Bd sc R d Z) (hk : okI RT R i (1, a, b, c, v, tab, sub, idx, pl) = true) (hs : stp F (xar sc) Y M L st (1, a, b, c, v, tab, sub, idx, pl) = some (.inl (true, st', L', M'))) (K : Kp F Y M st L) (hS : SS Z st sv) (k : Go R Z Y (i + 1) st' L' M') : G Z (Y.map shm) (rpc R i) sv (cL L) (cM M) := by
  rw [ok_1] at hk
  have h := in_1 hs
  obtain ⟨rfl, rfl, rfl⟩ := h
  have k2 := k _ (SS.k (v := vl v) (w := .long (i64 v)) rfl hS)
  obtain ⟨h1, h2⟩ := an2 hk
  split at h2
  · obtain ⟨e1, e2⟩ := dn_d (an2 h2).1
    rw [e2] at k2
    exact g_lconst B.1 (B.dc e1) (of_decide_eq_true (an2 h2).2) k2
  · obtain ⟨e1, e2⟩ := dn_d (an2 h2).1
    rw [e2] at k2
    exact g_ldc2 B.1 (by rw [B.2.2.1]; exact ckw_g (an2 h2).2) (B.dc e1) k2
theorem so_2 (B : Bd sc R d Z) (hk : okI RT R i (2, a, b, c, v, tab, sub, idx, pl) = true) (hs : stp F (xar sc) Y M L st (2, a, b, c, v, tab, sub, idx, pl) = some (.inl (true, st', L', M'))) (K : Kp F Y M st L) (hS : SS Z st sv) (k : Go R Z Y (i + 1) st' L' M') : G Z (Y.map shm) (rpc R i) sv (cL L) (cM M) := by
  rw [ok_2] at hk
  have h := in_2 hs
  obtain ⟨x, hx, rfl, rfl, rfl⟩ := h
  have k2 := k _ (SS.k (w := .int (i32 x)) rfl hS)
  split at hk
  · obtain ⟨e1, e2⟩ := dn_d (an2 hk).2
    rw [e2] at k2
    exact g_iload_n B.1 (B.dc e1) (of_decide_eq_true (an2 hk).1) (cL_at hx) k2
  · obtain ⟨e1, e2⟩ := dn_d hk
    rw [e2] at k2
    exact g_iload B.1 (B.dc e1) (cL_at hx) k2
theorem so_3 (B : Bd sc R d Z) (hk : okI RT R i (3, a, b, c, v, tab, sub, idx, pl) = true) (hs : stp F (xar sc) Y M L st (3, a, b, c, v, tab, sub, idx, pl) = some (.inl (true, st', L', M'))) (K : Kp F Y M st L) (hS : SS Z st sv) (k : Go R Z Y (i + 1) st' L' M') : G Z (Y.map shm) (rpc R i) sv (cL L) (cM M) := by
  rw [ok_3] at hk
  have h := in_3 hs
  obtain ⟨x, hx, rfl, rfl, rfl⟩ := h
  have k2 := k _ (SS.k (w := .long (i64 x)) rfl hS)
  split at hk
  · obtain ⟨e1, e2⟩ := dn_d (an2 hk).2
    rw [e2] at k2
    exact g_lload_n B.1 (B.dc e1) (of_decide_eq_true (an2 hk).1) (cL_at hx) k2
  · obtain ⟨e1, e2⟩ := dn_d hk
    rw [e2] at k2
    exact g_lload B.1 (B.dc e1) (cL_at hx) k2
theorem so_4 (B : Bd sc R d Z) (hk : okI RT R i (4, a, b, c, v, tab, sub, idx, pl) = true) (hs : stp F (xar sc) Y M L st (4, a, b, c, v, tab, sub, idx, pl) = some (.inl (true, st', L', M'))) (K : Kp F Y M st L) (hS : SS Z st sv) (k : Go R Z Y (i + 1) st' L' M') : G Z (Y.map shm) (rpc R i) sv (cL L) (cM M) := by
  rw [ok_4] at hk
  have h := in_4 hs
  obtain ⟨x, hx, rfl, rfl, rfl⟩ := h
  have k2 := k _ (SS.k (w := .ref (xb Z + x)) rfl hS)
  split at hk
  · obtain ⟨e1, e2⟩ := dn_d (an2 hk).2
    rw [e2] at k2
    exact g_aload_n B.1 (B.dc e1) (of_decide_eq_true (an2 hk).1) (cL_at hx) k2
  · obtain ⟨e1, e2⟩ := dn_d hk
    rw [e2] at k2
    exact g_aload B.1 (B.dc e1) (cL_at hx) k2
theorem so_5 (B : Bd sc R d Z) (hk : okI RT R i (5, a, b, c, v, tab, sub, idx, pl) = true) (hs : stp F (xar sc) Y M L st (5, a, b, c, v, tab, sub, idx, pl) = some (.inl (true, st', L', M'))) (K : Kp F Y M st L) (hS : SS Z st sv) (k : Go R Z Y (i + 1) st' L' M') : G Z (Y.map shm) (rpc R i) sv (cL L) (cM M) := by
  rw [ok_5] at hk
  have h := in_5 hs
  obtain ⟨x, s0, rfl, h1, h2, rfl, rfl, rfl⟩ := h
  obtain ⟨ws, rfl, hQ⟩ := hS.uI
  have hS := hQ
  clear hQ
  have k2 := k _ hS
  rw [cL_set] at k2
  obtain ⟨g1, g2⟩ := an2 hk
  have hE := B.st0 g1
  have ho := cL_ok K.2.2 h1
  split at g2
  · obtain ⟨e1, e2⟩ := dn_d (an2 g2).2
    rw [e2] at k2
    exact fun H lo ls a1 a2 a3 a4 => g_istore_n B.1 (B.dc e1) (of_decide_eq_true (an2 g2).1) (by rw [← a4.2.2.1, cL_len]; exact h2) ho hE k2 H lo ls a1 a2 a3 a4
  · obtain ⟨e1, e2⟩ := dn_d g2
    rw [e2] at k2
    exact fun H lo ls a1 a2 a3 a4 => g_istore B.1 (B.dc e1) (by rw [← a4.2.2.1, cL_len]; exact h2) ho hE k2 H lo ls a1 a2 a3 a4
theorem so_7 (B : Bd sc R d Z) (hk : okI RT R i (7, a, b, c, v, tab, sub, idx, pl) = true) (hs : stp F (xar sc) Y M L st (7, a, b, c, v, tab, sub, idx, pl) = some (.inl (true, st', L', M'))) (K : Kp F Y M st L) (hS : SS Z st sv) (k : Go R Z Y (i + 1) st' L' M') : G Z (Y.map shm) (rpc R i) sv (cL L) (cM M) := by
  rw [ok_7] at hk
  have h := in_7 hs
  obtain ⟨x, s0, rfl, h1, h2, rfl, rfl, rfl⟩ := h
  obtain ⟨ws, rfl, hQ⟩ := hS.uR
  have hS := hQ
  clear hQ
  have k2 := k _ hS
  rw [cL_set] at k2
  obtain ⟨g1, g2⟩ := an2 hk
  have hE := B.st0 g1
  have ho := cL_ok K.2.2 h1
  split at g2
  · obtain ⟨e1, e2⟩ := dn_d (an2 g2).2
    rw [e2] at k2
    exact fun H lo ls a1 a2 a3 a4 => g_astore_n B.1 (B.dc e1) (of_decide_eq_true (an2 g2).1) (by rw [← a4.2.2.1, cL_len]; exact h2) ho hE k2 H lo ls a1 a2 a3 a4
  · obtain ⟨e1, e2⟩ := dn_d g2
    rw [e2] at k2
    exact fun H lo ls a1 a2 a3 a4 => g_astore B.1 (B.dc e1) (by rw [← a4.2.2.1, cL_len]; exact h2) ho hE k2 H lo ls a1 a2 a3 a4
theorem so_6 (B : Bd sc R d Z) (hk : okI RT R i (6, a, b, c, v, tab, sub, idx, pl) = true) (hs : stp F (xar sc) Y M L st (6, a, b, c, v, tab, sub, idx, pl) = some (.inl (true, st', L', M'))) (K : Kp F Y M st L) (hS : SS Z st sv) (k : Go R Z Y (i + 1) st' L' M') : G Z (Y.map shm) (rpc R i) sv (cL L) (cM M) := by
  rw [ok_6] at hk
  have h := in_6 hs
  obtain ⟨x, s0, rfl, h1, h2, rfl, rfl, rfl⟩ := h
  obtain ⟨ws, rfl, hQ⟩ := hS.uL
  have hS := hQ
  clear hQ
  have k2 := k _ hS
  rw [cL_no, cL_set] at k2
  obtain ⟨g1, g2⟩ := an2 hk
  have hE := B.st0 g1
  have ho := cL_ok K.2.2 h1
  split at g2
  · obtain ⟨e1, e2⟩ := dn_d (an2 g2).2
    rw [e2] at k2
    exact fun H lo ls a1 a2 a3 a4 => g_lstore_n B.1 (B.dc e1) (of_decide_eq_true (an2 g2).1) (by rw [← a4.2.2.1, cL_len]; exact h2) ho hE k2 H lo ls a1 a2 a3 a4
  · obtain ⟨e1, e2⟩ := dn_d g2
    rw [e2] at k2
    exact fun H lo ls a1 a2 a3 a4 => g_lstore B.1 (B.dc e1) (by rw [← a4.2.2.1, cL_len]; exact h2) ho hE k2 H lo ls a1 a2 a3 a4
theorem so_8 (B : Bd sc R d Z) (hk : okI RT R i (8, a, b, c, v, tab, sub, idx, pl) = true) (hs : stp F (xar sc) Y M L st (8, a, b, c, v, tab, sub, idx, pl) = some (.inl (true, st', L', M'))) (K : Kp F Y M st L) (hS : SS Z st sv) (k : Go R Z Y (i + 1) st' L' M') : G Z (Y.map shm) (rpc R i) sv (cL L) (cM M) := by
  rw [ok_8] at hk
  have h := in_8 hs
  obtain ⟨x, hx, h1, rfl, rfl, rfl⟩ := h
  have k2 := k _ hS
  rw [cL_set] at k2
  obtain ⟨g1, g2⟩ := an2 hk
  have hE := B.st0 g1
  have ho := cL_ok K.2.2 h1
  obtain ⟨e1, e2⟩ := dn_d g2
  rw [e2] at k2
  have hl : a < L.length := (List.getElem?_eq_some_iff.mp hx).1
  exact fun H lo ls a1 a2 a3 a4 => g_iinc B.1 (B.dc e1) (cL_at hx) (i32_add x v).symm (by rw [← a4.2.2.1, cL_len]; exact hl) ho hE k2 H lo ls a1 a2 a3 a4
theorem so_9 (B : Bd sc R d Z) (hk : okI RT R i (9, a, b, c, v, tab, sub, idx, pl) = true) (hs : stp F (xar sc) Y M L st (9, a, b, c, v, tab, sub, idx, pl) = some (.inl (true, st', L', M'))) (K : Kp F Y M st L) (hS : SS Z st sv) (k : Go R Z Y (i + 1) st' L' M') : G Z (Y.map shm) (rpc R i) sv (cL L) (cM M) := by
  rw [ok_9] at hk
  have h := in_9 hs
  obtain ⟨y, x, s0, rfl, hb, rfl, rfl, rfl⟩ := h
  obtain ⟨ws, rfl, hQ⟩ := hS.uI
  have hS := hQ
  clear hQ
  obtain ⟨ws, rfl, hQ⟩ := hS.uI
  have hS := hQ
  clear hQ
  have hy := K.2.1.un.1
  have hx := K.2.1.un.2.un.1
  have k2 := k _ (SS.k (w := .int (i32 (bin a x y))) rfl hS)
  split at hk
  · obtain ⟨e1, e2⟩ := dn_d hk
    rw [e2] at k2
    refine g_iadd B.1 (B.dc e1) ?_
    rw [← i32_add]
    exact k2
  · obtain ⟨e1, e2⟩ := dn_d hk
    rw [e2] at k2
    refine g_isub B.1 (B.dc e1) ?_
    rw [← i32_sub]
    exact k2
  · obtain ⟨e1, e2⟩ := dn_d hk
    rw [e2] at k2
    refine g_imul B.1 (B.dc e1) ?_
    rw [← i32_mul]
    exact k2
  · obtain ⟨e1, e2⟩ := dn_d hk
    rw [e2] at k2
    refine g_iand B.1 (B.dc e1) ?_
    have e : i32 (bAnd x y) = _ := i32_t _
    rw [← e]
    exact k2
  · obtain ⟨e1, e2⟩ := dn_d hk
    rw [e2] at k2
    refine g_ior B.1 (B.dc e1) ?_
    have e : i32 (bOr x y) = _ := i32_t _
    rw [← e]
    exact k2
  · obtain ⟨e1, e2⟩ := dn_d hk
    rw [e2] at k2
    refine g_ixor B.1 (B.dc e1) ?_
    have e : i32 (bXor x y) = _ := i32_t _
    rw [← e]
    exact k2
  · obtain ⟨e1, e2⟩ := dn_d hk
    rw [e2] at k2
    refine g_ishl B.1 (B.dc e1) ?_
    have e : i32 (bShl x y) = _ := i32_t _
    rw [← e]
    exact k2
  · obtain ⟨e1, e2⟩ := dn_d hk
    rw [e2] at k2
    refine g_ishr B.1 (B.dc e1) ?_
    have e : i32 (bShr x y) = _ := i32_t _
    rw [← e]
    exact k2
  · obtain ⟨e1, e2⟩ := dn_d hk
    rw [e2] at k2
    refine g_iushr B.1 (B.dc e1) ?_
    have e : i32 (bUsh x y) = _ := i32_t _
    rw [← e]
    exact k2
  · obtain ⟨e1, e2⟩ := dn_d hk
    rw [e2] at k2
    refine g_idiv B.1 (B.dc e1) (ne0_i32 hy (of_decide_eq_true hb)) ?_
    rw [← i32_div hx hy]
    exact k2
  · obtain ⟨e1, e2⟩ := dn_d hk
    rw [e2] at k2
    refine g_irem B.1 (B.dc e1) (ne0_i32 hy (of_decide_eq_true hb)) ?_
    rw [← i32_rem hx hy]
    exact k2
  · cases hk
theorem so_10 (B : Bd sc R d Z) (hk : okI RT R i (10, a, b, c, v, tab, sub, idx, pl) = true) (hs : stp F (xar sc) Y M L st (10, a, b, c, v, tab, sub, idx, pl) = some (.inl (true, st', L', M'))) (K : Kp F Y M st L) (hS : SS Z st sv) (k : Go R Z Y (i + 1) st' L' M') : G Z (Y.map shm) (rpc R i) sv (cL L) (cM M) := by
  rw [ok_10] at hk
  have h := in_10 hs
  obtain ⟨x, s0, rfl, h, rfl, rfl⟩ := h
  obtain ⟨ws, rfl, hQ⟩ := hS.uI
  have hS := hQ
  clear hQ
  have hx := K.2.1.un.1
  rcases h with ⟨rfl, rfl⟩ | ⟨ha, rfl⟩
  · have k2 := k _ (SS.k (w := .int (i32 (w32 (-x)))) rfl hS)
    obtain ⟨e1, e2⟩ := dn_d hk
    rw [e2] at k2
    refine g_ineg B.1 (B.dc e1) ?_
    rw [← i32_neg]
    exact k2
  · have k2 := k _ (SS.k (w := .int (i32 (w8 x))) rfl hS)
    split at hk
    · exact absurd rfl ha
    · obtain ⟨e1, e2⟩ := dn_d hk
      rw [e2] at k2
      refine g_i2b B.1 (B.dc e1) ?_
      rw [← i32_i2b hx]
      exact k2
theorem so_11 (B : Bd sc R d Z) (hk : okI RT R i (11, a, b, c, v, tab, sub, idx, pl) = true) (hs : stp F (xar sc) Y M L st (11, a, b, c, v, tab, sub, idx, pl) = some (.inl (true, st', L', M'))) (K : Kp F Y M st L) (hS : SS Z st sv) (k : Go R Z Y (i + 1) st' L' M') : G Z (Y.map shm) (rpc R i) sv (cL L) (cM M) := by
  rw [ok_11] at hk
  have h := in_11 hs
  obtain ⟨y, x, s0, rfl, hb, rfl, rfl, rfl⟩ := h
  obtain ⟨ws, rfl, hQ⟩ := hS.uL
  have hS := hQ
  clear hQ
  obtain ⟨ws, rfl, hQ⟩ := hS.uL
  have hS := hQ
  clear hQ
  have hy := K.2.1.un.1
  have hx := K.2.1.un.2.un.1
  have k2 := k _ (SS.k (w := .long (i64 (lbn a x y))) rfl hS)
  split at hk
  · obtain ⟨e1, e2⟩ := dn_d hk
    rw [e2] at k2
    refine g_ladd B.1 (B.dc e1) ?_
    rw [← i64_add]
    exact k2
  · obtain ⟨e1, e2⟩ := dn_d hk
    rw [e2] at k2
    refine g_lsub B.1 (B.dc e1) ?_
    rw [← i64_sub]
    exact k2
  · obtain ⟨e1, e2⟩ := dn_d hk
    rw [e2] at k2
    refine g_lmul B.1 (B.dc e1) ?_
    rw [← i64_mul]
    exact k2
  · obtain ⟨e1, e2⟩ := dn_d hk
    rw [e2] at k2
    refine g_land B.1 (B.dc e1) ?_
    have e : i64 (bAndL x y) = _ := i64_t _
    rw [← e]
    exact k2
  · obtain ⟨e1, e2⟩ := dn_d hk
    rw [e2] at k2
    refine g_lor B.1 (B.dc e1) ?_
    have e : i64 (bOrL x y) = _ := i64_t _
    rw [← e]
    exact k2
  · obtain ⟨e1, e2⟩ := dn_d hk
    rw [e2] at k2
    refine g_ldiv B.1 (B.dc e1) (ne0_i64 hy (of_decide_eq_true hb)) ?_
    rw [← i64_div hx hy]
    exact k2
  · obtain ⟨e1, e2⟩ := dn_d hk
    rw [e2] at k2
    refine g_lrem B.1 (B.dc e1) (ne0_i64 hy (of_decide_eq_true hb)) ?_
    rw [← i64_rem hx hy]
    exact k2
  · cases hk
theorem so_12 (B : Bd sc R d Z) (hk : okI RT R i (12, a, b, c, v, tab, sub, idx, pl) = true) (hs : stp F (xar sc) Y M L st (12, a, b, c, v, tab, sub, idx, pl) = some (.inl (true, st', L', M'))) (K : Kp F Y M st L) (hS : SS Z st sv) (k : Go R Z Y (i + 1) st' L' M') : G Z (Y.map shm) (rpc R i) sv (cL L) (cM M) := by
  rw [ok_12] at hk
  have h := in_12 hs
  obtain ⟨x, s0, h, rfl, rfl⟩ := h
  rcases h with ⟨rfl, rfl, rfl⟩ | ⟨ha, rfl, rfl⟩
  · obtain ⟨ws, rfl, hQ⟩ := hS.uI
    have hS := hQ
    clear hQ
    have hx := K.2.1.un.1
    have k2 := k _ (SS.k (w := .long (i64 x)) rfl hS)
    obtain ⟨e1, e2⟩ := dn_d hk
    rw [e2] at k2
    refine g_i2l B.1 (B.dc e1) ?_
    rw [← i64_i2l hx]
    exact k2
  · obtain ⟨ws, rfl, hQ⟩ := hS.uL
    have hS := hQ
    clear hQ
    have hx := K.2.1.un.1
    have k2 := k _ (SS.k (w := .int (i32 (w32 x))) rfl hS)
    split at hk
    · exact absurd rfl ha
    · obtain ⟨e1, e2⟩ := dn_d hk
      rw [e2] at k2
      refine g_l2i B.1 (B.dc e1) ?_
      rw [← i32_l2i hx]
      exact k2
theorem so_13 (B : Bd sc R d Z) (hk : okI RT R i (13, a, b, c, v, tab, sub, idx, pl) = true) (hs : stp F (xar sc) Y M L st (13, a, b, c, v, tab, sub, idx, pl) = some (.inl (true, st', L', M'))) (K : Kp F Y M st L) (hS : SS Z st sv) (k : Go R Z Y (i + 1) st' L' M') : G Z (Y.map shm) (rpc R i) sv (cL L) (cM M) := by
  rw [ok_13] at hk
  have h := in_13 hs
  obtain ⟨y, x, s0, rfl, h, rfl, rfl⟩ := h
  obtain ⟨ws, rfl, hQ⟩ := hS.uI
  have hS := hQ
  clear hQ
  obtain ⟨ws, rfl, hQ⟩ := hS.uL
  have hS := hQ
  clear hQ
  rcases h with ⟨rfl, rfl⟩ | ⟨ha, rfl⟩
  · have k2 := k _ (SS.k (w := .long (i64 (bShlL x y))) rfl hS)
    obtain ⟨e1, e2⟩ := dn_d hk
    rw [e2] at k2
    refine g_lshl B.1 (B.dc e1) ?_
    have e : i64 (bShlL x y) = _ := i64_t _
    rw [← e]
    exact k2
  · have k2 := k _ (SS.k (w := .long (i64 (bShrL x y))) rfl hS)
    split at hk
    · exact absurd rfl ha
    · obtain ⟨e1, e2⟩ := dn_d hk
      rw [e2] at k2
      refine g_lshr B.1 (B.dc e1) ?_
      have e : i64 (bShrL x y) = _ := i64_t _
      rw [← e]
      exact k2
theorem so_14 (B : Bd sc R d Z) (hk : okI RT R i (14, a, b, c, v, tab, sub, idx, pl) = true) (hs : stp F (xar sc) Y M L st (14, a, b, c, v, tab, sub, idx, pl) = some (.inl (true, st', L', M'))) (K : Kp F Y M st L) (hS : SS Z st sv) (k : Go R Z Y (i + 1) st' L' M') : G Z (Y.map shm) (rpc R i) sv (cL L) (cM M) := by
  rw [ok_14] at hk
  have h := in_14 hs
  obtain ⟨y, x, s0, rfl, rfl, rfl, rfl⟩ := h
  obtain ⟨ws, rfl, hQ⟩ := hS.uL
  have hS := hQ
  clear hQ
  obtain ⟨ws, rfl, hQ⟩ := hS.uL
  have hS := hQ
  clear hQ
  have k2 := k _ (SS.k (w := .int (i32 (lcm3 x y))) rfl hS)
  obtain ⟨e1, e2⟩ := dn_d hk
  rw [e2] at k2
  refine g_lcmp B.1 (B.dc e1) ?_
  rw [cmp_i64 K.2.1.un.2.un.1 K.2.1.un.1]
  exact k2
theorem so_19 (B : Bd sc R d Z) (hk : okI RT R i (19, a, b, c, v, tab, sub, idx, pl) = true) (hs : stp F (xar sc) Y M L st (19, a, b, c, v, tab, sub, idx, pl) = some (.inl (true, st', L', M'))) (K : Kp F Y M st L) (hS : SS Z st sv) (k : Go R Z Y (i + 1) st' L' M') : G Z (Y.map shm) (rpc R i) sv (cL L) (cM M) := by
  rw [ok_19] at hk
  have h := in_19 hs
  obtain ⟨k', s0, rfl, hkd, rfl, rfl, rfl⟩ := h
  obtain ⟨ws, rfl, hQ⟩ := hS.uR
  have hS := hQ
  clear hQ
  obtain ⟨g1, g2, g3⟩ := an3 hk
  have ha := fldk_ty g1
  obtain ⟨n, hn⟩ := kd_ge (by omega) hkd
  obtain ⟨q, q1, q2, q3, q4⟩ := fldk_K g1
  have k2 := k _ (SS.k (w := .int (i32 (M' k' b))) rfl hS)
  obtain ⟨e1, e2⟩ := dn_d g3
  rw [e2] at k2
  exact g_getI B.1 (clK a q q1) (shm_f hn) q2 (by rw [B.2.2.1]; exact q3) g2 (B.dc e1) k2
theorem so_20 (B : Bd sc R d Z) (hk : okI RT R i (20, a, b, c, v, tab, sub, idx, pl) = true) (hs : stp F (xar sc) Y M L st (20, a, b, c, v, tab, sub, idx, pl) = some (.inl (true, st', L', M'))) (K : Kp F Y M st L) (hS : SS Z st sv) (k : Go R Z Y (i + 1) st' L' M') : G Z (Y.map shm) (rpc R i) sv (cL L) (cM M) := by
  rw [ok_20] at hk
  have h := in_20 hs
  obtain ⟨k', s0, rfl, hkd, hrf, rfl, rfl, rfl⟩ := h
  obtain ⟨ws, rfl, hQ⟩ := hS.uR
  have hS := hQ
  clear hQ
  obtain ⟨g1, g2, g3⟩ := an3 hk
  have ha := fldk_ty g1
  obtain ⟨n, hn⟩ := kd_ge (by omega) hkd
  obtain ⟨q, q1, q2, q3, q4⟩ := fldk_K g1
  have k2 := k _ (SS.k (v := vr _) (w := .ref (xb Z + rfO (F k' b) (M' k' b))) rfl hS)
  obtain ⟨e1, e2⟩ := dn_d g3
  rw [e2] at k2
  exact g_getR B.1 (clK a q q1) (shm_f hn) q2 (by rw [B.2.2.1]; exact q3) g2 (mR_rf K.1 hrf) (B.dc e1) k2
theorem so_21 (B : Bd sc R d Z) (hk : okI RT R i (21, a, b, c, v, tab, sub, idx, pl) = true) (hs : stp F (xar sc) Y M L st (21, a, b, c, v, tab, sub, idx, pl) = some (.inl (true, st', L', M'))) (K : Kp F Y M st L) (hS : SS Z st sv) (k : Go R Z Y (i + 1) st' L' M') : G Z (Y.map shm) (rpc R i) sv (cL L) (cM M) := by
  rw [ok_21] at hk
  have h := in_21 hs
  obtain ⟨x, k', s0, rfl, hkd, hb, rfl, rfl, rfl⟩ := h
  obtain ⟨ws, rfl, hQ⟩ := hS.uI
  have hS := hQ
  clear hQ
  obtain ⟨ws, rfl, hQ⟩ := hS.uR
  have hS := hQ
  clear hQ
  obtain ⟨g1, g2, g3⟩ := an3 hk
  have ha := fldk_ty g1
  obtain ⟨n, hn⟩ := kd_ge (by omega) hkd
  obtain ⟨q, q1, q2, q3, q4⟩ := fldk_K g1
  have k2 := (k _ hS).cg (wI_fld (b := xb Z) (cA := xA Z) (M := M) (k := k') (j := b) (x := x) (shm_f hn) (ty_c g2))
  obtain ⟨e1, e2⟩ := dn_d g3
  rw [e2] at k2
  exact g_putI B.1 (clK a q q1) (shm_f hn) q2 (by rw [B.2.2.1]; exact q3) (q4 rfl).1 (ty_c g2) (nf_I g2 hb) (B.dc e1) k2
theorem so_23 (B : Bd sc R d Z) (hk : okI RT R i (23, a, b, c, v, tab, sub, idx, pl) = true) (hs : stp F (xar sc) Y M L st (23, a, b, c, v, tab, sub, idx, pl) = some (.inl (true, st', L', M'))) (K : Kp F Y M st L) (hS : SS Z st sv) (k : Go R Z Y (i + 1) st' L' M') : G Z (Y.map shm) (rpc R i) sv (cL L) (cM M) := by
  rw [ok_23] at hk
  have h := in_23 hs
  obtain ⟨x, k', s0, rfl, hkd, hb, rfl, rfl, rfl⟩ := h
  obtain ⟨ws, rfl, hQ⟩ := hS.uI
  have hS := hQ
  clear hQ
  obtain ⟨ws, rfl, hQ⟩ := hS.uR
  have hS := hQ
  clear hQ
  obtain ⟨g1, g2, g3⟩ := an3 hk
  have ha := fldk_ty g1
  obtain ⟨n, hn⟩ := kd_ge (by omega) hkd
  obtain ⟨q, q1, q2, q3, q4⟩ := fldk_K g1
  have k2 := (k _ hS).cg (wI_fld (b := xb Z) (cA := xA Z) (M := M) (k := k') (j := b) (x := x) (shm_f hn) (ty_c g2))
  obtain ⟨e1, e2⟩ := dn_d (an2 g3).2
  rw [e2] at k2
  exact g_putFI B.1 (clK a q q1) (shm_f hn) q2 (by rw [B.2.2.1]; exact q3) (q4 rfl).1 (B.2.2.2.2.2.1.trans (of_decide_eq_true (an2 g3).1)) (by rw [B.2.2.1]; exact (q4 rfl).2 rfl) (ty_c g2) (nf_I g2 hb) (B.dc e1) k2
theorem so_22 (B : Bd sc R d Z) (hk : okI RT R i (22, a, b, c, v, tab, sub, idx, pl) = true) (hs : stp F (xar sc) Y M L st (22, a, b, c, v, tab, sub, idx, pl) = some (.inl (true, st', L', M'))) (K : Kp F Y M st L) (hS : SS Z st sv) (k : Go R Z Y (i + 1) st' L' M') : G Z (Y.map shm) (rpc R i) sv (cL L) (cM M) := by
  rw [ok_22] at hk
  have h := in_22 hs
  obtain ⟨t, k', s0, rfl, hkd, hF, rfl, rfl, rfl⟩ := h
  obtain ⟨ws, rfl, hQ⟩ := hS.uR
  have hS := hQ
  clear hQ
  obtain ⟨ws, rfl, hQ⟩ := hS.uR
  have hS := hQ
  clear hQ
  obtain ⟨g1, g2, g3⟩ := an3 hk
  have ha := fldk_ty g1
  obtain ⟨n, hn⟩ := kd_ge (by omega) hkd
  obtain ⟨q, q1, q2, q3, q4⟩ := fldk_K g1
  have k2 := (k _ hS).cg (wR_fld (b := xb Z) (cA := xA Z) (M := M) (k := k') (j := b) (t := t) (shm_f hn) g2)
  obtain ⟨e1, e2⟩ := dn_d g3
  rw [e2] at k2
  exact g_putR B.1 (clK a q q1) (shm_f hn) q2 (by rw [B.2.2.1]; exact q3) (q4 rfl).1 g2 (B.dc e1) k2
theorem so_24 (B : Bd sc R d Z) (hk : okI RT R i (24, a, b, c, v, tab, sub, idx, pl) = true) (hs : stp F (xar sc) Y M L st (24, a, b, c, v, tab, sub, idx, pl) = some (.inl (true, st', L', M'))) (K : Kp F Y M st L) (hS : SS Z st sv) (k : Go R Z Y (i + 1) st' L' M') : G Z (Y.map shm) (rpc R i) sv (cL L) (cM M) := by
  rw [ok_24] at hk
  have h := in_24 hs
  obtain ⟨t, k', s0, rfl, hkd, hF, rfl, rfl, rfl⟩ := h
  obtain ⟨ws, rfl, hQ⟩ := hS.uR
  have hS := hQ
  clear hQ
  obtain ⟨ws, rfl, hQ⟩ := hS.uR
  have hS := hQ
  clear hQ
  obtain ⟨g1, g2, g3⟩ := an3 hk
  have ha := fldk_ty g1
  obtain ⟨n, hn⟩ := kd_ge (by omega) hkd
  obtain ⟨q, q1, q2, q3, q4⟩ := fldk_K g1
  have k2 := (k _ hS).cg (wR_fld (b := xb Z) (cA := xA Z) (M := M) (k := k') (j := b) (t := t) (shm_f hn) g2)
  obtain ⟨e1, e2⟩ := dn_d (an2 g3).2
  rw [e2] at k2
  exact g_putFR B.1 (clK a q q1) (shm_f hn) q2 (by rw [B.2.2.1]; exact q3) (q4 rfl).1 (B.2.2.2.2.2.1.trans (of_decide_eq_true (an2 g3).1)) (by rw [B.2.2.1]; exact (q4 rfl).2 rfl) g2 (B.dc e1) k2
theorem so_25 (B : Bd sc R d Z) (hk : okI RT R i (25, a, b, c, v, tab, sub, idx, pl) = true) (hs : stp F (xar sc) Y M L st (25, a, b, c, v, tab, sub, idx, pl) = some (.inl (true, st', L', M'))) (K : Kp F Y M st L) (hS : SS Z st sv) (k : Go R Z Y (i + 1) st' L' M') : G Z (Y.map shm) (rpc R i) sv (cL L) (cM M) := by
  rw [ok_25] at hk
  have h := in_25 hs
  rcases h with ⟨x, k', s0, rfl, hkd, h0, h1, rfl, rfl, h⟩ | ⟨x, k', s0, rfl, rfl, h0, h1, rfl, rfl, rfl⟩
  · obtain ⟨ws, rfl, hQ⟩ := hS.uI
    have hS := hQ
    clear hQ
    obtain ⟨ws, rfl, hQ⟩ := hS.uR
    have hS := hQ
    clear hQ
    have hx := K.2.1.un.1
    rcases h with ⟨rfl, rfl⟩ | ⟨rfl, hrf, rfl⟩ | ⟨h3, h4, rfl⟩
    · obtain ⟨n, hn⟩ := kd_ge (by decide) hkd
      have hv := vp_i32 hx h0 (by rw [← ln_of hn]; exact h1)
      have k2 := k _ (SS.k (v := vl _) (w := .long (i64 (M' k' x.toNat))) rfl hS)
      obtain ⟨e1, e2⟩ := dn_d hk
      rw [e2] at k2
      refine g_lald B.1 (shm_a (by decide) hn) hv (B.dc e1) ?_
      rw [cM_L, nat_i32 hx]
      exact k2
    · obtain ⟨n, hn⟩ := kd_ge (by decide) hkd
      have hv := vp_i32 hx h0 (by rw [← ln_of hn]; exact h1)
      have k2 := k _ (SS.k (v := vr _) (w := .ref (xb Z + rfO (F k' x.toNat) (M' k' x.toNat))) rfl hS)
      obtain ⟨e1, e2⟩ := dn_d hk
      rw [e2] at k2
      refine g_aald B.1 (shm_a (by decide) hn) hv ?_ (B.dc e1) k2
      rw [nat_i32 hx]
      exact mR_rf K.1 hrf
    · have k2 := k _ (SS.k (v := vi _) (w := .int (i32 (M' k' x.toNat))) rfl hS)
      split at hk
      · obtain ⟨n, hn⟩ := kd_ge (by decide) hkd
        have hv := vp_i32 hx h0 (by rw [← ln_of hn]; exact h1)
        obtain ⟨e1, e2⟩ := dn_d hk
        rw [e2] at k2
        refine g_iald B.1 (shm_a (by decide) hn) hv (B.dc e1) ?_
        rw [cM_I, nat_i32 hx]
        exact k2
      · obtain ⟨n, hn⟩ := kd_ge (by decide) hkd
        have hv := vp_i32 hx h0 (by rw [← ln_of hn]; exact h1)
        obtain ⟨e1, e2⟩ := dn_d hk
        rw [e2] at k2
        refine g_bald B.1 (shm_a (by decide) hn) hv (B.dc e1) ?_
        rw [cM_I, nat_i32 hx]
        exact k2
      · obtain ⟨n, hn⟩ := kd_ge (by decide) hkd
        have hv := vp_i32 hx h0 (by rw [← ln_of hn]; exact h1)
        obtain ⟨e1, e2⟩ := dn_d hk
        rw [e2] at k2
        refine g_zald B.1 (shm_a (by decide) hn) hv (B.dc e1) ?_
        rw [cM_I, nat_i32 hx]
        exact k2
      · exact absurd rfl h3
      · exact absurd rfl h4
      · cases hk
  · obtain ⟨ws, rfl, hQ⟩ := hS.uI
    have hS := hQ
    clear hQ
    obtain ⟨w, ws, rfl, hw, hQ⟩ := hS.u
    have hS := hQ
    clear hQ
    have hx := K.2.1.un.1
    have k2 := k _ (SS.k (v := vi _) (w := .int (i32 ((xar sc k').getD x.toNat 0))) rfl hS)
    obtain ⟨e1, e2⟩ := dn_d hk
    rw [e2] at k2
    match k', hw, h1, k2 with
    | 0, hw, h1, k2 =>
      obtain ⟨t, rfl, ht⟩ := hw
      have hx5 : x = 0 ∨ x = 1 ∨ x = 2 ∨ x = 3 ∨ x = 4 := by
        have : x < 5 := h1
        omega
      refine g_sti B.1 ht (vp_i32 hx h0 h1) ?_ (B.dc e1) k2
      rw [nat_i32 hx]
      rcases hx5 with rfl | rfl | rfl | rfl | rfl <;> exact congrArg Value.int (show stpX _ = i32 (([0, 1, 0, -1, 0] : List Int).getD _ 0) by decide)
    | 1, hw, h1, k2 =>
      obtain ⟨t, rfl, ht⟩ := hw
      have hx5 : x = 0 ∨ x = 1 ∨ x = 2 ∨ x = 3 ∨ x = 4 := by
        have : x < 5 := h1
        omega
      refine g_sti B.1 ht (vp_i32 hx h0 h1) ?_ (B.dc e1) k2
      rw [nat_i32 hx]
      rcases hx5 with rfl | rfl | rfl | rfl | rfl <;> exact congrArg Value.int (show stpY _ = i32 (([1, 0, -1, 0, 0] : List Int).getD _ 0) by decide)
    | q + 2, hw, h1, k2 =>
      obtain ⟨ad, rfl, hE⟩ := hw
      obtain ⟨hX, hA⟩ := B.2.2.2.2.2.2.2 ad hE
      refine g_aldX B.1 hX hA (vp_i32 hx h0 h1) (B.dc e1) ?_
      rw [nat_i32 hx]
      exact k2
theorem so_26 (B : Bd sc R d Z) (hk : okI RT R i (26, a, b, c, v, tab, sub, idx, pl) = true) (hs : stp F (xar sc) Y M L st (26, a, b, c, v, tab, sub, idx, pl) = some (.inl (true, st', L', M'))) (K : Kp F Y M st L) (hS : SS Z st sv) (k : Go R Z Y (i + 1) st' L' M') : G Z (Y.map shm) (rpc R i) sv (cL L) (cM M) := by
  rw [ok_26] at hk
  have h := in_26 hs
  obtain ⟨z, x, k', s0, w, hkd, h0, h1, rfl, rfl, rfl, h⟩ := h
  rcases h with ⟨rfl, rfl, rfl⟩ | ⟨rfl, rfl, rfl⟩ | ⟨rfl, rfl, rfl⟩ | ⟨rfl, rfl, rfl, hb⟩
  · obtain ⟨n, hn⟩ := kd_ge (by decide) hkd
    obtain ⟨ws, rfl, hQ⟩ := hS.uL
    have hS := hQ
    clear hQ
    obtain ⟨ws, rfl, hQ⟩ := hS.uI
    have hS := hQ
    clear hQ
    obtain ⟨ws, rfl, hQ⟩ := hS.uR
    have hS := hQ
    clear hQ
    have hx := K.2.1.un.2.un.1
    have hv := vp_i32 hx h0 (by rw [← ln_of hn]; exact h1)
    obtain ⟨e1, e2⟩ := dn_d hk
    have k2 := (k _ hS).cg (wL_arr (b := xb Z) (cA := xA Z) (M := M) (k := k') (j := x.toNat) (x := w) (shm_a (by decide) hn))
    rw [e2] at k2
    refine g_last B.1 (shm_a (by decide) hn) hv (B.dc e1) ?_
    rw [nat_i32 hx]
    exact k2
  · obtain ⟨n, hn⟩ := kd_ge (by decide) hkd
    obtain ⟨ws, rfl, hQ⟩ := hS.uI
    have hS := hQ
    clear hQ
    obtain ⟨ws, rfl, hQ⟩ := hS.uI
    have hS := hQ
    clear hQ
    obtain ⟨ws, rfl, hQ⟩ := hS.uR
    have hS := hQ
    clear hQ
    have hx := K.2.1.un.2.un.1
    have hv := vp_i32 hx h0 (by rw [← ln_of hn]; exact h1)
    obtain ⟨e1, e2⟩ := dn_d hk
    have k2 := (k _ hS).cg (wI_arr (b := xb Z) (cA := xA Z) (M := M) (k := k') (j := x.toNat) (x := w) (shm_a (by decide) hn) rfl)
    rw [e2] at k2
    refine g_iast B.1 (shm_a (by decide) hn) hv (B.dc e1) ?_
    rw [nat_i32 hx]
    exact k2
  · obtain ⟨n, hn⟩ := kd_ge (by decide) hkd
    obtain ⟨ws, rfl, hQ⟩ := hS.uI
    have hS := hQ
    clear hQ
    obtain ⟨ws, rfl, hQ⟩ := hS.uI
    have hS := hQ
    clear hQ
    obtain ⟨ws, rfl, hQ⟩ := hS.uR
    have hS := hQ
    clear hQ
    have hx := K.2.1.un.2.un.1
    have hv := vp_i32 hx h0 (by rw [← ln_of hn]; exact h1)
    obtain ⟨e1, e2⟩ := dn_d hk
    have hz := K.2.1.un.1
    have k2 := (k _ hS).cg (wI_arr (b := xb Z) (cA := xA Z) (M := M) (k := k') (j := x.toNat) (x := w8 z) (shm_a (by decide) hn) rfl)
    rw [e2] at k2
    refine g_bast B.1 (shm_a (by decide) hn) hv (B.dc e1) ?_
    rw [nat_i32 hx, show vp_nar .byte (i32 z) = i32 (w8 z) by rw [i32_i2b hz]; rfl]
    exact k2
  · obtain ⟨n, hn⟩ := kd_ge (by decide) hkd
    obtain ⟨ws, rfl, hQ⟩ := hS.uI
    have hS := hQ
    clear hQ
    obtain ⟨ws, rfl, hQ⟩ := hS.uI
    have hS := hQ
    clear hQ
    obtain ⟨ws, rfl, hQ⟩ := hS.uR
    have hS := hQ
    clear hQ
    have hx := K.2.1.un.2.un.1
    have hv := vp_i32 hx h0 (by rw [← ln_of hn]; exact h1)
    obtain ⟨e1, e2⟩ := dn_d hk
    have k2 := (k _ hS).cg (wI_arr (b := xb Z) (cA := xA Z) (M := M) (k := k') (j := x.toNat) (x := w) (shm_a (by decide) hn) rfl)
    rw [e2] at k2
    refine g_zast B.1 (shm_a (by decide) hn) hv (B.dc e1) ?_
    have hw : vp_nar .boolean (i32 w) = i32 w := by
      rcases bl2_d hb with q | q | q
      · cases q
      · subst q
        decide
      · subst q
        decide
    rw [nat_i32 hx, hw]
    exact k2
theorem so_27 (B : Bd sc R d Z) (hk : okI RT R i (27, a, b, c, v, tab, sub, idx, pl) = true) (hs : stp F (xar sc) Y M L st (27, a, b, c, v, tab, sub, idx, pl) = some (.inl (true, st', L', M'))) (K : Kp F Y M st L) (hS : SS Z st sv) (k : Go R Z Y (i + 1) st' L' M') : G Z (Y.map shm) (rpc R i) sv (cL L) (cM M) := by
  rw [ok_27] at hk
  have h := in_27 hs
  obtain ⟨h, rfl, rfl, rfl⟩ := h
  rcases h with rfl | rfl
  · obtain ⟨e1, e2⟩ := dn_d (an2 hk).1
    refine g_stX B.1 (by rw [B.2.2.1]; exact ckn_n (an2 hk).2) (B.dc e1) (fun t ht => ?_)
    have k2 := k (.ref t :: sv) (SS.k (v := vx 0) ⟨t, rfl, ht⟩ hS)
    rw [e2] at k2
    exact k2
  · obtain ⟨e1, e2⟩ := dn_d (an2 hk).1
    refine g_stY B.1 (by rw [B.2.2.1]; exact ckn_n (an2 hk).2) (B.dc e1) (fun t ht => ?_)
    have k2 := k (.ref t :: sv) (SS.k (v := vx 1) ⟨t, rfl, ht⟩ hS)
    rw [e2] at k2
    exact k2
theorem so_28 (B : Bd sc R d Z) (hk : okI RT R i (28, a, b, c, v, tab, sub, idx, pl) = true) (hs : stp F (xar sc) Y M L st (28, a, b, c, v, tab, sub, idx, pl) = some (.inl (true, st', L', M'))) (K : Kp F Y M st L) (hS : SS Z st sv) (k : Go R Z Y (i + 1) st' L' M') : G Z (Y.map shm) (rpc R i) sv (cL L) (cM M) := by
  rw [ok_28] at hk
  have h := in_28 hs
  obtain ⟨rfl, rfl, rfl⟩ := h
  obtain ⟨e1, e2⟩ := dn_d (an2 hk).1
  have ho := of_decide_eq_true (an2 hk).2
  rcases B.2.2.2.2.2.2.1 with q | ⟨-, ad, hE⟩
  · exact absurd ho q.1
  · have k2 := k (.ref ad :: sv) (SS.k (v := vx 2) ⟨ad, rfl, hE⟩ hS)
    rw [e2] at k2
    exact g_ldX B.1 hE (B.dc e1) k2
theorem so_29 (B : Bd sc R d Z) (hk : okI RT R i (29, a, b, c, v, tab, sub, idx, pl) = true) (hs : stp F (xar sc) Y M L st (29, a, b, c, v, tab, sub, idx, pl) = some (.inl (true, st', L', M'))) (K : Kp F Y M st L) (hS : SS Z st sv) (k : Go R Z Y (i + 1) st' L' M') : G Z (Y.map shm) (rpc R i) sv (cL L) (cM M) := by
  rw [ok_29] at hk
  have h := in_29 hs
  obtain ⟨s0, rfl, rfl, rfl, rfl⟩ := h
  obtain ⟨w, ws, rfl, ⟨ad, rfl, hE⟩, hQ⟩ := hS.u
  have hS := hQ
  clear hQ
  obtain ⟨hX, hA⟩ := B.2.2.2.2.2.2.2 ad hE
  obtain ⟨e1, e2⟩ := dn_d hk
  have k2 := k _ (SS.k (v := vi _) (w := .int (i32 ((xar sc 2).length : Int))) rfl hS)
  rw [e2] at k2
  refine g_alenX B.1 hX hA (B.dc e1) ?_
  rw [show Int32.ofNat sc.length = i32 (sc.length : Int) from (Int32.ofInt_eq_ofNat).symm]
  exact k2
theorem so_32 (B : Bd sc R d Z) (hk : okI RT R i (32, a, b, c, v, tab, sub, idx, pl) = true) (hs : stp F (xar sc) Y M L st (32, a, b, c, v, tab, sub, idx, pl) = some (.inl (true, st', L', M'))) (K : Kp F Y M st L) (hS : SS Z st sv) (k : Go R Z Y (i + 1) st' L' M') : G Z (Y.map shm) (rpc R i) sv (cL L) (cM M) := by
  rw [ok_32] at hk
  have h := in_32 hs
  obtain ⟨k', s0, rfl, rfl, rfl, rfl⟩ := h
  obtain ⟨ws, rfl, hQ⟩ := hS.uR
  have hS := hQ
  clear hQ
  obtain ⟨e1, e2⟩ := dn_d hk
  have k2 := k _ (SS.k (v := vr k') rfl (SS.k (v := vr k') rfl hS))
  rw [e2] at k2
  exact g_dup B.1 (B.dc e1) k2
theorem so_33 (B : Bd sc R d Z) (hk : okI RT R i (33, a, b, c, v, tab, sub, idx, pl) = true) (hs : stp F (xar sc) Y M L st (33, a, b, c, v, tab, sub, idx, pl) = some (.inl (true, st', L', M'))) (K : Kp F Y M st L) (hS : SS Z st sv) (k : Go R Z Y (i + 1) st' L' M') : G Z (Y.map shm) (rpc R i) sv (cL L) (cM M) := by
  rw [ok_33] at hk
  have h := in_33 hs
  obtain ⟨x, k', s0, rfl, rfl, rfl, rfl⟩ := h
  obtain ⟨ws, rfl, hQ⟩ := hS.uI
  have hS := hQ
  clear hQ
  obtain ⟨ws, rfl, hQ⟩ := hS.uR
  have hS := hQ
  clear hQ
  obtain ⟨e1, e2⟩ := dn_d hk
  have k2 := k _ (SS.k (v := vi x) rfl (SS.k (v := vr k') rfl (SS.k (v := vi x) rfl (SS.k (v := vr k') rfl hS))))
  rw [e2] at k2
  exact g_dup2 B.1 (B.dc e1) k2
theorem so_34 (B : Bd sc R d Z) (hk : okI RT R i (34, a, b, c, v, tab, sub, idx, pl) = true) (hs : stp F (xar sc) Y M L st (34, a, b, c, v, tab, sub, idx, pl) = some (.inl (true, st', L', M'))) (K : Kp F Y M st L) (hS : SS Z st sv) (k : Go R Z Y (i + 1) st' L' M') : G Z (Y.map shm) (rpc R i) sv (cL L) (cM M) := by
  rw [ok_34] at hk
  have h := in_34 hs
  obtain ⟨x, s0, h, rfl, rfl, rfl⟩ := h
  rcases h with ⟨rfl, rfl⟩ | ⟨ha, rfl⟩
  · obtain ⟨ws, rfl, hQ⟩ := hS.uI
    have hS := hQ
    clear hQ
    obtain ⟨e1, e2⟩ := dn_d hk
    have k2 := k _ hS
    rw [e2] at k2
    exact g_pop B.1 (B.dc e1) k2
  · obtain ⟨ws, rfl, hQ⟩ := hS.uL
    have hS := hQ
    clear hQ
    split at hk
    · exact absurd rfl ha
    · obtain ⟨e1, e2⟩ := dn_d hk
      have k2 := k _ hS
      rw [e2] at k2
      exact g_pop2 B.1 (B.dc e1) k2
theorem ct_cat {Z : Px} {v : Vv} {w : Value} (h : SV Z v w) : w.category = ctV v := by
  rcases v with x | x | k | k
  · cases h
    rfl
  · cases h
    rfl
  · cases h
    rfl
  · match k, h with
    | 0, h => obtain ⟨t, rfl, -⟩ := h; rfl
    | 1, h => obtain ⟨t, rfl, -⟩ := h; rfl
    | k + 2, h => obtain ⟨t, rfl, -⟩ := h; rfl
theorem SS.ctt {Z : Px} {vs : List Vv} {ws : List Value} (h : SS Z vs ws) : catW ws = catV vs := by
  induction vs generalizing ws with
  | nil =>
    cases h.n
    rfl
  | cons v vs ih =>
    obtain ⟨w, ws', rfl, h1, h2⟩ := h.u
    unfold catW catV at *
    rw [List.map_cons, List.map_cons, List.sum_cons, List.sum_cons, ih h2, ct_cat h1]
theorem so_38 (hd : 1 ≤ xd Z) (B : Bd sc R d Z) (hk : okI RT R i (38, a, b, c, v, tab, sub, idx, pl) = true) (hs : stp F (xar sc) Y M L st (38, a, b, c, v, tab, sub, idx, pl) = some (.inl (true, st', L', M'))) (K : Kp F Y M st L) (hS : SS Z st sv) (k : Go R Z Y (i + 1) st' L' M') : G Z (Y.map shm) (rpc R i) sv (cL L) (cM M) := by
  rw [ok_38] at hk
  have h := in_38 hs
  obtain ⟨k', s0, rfl, hc, rfl, rfl, rfl⟩ := h
  obtain ⟨ws, rfl, hQ⟩ := hS.uR
  have hS := hQ
  clear hQ
  obtain ⟨g1, g2, g3, g4⟩ := an4 hk
  obtain ⟨e1, e2⟩ := dn_d g4
  have k2 := k _ hS
  rw [e2] at k2
  exact g_objInit B.1 (by rw [B.2.2.1]; exact ckw_g g1) (ckw_g g2) (ckw_g g3) hd (by rw [hS.ctt]; exact hc) (B.dc e1) k2
theorem so_39 (hd : 1 ≤ xd Z) (hR : (Y.map shm).length - xy0 Z ≤ (xR Z).cells ∧ szs (Y.map shm) - xs0 Z ≤ (xR Z).slots) (B : Bd sc R d Z) (hk : okI RT R i (39, a, b, c, v, tab, sub, idx, pl) = true) (hs : stp F (xar sc) Y M L st (39, a, b, c, v, tab, sub, idx, pl) = some (.inl (true, st', L', M'))) (K : Kp F Y M st L) (hS : SS Z st sv) (k : Go R Z Y (i + 1) st' L' M') : G Z (Y.map shm) (rpc R i) sv (cL L) (cM M) := by
  rw [ok_39] at hk
  have h := in_39 hs
  obtain ⟨g1, g2, g3⟩ := an3 hk
  obtain ⟨e1, e2⟩ := dn_d g1
  obtain ⟨h, rfl, rfl⟩ := h
  obtain ⟨c1, c2, c3, c4, -, -, c7, c8, c9, -⟩ := B.1
  have c3 := c3
  rw [B.2.2.1] at c3
  rcases h with ⟨rfl, x, s0, rfl, hc, rfl⟩ | ⟨ha, y, x, s0, rfl, hc, rfl⟩
  · obtain ⟨ws, rfl, hQ⟩ := hS.uI
    have hx := K.2.1.un.1
    have hcw : catW ws ≤ 8 := by rw [hQ.ctt]; exact hc
    have k2 := k _ (SS.k (v := vi (mAbs x)) (w := .int (i32 (mAbs x))) rfl hQ)
    rw [e2] at k2
    obtain ⟨g4, g5, g6⟩ := an3 g3
    have ev : i32 (mAbs x) = if (0 : Int32) ≤ i32 x then i32 x else 0 - i32 x := by
      have e0 : ((0 : Int32) ≤ i32 x) ↔ 0 ≤ x := le_i32 in32_0 hx
      unfold mAbs
      by_cases h0 : 0 ≤ x
      · rw [if_pos h0, if_pos (e0.mpr h0)]
      · rw [if_neg h0, if_neg (fun q => h0 (e0.mp q)), i32_sub]
        rfl
    rw [ev] at k2
    exact fun H lo ls a1 a2 a3 a4 => va_mabs c1 c2 (by rw [c7]; exact a4.1.symm) c3 (c4 _ (ckw_g g4)) (c4 _ (ckw_g g5)) (c4 _ (ckw_g g2)) (c4 _ (ckw_g g6)) (Nat.le_trans hd c8) (by show catW ws + 13 ≤ _; omega) hR.1 hR.2 (B.dc e1) (k2 H lo ls a1 a2 a3 a4)
  · obtain ⟨ws, rfl, hQ⟩ := hS.uI
    obtain ⟨ws2, rfl, hQ2⟩ := hQ.uI
    have hy := K.2.1.un.1
    have hx := K.2.1.un.2.un.1
    have hcw : catW ws2 ≤ 8 := by rw [hQ2.ctt]; exact hc
    have k2 := k _ (SS.k (v := vi (mMM a x y)) (w := .int (i32 (mMM a x y))) rfl hQ2)
    rw [e2] at k2
    split at g3
    · exact absurd rfl ha
    · obtain ⟨g4, g5, g6⟩ := an3 g3
      have ev : i32 (mMM 1 x y) = if i32 x < i32 y then i32 y else i32 x := by
        show i32 (mMax x y) = _
        unfold mMax
        by_cases h0 : x < y
        · rw [if_pos h0, if_pos ((lt_i32 hx hy).mpr h0)]
        · rw [if_neg h0, if_neg (fun q => h0 ((lt_i32 hx hy).mp q))]
      rw [ev] at k2
      exact fun H lo ls a1 a2 a3 a4 => va_mmax c1 c2 (by rw [c7]; exact a4.1.symm) c3 (c4 _ (ckw_g g4)) (c4 _ (ckw_g g5)) (c4 _ (ckw_g g2)) (c4 _ (ckw_g g6)) (Nat.le_trans hd c8) (by show catW ws2 + 13 ≤ _; omega) hR.1 hR.2 (B.dc e1) (k2 H lo ls a1 a2 a3 a4)
    · obtain ⟨g4, g5, g6⟩ := an3 g3
      have ev : i32 (mMM 2 x y) = if i32 y < i32 x then i32 y else i32 x := by
        show i32 (mMin x y) = _
        unfold mMin
        by_cases h0 : y < x
        · rw [if_pos h0, if_pos ((lt_i32 hy hx).mpr h0)]
        · rw [if_neg h0, if_neg (fun q => h0 ((lt_i32 hy hx).mp q))]
      rw [ev] at k2
      exact fun H lo ls a1 a2 a3 a4 => va_mmin c1 c2 (by rw [c7]; exact a4.1.symm) c3 (c4 _ (ckw_g g4)) (c4 _ (ckw_g g5)) (c4 _ (ckw_g g2)) (c4 _ (ckw_g g6)) (Nat.le_trans hd c8) (by show catW ws2 + 13 ≤ _; omega) hR.1 hR.2 (B.dc e1) (k2 H lo ls a1 a2 a3 a4)
    · cases g3
theorem so_N {mi : MI} (hd : 1 ≤ xd Z) (hR : (Y.map shm).length - xy0 Z ≤ (xR Z).cells ∧ szs (Y.map shm) - xs0 Z ≤ (xR Z).slots) (B : Bd sc R d Z) (hk : okI RT R i mi = true) (hs : stp F (xar sc) Y M L st mi = some (.inl (true, st', L', M'))) (K : Kp F Y M st L) (hS : SS Z st sv) (k : Go R Z Y (i + 1) st' L' M') : G Z (Y.map shm) (rpc R i) sv (cL L) (cM M) := by
  obtain ⟨op, a, b, c, v, tab, sub, idx, pl⟩ := mi
  match op, hk, hs with
  | 0, hk, hs => exact so_0 B hk hs K hS k
  | 1, hk, hs => exact so_1 B hk hs K hS k
  | 2, hk, hs => exact so_2 B hk hs K hS k
  | 3, hk, hs => exact so_3 B hk hs K hS k
  | 4, hk, hs => exact so_4 B hk hs K hS k
  | 5, hk, hs => exact so_5 B hk hs K hS k
  | 6, hk, hs => exact so_6 B hk hs K hS k
  | 7, hk, hs => exact so_7 B hk hs K hS k
  | 8, hk, hs => exact so_8 B hk hs K hS k
  | 9, hk, hs => exact so_9 B hk hs K hS k
  | 10, hk, hs => exact so_10 B hk hs K hS k
  | 11, hk, hs => exact so_11 B hk hs K hS k
  | 12, hk, hs => exact so_12 B hk hs K hS k
  | 13, hk, hs => exact so_13 B hk hs K hS k
  | 14, hk, hs => exact so_14 B hk hs K hS k
  | 15, hk, hs => exact absurd hs in_15
  | 16, hk, hs => exact absurd hs in_16
  | 17, hk, hs => exact absurd hs in_17
  | 18, hk, hs => exact absurd hs in_18
  | 19, hk, hs => exact so_19 B hk hs K hS k
  | 20, hk, hs => exact so_20 B hk hs K hS k
  | 21, hk, hs => exact so_21 B hk hs K hS k
  | 22, hk, hs => exact so_22 B hk hs K hS k
  | 23, hk, hs => exact so_23 B hk hs K hS k
  | 24, hk, hs => exact so_24 B hk hs K hS k
  | 25, hk, hs => exact so_25 B hk hs K hS k
  | 26, hk, hs => exact so_26 B hk hs K hS k
  | 27, hk, hs => exact so_27 B hk hs K hS k
  | 28, hk, hs => exact so_28 B hk hs K hS k
  | 29, hk, hs => exact so_29 B hk hs K hS k
  | 30, hk, hs => exact absurd hs in_30
  | 31, hk, hs => exact absurd hs in_31
  | 32, hk, hs => exact so_32 B hk hs K hS k
  | 33, hk, hs => exact so_33 B hk hs K hS k
  | 34, hk, hs => exact so_34 B hk hs K hS k
  | 35, hk, hs => exact absurd hs in_35
  | 36, hk, hs => exact absurd hs in_36
  | 37, hk, hs => exact absurd hs in_37
  | 38, hk, hs => exact so_38 hd B hk hs K hS k
  | 39, hk, hs => exact so_39 hd hR B hk hs K hS k
  | op + 40, hk, hs => cases hs
end SOUND
end
section
/-! PART 13: branches, calls, returns, new cells; the whole run -/
theorem crel_c {b : Nat} {x y : Int} (hx : in32 x) (hy : in32 y) : crel (cnd b) (i32 x) (i32 y) = cmpB b x y := by
  unfold cmpB cnd
  split <;> unfold crel <;> simp only [eq_i32 hx hy, lt_i32 hx hy, lt_i32 hy hx, le_i32 hx hy, le_i32 hy hx]
theorem swt_look (R : Rec) (i t : Nat) (x : Int) : ∀ tab : List (Int × Nat), (rpc R i : Int) + lookupswitch.offset (tab.map fun p => (p.1, offR R i p.2)) (offR R i t) x = (rpc R (swt tab t x) : Int) := by
  intro tab
  induction tab with
  | nil =>
    show (rpc R i : Int) + offR R i t = (rpc R t : Int)
    unfold offR
    omega
  | cons p ps ih =>
    rw [List.map_cons, lookupswitch.offset_cons]
    unfold swt
    by_cases h : p.1 = x
    · rw [if_pos h, if_pos h.symm]
      unfold offR
      omega
    · rw [if_neg h, if_neg (fun q => h q.symm)]
      exact ih
theorem swt_seq (t : Nat) (x : Int) : ∀ (tab : List (Int × Nat)) (lo : Int), tab.map (fun p => p.1) = (List.range tab.length).map (fun (j : Nat) => lo + (j : Int)) → swt tab t x = if x < lo ∨ lo + tab.length - 1 < x then t else ((tab[(x - lo).toNat]?).map (fun p => p.2)).getD t := by
  intro tab
  induction tab with
  | nil =>
    intro lo _
    unfold swt
    split <;> rfl
  | cons p ps ih =>
    intro lo h
    rw [List.length_cons, List.range_succ_eq_map, List.map_cons, List.map_cons, List.map_map, List.cons.injEq] at h
    have hp : p.1 = lo := by
      have := h.1
      simpa using this
    have h2 := ih (lo + 1) (h.2.trans (List.map_congr_left fun j _ => by
      show lo + ((j + 1 : Nat) : Int) = lo + 1 + (j : Int)
      omega))
    unfold swt
    rw [hp, h2, List.length_cons]
    by_cases h3 : x = lo
    · subst h3
      rw [if_pos rfl, if_neg (by omega), Int.sub_self]
      rfl
    · rw [if_neg h3]
      by_cases h4 : x < lo ∨ lo + ((ps.length + 1 : Nat) : Int) - 1 < x
      · rw [if_pos h4, if_pos (by omega)]
      · rw [if_neg h4, if_neg (by omega), show (x - lo).toNat = (x - (lo + 1)).toNat + 1 by omega, List.getElem?_cons_succ]
section SOUND2
variable {RT : List Rec} {R : Rec} {F : Nat → Nat → Nat} {sc : List Int} {d : Nat} {Z : Px} {Y : YY} {M M' : MM} {L L' : LL} {st st' : List Vv} {sv : List Value} {i : Nat}
theorem so_B {mi : MI} {g : Bool} {t : Nat} (B : Bd sc R d Z) (hk : okI RT R i mi = true) (hs : stp F (xar sc) Y M L st mi = some (.inr (.inl (g, t, st')))) (K : Kp F Y M st L) (hS : SS Z st sv) (kt : g = true → Go R Z Y t st' L M) (kf : g = false → Go R Z Y (i + 1) st' L M) : G Z (Y.map shm) (rpc R i) sv (cL L) (cM M) := by
  obtain ⟨op, a, b, c, v, tab, sub, idx, pl⟩ := mi
  match op, hk, hs with
  | 16, hk, hs =>
    rw [ok_16] at hk
    rw [st_16] at hs
    split at hs
    · rename_i x s0 _
      cases hs
      obtain ⟨ws, rfl, hQ⟩ := hS.uI
      have hx := K.2.1.un.1
      obtain ⟨e1, e2⟩ := dn_d hk
      have e0 : crel (cnd b) (i32 x) 0 = cmpB b x 0 := crel_c hx in32_0
      refine g_if B.1 (B.dc e1) (tgt := rpc R t) (by unfold offR; omega) (fun h => kt (by rw [← e0]; exact h) _ hQ) (fun h => ?_)
      have k2 := kf (by rw [← e0]; exact h) _ hQ
      rw [e2] at k2
      exact k2
    · cases hs
  | 17, hk, hs =>
    rw [ok_17] at hk
    rw [st_17] at hs
    split at hs
    · rename_i y x s0 _
      cases hs
      obtain ⟨ws, rfl, hQ⟩ := hS.uI
      obtain ⟨ws2, rfl, hQ2⟩ := hQ.uI
      have hy := K.2.1.un.1
      have hx := K.2.1.un.2.un.1
      obtain ⟨e1, e2⟩ := dn_d hk
      have e0 : crel (cnd b) (i32 x) (i32 y) = cmpB b x y := crel_c hx hy
      refine g_icmp B.1 (B.dc e1) (tgt := rpc R t) (by unfold offR; omega) (fun h => kt (by rw [← e0]; exact h) _ hQ2) (fun h => ?_)
      have k2 := kf (by rw [← e0]; exact h) _ hQ2
      rw [e2] at k2
      exact k2
    · cases hs
  | 0, hk, hs =>
    rw [st_0] at hs
    repeat' first | (cases hs; done) | split at hs
  | 1, hk, hs =>
    rw [st_1] at hs
    repeat' first | (cases hs; done) | split at hs
  | 2, hk, hs =>
    rw [st_2] at hs
    repeat' first | (cases hs; done) | split at hs
  | 3, hk, hs =>
    rw [st_3] at hs
    repeat' first | (cases hs; done) | split at hs
  | 4, hk, hs =>
    rw [st_4] at hs
    repeat' first | (cases hs; done) | split at hs
  | 5, hk, hs =>
    rw [st_5] at hs
    repeat' first | (cases hs; done) | split at hs
  | 6, hk, hs =>
    rw [st_6] at hs
    repeat' first | (cases hs; done) | split at hs
  | 7, hk, hs =>
    rw [st_7] at hs
    repeat' first | (cases hs; done) | split at hs
  | 8, hk, hs =>
    rw [st_8] at hs
    repeat' first | (cases hs; done) | split at hs
  | 9, hk, hs =>
    rw [st_9] at hs
    repeat' first | (cases hs; done) | split at hs
  | 10, hk, hs =>
    rw [st_10] at hs
    repeat' first | (cases hs; done) | split at hs
  | 11, hk, hs =>
    rw [st_11] at hs
    repeat' first | (cases hs; done) | split at hs
  | 12, hk, hs =>
    rw [st_12] at hs
    repeat' first | (cases hs; done) | split at hs
  | 13, hk, hs =>
    rw [st_13] at hs
    repeat' first | (cases hs; done) | split at hs
  | 14, hk, hs =>
    rw [st_14] at hs
    repeat' first | (cases hs; done) | split at hs
  | 15, hk, hs =>
    rw [st_15] at hs
    repeat' first | (cases hs; done) | split at hs
  | 18, hk, hs =>
    rw [st_18] at hs
    repeat' first | (cases hs; done) | split at hs
  | 19, hk, hs =>
    rw [st_19] at hs
    repeat' first | (cases hs; done) | split at hs
  | 20, hk, hs =>
    rw [st_20] at hs
    repeat' first | (cases hs; done) | split at hs
  | 21, hk, hs =>
    rw [st_21] at hs
    repeat' first | (cases hs; done) | split at hs
  | 22, hk, hs =>
    rw [st_22] at hs
    repeat' first | (cases hs; done) | split at hs
  | 23, hk, hs =>
    rw [st_23] at hs
    repeat' first | (cases hs; done) | split at hs
  | 24, hk, hs =>
    rw [st_24] at hs
    repeat' first | (cases hs; done) | split at hs
  | 25, hk, hs =>
    rw [st_25] at hs
    repeat' first | (cases hs; done) | split at hs
  | 26, hk, hs =>
    rw [st_26] at hs
    repeat' first | (cases hs; done) | split at hs
  | 27, hk, hs =>
    rw [st_27] at hs
    repeat' first | (cases hs; done) | split at hs
  | 28, hk, hs =>
    rw [st_28] at hs
    repeat' first | (cases hs; done) | split at hs
  | 29, hk, hs =>
    rw [st_29] at hs
    repeat' first | (cases hs; done) | split at hs
  | 30, hk, hs =>
    rw [st_30] at hs
    repeat' first | (cases hs; done) | split at hs
  | 31, hk, hs =>
    rw [st_31] at hs
    repeat' first | (cases hs; done) | split at hs
  | 32, hk, hs =>
    rw [st_32] at hs
    repeat' first | (cases hs; done) | split at hs
  | 33, hk, hs =>
    rw [st_33] at hs
    repeat' first | (cases hs; done) | split at hs
  | 34, hk, hs =>
    rw [st_34] at hs
    repeat' first | (cases hs; done) | split at hs
  | 35, hk, hs =>
    rw [st_35] at hs
    repeat' first | (cases hs; done) | split at hs
  | 36, hk, hs =>
    rw [st_36] at hs
    repeat' first | (cases hs; done) | split at hs
  | 37, hk, hs =>
    rw [st_37] at hs
    repeat' first | (cases hs; done) | split at hs
  | 38, hk, hs =>
    rw [st_38] at hs
    repeat' first | (cases hs; done) | split at hs
  | 39, hk, hs =>
    rw [st_39] at hs
    repeat' first | (cases hs; done) | split at hs
  | op + 40, hk, hs => cases hs
theorem so_S {mi : MI} {x : Int} {tb : List (Int × Nat)} {t : Nat} (B : Bd sc R d Z) (hk : okI RT R i mi = true) (hs : stp F (xar sc) Y M L st mi = some (.inr (.inr (.inl (x, tb, t, st'))))) (K : Kp F Y M st L) (hS : SS Z st sv) (k : Go R Z Y (swt tb t x) st' L M) : G Z (Y.map shm) (rpc R i) sv (cL L) (cM M) := by
  obtain ⟨op, a, b, c, v, tab, sub, idx, pl⟩ := mi
  match op, hk, hs with
  | 18, hk, hs =>
    rw [ok_18] at hk
    rw [st_18] at hs
    split at hs
    · cases hs
      obtain ⟨ws, rfl, hQ⟩ := hS.uI
      have hx := K.2.1.un.1
      split at hk
      · obtain ⟨h1, h2⟩ := an2 hk
        refine g_table B.1 (B.dc (dk_d h1)) (by simp; omega) (tgt := rpc R (swt tb t x)) ?_ (k _ hQ)
        unfold swT
        rw [t_i32' hx, swt_seq t x tb v (of_decide_eq_true h2)]
        by_cases h3 : x < v ∨ v + (tb.length : Int) - 1 < x
        · rw [if_pos h3, if_pos h3]
          unfold offR
          omega
        · rw [if_neg h3, if_neg h3]
          have hl : (x - v).toNat < tb.length := by omega
          simp only [List.getElem?_toArray, List.getElem?_map, List.getElem?_eq_getElem hl, Option.map_some, Option.getD_some]
          unfold offR
          omega
      · obtain ⟨h1, h2⟩ := an2 hk
        refine g_lookup B.1 (B.dc (dk_d h1)) h2 (tgt := rpc R (swt tb t x)) ?_ (k _ hQ)
        rw [t_i32' hx]
        exact swt_look R i t x tb
    · cases hs
  | 0, hk, hs =>
    rw [st_0] at hs
    repeat' first | (cases hs; done) | split at hs
  | 1, hk, hs =>
    rw [st_1] at hs
    repeat' first | (cases hs; done) | split at hs
  | 2, hk, hs =>
    rw [st_2] at hs
    repeat' first | (cases hs; done) | split at hs
  | 3, hk, hs =>
    rw [st_3] at hs
    repeat' first | (cases hs; done) | split at hs
  | 4, hk, hs =>
    rw [st_4] at hs
    repeat' first | (cases hs; done) | split at hs
  | 5, hk, hs =>
    rw [st_5] at hs
    repeat' first | (cases hs; done) | split at hs
  | 6, hk, hs =>
    rw [st_6] at hs
    repeat' first | (cases hs; done) | split at hs
  | 7, hk, hs =>
    rw [st_7] at hs
    repeat' first | (cases hs; done) | split at hs
  | 8, hk, hs =>
    rw [st_8] at hs
    repeat' first | (cases hs; done) | split at hs
  | 9, hk, hs =>
    rw [st_9] at hs
    repeat' first | (cases hs; done) | split at hs
  | 10, hk, hs =>
    rw [st_10] at hs
    repeat' first | (cases hs; done) | split at hs
  | 11, hk, hs =>
    rw [st_11] at hs
    repeat' first | (cases hs; done) | split at hs
  | 12, hk, hs =>
    rw [st_12] at hs
    repeat' first | (cases hs; done) | split at hs
  | 13, hk, hs =>
    rw [st_13] at hs
    repeat' first | (cases hs; done) | split at hs
  | 14, hk, hs =>
    rw [st_14] at hs
    repeat' first | (cases hs; done) | split at hs
  | 15, hk, hs =>
    rw [st_15] at hs
    repeat' first | (cases hs; done) | split at hs
  | 16, hk, hs =>
    rw [st_16] at hs
    repeat' first | (cases hs; done) | split at hs
  | 17, hk, hs =>
    rw [st_17] at hs
    repeat' first | (cases hs; done) | split at hs
  | 19, hk, hs =>
    rw [st_19] at hs
    repeat' first | (cases hs; done) | split at hs
  | 20, hk, hs =>
    rw [st_20] at hs
    repeat' first | (cases hs; done) | split at hs
  | 21, hk, hs =>
    rw [st_21] at hs
    repeat' first | (cases hs; done) | split at hs
  | 22, hk, hs =>
    rw [st_22] at hs
    repeat' first | (cases hs; done) | split at hs
  | 23, hk, hs =>
    rw [st_23] at hs
    repeat' first | (cases hs; done) | split at hs
  | 24, hk, hs =>
    rw [st_24] at hs
    repeat' first | (cases hs; done) | split at hs
  | 25, hk, hs =>
    rw [st_25] at hs
    repeat' first | (cases hs; done) | split at hs
  | 26, hk, hs =>
    rw [st_26] at hs
    repeat' first | (cases hs; done) | split at hs
  | 27, hk, hs =>
    rw [st_27] at hs
    repeat' first | (cases hs; done) | split at hs
  | 28, hk, hs =>
    rw [st_28] at hs
    repeat' first | (cases hs; done) | split at hs
  | 29, hk, hs =>
    rw [st_29] at hs
    repeat' first | (cases hs; done) | split at hs
  | 30, hk, hs =>
    rw [st_30] at hs
    repeat' first | (cases hs; done) | split at hs
  | 31, hk, hs =>
    rw [st_31] at hs
    repeat' first | (cases hs; done) | split at hs
  | 32, hk, hs =>
    rw [st_32] at hs
    repeat' first | (cases hs; done) | split at hs
  | 33, hk, hs =>
    rw [st_33] at hs
    repeat' first | (cases hs; done) | split at hs
  | 34, hk, hs =>
    rw [st_34] at hs
    repeat' first | (cases hs; done) | split at hs
  | 35, hk, hs =>
    rw [st_35] at hs
    repeat' first | (cases hs; done) | split at hs
  | 36, hk, hs =>
    rw [st_36] at hs
    repeat' first | (cases hs; done) | split at hs
  | 37, hk, hs =>
    rw [st_37] at hs
    repeat' first | (cases hs; done) | split at hs
  | 38, hk, hs =>
    rw [st_38] at hs
    repeat' first | (cases hs; done) | split at hs
  | 39, hk, hs =>
    rw [st_39] at hs
    repeat' first | (cases hs; done) | split at hs
  | op + 40, hk, hs => cases hs
theorem so_G {mi : MI} {t : Nat} (B : Bd sc R d Z) (hk : okI RT R i mi = true) (hs : stp F (xar sc) Y M L st mi = some (.inr (.inr (.inr (.inr (.inr (.inr (t, st')))))))) (hS : SS Z st sv) (k : Go R Z Y t st' L M) : G Z (Y.map shm) (rpc R i) sv (cL L) (cM M) := by
  obtain ⟨op, a, b, c, v, tab, sub, idx, pl⟩ := mi
  match op, hk, hs with
  | 15, hk, hs =>
    rw [ok_15] at hk
    rw [st_15] at hs
    cases hs
    exact g_goto B.1 (B.dc (dk_d hk)) (by unfold offR; omega) (k _ hS)
  | 0, hk, hs =>
    rw [st_0] at hs
    repeat' first | (cases hs; done) | split at hs
  | 1, hk, hs =>
    rw [st_1] at hs
    repeat' first | (cases hs; done) | split at hs
  | 2, hk, hs =>
    rw [st_2] at hs
    repeat' first | (cases hs; done) | split at hs
  | 3, hk, hs =>
    rw [st_3] at hs
    repeat' first | (cases hs; done) | split at hs
  | 4, hk, hs =>
    rw [st_4] at hs
    repeat' first | (cases hs; done) | split at hs
  | 5, hk, hs =>
    rw [st_5] at hs
    repeat' first | (cases hs; done) | split at hs
  | 6, hk, hs =>
    rw [st_6] at hs
    repeat' first | (cases hs; done) | split at hs
  | 7, hk, hs =>
    rw [st_7] at hs
    repeat' first | (cases hs; done) | split at hs
  | 8, hk, hs =>
    rw [st_8] at hs
    repeat' first | (cases hs; done) | split at hs
  | 9, hk, hs =>
    rw [st_9] at hs
    repeat' first | (cases hs; done) | split at hs
  | 10, hk, hs =>
    rw [st_10] at hs
    repeat' first | (cases hs; done) | split at hs
  | 11, hk, hs =>
    rw [st_11] at hs
    repeat' first | (cases hs; done) | split at hs
  | 12, hk, hs =>
    rw [st_12] at hs
    repeat' first | (cases hs; done) | split at hs
  | 13, hk, hs =>
    rw [st_13] at hs
    repeat' first | (cases hs; done) | split at hs
  | 14, hk, hs =>
    rw [st_14] at hs
    repeat' first | (cases hs; done) | split at hs
  | 16, hk, hs =>
    rw [st_16] at hs
    repeat' first | (cases hs; done) | split at hs
  | 17, hk, hs =>
    rw [st_17] at hs
    repeat' first | (cases hs; done) | split at hs
  | 18, hk, hs =>
    rw [st_18] at hs
    repeat' first | (cases hs; done) | split at hs
  | 19, hk, hs =>
    rw [st_19] at hs
    repeat' first | (cases hs; done) | split at hs
  | 20, hk, hs =>
    rw [st_20] at hs
    repeat' first | (cases hs; done) | split at hs
  | 21, hk, hs =>
    rw [st_21] at hs
    repeat' first | (cases hs; done) | split at hs
  | 22, hk, hs =>
    rw [st_22] at hs
    repeat' first | (cases hs; done) | split at hs
  | 23, hk, hs =>
    rw [st_23] at hs
    repeat' first | (cases hs; done) | split at hs
  | 24, hk, hs =>
    rw [st_24] at hs
    repeat' first | (cases hs; done) | split at hs
  | 25, hk, hs =>
    rw [st_25] at hs
    repeat' first | (cases hs; done) | split at hs
  | 26, hk, hs =>
    rw [st_26] at hs
    repeat' first | (cases hs; done) | split at hs
  | 27, hk, hs =>
    rw [st_27] at hs
    repeat' first | (cases hs; done) | split at hs
  | 28, hk, hs =>
    rw [st_28] at hs
    repeat' first | (cases hs; done) | split at hs
  | 29, hk, hs =>
    rw [st_29] at hs
    repeat' first | (cases hs; done) | split at hs
  | 30, hk, hs =>
    rw [st_30] at hs
    repeat' first | (cases hs; done) | split at hs
  | 31, hk, hs =>
    rw [st_31] at hs
    repeat' first | (cases hs; done) | split at hs
  | 32, hk, hs =>
    rw [st_32] at hs
    repeat' first | (cases hs; done) | split at hs
  | 33, hk, hs =>
    rw [st_33] at hs
    repeat' first | (cases hs; done) | split at hs
  | 34, hk, hs =>
    rw [st_34] at hs
    repeat' first | (cases hs; done) | split at hs
  | 35, hk, hs =>
    rw [st_35] at hs
    repeat' first | (cases hs; done) | split at hs
  | 36, hk, hs =>
    rw [st_36] at hs
    repeat' first | (cases hs; done) | split at hs
  | 37, hk, hs =>
    rw [st_37] at hs
    repeat' first | (cases hs; done) | split at hs
  | 38, hk, hs =>
    rw [st_38] at hs
    repeat' first | (cases hs; done) | split at hs
  | 39, hk, hs =>
    rw [st_39] at hs
    repeat' first | (cases hs; done) | split at hs
  | op + 40, hk, hs => cases hs
theorem so_R {mi : MI} {w : Vv} (B : Bd sc R d Z) (hk : okI RT R i mi = true) (hs : stp F (xar sc) Y M L st mi = some (.inr (.inr (.inr (.inr (.inl (true, w))))))) (hS : SS Z st sv) (hR : Rets Z (rRet R) (cV w) (Y.map shm) (cM M)) : G Z (Y.map shm) (rpc R i) sv (cL L) (cM M) := by
  obtain ⟨op, a, b, c, v, tab, sub, idx, pl⟩ := mi
  match op, hk, hs with
  | 31, hk, hs =>
    rw [ok_31] at hk
    rw [st_31] at hs
    split at hs
    · split at hs
      · cases hs
        cases hS.n
        obtain ⟨h1, h2⟩ := an2 hk
        exact hR.1 (of_decide_eq_true h2) _ _ (B.dc (dk_d h1))
      · cases hs
    · split at hs
      · rename_i x _
        have h := Option.some.inj hs
        simp only [Sum.inr.injEq, Sum.inl.injEq, Prod.mk.injEq] at h
        obtain ⟨hb, rfl⟩ := h
        obtain ⟨ws, rfl, hQ⟩ := hS.uI
        cases hQ.n
        obtain ⟨h1, h2⟩ := an2 hk
        split at h2
        · exact hR.2.2 .int (of_decide_eq_true h2) rfl _ _ _ (B.dc (dk_d h1)) rfl rfl
        · rename_i hc
          refine hR.2.2 .boolean (of_decide_eq_true h2) rfl _ _ _ (B.dc (dk_d h1)) ?_ rfl
          rcases bl2_d hb with q | q | q
          · exact absurd q hc
          · subst q
            decide
          · subst q
            decide
      · cases hs
    · rename_i h0 h1
      split at hs
      · cases hs
        obtain ⟨ws, rfl, hQ⟩ := hS.uL
        cases hQ.n
        split at hk
        · exact absurd rfl h0
        · exact absurd rfl h1
        · obtain ⟨g1, g2⟩ := an2 hk
          exact hR.2.1 (of_decide_eq_true g2) _ _ _ (B.dc (dk_d g1)) rfl
      · cases hs
  | 0, hk, hs =>
    rw [st_0] at hs
    repeat' first | (cases hs; done) | split at hs
  | 1, hk, hs =>
    rw [st_1] at hs
    repeat' first | (cases hs; done) | split at hs
  | 2, hk, hs =>
    rw [st_2] at hs
    repeat' first | (cases hs; done) | split at hs
  | 3, hk, hs =>
    rw [st_3] at hs
    repeat' first | (cases hs; done) | split at hs
  | 4, hk, hs =>
    rw [st_4] at hs
    repeat' first | (cases hs; done) | split at hs
  | 5, hk, hs =>
    rw [st_5] at hs
    repeat' first | (cases hs; done) | split at hs
  | 6, hk, hs =>
    rw [st_6] at hs
    repeat' first | (cases hs; done) | split at hs
  | 7, hk, hs =>
    rw [st_7] at hs
    repeat' first | (cases hs; done) | split at hs
  | 8, hk, hs =>
    rw [st_8] at hs
    repeat' first | (cases hs; done) | split at hs
  | 9, hk, hs =>
    rw [st_9] at hs
    repeat' first | (cases hs; done) | split at hs
  | 10, hk, hs =>
    rw [st_10] at hs
    repeat' first | (cases hs; done) | split at hs
  | 11, hk, hs =>
    rw [st_11] at hs
    repeat' first | (cases hs; done) | split at hs
  | 12, hk, hs =>
    rw [st_12] at hs
    repeat' first | (cases hs; done) | split at hs
  | 13, hk, hs =>
    rw [st_13] at hs
    repeat' first | (cases hs; done) | split at hs
  | 14, hk, hs =>
    rw [st_14] at hs
    repeat' first | (cases hs; done) | split at hs
  | 15, hk, hs =>
    rw [st_15] at hs
    repeat' first | (cases hs; done) | split at hs
  | 16, hk, hs =>
    rw [st_16] at hs
    repeat' first | (cases hs; done) | split at hs
  | 17, hk, hs =>
    rw [st_17] at hs
    repeat' first | (cases hs; done) | split at hs
  | 18, hk, hs =>
    rw [st_18] at hs
    repeat' first | (cases hs; done) | split at hs
  | 19, hk, hs =>
    rw [st_19] at hs
    repeat' first | (cases hs; done) | split at hs
  | 20, hk, hs =>
    rw [st_20] at hs
    repeat' first | (cases hs; done) | split at hs
  | 21, hk, hs =>
    rw [st_21] at hs
    repeat' first | (cases hs; done) | split at hs
  | 22, hk, hs =>
    rw [st_22] at hs
    repeat' first | (cases hs; done) | split at hs
  | 23, hk, hs =>
    rw [st_23] at hs
    repeat' first | (cases hs; done) | split at hs
  | 24, hk, hs =>
    rw [st_24] at hs
    repeat' first | (cases hs; done) | split at hs
  | 25, hk, hs =>
    rw [st_25] at hs
    repeat' first | (cases hs; done) | split at hs
  | 26, hk, hs =>
    rw [st_26] at hs
    repeat' first | (cases hs; done) | split at hs
  | 27, hk, hs =>
    rw [st_27] at hs
    repeat' first | (cases hs; done) | split at hs
  | 28, hk, hs =>
    rw [st_28] at hs
    repeat' first | (cases hs; done) | split at hs
  | 29, hk, hs =>
    rw [st_29] at hs
    repeat' first | (cases hs; done) | split at hs
  | 30, hk, hs =>
    rw [st_30] at hs
    repeat' first | (cases hs; done) | split at hs
  | 32, hk, hs =>
    rw [st_32] at hs
    repeat' first | (cases hs; done) | split at hs
  | 33, hk, hs =>
    rw [st_33] at hs
    repeat' first | (cases hs; done) | split at hs
  | 34, hk, hs =>
    rw [st_34] at hs
    repeat' first | (cases hs; done) | split at hs
  | 35, hk, hs =>
    rw [st_35] at hs
    repeat' first | (cases hs; done) | split at hs
  | 36, hk, hs =>
    rw [st_36] at hs
    repeat' first | (cases hs; done) | split at hs
  | 37, hk, hs =>
    rw [st_37] at hs
    repeat' first | (cases hs; done) | split at hs
  | 38, hk, hs =>
    rw [st_38] at hs
    repeat' first | (cases hs; done) | split at hs
  | 39, hk, hs =>
    rw [st_39] at hs
    repeat' first | (cases hs; done) | split at hs
  | op + 40, hk, hs => cases hs
def tgk (ret : Option FieldType) (r : Vv) : Prop := (rk ret = 1 → ∃ x, r = vi x) ∧ (rk ret = 2 → ∃ x, r = vl x)
theorem tg_R {mi : MI} {w : Vv} (hk : okI RT R i mi = true) (hs : stp F (xar sc) Y M L st mi = some (.inr (.inr (.inr (.inr (.inl (true, w))))))) : tgk (rRet R) w := by
  obtain ⟨op, a, b, c, v, tab, sub, idx, pl⟩ := mi
  match op, hk, hs with
  | 31, hk, hs =>
    rw [ok_31] at hk
    rw [st_31] at hs
    split at hs
    · split at hs
      · cases hs
        rw [of_decide_eq_true (an2 hk).2]
        exact ⟨fun q => (by cases q), fun q => (by cases q)⟩
      · cases hs
    · split at hs
      · rename_i x _
        have h := Option.some.inj hs
        simp only [Sum.inr.injEq, Sum.inl.injEq, Prod.mk.injEq] at h
        obtain ⟨hb, rfl⟩ := h
        obtain ⟨h1, h2⟩ := an2 hk
        refine ⟨fun _ => ⟨x, rfl⟩, fun q => ?_⟩
        split at h2
        · rw [of_decide_eq_true h2] at q
          cases q
        · rw [of_decide_eq_true h2] at q
          cases q
      · cases hs
    · rename_i h0 h1
      split at hs
      · rename_i x _
        cases hs
        split at hk
        · exact absurd rfl h0
        · exact absurd rfl h1
        · rw [of_decide_eq_true (an2 hk).2]
          exact ⟨fun q => (by cases q), fun _ => ⟨x, rfl⟩⟩
      · cases hs
  | 0, hk, hs =>
    rw [st_0] at hs
    repeat' first | (cases hs; done) | split at hs
  | 1, hk, hs =>
    rw [st_1] at hs
    repeat' first | (cases hs; done) | split at hs
  | 2, hk, hs =>
    rw [st_2] at hs
    repeat' first | (cases hs; done) | split at hs
  | 3, hk, hs =>
    rw [st_3] at hs
    repeat' first | (cases hs; done) | split at hs
  | 4, hk, hs =>
    rw [st_4] at hs
    repeat' first | (cases hs; done) | split at hs
  | 5, hk, hs =>
    rw [st_5] at hs
    repeat' first | (cases hs; done) | split at hs
  | 6, hk, hs =>
    rw [st_6] at hs
    repeat' first | (cases hs; done) | split at hs
  | 7, hk, hs =>
    rw [st_7] at hs
    repeat' first | (cases hs; done) | split at hs
  | 8, hk, hs =>
    rw [st_8] at hs
    repeat' first | (cases hs; done) | split at hs
  | 9, hk, hs =>
    rw [st_9] at hs
    repeat' first | (cases hs; done) | split at hs
  | 10, hk, hs =>
    rw [st_10] at hs
    repeat' first | (cases hs; done) | split at hs
  | 11, hk, hs =>
    rw [st_11] at hs
    repeat' first | (cases hs; done) | split at hs
  | 12, hk, hs =>
    rw [st_12] at hs
    repeat' first | (cases hs; done) | split at hs
  | 13, hk, hs =>
    rw [st_13] at hs
    repeat' first | (cases hs; done) | split at hs
  | 14, hk, hs =>
    rw [st_14] at hs
    repeat' first | (cases hs; done) | split at hs
  | 15, hk, hs =>
    rw [st_15] at hs
    repeat' first | (cases hs; done) | split at hs
  | 16, hk, hs =>
    rw [st_16] at hs
    repeat' first | (cases hs; done) | split at hs
  | 17, hk, hs =>
    rw [st_17] at hs
    repeat' first | (cases hs; done) | split at hs
  | 18, hk, hs =>
    rw [st_18] at hs
    repeat' first | (cases hs; done) | split at hs
  | 19, hk, hs =>
    rw [st_19] at hs
    repeat' first | (cases hs; done) | split at hs
  | 20, hk, hs =>
    rw [st_20] at hs
    repeat' first | (cases hs; done) | split at hs
  | 21, hk, hs =>
    rw [st_21] at hs
    repeat' first | (cases hs; done) | split at hs
  | 22, hk, hs =>
    rw [st_22] at hs
    repeat' first | (cases hs; done) | split at hs
  | 23, hk, hs =>
    rw [st_23] at hs
    repeat' first | (cases hs; done) | split at hs
  | 24, hk, hs =>
    rw [st_24] at hs
    repeat' first | (cases hs; done) | split at hs
  | 25, hk, hs =>
    rw [st_25] at hs
    repeat' first | (cases hs; done) | split at hs
  | 26, hk, hs =>
    rw [st_26] at hs
    repeat' first | (cases hs; done) | split at hs
  | 27, hk, hs =>
    rw [st_27] at hs
    repeat' first | (cases hs; done) | split at hs
  | 28, hk, hs =>
    rw [st_28] at hs
    repeat' first | (cases hs; done) | split at hs
  | 29, hk, hs =>
    rw [st_29] at hs
    repeat' first | (cases hs; done) | split at hs
  | 30, hk, hs =>
    rw [st_30] at hs
    repeat' first | (cases hs; done) | split at hs
  | 32, hk, hs =>
    rw [st_32] at hs
    repeat' first | (cases hs; done) | split at hs
  | 33, hk, hs =>
    rw [st_33] at hs
    repeat' first | (cases hs; done) | split at hs
  | 34, hk, hs =>
    rw [st_34] at hs
    repeat' first | (cases hs; done) | split at hs
  | 35, hk, hs =>
    rw [st_35] at hs
    repeat' first | (cases hs; done) | split at hs
  | 36, hk, hs =>
    rw [st_36] at hs
    repeat' first | (cases hs; done) | split at hs
  | 37, hk, hs =>
    rw [st_37] at hs
    repeat' first | (cases hs; done) | split at hs
  | 38, hk, hs =>
    rw [st_38] at hs
    repeat' first | (cases hs; done) | split at hs
  | 39, hk, hs =>
    rw [st_39] at hs
    repeat' first | (cases hs; done) | split at hs
  | op + 40, hk, hs => cases hs
theorem exec_tag (hRT : ∀ (m : Nat) (R : Rec), RT[m]? = some R → okC RT R = true) : ∀ (n d m i : Nat) (st : List Vv) (L : LL) (Y : YY) (M : MM) (r : Vv) (Y1 : YY) (M1 : MM) (R : Rec), RT[m]? = some R → exec (PP RT) F (xar sc) n d m i st L Y M = some (r, Y1, M1) → tgk (rRet R) r := by
  intro n
  induction n with
  | zero => intro d m i st L Y M r Y1 M1 R _ h; cases h
  | succ n ih =>
    intro d m i st L Y M r Y1 M1 R hR h
    rw [exec] at h
    cases hc : (PP RT m).2[i]? with
    | none => rw [hc] at h; cases h
    | some mi =>
      obtain ⟨R', hR', hi, -⟩ := PP_at hc
      cases hR.symm.trans hR'
      have hk := okC_at (hRT m R hR) hi
      rw [hc] at h
      dsimp only at h
      cases hs : stp F (xar sc) Y M L st mi with
      | none => rw [hs] at h; cases h
      | some act =>
        rw [hs] at h
        rcases act with ⟨c, st', L', M'⟩ | ⟨c, t, st'⟩ | ⟨x, tab, t, st'⟩ | ⟨g, m', as, c, st'⟩ | ⟨c, v⟩ | ⟨st', Y', M'⟩ | ⟨t, st'⟩ <;> dsimp only at h
        · cases c with
          | false => cases h
          | true => exact ih _ _ _ _ _ _ _ _ _ _ _ hR h
        · cases c with
          | false => exact ih _ _ _ _ _ _ _ _ _ _ _ hR h
          | true => exact ih _ _ _ _ _ _ _ _ _ _ _ hR h
        · exact ih _ _ _ _ _ _ _ _ _ _ _ hR h
        · cases d with
          | zero => cases h
          | succ d =>
            dsimp only at h
            cases hb : g && (Nat.ble (catV as) (PP RT m').1 && Nat.ble 1 d) with
            | false => rw [hb] at h; cases h
            | true =>
              rw [hb] at h
              dsimp only at h
              cases h1 : exec (PP RT) F (xar sc) n d m' 0 [] (entLL (PP RT m').1 as) Y M with
              | none => rw [h1] at h; cases h
              | some q =>
                rw [h1] at h
                exact ih _ _ _ _ _ _ _ _ _ _ _ hR h
        · cases c with
          | false => cases h
          | true =>
            cases h
            exact tg_R hk hs
        · exact ih _ _ _ _ _ _ _ _ _ _ _ hR h
        · exact ih _ _ _ _ _ _ _ _ _ _ _ hR h
/-! the stack's upper part as a call's arguments -/
theorem SS.td {Z : Px} : ∀ {vs : List Vv} {ws : List Value}, SS Z vs ws → ∀ b, SS Z (vs.take b) (ws.take b) ∧ SS Z (vs.drop b) (ws.drop b)
  | [], ws, h, b => by
    cases h.n
    simp [SS]
  | v :: vs, ws, h, b => by
    obtain ⟨w, ws', rfl, h1, h2⟩ := h.u
    cases b with
    | zero => exact ⟨trivial, h⟩
    | succ b =>
      have := SS.td h2 b
      exact ⟨⟨h1, this.1⟩, this.2⟩
theorem SS.cvs {Z : Px} : ∀ {vs : List Vv} {ws : List Value}, SS Z vs ws → (∀ z ∈ vs, isXv z = false) → ws = (vs.map cV).map (cv (xb Z))
  | [], ws, h, _ => h.n
  | v :: vs, ws, h, hx => by
    obtain ⟨w, ws', rfl, h1, h2⟩ := h.u
    rw [List.map_cons, List.map_cons, ← SS.cvs h2 (fun z hz => hx z (List.mem_cons_of_mem _ hz))]
    congr 1
    have h3 := hx v List.mem_cons_self
    rcases v with x | x | k | k
    · exact h1
    · exact h1
    · exact h1
    · cases h3
theorem okH_d {R : Rec} (h : okH R = true) : (.code (rY R) (rBy R) (rNL R) (rRet R)) ∈ lw_g ∧ (.initialized (rY R).cls) ∈ lw_g ∧ (rY R).cls ≠ "java/lang/invoke/MethodHandle" ∧ (rY R).cls ≠ "java/lang/invoke/VarHandle" ∧ (rY R).cls = rOwn R ∧ plainName (rY R).cls = true ∧ rNL R ≤ 13 ∧ rpc R 0 = 0 := by
  unfold okH at h
  obtain ⟨h1, h2, h3, h4⟩ := an4 h
  obtain ⟨h5, h6, h7, h8⟩ := an4 h4
  exact ⟨ckw_g h1, ckw_g h2, of_decide_eq_true h3, of_decide_eq_true h5, of_decide_eq_true h6, h7, of_decide_eq_true (an2 h8).1, of_decide_eq_true (an2 h8).2⟩

end SOUND2
end
section
/-! PART 14: calls, new cells; a run of our small machine is a run of the machine -/
section SOUND3
variable {RT : List Rec} {R : Rec} {F : Nat → Nat → Nat} {sc : List Int} {d : Nat} {Z : Px} {Y Y1 : YY} {M M' M1 : MM} {L L' : LL} {st st' : List Vv} {sv : List Value} {i : Nat}
theorem rk_0 {ret : Option FieldType} (h : rk ret = 0) : ret = none := by
  unfold rk at h
  split at h
  · rfl
  · cases h
  · split at h <;> cases h
theorem rk_1 {ret : Option FieldType} (h : rk ret = 1) : ∃ ty, ret = some ty ∧ isIty ty = true := by
  unfold rk at h
  split at h
  · cases h
  · cases h
  · rename_i t _
    split at h
    · rename_i q
      exact ⟨t, rfl, q⟩
    · cases h
theorem rk_2 {ret : Option FieldType} (h : rk ret = 2) : ret = some .long := by
  unfold rk at h
  split at h
  · cases h
  · rfl
  · split at h <;> cases h
theorem rcv_2 {ci : Nat} {as : List Vv} (h : rcv 2 ci Y as = true) : ∃ k as0, as = vr k :: as0 ∧ (kd Y k == 10 + ci) = true := by
  rcases as with _ | ⟨v, as0⟩
  · exact absurd (show false = true from h) (by decide)
  · rcases v with x | x | k | k
    · exact absurd (show false = true from h) (by decide)
    · exact absurd (show false = true from h) (by decide)
    · exact ⟨k, as0, rfl, h⟩
    · exact absurd (show false = true from h) (by decide)
theorem rcv_34 {sub ci : Nat} {as : List Vv} (hs : sub = 3 ∨ sub = 4) (h : rcv sub ci Y as = true) : ∃ k as0, as = vr k :: as0 := by
  rcases as with _ | ⟨v, as0⟩
  · rcases hs with rfl | rfl <;> exact absurd (show false = true from h) (by decide)
  · rcases v with x | x | k | k
    · rcases hs with rfl | rfl <;> exact absurd (show false = true from h) (by decide)
    · rcases hs with rfl | rfl <;> exact absurd (show false = true from h) (by decide)
    · exact ⟨k, as0, rfl⟩
    · rcases hs with rfl | rfl <;> exact absurd (show false = true from h) (by decide)
theorem so_C {mi : MI} {g : Bool} {m' c' : Nat} {as : List Vv} {r : Vv} (B : Bd sc R (d + 1) Z) (hk : okI RT R i mi = true) (hs : stp F (xar sc) Y M L st mi = some (.inr (.inr (.inr (.inl (g, m', as, c', st')))))) (hg : g = true) (hS : SS Z st sv)
    (hH : ∀ R', RT[m']? = some R' → rOwn R' ≠ R_law0 → okH R' = true) (S : ∀ R', RT[m']? = some R' → okH R' = true → rOwn R' ≠ R_law0 → Snd (rY R') (rBy R') (rNL R') (rRet R') d (as.map cV) (Y.map shm) (cM M) (cV r) (Y1.map shm) (cM M1)) (T : ∀ R', RT[m']? = some R' → tgk (rRet R') r) (Ft : Fit Z (Y.map shm) (Y1.map shm)) (k : Go R Z Y1 (i + 1) (psh c' r st') L M1) : G Z (Y.map shm) (rpc R i) sv (cL L) (cM M) := by
  obtain ⟨op, a, b, c, v, tab, sub, idx, pl⟩ := mi
  match op, hk, hs with
  | 30, hk, hs =>
    rw [ok_30] at hk
    rw [st_30] at hs
    split at hs
    · rename_i hbb
      have hs := Option.some.inj hs
      simp only [Sum.inr.injEq, Sum.inl.injEq, Prod.mk.injEq] at hs
      obtain ⟨h1, rfl, h3, rfl, rfl⟩ := hs
      cases hR : RT[a]? with
      | none => rw [hR] at hk; cases hk
      | some R' =>
        rw [hR] at hk
        dsimp only at hk
        obtain ⟨k1, k2, k3, k4⟩ := an4 hk
        obtain ⟨hc, hc3⟩ := of_decide_eq_true k1
        have hl := of_decide_eq_true k2
        have hh := hH R' hR hl
        obtain ⟨q1, q2, q3, q4, q5, q6, q7, q8⟩ := okH_d hh
        have hSn := S R' hR hh hl
        have hT := T R' hR
        have e3 : rpc R (i + 1) = rpc R i + 3 := of_decide_eq_true k4
        obtain ⟨b1, b2, b3⟩ := an3 hbb
        obtain ⟨t1, t2⟩ := hS.td b
        have hx : ∀ z ∈ st.take b, isXv z = false := fun z hz => by
          have := List.all_eq_true.mp b1 z hz
          simpa using this
        have e4 := t1.cvs hx
        have e5 : (as.map cV).map (cv (xb Z)) = (sv.take b).reverse := by rw [← h3, e4, List.map_reverse, List.map_reverse]
        have e6 : sv = ((as.map cV).map (cv (xb Z))).reverse ++ sv.drop b := by rw [e5, List.reverse_reverse, List.take_append_drop]
        have hcat : catW (sv.drop b) ≤ 8 := by rw [t2.ctt]; exact Nat.le_of_ble_eq_true b2
        have hlen : as.length = b := by rw [← h3, List.length_reverse]; exact eq_of_beq b3
        have hcal : ∀ np, npk R' np = true → Cal Z (rY R') (rBy R') (rNL R') (rRet R') d np := fun np hn => ⟨q1, q2, ⟨q3, q4, of_decide_eq_true hn⟩, by rw [B.2.2.2.2.1]; exact Nat.le_refl _, q7⟩
        have hrun : Runs Z (Y.map shm) (rpc R i) (cM M) (rRet R') (as.map cV) (cV r) (Y1.map shm) (cM M1) := by
          unfold clk at k3
          split at k3
          · obtain ⟨g1, g2, g3, g4⟩ := an4 k3
            exact runs_S B.1 Ft hSn (by rw [List.length_map, hlen]; exact hcal b g2) (by rw [B.2.2.1]; exact ckw_g g3) (ckw_g g4) (B.dc (dk_d g1))
          · obtain ⟨g1, g2, g3, g4⟩ := an4 k3
            exact runs_SN B.1 Ft hSn (by rw [List.length_map, hlen]; exact hcal b g2) (by rw [B.2.2.1]; exact ckn_n g3) (ckw_g g4) (B.dc (dk_d g1))
          · obtain ⟨g1, g2, g3, g4⟩ := an4 k3
            obtain ⟨g5, g6, g7, g8⟩ := an4 g4
            rw [h3] at h1
            obtain ⟨kk, as0, rfl, hkd⟩ := rcv_2 (h1.trans hg)
            split at g8
            · rename_i q hq
              obtain ⟨n, hn⟩ := kd_ge (by have := (List.getElem?_eq_some_iff.mp hq).1; have : vwCl.length = 12 := rfl; omega) hkd
              have hce := of_decide_eq_true g8
              have hci := clK _ q hq
              rw [hce] at hci
              exact runs_V (as := as0.map cV) B.1 Ft hSn (by rw [List.length_map, show as0.length = b - 1 by rw [← hlen]; rfl]; exact hcal _ g2) hci (shm_f hn) (by rw [B.2.2.1]; exact ckw_g g5) (ckw_g g6) (ckw_g g7) (B.dc (dk_d g1))
            · cases g8
          · obtain ⟨g1, g2, g3, g4⟩ := an4 k3
            obtain ⟨g5, g6, g7, g8⟩ := an4 g4
            have hn0 := of_decide_eq_true g8
            have hnm := of_decide_eq_true g7
            rw [h3] at h1
            obtain ⟨kk, as0, rfl⟩ := rcv_34 (Or.inl rfl) (h1.trans hg)
            rw [hn0] at hSn hcal ⊢
            exact runs_I (as := as0.map cV) B.1 Ft hSn (by rw [List.length_map, show as0.length = b - 1 by rw [← hlen]; rfl]; exact hcal _ g2) (by rw [B.2.2.1]; exact ckw_g g5) (ckw_g g6) hnm (B.dc (dk_d g1))
          · obtain ⟨g1, g2, g3, g4⟩ := an4 k3
            obtain ⟨g5, g6, g7, g8⟩ := an4 g4
            have hn0 := of_decide_eq_true g8
            have hnm := of_decide_eq_true g7
            rw [h3] at h1
            obtain ⟨kk, as0, rfl⟩ := rcv_34 (Or.inr rfl) (h1.trans hg)
            rw [hn0] at hSn hcal ⊢
            exact runs_IN (as := as0.map cV) B.1 Ft hSn (by rw [List.length_map, show as0.length = b - 1 by rw [← hlen]; rfl]; exact hcal _ g2) (by rw [B.2.2.1]; exact ckn_n g5) (ckw_g g6) hnm (B.dc (dk_d g1))
          · cases k3
        rw [e6]
        have hcase : c = 0 ∨ c = 1 ∨ c = 2 := by omega
        rcases hcase with h0 | h0 | h0
        · rw [rk_0 (hc.symm.trans h0)] at hrun
          rw [h0] at k
          have k2 := k _ t2
          rw [e3] at k2
          exact g_callv B.1 Ft hrun hcat k2
        · obtain ⟨ty, hty, hit⟩ := rk_1 (hc.symm.trans h0)
          obtain ⟨x, rfl⟩ := hT.1 (hc.symm.trans h0)
          rw [hty] at hrun
          rw [h0] at k
          have k2 := k (.int (i32 x) :: sv.drop b) (SS.k (v := vi x) rfl t2)
          rw [e3] at k2
          exact g_calli B.1 Ft hit hrun hcat k2
        · obtain ⟨x, rfl⟩ := hT.2 (hc.symm.trans h0)
          rw [rk_2 (hc.symm.trans h0)] at hrun
          rw [h0] at k
          have k2 := k (.long (i64 x) :: sv.drop b) (SS.k (v := vl x) rfl t2)
          rw [e3] at k2
          exact g_calll B.1 Ft hrun hcat k2
    · cases hs
  | 0, hk, hs =>
    rw [st_0] at hs
    repeat' first | (cases hs; done) | split at hs
  | 1, hk, hs =>
    rw [st_1] at hs
    repeat' first | (cases hs; done) | split at hs
  | 2, hk, hs =>
    rw [st_2] at hs
    repeat' first | (cases hs; done) | split at hs
  | 3, hk, hs =>
    rw [st_3] at hs
    repeat' first | (cases hs; done) | split at hs
  | 4, hk, hs =>
    rw [st_4] at hs
    repeat' first | (cases hs; done) | split at hs
  | 5, hk, hs =>
    rw [st_5] at hs
    repeat' first | (cases hs; done) | split at hs
  | 6, hk, hs =>
    rw [st_6] at hs
    repeat' first | (cases hs; done) | split at hs
  | 7, hk, hs =>
    rw [st_7] at hs
    repeat' first | (cases hs; done) | split at hs
  | 8, hk, hs =>
    rw [st_8] at hs
    repeat' first | (cases hs; done) | split at hs
  | 9, hk, hs =>
    rw [st_9] at hs
    repeat' first | (cases hs; done) | split at hs
  | 10, hk, hs =>
    rw [st_10] at hs
    repeat' first | (cases hs; done) | split at hs
  | 11, hk, hs =>
    rw [st_11] at hs
    repeat' first | (cases hs; done) | split at hs
  | 12, hk, hs =>
    rw [st_12] at hs
    repeat' first | (cases hs; done) | split at hs
  | 13, hk, hs =>
    rw [st_13] at hs
    repeat' first | (cases hs; done) | split at hs
  | 14, hk, hs =>
    rw [st_14] at hs
    repeat' first | (cases hs; done) | split at hs
  | 15, hk, hs =>
    rw [st_15] at hs
    repeat' first | (cases hs; done) | split at hs
  | 16, hk, hs =>
    rw [st_16] at hs
    repeat' first | (cases hs; done) | split at hs
  | 17, hk, hs =>
    rw [st_17] at hs
    repeat' first | (cases hs; done) | split at hs
  | 18, hk, hs =>
    rw [st_18] at hs
    repeat' first | (cases hs; done) | split at hs
  | 19, hk, hs =>
    rw [st_19] at hs
    repeat' first | (cases hs; done) | split at hs
  | 20, hk, hs =>
    rw [st_20] at hs
    repeat' first | (cases hs; done) | split at hs
  | 21, hk, hs =>
    rw [st_21] at hs
    repeat' first | (cases hs; done) | split at hs
  | 22, hk, hs =>
    rw [st_22] at hs
    repeat' first | (cases hs; done) | split at hs
  | 23, hk, hs =>
    rw [st_23] at hs
    repeat' first | (cases hs; done) | split at hs
  | 24, hk, hs =>
    rw [st_24] at hs
    repeat' first | (cases hs; done) | split at hs
  | 25, hk, hs =>
    rw [st_25] at hs
    repeat' first | (cases hs; done) | split at hs
  | 26, hk, hs =>
    rw [st_26] at hs
    repeat' first | (cases hs; done) | split at hs
  | 27, hk, hs =>
    rw [st_27] at hs
    repeat' first | (cases hs; done) | split at hs
  | 28, hk, hs =>
    rw [st_28] at hs
    repeat' first | (cases hs; done) | split at hs
  | 29, hk, hs =>
    rw [st_29] at hs
    repeat' first | (cases hs; done) | split at hs
  | 31, hk, hs =>
    rw [st_31] at hs
    repeat' first | (cases hs; done) | split at hs
  | 32, hk, hs =>
    rw [st_32] at hs
    repeat' first | (cases hs; done) | split at hs
  | 33, hk, hs =>
    rw [st_33] at hs
    repeat' first | (cases hs; done) | split at hs
  | 34, hk, hs =>
    rw [st_34] at hs
    repeat' first | (cases hs; done) | split at hs
  | 35, hk, hs =>
    rw [st_35] at hs
    repeat' first | (cases hs; done) | split at hs
  | 36, hk, hs =>
    rw [st_36] at hs
    repeat' first | (cases hs; done) | split at hs
  | 37, hk, hs =>
    rw [st_37] at hs
    repeat' first | (cases hs; done) | split at hs
  | 38, hk, hs =>
    rw [st_38] at hs
    repeat' first | (cases hs; done) | split at hs
  | 39, hk, hs =>
    rw [st_39] at hs
    repeat' first | (cases hs; done) | split at hs
  | op + 40, hk, hs => cases hs
theorem shm_app (Y Y2 : YY) : (Y ++ Y2).map shm = Y.map shm ++ Y2.map shm := List.map_append
theorem fc_ty (C : Cx Z) {a : Nat} (ha : a < 4) : ∀ cA : ClassId, (xs Z).vm.findClass ("[" ++ (tyc a).toString) = some cA → cA = xA Z (tyc a) := fun cA h => by
  have hK := C.2.2.2.2.1.2
  match a, ha, h with
  | 0, _, h => exact Option.some.inj (h.symm.trans (hK 0 _ rfl).2)
  | 1, _, h => exact Option.some.inj (h.symm.trans (hK 2 _ rfl).2)
  | 2, _, h => exact Option.some.inj (h.symm.trans (hK 3 _ rfl).2)
  | 3, _, h => exact Option.some.inj (h.symm.trans (hK 1 _ rfl).2)
theorem so_A {mi : MI} {Y' : YY} (B : Bd sc R d Z) (hk : okI RT R i mi = true) (hs : stp F (xar sc) Y M L st mi = some (.inr (.inr (.inr (.inr (.inr (.inl (st', Y', M')))))))) (K : Kp F Y M st L) (hS : SS Z st sv) (Ft : Fit Z (Y.map shm) (Y'.map shm)) (k : Go R Z Y' (i + 1) st' L M') : G Z (Y.map shm) (rpc R i) sv (cL L) (cM M) := by
  obtain ⟨op, a, b, c, v, tab, sub, idx, pl⟩ := mi
  have hz : ∀ k, k < (Y.map shm).length → ∀ j, M k j = zrM M (Y.map shm).length k j := fun k hk j => (if_neg (by omega)).symm
  have hln : (Y.map shm).length = Y.length := List.length_map _
  match op, hk, hs with
  | 35, hk, hs =>
    rw [ok_35] at hk
    rw [st_35] at hs
    have hs := Option.some.inj hs
    simp only [Sum.inr.injEq, Sum.inl.injEq, Prod.mk.injEq] at hs
    obtain ⟨rfl, rfl, rfl⟩ := hs
    cases hv : vwCl[a]? with
    | none => rw [hv] at hk; cases hk
    | some q =>
      rw [hv] at hk
      obtain ⟨g1, g2, g3, g4⟩ := an4 hk
      obtain ⟨g5, g6⟩ := an2 g4
      have ha : a < 12 := (List.getElem?_eq_some_iff.mp hv).1
      have e0 : ([(10 + a, 0)] : YY).map shm = [Sum.inl a] := by
        have := shm_f (Y := [(10 + a, 0)]) (k := 0) (a := a) (n := 0) rfl
        simp only [List.map_cons, List.map_nil] at this ⊢
        simpa using this
      rw [shm_app, e0] at Ft
      obtain ⟨e1, e2⟩ := dn_d g6
      have k2 := k (.ref (xb Z + Y.length) :: sv) (SS.k (v := vr _) rfl hS)
      rw [shm_app, e0, e2, ← hln] at k2
      refine G.cg (w_off hz) (g_new B.1 Ft (clK a q hv) (by rw [B.2.2.1]; exact ckw_g g1) (ckw_g g2) (ckw_g g3) (fun j hj => ?_) (fun j => ?_) (B.dc e1) k2)
      · have := List.all_eq_true.mp g5 j (List.mem_range.mpr hj)
        rw [Bool.or_eq_true] at this
        exact this
      · have h0 : zrM M (Y.map shm).length (Y.map shm).length j = 0 := if_pos rfl
        rw [cM_I, cM_R, h0]
        exact ⟨by decide, rfl⟩
  | 36, hk, hs =>
    rw [ok_36] at hk
    rw [st_36] at hs
    split at hs
    · rename_i x s0 _
      split at hs
      · rename_i hb
        have hs := Option.some.inj hs
        simp only [Sum.inr.injEq, Sum.inl.injEq, Prod.mk.injEq] at hs
        obtain ⟨rfl, rfl, rfl⟩ := hs
        obtain ⟨g1, g2, g3⟩ := an3 hk
        have ha := of_decide_eq_true g1
        have h0 := of_decide_eq_true (an2 hb).1
        have h1 := of_decide_eq_true (an2 hb).2
        have hx := K.2.1.un.1
        obtain ⟨ws, rfl, hQ⟩ := hS.uI
        have e0 : ([(a, x.toNat)] : YY).map shm = [Sum.inr (tyc a, x.toNat)] := by
          have := shm_a (Y := [(a, x.toNat)]) (k := 0) (a := a) (n := x.toNat) (by omega) rfl
          simp only [List.map_cons, List.map_nil] at this ⊢
          simpa using this
        rw [shm_app, e0] at Ft
        obtain ⟨e1, e2⟩ := dn_d g3
        have k2 := k (.ref (xb Z + Y.length) :: ws) (SS.k (v := vr _) rfl hQ)
        rw [shm_app, e0, e2, ← hln] at k2
        have hb8 : componentBytes (tyc a) ≤ 8 := by
          match a, ha with
          | 0, _ => decide
          | 1, _ => decide
          | 2, _ => decide
          | 3, _ => decide
        have hmul : x.toNat * componentBytes (tyc a) ≤ 536870912 := by
          have := Nat.mul_le_mul (show x.toNat ≤ 200000 by omega) hb8
          omega
        refine G.cg (w_off hz) (g_newarr B.1 (aty a) ?_ Ft (ckw_g g2) (fc_ty B.1 ha) ?_ (nat_i32 hx) hmul ?_ (B.dc e1) k2)
        · match a, ha with
          | 0, _ => rfl
          | 1, _ => rfl
          | 2, _ => rfl
          | 3, _ => rfl
        · rw [show (0 : Int32) = i32 0 by decide, lt_i32 hx in32_0]
          omega
        · intro cA
          have hi : mI (cM (zrM M (Y.map shm).length)) (Y.map shm).length = fun _ => 0 := funext fun j => by
            have h0 : zrM M (Y.map shm).length (Y.map shm).length j = 0 := if_pos rfl
            rw [cM_I, h0]
            decide
          have hl : mL (cM (zrM M (Y.map shm).length)) (Y.map shm).length = fun _ => 0 := funext fun j => by
            have h0 : zrM M (Y.map shm).length (Y.map shm).length j = 0 := if_pos rfl
            rw [cM_L, h0]
            decide
          match a, ha with
          | 0, _ => show vp_cell cA (_, .inl (mI (cM (zrM M (Y.map shm).length)) (Y.map shm).length)) = _; rw [hi]; rfl
          | 1, _ => show vp_cell cA (_, .inl (mI (cM (zrM M (Y.map shm).length)) (Y.map shm).length)) = _; rw [hi]; rfl
          | 2, _ => show vp_cell cA (_, .inl (mI (cM (zrM M (Y.map shm).length)) (Y.map shm).length)) = _; rw [hi]; rfl
          | 3, _ => show vp_cell cA (_, .inr (.inl (mL (cM (zrM M (Y.map shm).length)) (Y.map shm).length))) = _; rw [hl]; rfl
      · cases hs
    · cases hs
  | 37, hk, hs =>
    rw [ok_37] at hk
    rw [st_37] at hs
    split at hs
    · rename_i y x s0 _
      split at hs
      · rename_i hb
        have hs := Option.some.inj hs
        simp only [Sum.inr.injEq, Sum.inl.injEq, Prod.mk.injEq] at hs
        obtain ⟨rfl, rfl, rfl⟩ := hs
        obtain ⟨g1, g2, g3⟩ := an3 hk
        obtain ⟨b1, b2, b3, b4⟩ := an4 hb
        have c1 := of_decide_eq_true b1
        have c2 := of_decide_eq_true b2
        have c3 := of_decide_eq_true b3
        have c4 := of_decide_eq_true b4
        have hy := K.2.1.un.1
        have hx := K.2.1.un.2.un.1
        obtain ⟨ws, rfl, hQ⟩ := hS.uI
        obtain ⟨ws2, rfl, hQ2⟩ := hQ.uI
        have e0 : ((4, x.toNat) :: List.replicate x.toNat (0, y.toNat) : YY).map shm = mulY x.toNat y.toNat := by
          rw [List.map_cons, List.map_replicate]
          rfl
        rw [shm_app, e0] at Ft
        obtain ⟨e1, e2⟩ := dn_d g3
        have k2 := k (.ref (xb Z + Y.length) :: ws2) (SS.k (v := vr _) rfl hQ2)
        rw [shm_app, e0, e2, ← hln] at k2
        have hK := B.1.2.2.2.2.1.2
        refine G.cg (w_off (M2 := muM M (Y.map shm).length x.toNat) (fun k hk j => ?_)) (g_multi B.1 Ft (by rw [B.2.2.1]; exact ckw_g g1) (ckw_g g2) (fun cA h => Option.some.inj (h.symm.trans (hK 4 _ rfl).2)) (fun cA h => Option.some.inj (h.symm.trans (hK 0 _ rfl).2)) ?_ ?_ (nat_i32 hx) (nat_i32 hy) (by omega) (by omega) (fun j => ?_) (fun q j hq => ?_) (B.dc e1) k2)
        · unfold muM
          rw [if_neg (by omega), if_neg (by omega)]
        · rw [show (0 : Int32) = i32 0 by decide, lt_i32 hx in32_0]
          omega
        · rw [show (0 : Int32) = i32 0 by decide, lt_i32 hy in32_0]
          omega
        · rw [cM_R]
          unfold muM
          rw [if_pos rfl]
          by_cases hj : j < x.toNat
          · rw [if_pos hj, if_pos hj, if_neg (by omega)]
            congr 1
            omega
          · rw [if_neg hj, if_neg hj, if_pos (Int.le_refl 0)]
        · rw [cM_I]
          unfold muM
          rw [if_neg (by omega), if_pos (by omega)]
          decide
      · cases hs
    · cases hs
  | 0, hk, hs =>
    rw [st_0] at hs
    repeat' first | (cases hs; done) | split at hs
  | 1, hk, hs =>
    rw [st_1] at hs
    repeat' first | (cases hs; done) | split at hs
  | 2, hk, hs =>
    rw [st_2] at hs
    repeat' first | (cases hs; done) | split at hs
  | 3, hk, hs =>
    rw [st_3] at hs
    repeat' first | (cases hs; done) | split at hs
  | 4, hk, hs =>
    rw [st_4] at hs
    repeat' first | (cases hs; done) | split at hs
  | 5, hk, hs =>
    rw [st_5] at hs
    repeat' first | (cases hs; done) | split at hs
  | 6, hk, hs =>
    rw [st_6] at hs
    repeat' first | (cases hs; done) | split at hs
  | 7, hk, hs =>
    rw [st_7] at hs
    repeat' first | (cases hs; done) | split at hs
  | 8, hk, hs =>
    rw [st_8] at hs
    repeat' first | (cases hs; done) | split at hs
  | 9, hk, hs =>
    rw [st_9] at hs
    repeat' first | (cases hs; done) | split at hs
  | 10, hk, hs =>
    rw [st_10] at hs
    repeat' first | (cases hs; done) | split at hs
  | 11, hk, hs =>
    rw [st_11] at hs
    repeat' first | (cases hs; done) | split at hs
  | 12, hk, hs =>
    rw [st_12] at hs
    repeat' first | (cases hs; done) | split at hs
  | 13, hk, hs =>
    rw [st_13] at hs
    repeat' first | (cases hs; done) | split at hs
  | 14, hk, hs =>
    rw [st_14] at hs
    repeat' first | (cases hs; done) | split at hs
  | 15, hk, hs =>
    rw [st_15] at hs
    repeat' first | (cases hs; done) | split at hs
  | 16, hk, hs =>
    rw [st_16] at hs
    repeat' first | (cases hs; done) | split at hs
  | 17, hk, hs =>
    rw [st_17] at hs
    repeat' first | (cases hs; done) | split at hs
  | 18, hk, hs =>
    rw [st_18] at hs
    repeat' first | (cases hs; done) | split at hs
  | 19, hk, hs =>
    rw [st_19] at hs
    repeat' first | (cases hs; done) | split at hs
  | 20, hk, hs =>
    rw [st_20] at hs
    repeat' first | (cases hs; done) | split at hs
  | 21, hk, hs =>
    rw [st_21] at hs
    repeat' first | (cases hs; done) | split at hs
  | 22, hk, hs =>
    rw [st_22] at hs
    repeat' first | (cases hs; done) | split at hs
  | 23, hk, hs =>
    rw [st_23] at hs
    repeat' first | (cases hs; done) | split at hs
  | 24, hk, hs =>
    rw [st_24] at hs
    repeat' first | (cases hs; done) | split at hs
  | 25, hk, hs =>
    rw [st_25] at hs
    repeat' first | (cases hs; done) | split at hs
  | 26, hk, hs =>
    rw [st_26] at hs
    repeat' first | (cases hs; done) | split at hs
  | 27, hk, hs =>
    rw [st_27] at hs
    repeat' first | (cases hs; done) | split at hs
  | 28, hk, hs =>
    rw [st_28] at hs
    repeat' first | (cases hs; done) | split at hs
  | 29, hk, hs =>
    rw [st_29] at hs
    repeat' first | (cases hs; done) | split at hs
  | 30, hk, hs =>
    rw [st_30] at hs
    repeat' first | (cases hs; done) | split at hs
  | 31, hk, hs =>
    rw [st_31] at hs
    repeat' first | (cases hs; done) | split at hs
  | 32, hk, hs =>
    rw [st_32] at hs
    repeat' first | (cases hs; done) | split at hs
  | 33, hk, hs =>
    rw [st_33] at hs
    repeat' first | (cases hs; done) | split at hs
  | 34, hk, hs =>
    rw [st_34] at hs
    repeat' first | (cases hs; done) | split at hs
  | 38, hk, hs =>
    rw [st_38] at hs
    repeat' first | (cases hs; done) | split at hs
  | 39, hk, hs =>
    rw [st_39] at hs
    repeat' first | (cases hs; done) | split at hs
  | op + 40, hk, hs => cases hs
/-- a run of our small machine, in the machine -/
theorem exec_G (hRT : ∀ (m : Nat) (R : Rec), RT[m]? = some R → okC RT R = true) (hH : ∀ (m : Nat) (R : Rec), RT[m]? = some R → rOwn R ≠ R_law0 → okH R = true) (hsc : (∀ z ∈ sc, in32 z) ∧ in32 (sc.length : Int)) : ∀ (n d m i : Nat) (st : List Vv) (L : LL) (Y : YY) (M : MM) (r : Vv) (Y1 : YY) (M1 : MM), exec (PP RT) F (xar sc) n d m i st L Y M = some (r, Y1, M1) → Kp F Y M st L → ∀ (R : Rec) (Z : Px) (sv : List Value), RT[m]? = some R → 1 ≤ d → Bd sc R d Z → SS Z st sv → Fit Z (Y.map shm) (Y1.map shm) → Rets Z (rRet R) (cV r) (Y1.map shm) (cM M1) → G Z (Y.map shm) (rpc R i) sv (cL L) (cM M) := by
  intro n
  induction n with
  | zero => intro d m i st L Y M r Y1 M1 h; cases h
  | succ n ih =>
    intro d m i st L Y M r Y1 M1 h K R Z sv hR hd B hS Ft hRet
    have hX := okX_xar hsc
    rw [exec] at h
    cases hc : (PP RT m).2[i]? with
    | none => rw [hc] at h; cases h
    | some mi =>
      obtain ⟨R', hR', hi, -⟩ := PP_at hc
      cases hR.symm.trans hR'
      have hk := okC_at (hRT m R hR) hi
      rw [hc] at h
      dsimp only at h
      cases hs : stp F (xar sc) Y M L st mi with
      | none => rw [hs] at h; cases h
      | some act =>
        rw [hs] at h
        rcases act with ⟨c, st', L', M'⟩ | ⟨c, t, st'⟩ | ⟨x, tab, t, st'⟩ | ⟨g, m', as, c, st'⟩ | ⟨c, v⟩ | ⟨st', Y', M'⟩ | ⟨t, st'⟩ <;> dsimp only at h
        · cases c with
          | false => cases h
          | true =>
            have K2 := kp_N hX hk hs K
            exact so_N (by rw [B.2.2.2.2.1]; exact hd) (by obtain ⟨f1, f2, f3, f4, f5, f6⟩ := Ft; exact ⟨by omega, by omega⟩) B hk hs K hS fun sv' hS' => ih _ _ _ _ _ _ _ _ _ _ h K2 R Z sv' hR hd B hS' Ft hRet
        · have K2 : Kp F Y M st' L := ⟨K.1, kp_B hs K, K.2.2⟩
          refine so_B B hk hs K hS (fun hc sv' hS' => ?_) (fun hc sv' hS' => ?_)
          · subst hc
            exact ih _ _ _ _ _ _ _ _ _ _ h K2 R Z sv' hR hd B hS' Ft hRet
          · subst hc
            exact ih _ _ _ _ _ _ _ _ _ _ h K2 R Z sv' hR hd B hS' Ft hRet
        · have K2 : Kp F Y M st' L := ⟨K.1, kp_S hs K, K.2.2⟩
          exact so_S B hk hs K hS fun sv' hS' => ih _ _ _ _ _ _ _ _ _ _ h K2 R Z sv' hR hd B hS' Ft hRet
        · cases d with
          | zero => cases h
          | succ d =>
            dsimp only at h
            cases hb : g && (Nat.ble (catV as) (PP RT m').1 && Nat.ble 1 d) with
            | false => rw [hb] at h; cases h
            | true =>
              rw [hb] at h
              dsimp only at h
              obtain ⟨k1, k2, k3⟩ := kp_C hs K
              cases h1 : exec (PP RT) F (xar sc) n d m' 0 [] (entLL (PP RT m').1 as) Y M with
              | none => rw [h1] at h; cases h
              | some q =>
                obtain ⟨r', Y2, M2⟩ := q
                rw [h1] at h
                dsimp only at h
                have K3 : Kp F Y M [] (entLL (PP RT m').1 as) := ⟨K.1, fun _ q => (by cases q), okLv_ent k2 k3⟩
                obtain ⟨i1, i2, Z1, i3⟩ := exec_keeps hRT hX _ _ _ _ _ _ _ _ _ _ _ h1 K3
                have K4 : Kp F Y2 M2 (psh c r' st') L := ⟨i1, okVs_psh i2 k1, K.2.2⟩
                obtain ⟨j1, j2, Z2, j3⟩ := exec_keeps hRT hX _ _ _ _ _ _ _ _ _ _ _ h K4
                have f0 : Fit Z (Y.map shm) (Y2.map shm) ∧ Fit Z (Y2.map shm) (Y1.map shm) := by
                  obtain ⟨f1, f2, f3, f4, f5, f6⟩ := Ft
                  have l1 : (Y2.map shm).length = (Y.map shm).length + Z1.length := by rw [i3]; simp
                  have l2 : (Y1.map shm).length = (Y2.map shm).length + Z2.length := by rw [j3]; simp
                  have s1 : szs (Y2.map shm) = szs (Y.map shm) + szs (Z1.map shm) := by rw [i3, shm_app]; simp [szs]
                  have s2 : szs (Y1.map shm) = szs (Y2.map shm) + szs (Z2.map shm) := by rw [j3, shm_app]; simp [szs]
                  exact ⟨⟨f1, by omega, f3, by omega, by omega, by omega⟩, ⟨by omega, by omega, by omega, by omega, f5, f6⟩⟩
                refine so_C B hk hs (an2 hb).1 hS (fun R' h' => hH m' R' h') (fun R' h' hh hl => ?_) (fun R' h' => exec_tag hRT _ _ _ _ _ _ _ _ _ _ _ R' h' h1) f0.1 fun sv' hS' => ih _ _ _ _ _ _ _ _ _ _ h K4 R Z sv' hR hd B hS' f0.2 hRet
                obtain ⟨q1, q2, q3, q4, q5, q6, q7, q8⟩ := okH_d hh
                have hP1 : (PP RT m').1 = rNL R' := by unfold PP; rw [h']
                rw [hP1] at h1 K3 hb
                refine Snd.of (rOwn R') q5 q6 ?_ fun P b D cA C z1 z2 rt => ?_
                · have e : catV as = argW (as.map cV) := by
                    unfold catV argW
                    rw [List.map_map]
                    congr 1
                    apply List.map_congr_left
                    intro v hv
                    show ctV v = if isLg (some (some (cV v))) then 2 else 1
                    rw [isLg_cV v (k3 v hv)]
                    unfold ctV
                    cases isLv v <;> rfl
                  rw [← e]
                  exact Nat.le_of_ble_eq_true (an3 hb).2.1
                · have l1 : (Y2.map shm).length = (Y.map shm).length + Z1.length := by rw [i3]; simp
                  have s1 : szs (Y2.map shm) = szs (Y.map shm) + szs (Z1.map shm) := by rw [i3, shm_app]; simp [szs]
                  · have hG := ih _ _ _ _ _ _ _ _ _ _ h1 K3 R' (P, (rBy R', rOwn R', rNL R', d, b, D, cA, (Y.map shm).length, szs (Y.map shm), none, (rY R').name)) [] h' (Nat.le_of_ble_eq_true (an3 hb).2.2) ⟨C, rfl, rfl, rfl, rfl, rfl, Or.inl ⟨hl, rfl⟩, fun a h => (by cases h)⟩ trivial ⟨Nat.le_refl _, by omega, Nat.le_refl _, by omega, by rw [z1]; exact Nat.le_refl _, by rw [z2]; exact Nat.le_refl _⟩ rt
                    rw [q8, cL_ent k3] at hG
                    exact hG
        · cases c with
          | false => cases h
          | true =>
            cases h
            exact so_R B hk hs hS hRet
        · obtain ⟨k1, k2, Z1, e1⟩ := kp_A hs K
          have K2 : Kp F Y' M' st' L := ⟨k1, k2, K.2.2⟩
          obtain ⟨j1, j2, Z2, j3⟩ := exec_keeps hRT hX _ _ _ _ _ _ _ _ _ _ _ h K2
          have f0 : Fit Z (Y.map shm) (Y'.map shm) ∧ Fit Z (Y'.map shm) (Y1.map shm) := by
            obtain ⟨f1, f2, f3, f4, f5, f6⟩ := Ft
            have l1 : (Y'.map shm).length = (Y.map shm).length + Z1.length := by rw [e1]; simp
            have l2 : (Y1.map shm).length = (Y'.map shm).length + Z2.length := by rw [j3]; simp
            have s1 : szs (Y'.map shm) = szs (Y.map shm) + szs (Z1.map shm) := by rw [e1, shm_app]; simp [szs]
            have s2 : szs (Y1.map shm) = szs (Y'.map shm) + szs (Z2.map shm) := by rw [j3, shm_app]; simp [szs]
            exact ⟨⟨f1, by omega, f3, by omega, by omega, by omega⟩, ⟨by omega, by omega, by omega, by omega, f5, f6⟩⟩
          exact so_A B hk hs K hS f0.1 fun sv' hS' => ih _ _ _ _ _ _ _ _ _ _ h K2 R Z sv' hR hd B hS' f0.2 hRet
        · have K2 : Kp F Y M st' L := ⟨K.1, kp_G hs K, K.2.2⟩
          exact so_G B hk hs hS fun sv' hS' => ih _ _ _ _ _ _ _ _ _ _ h K2 R Z sv' hR hd B hS' Ft hRet
end SOUND3
end
