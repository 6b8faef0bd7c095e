-- ===== PART A: goes FIRST, ahead of the names: the tables' words, and 'selects' of the private methods out of them =====
/-- a private method of a class that the tables say can be made, by its rows of tables_1 -/
def lw_okq (q : MethodName × Nat) : Prop := (q.1.cls ≠ "java/lang/invoke/MethodHandle" ∧ q.1.cls ≠ "java/lang/invoke/VarHandle") ∧ Cond.instantiable q.1.cls q.2 ∈ tables_1 ∧ Cond.privateMethod q.1 ∈ tables_1 ∧ Cond.instanceMethod q.1 ∈ tables_1
theorem lw_p0 : lw_okq (⟨"ScoreForms", "noteChange", "(I)V"⟩, 15) := ⟨⟨by decide +kernel, by decide +kernel⟩, List.mem_of_getElem? (i := 17) (by decide +kernel), List.mem_of_getElem? (i := 368) (by decide +kernel), List.mem_of_getElem? (i := 369) (by decide +kernel)⟩
theorem lw_p1 : lw_okq (⟨"ScoreForms", "finding", "(I)I"⟩, 15) := ⟨⟨by decide +kernel, by decide +kernel⟩, List.mem_of_getElem? (i := 17) (by decide +kernel), List.mem_of_getElem? (i := 387) (by decide +kernel), List.mem_of_getElem? (i := 388) (by decide +kernel)⟩
theorem lw_p2 : lw_okq (⟨"ScoreForms", "freshRun", "()LScoreForms$Run;"⟩, 15) := ⟨⟨by decide +kernel, by decide +kernel⟩, List.mem_of_getElem? (i := 17) (by decide +kernel), List.mem_of_getElem? (i := 402) (by decide +kernel), List.mem_of_getElem? (i := 403) (by decide +kernel)⟩
theorem lw_p3 : lw_okq (⟨"ScoreForms$Run", "giveNumbers", "()V"⟩, 4) := ⟨⟨by decide +kernel, by decide +kernel⟩, List.mem_of_getElem? (i := 48) (by decide +kernel), List.mem_of_getElem? (i := 424) (by decide +kernel), List.mem_of_getElem? (i := 425) (by decide +kernel)⟩
theorem lw_p4 : lw_okq (⟨"ScoreForms", "freshScore", "()LScoreForms$Score;"⟩, 15) := ⟨⟨by decide +kernel, by decide +kernel⟩, List.mem_of_getElem? (i := 17) (by decide +kernel), List.mem_of_getElem? (i := 428) (by decide +kernel), List.mem_of_getElem? (i := 429) (by decide +kernel)⟩
theorem lw_p5 : lw_okq (⟨"ScoreForms$Score", "becomeEmpty", "()V"⟩, 7) := ⟨⟨by decide +kernel, by decide +kernel⟩, List.mem_of_getElem? (i := 95) (by decide +kernel), List.mem_of_getElem? (i := 436) (by decide +kernel), List.mem_of_getElem? (i := 437) (by decide +kernel)⟩
theorem lw_p6 : lw_okq (⟨"ScoreForms$Grammar", "fitsBehindPart", "(I)Z"⟩, 6) := ⟨⟨by decide +kernel, by decide +kernel⟩, List.mem_of_getElem? (i := 103) (by decide +kernel), List.mem_of_getElem? (i := 457) (by decide +kernel), List.mem_of_getElem? (i := 458) (by decide +kernel)⟩
theorem lw_p7 : lw_okq (⟨"ScoreForms$Score", "accept", "(II)V"⟩, 7) := ⟨⟨by decide +kernel, by decide +kernel⟩, List.mem_of_getElem? (i := 95) (by decide +kernel), List.mem_of_getElem? (i := 461) (by decide +kernel), List.mem_of_getElem? (i := 462) (by decide +kernel)⟩
theorem lw_p8 : lw_okq (⟨"ScoreForms$Player", "openRepeat", "()V"⟩, 7) := ⟨⟨by decide +kernel, by decide +kernel⟩, List.mem_of_getElem? (i := 131) (by decide +kernel), List.mem_of_getElem? (i := 482) (by decide +kernel), List.mem_of_getElem? (i := 483) (by decide +kernel)⟩
theorem lw_p9 : lw_okq (⟨"ScoreForms$Player", "playOnceMore", "(II)V"⟩, 7) := ⟨⟨by decide +kernel, by decide +kernel⟩, List.mem_of_getElem? (i := 131) (by decide +kernel), List.mem_of_getElem? (i := 486) (by decide +kernel), List.mem_of_getElem? (i := 487) (by decide +kernel)⟩
theorem lw_p10 : lw_okq (⟨"ScoreForms$Score", "blame", "(II)V"⟩, 7) := ⟨⟨by decide +kernel, by decide +kernel⟩, List.mem_of_getElem? (i := 95) (by decide +kernel), List.mem_of_getElem? (i := 493) (by decide +kernel), List.mem_of_getElem? (i := 494) (by decide +kernel)⟩
theorem lw_p11 : lw_okq (⟨"ScoreForms", "freshSpans", "()LScoreForms$Spans;"⟩, 15) := ⟨⟨by decide +kernel, by decide +kernel⟩, List.mem_of_getElem? (i := 17) (by decide +kernel), List.mem_of_getElem? (i := 513) (by decide +kernel), List.mem_of_getElem? (i := 514) (by decide +kernel)⟩
theorem lw_p12 : lw_okq (⟨"ScoreForms$Spans", "cheapest", "(III)I"⟩, 4) := ⟨⟨by decide +kernel, by decide +kernel⟩, List.mem_of_getElem? (i := 192) (by decide +kernel), List.mem_of_getElem? (i := 537) (by decide +kernel), List.mem_of_getElem? (i := 538) (by decide +kernel)⟩
theorem lw_p13 : lw_okq (⟨"ScoreForms$Spans", "mayRepeat", "(III)Z"⟩, 4) := ⟨⟨by decide +kernel, by decide +kernel⟩, List.mem_of_getElem? (i := 192) (by decide +kernel), List.mem_of_getElem? (i := 541) (by decide +kernel), List.mem_of_getElem? (i := 542) (by decide +kernel)⟩
theorem lw_p14 : lw_okq (⟨"ScoreForms$Spans", "cheapestEndings", "(III)I"⟩, 4) := ⟨⟨by decide +kernel, by decide +kernel⟩, List.mem_of_getElem? (i := 192) (by decide +kernel), List.mem_of_getElem? (i := 545) (by decide +kernel), List.mem_of_getElem? (i := 546) (by decide +kernel)⟩
theorem lw_p15 : lw_okq (⟨"ScoreForms$Spans", "endingsCost", "(IIIII)I"⟩, 4) := ⟨⟨by decide +kernel, by decide +kernel⟩, List.mem_of_getElem? (i := 192) (by decide +kernel), List.mem_of_getElem? (i := 549) (by decide +kernel), List.mem_of_getElem? (i := 550) (by decide +kernel)⟩
def lw_privs_1 : List (MethodName × Nat) := [(⟨"ScoreForms", "noteChange", "(I)V"⟩, 15), (⟨"ScoreForms", "finding", "(I)I"⟩, 15), (⟨"ScoreForms", "freshRun", "()LScoreForms$Run;"⟩, 15), (⟨"ScoreForms$Run", "giveNumbers", "()V"⟩, 4), (⟨"ScoreForms", "freshScore", "()LScoreForms$Score;"⟩, 15), (⟨"ScoreForms$Score", "becomeEmpty", "()V"⟩, 7), (⟨"ScoreForms$Grammar", "fitsBehindPart", "(I)Z"⟩, 6), (⟨"ScoreForms$Score", "accept", "(II)V"⟩, 7), (⟨"ScoreForms$Player", "openRepeat", "()V"⟩, 7), (⟨"ScoreForms$Player", "playOnceMore", "(II)V"⟩, 7), (⟨"ScoreForms$Score", "blame", "(II)V"⟩, 7), (⟨"ScoreForms", "freshSpans", "()LScoreForms$Spans;"⟩, 15), (⟨"ScoreForms$Spans", "cheapest", "(III)I"⟩, 4), (⟨"ScoreForms$Spans", "mayRepeat", "(III)Z"⟩, 4), (⟨"ScoreForms$Spans", "cheapestEndings", "(III)I"⟩, 4), (⟨"ScoreForms$Spans", "endingsCost", "(IIIII)I"⟩, 4)]
theorem lw_r1 : ∀ q ∈ lw_privs_1, lw_okq q := List.forall_mem_cons.mpr ⟨lw_p0, List.forall_mem_cons.mpr ⟨lw_p1, List.forall_mem_cons.mpr ⟨lw_p2, List.forall_mem_cons.mpr ⟨lw_p3, List.forall_mem_cons.mpr ⟨lw_p4, List.forall_mem_cons.mpr ⟨lw_p5, List.forall_mem_cons.mpr ⟨lw_p6, List.forall_mem_cons.mpr ⟨lw_p7, List.forall_mem_cons.mpr ⟨lw_p8, List.forall_mem_cons.mpr ⟨lw_p9, List.forall_mem_cons.mpr ⟨lw_p10, List.forall_mem_cons.mpr ⟨lw_p11, List.forall_mem_cons.mpr ⟨lw_p12, List.forall_mem_cons.mpr ⟨lw_p13, List.forall_mem_cons.mpr ⟨lw_p14, List.forall_mem_cons.mpr ⟨lw_p15, fun _ h => absurd h List.not_mem_nil⟩⟩⟩⟩⟩⟩⟩⟩⟩⟩⟩⟩⟩⟩⟩⟩
theorem lw_p16 : lw_okq (⟨"ScoreForms", "freshFound", "()LScoreForms$Jumps;"⟩, 15) := ⟨⟨by decide +kernel, by decide +kernel⟩, List.mem_of_getElem? (i := 17) (by decide +kernel), List.mem_of_getElem? (i := 603) (by decide +kernel), List.mem_of_getElem? (i := 604) (by decide +kernel)⟩
theorem lw_p17 : lw_okq (⟨"ScoreForms$Jumps", "offer", "(IIII)V"⟩, 4) := ⟨⟨by decide +kernel, by decide +kernel⟩, List.mem_of_getElem? (i := 214) (by decide +kernel), List.mem_of_getElem? (i := 613) (by decide +kernel), List.mem_of_getElem? (i := 614) (by decide +kernel)⟩
theorem lw_p18 : lw_okq (⟨"ScoreForms$Jumps", "seekFromSign", "(LScoreForms$Spans;II)V"⟩, 4) := ⟨⟨by decide +kernel, by decide +kernel⟩, List.mem_of_getElem? (i := 214) (by decide +kernel), List.mem_of_getElem? (i := 617) (by decide +kernel), List.mem_of_getElem? (i := 618) (by decide +kernel)⟩
theorem lw_p19 : lw_okq (⟨"ScoreForms$Printer", "printSpan", "(LScoreForms$Spans;IIII)V"⟩, 2) := ⟨⟨by decide +kernel, by decide +kernel⟩, List.mem_of_getElem? (i := 239) (by decide +kernel), List.mem_of_getElem? (i := 625) (by decide +kernel), List.mem_of_getElem? (i := 626) (by decide +kernel)⟩
theorem lw_p20 : lw_okq (⟨"ScoreForms$Printer", "printBar", "(LScoreForms$Spans;I)V"⟩, 2) := ⟨⟨by decide +kernel, by decide +kernel⟩, List.mem_of_getElem? (i := 239) (by decide +kernel), List.mem_of_getElem? (i := 629) (by decide +kernel), List.mem_of_getElem? (i := 630) (by decide +kernel)⟩
theorem lw_p21 : lw_okq (⟨"ScoreForms$Printer", "put", "(I)V"⟩, 2) := ⟨⟨by decide +kernel, by decide +kernel⟩, List.mem_of_getElem? (i := 239) (by decide +kernel), List.mem_of_getElem? (i := 633) (by decide +kernel), List.mem_of_getElem? (i := 634) (by decide +kernel)⟩
theorem lw_p22 : lw_okq (⟨"ScoreForms$Printer", "printEndings", "(LScoreForms$Spans;IIII)V"⟩, 2) := ⟨⟨by decide +kernel, by decide +kernel⟩, List.mem_of_getElem? (i := 239) (by decide +kernel), List.mem_of_getElem? (i := 645) (by decide +kernel), List.mem_of_getElem? (i := 646) (by decide +kernel)⟩
theorem lw_p23 : lw_okq (⟨"ScoreForms", "freshMending", "()LScoreForms$Mending;"⟩, 15) := ⟨⟨by decide +kernel, by decide +kernel⟩, List.mem_of_getElem? (i := 17) (by decide +kernel), List.mem_of_getElem? (i := 661) (by decide +kernel), List.mem_of_getElem? (i := 662) (by decide +kernel)⟩
theorem lw_p24 : lw_okq (⟨"ScoreFormsModel", "finds", "(I)I"⟩, 48) := ⟨⟨by decide +kernel, by decide +kernel⟩, List.mem_of_getElem? (i := 743) (by decide +kernel), List.mem_of_getElem? (i := 906) (by decide +kernel), List.mem_of_getElem? (i := 907) (by decide +kernel)⟩
theorem lw_p25 : lw_okq (⟨"ScoreFormsModel", "lacks", "(III)I"⟩, 48) := ⟨⟨by decide +kernel, by decide +kernel⟩, List.mem_of_getElem? (i := 743) (by decide +kernel), List.mem_of_getElem? (i := 918) (by decide +kernel), List.mem_of_getElem? (i := 919) (by decide +kernel)⟩
theorem lw_p26 : lw_okq (⟨"ScoreFormsModel", "faultBy", "(II)I"⟩, 48) := ⟨⟨by decide +kernel, by decide +kernel⟩, List.mem_of_getElem? (i := 743) (by decide +kernel), List.mem_of_getElem? (i := 963) (by decide +kernel), List.mem_of_getElem? (i := 964) (by decide +kernel)⟩
theorem lw_p27 : lw_okq (⟨"ScoreFormsModel", "readsRun", "()I"⟩, 48) := ⟨⟨by decide +kernel, by decide +kernel⟩, List.mem_of_getElem? (i := 743) (by decide +kernel), List.mem_of_getElem? (i := 967) (by decide +kernel), List.mem_of_getElem? (i := 968) (by decide +kernel)⟩
theorem lw_p28 : lw_okq (⟨"ScoreFormsModel", "numbers", "()V"⟩, 48) := ⟨⟨by decide +kernel, by decide +kernel⟩, List.mem_of_getElem? (i := 743) (by decide +kernel), List.mem_of_getElem? (i := 981) (by decide +kernel), List.mem_of_getElem? (i := 982) (by decide +kernel)⟩
theorem lw_p29 : lw_okq (⟨"ScoreFormsModel", "readsScore", "()V"⟩, 48) := ⟨⟨by decide +kernel, by decide +kernel⟩, List.mem_of_getElem? (i := 743) (by decide +kernel), List.mem_of_getElem? (i := 985) (by decide +kernel), List.mem_of_getElem? (i := 986) (by decide +kernel)⟩
theorem lw_p30 : lw_okq (⟨"ScoreFormsModel", "takes", "(IZ)I"⟩, 48) := ⟨⟨by decide +kernel, by decide +kernel⟩, List.mem_of_getElem? (i := 743) (by decide +kernel), List.mem_of_getElem? (i := 989) (by decide +kernel), List.mem_of_getElem? (i := 990) (by decide +kernel)⟩
theorem lw_p31 : lw_okq (⟨"ScoreFormsModel", "opensOne", "(I)V"⟩, 48) := ⟨⟨by decide +kernel, by decide +kernel⟩, List.mem_of_getElem? (i := 743) (by decide +kernel), List.mem_of_getElem? (i := 996) (by decide +kernel), List.mem_of_getElem? (i := 997) (by decide +kernel)⟩
def lw_privs_2 : List (MethodName × Nat) := [(⟨"ScoreForms", "freshFound", "()LScoreForms$Jumps;"⟩, 15), (⟨"ScoreForms$Jumps", "offer", "(IIII)V"⟩, 4), (⟨"ScoreForms$Jumps", "seekFromSign", "(LScoreForms$Spans;II)V"⟩, 4), (⟨"ScoreForms$Printer", "printSpan", "(LScoreForms$Spans;IIII)V"⟩, 2), (⟨"ScoreForms$Printer", "printBar", "(LScoreForms$Spans;I)V"⟩, 2), (⟨"ScoreForms$Printer", "put", "(I)V"⟩, 2), (⟨"ScoreForms$Printer", "printEndings", "(LScoreForms$Spans;IIII)V"⟩, 2), (⟨"ScoreForms", "freshMending", "()LScoreForms$Mending;"⟩, 15), (⟨"ScoreFormsModel", "finds", "(I)I"⟩, 48), (⟨"ScoreFormsModel", "lacks", "(III)I"⟩, 48), (⟨"ScoreFormsModel", "faultBy", "(II)I"⟩, 48), (⟨"ScoreFormsModel", "readsRun", "()I"⟩, 48), (⟨"ScoreFormsModel", "numbers", "()V"⟩, 48), (⟨"ScoreFormsModel", "readsScore", "()V"⟩, 48), (⟨"ScoreFormsModel", "takes", "(IZ)I"⟩, 48), (⟨"ScoreFormsModel", "opensOne", "(I)V"⟩, 48)]
theorem lw_r2 : ∀ q ∈ lw_privs_2, lw_okq q := List.forall_mem_cons.mpr ⟨lw_p16, List.forall_mem_cons.mpr ⟨lw_p17, List.forall_mem_cons.mpr ⟨lw_p18, List.forall_mem_cons.mpr ⟨lw_p19, List.forall_mem_cons.mpr ⟨lw_p20, List.forall_mem_cons.mpr ⟨lw_p21, List.forall_mem_cons.mpr ⟨lw_p22, List.forall_mem_cons.mpr ⟨lw_p23, List.forall_mem_cons.mpr ⟨lw_p24, List.forall_mem_cons.mpr ⟨lw_p25, List.forall_mem_cons.mpr ⟨lw_p26, List.forall_mem_cons.mpr ⟨lw_p27, List.forall_mem_cons.mpr ⟨lw_p28, List.forall_mem_cons.mpr ⟨lw_p29, List.forall_mem_cons.mpr ⟨lw_p30, List.forall_mem_cons.mpr ⟨lw_p31, fun _ h => absurd h List.not_mem_nil⟩⟩⟩⟩⟩⟩⟩⟩⟩⟩⟩⟩⟩⟩⟩⟩
theorem lw_p32 : lw_okq (⟨"ScoreFormsModel", "signed", "(II)Z"⟩, 48) := ⟨⟨by decide +kernel, by decide +kernel⟩, List.mem_of_getElem? (i := 743) (by decide +kernel), List.mem_of_getElem? (i := 1003) (by decide +kernel), List.mem_of_getElem? (i := 1004) (by decide +kernel)⟩
theorem lw_p33 : lw_okq (⟨"ScoreFormsModel", "closes", "(I)Z"⟩, 48) := ⟨⟨by decide +kernel, by decide +kernel⟩, List.mem_of_getElem? (i := 743) (by decide +kernel), List.mem_of_getElem? (i := 1007) (by decide +kernel), List.mem_of_getElem? (i := 1008) (by decide +kernel)⟩
theorem lw_p34 : lw_okq (⟨"ScoreFormsModel", "isOpen", "(I)Z"⟩, 48) := ⟨⟨by decide +kernel, by decide +kernel⟩, List.mem_of_getElem? (i := 743) (by decide +kernel), List.mem_of_getElem? (i := 1011) (by decide +kernel), List.mem_of_getElem? (i := 1012) (by decide +kernel)⟩
theorem lw_p35 : lw_okq (⟨"ScoreFormsModel", "goesOn", "(II)Z"⟩, 48) := ⟨⟨by decide +kernel, by decide +kernel⟩, List.mem_of_getElem? (i := 743) (by decide +kernel), List.mem_of_getElem? (i := 1015) (by decide +kernel), List.mem_of_getElem? (i := 1016) (by decide +kernel)⟩
theorem lw_p36 : lw_okq (⟨"ScoreFormsModel", "marks", "(II)Z"⟩, 48) := ⟨⟨by decide +kernel, by decide +kernel⟩, List.mem_of_getElem? (i := 743) (by decide +kernel), List.mem_of_getElem? (i := 1019) (by decide +kernel), List.mem_of_getElem? (i := 1020) (by decide +kernel)⟩
theorem lw_p37 : lw_okq (⟨"ScoreFormsModel", "fails", "(II)V"⟩, 48) := ⟨⟨by decide +kernel, by decide +kernel⟩, List.mem_of_getElem? (i := 743) (by decide +kernel), List.mem_of_getElem? (i := 1023) (by decide +kernel), List.mem_of_getElem? (i := 1024) (by decide +kernel)⟩
theorem lw_p38 : lw_okq (⟨"ScoreFormsModel", "withinBy", "(I)I"⟩, 48) := ⟨⟨by decide +kernel, by decide +kernel⟩, List.mem_of_getElem? (i := 743) (by decide +kernel), List.mem_of_getElem? (i := 1031) (by decide +kernel), List.mem_of_getElem? (i := 1032) (by decide +kernel)⟩
theorem lw_p39 : lw_okq (⟨"ScoreFormsModel", "find", "()V"⟩, 48) := ⟨⟨by decide +kernel, by decide +kernel⟩, List.mem_of_getElem? (i := 743) (by decide +kernel), List.mem_of_getElem? (i := 1039) (by decide +kernel), List.mem_of_getElem? (i := 1040) (by decide +kernel)⟩
theorem lw_p40 : lw_okq (⟨"ScoreFormsModel", "look", "()V"⟩, 48) := ⟨⟨by decide +kernel, by decide +kernel⟩, List.mem_of_getElem? (i := 743) (by decide +kernel), List.mem_of_getElem? (i := 1043) (by decide +kernel), List.mem_of_getElem? (i := 1044) (by decide +kernel)⟩
theorem lw_p41 : lw_okq (⟨"ScoreFormsModel", "orders", "(I)V"⟩, 48) := ⟨⟨by decide +kernel, by decide +kernel⟩, List.mem_of_getElem? (i := 743) (by decide +kernel), List.mem_of_getElem? (i := 1047) (by decide +kernel), List.mem_of_getElem? (i := 1048) (by decide +kernel)⟩
theorem lw_p42 : lw_okq (⟨"ScoreFormsModel", "isBar", "(I)Z"⟩, 48) := ⟨⟨by decide +kernel, by decide +kernel⟩, List.mem_of_getElem? (i := 743) (by decide +kernel), List.mem_of_getElem? (i := 1051) (by decide +kernel), List.mem_of_getElem? (i := 1052) (by decide +kernel)⟩
theorem lw_p43 : lw_okq (⟨"ScoreFormsModel", "isPlace", "(I)Z"⟩, 48) := ⟨⟨by decide +kernel, by decide +kernel⟩, List.mem_of_getElem? (i := 743) (by decide +kernel), List.mem_of_getElem? (i := 1064) (by decide +kernel), List.mem_of_getElem? (i := 1065) (by decide +kernel)⟩
theorem lw_p44 : lw_okq (⟨"ScoreFormsModel", "againBy", "(II)I"⟩, 48) := ⟨⟨by decide +kernel, by decide +kernel⟩, List.mem_of_getElem? (i := 743) (by decide +kernel), List.mem_of_getElem? (i := 1068) (by decide +kernel), List.mem_of_getElem? (i := 1069) (by decide +kernel)⟩
theorem lw_p45 : lw_okq (⟨"ScoreFormsModel", "playsAll", "()V"⟩, 48) := ⟨⟨by decide +kernel, by decide +kernel⟩, List.mem_of_getElem? (i := 743) (by decide +kernel), List.mem_of_getElem? (i := 1076) (by decide +kernel), List.mem_of_getElem? (i := 1077) (by decide +kernel)⟩
theorem lw_p46 : lw_okq (⟨"ScoreFormsModel", "playing", "(II)V"⟩, 48) := ⟨⟨by decide +kernel, by decide +kernel⟩, List.mem_of_getElem? (i := 743) (by decide +kernel), List.mem_of_getElem? (i := 1080) (by decide +kernel), List.mem_of_getElem? (i := 1081) (by decide +kernel)⟩
theorem lw_p47 : lw_okq (⟨"ScoreFormsModel", "after", "(II)I"⟩, 48) := ⟨⟨by decide +kernel, by decide +kernel⟩, List.mem_of_getElem? (i := 743) (by decide +kernel), List.mem_of_getElem? (i := 1084) (by decide +kernel), List.mem_of_getElem? (i := 1085) (by decide +kernel)⟩
def lw_privs_3 : List (MethodName × Nat) := [(⟨"ScoreFormsModel", "signed", "(II)Z"⟩, 48), (⟨"ScoreFormsModel", "closes", "(I)Z"⟩, 48), (⟨"ScoreFormsModel", "isOpen", "(I)Z"⟩, 48), (⟨"ScoreFormsModel", "goesOn", "(II)Z"⟩, 48), (⟨"ScoreFormsModel", "marks", "(II)Z"⟩, 48), (⟨"ScoreFormsModel", "fails", "(II)V"⟩, 48), (⟨"ScoreFormsModel", "withinBy", "(I)I"⟩, 48), (⟨"ScoreFormsModel", "find", "()V"⟩, 48), (⟨"ScoreFormsModel", "look", "()V"⟩, 48), (⟨"ScoreFormsModel", "orders", "(I)V"⟩, 48), (⟨"ScoreFormsModel", "isBar", "(I)Z"⟩, 48), (⟨"ScoreFormsModel", "isPlace", "(I)Z"⟩, 48), (⟨"ScoreFormsModel", "againBy", "(II)I"⟩, 48), (⟨"ScoreFormsModel", "playsAll", "()V"⟩, 48), (⟨"ScoreFormsModel", "playing", "(II)V"⟩, 48), (⟨"ScoreFormsModel", "after", "(II)I"⟩, 48)]
theorem lw_r3 : ∀ q ∈ lw_privs_3, lw_okq q := List.forall_mem_cons.mpr ⟨lw_p32, List.forall_mem_cons.mpr ⟨lw_p33, List.forall_mem_cons.mpr ⟨lw_p34, List.forall_mem_cons.mpr ⟨lw_p35, List.forall_mem_cons.mpr ⟨lw_p36, List.forall_mem_cons.mpr ⟨lw_p37, List.forall_mem_cons.mpr ⟨lw_p38, List.forall_mem_cons.mpr ⟨lw_p39, List.forall_mem_cons.mpr ⟨lw_p40, List.forall_mem_cons.mpr ⟨lw_p41, List.forall_mem_cons.mpr ⟨lw_p42, List.forall_mem_cons.mpr ⟨lw_p43, List.forall_mem_cons.mpr ⟨lw_p44, List.forall_mem_cons.mpr ⟨lw_p45, List.forall_mem_cons.mpr ⟨lw_p46, List.forall_mem_cons.mpr ⟨lw_p47, fun _ h => absurd h List.not_mem_nil⟩⟩⟩⟩⟩⟩⟩⟩⟩⟩⟩⟩⟩⟩⟩⟩
theorem lw_p48 : lw_okq (⟨"ScoreFormsModel", "playsBy", "(I)I"⟩, 48) := ⟨⟨by decide +kernel, by decide +kernel⟩, List.mem_of_getElem? (i := 743) (by decide +kernel), List.mem_of_getElem? (i := 1090) (by decide +kernel), List.mem_of_getElem? (i := 1091) (by decide +kernel)⟩
theorem lw_p49 : lw_okq (⟨"ScoreFormsModel", "oftenBy", "(I)I"⟩, 48) := ⟨⟨by decide +kernel, by decide +kernel⟩, List.mem_of_getElem? (i := 743) (by decide +kernel), List.mem_of_getElem? (i := 1098) (by decide +kernel), List.mem_of_getElem? (i := 1099) (by decide +kernel)⟩
theorem lw_p50 : lw_okq (⟨"ScoreFormsModel", "scoreBy", "(I)I"⟩, 48) := ⟨⟨by decide +kernel, by decide +kernel⟩, List.mem_of_getElem? (i := 743) (by decide +kernel), List.mem_of_getElem? (i := 1106) (by decide +kernel), List.mem_of_getElem? (i := 1107) (by decide +kernel)⟩
theorem lw_p51 : lw_okq (⟨"ScoreFormsModel", "firstNow", "()I"⟩, 48) := ⟨⟨by decide +kernel, by decide +kernel⟩, List.mem_of_getElem? (i := 743) (by decide +kernel), List.mem_of_getElem? (i := 1114) (by decide +kernel), List.mem_of_getElem? (i := 1115) (by decide +kernel)⟩
theorem lw_p52 : lw_okq (⟨"ScoreFormsModel", "tables", "()V"⟩, 48) := ⟨⟨by decide +kernel, by decide +kernel⟩, List.mem_of_getElem? (i := 743) (by decide +kernel), List.mem_of_getElem? (i := 1126) (by decide +kernel), List.mem_of_getElem? (i := 1127) (by decide +kernel)⟩
theorem lw_p53 : lw_okq (⟨"ScoreFormsModel", "spans", "(III)V"⟩, 48) := ⟨⟨by decide +kernel, by decide +kernel⟩, List.mem_of_getElem? (i := 743) (by decide +kernel), List.mem_of_getElem? (i := 1130) (by decide +kernel), List.mem_of_getElem? (i := 1131) (by decide +kernel)⟩
theorem lw_p54 : lw_okq (⟨"ScoreFormsModel", "offers", "(III)V"⟩, 48) := ⟨⟨by decide +kernel, by decide +kernel⟩, List.mem_of_getElem? (i := 743) (by decide +kernel), List.mem_of_getElem? (i := 1135) (by decide +kernel), List.mem_of_getElem? (i := 1136) (by decide +kernel)⟩
theorem lw_p55 : lw_okq (⟨"ScoreFormsModel", "spanBy", "(IIII)I"⟩, 48) := ⟨⟨by decide +kernel, by decide +kernel⟩, List.mem_of_getElem? (i := 743) (by decide +kernel), List.mem_of_getElem? (i := 1139) (by decide +kernel), List.mem_of_getElem? (i := 1140) (by decide +kernel)⟩
theorem lw_p56 : lw_okq (⟨"ScoreFormsModel", "findAll", "()V"⟩, 48) := ⟨⟨by decide +kernel, by decide +kernel⟩, List.mem_of_getElem? (i := 743) (by decide +kernel), List.mem_of_getElem? (i := 1147) (by decide +kernel), List.mem_of_getElem? (i := 1148) (by decide +kernel)⟩
theorem lw_p57 : lw_okq (⟨"ScoreFormsModel", "finding", "()V"⟩, 48) := ⟨⟨by decide +kernel, by decide +kernel⟩, List.mem_of_getElem? (i := 743) (by decide +kernel), List.mem_of_getElem? (i := 1151) (by decide +kernel), List.mem_of_getElem? (i := 1152) (by decide +kernel)⟩
theorem lw_p58 : lw_okq (⟨"ScoreFormsModel", "costOf", "(II)I"⟩, 48) := ⟨⟨by decide +kernel, by decide +kernel⟩, List.mem_of_getElem? (i := 743) (by decide +kernel), List.mem_of_getElem? (i := 1155) (by decide +kernel), List.mem_of_getElem? (i := 1156) (by decide +kernel)⟩
theorem lw_p59 : lw_okq (⟨"ScoreFormsModel", "offersFound", "(IIII)V"⟩, 48) := ⟨⟨by decide +kernel, by decide +kernel⟩, List.mem_of_getElem? (i := 743) (by decide +kernel), List.mem_of_getElem? (i := 1159) (by decide +kernel), List.mem_of_getElem? (i := 1160) (by decide +kernel)⟩
theorem lw_p60 : lw_okq (⟨"ScoreFormsModel", "shows", "()V"⟩, 48) := ⟨⟨by decide +kernel, by decide +kernel⟩, List.mem_of_getElem? (i := 743) (by decide +kernel), List.mem_of_getElem? (i := 1163) (by decide +kernel), List.mem_of_getElem? (i := 1164) (by decide +kernel)⟩
theorem lw_p61 : lw_okq (⟨"ScoreFormsModel", "laterSpan", "(III)V"⟩, 48) := ⟨⟨by decide +kernel, by decide +kernel⟩, List.mem_of_getElem? (i := 743) (by decide +kernel), List.mem_of_getElem? (i := 1167) (by decide +kernel), List.mem_of_getElem? (i := 1168) (by decide +kernel)⟩
theorem lw_p62 : lw_okq (⟨"ScoreFormsModel", "later", "(I)V"⟩, 48) := ⟨⟨by decide +kernel, by decide +kernel⟩, List.mem_of_getElem? (i := 743) (by decide +kernel), List.mem_of_getElem? (i := 1171) (by decide +kernel), List.mem_of_getElem? (i := 1172) (by decide +kernel)⟩
theorem lw_p63 : lw_okq (⟨"ScoreFormsModel", "tellsByte", "(I)V"⟩, 48) := ⟨⟨by decide +kernel, by decide +kernel⟩, List.mem_of_getElem? (i := 743) (by decide +kernel), List.mem_of_getElem? (i := 1175) (by decide +kernel), List.mem_of_getElem? (i := 1176) (by decide +kernel)⟩
def lw_privs_4 : List (MethodName × Nat) := [(⟨"ScoreFormsModel", "playsBy", "(I)I"⟩, 48), (⟨"ScoreFormsModel", "oftenBy", "(I)I"⟩, 48), (⟨"ScoreFormsModel", "scoreBy", "(I)I"⟩, 48), (⟨"ScoreFormsModel", "firstNow", "()I"⟩, 48), (⟨"ScoreFormsModel", "tables", "()V"⟩, 48), (⟨"ScoreFormsModel", "spans", "(III)V"⟩, 48), (⟨"ScoreFormsModel", "offers", "(III)V"⟩, 48), (⟨"ScoreFormsModel", "spanBy", "(IIII)I"⟩, 48), (⟨"ScoreFormsModel", "findAll", "()V"⟩, 48), (⟨"ScoreFormsModel", "finding", "()V"⟩, 48), (⟨"ScoreFormsModel", "costOf", "(II)I"⟩, 48), (⟨"ScoreFormsModel", "offersFound", "(IIII)V"⟩, 48), (⟨"ScoreFormsModel", "shows", "()V"⟩, 48), (⟨"ScoreFormsModel", "laterSpan", "(III)V"⟩, 48), (⟨"ScoreFormsModel", "later", "(I)V"⟩, 48), (⟨"ScoreFormsModel", "tellsByte", "(I)V"⟩, 48)]
theorem lw_r4 : ∀ q ∈ lw_privs_4, lw_okq q := List.forall_mem_cons.mpr ⟨lw_p48, List.forall_mem_cons.mpr ⟨lw_p49, List.forall_mem_cons.mpr ⟨lw_p50, List.forall_mem_cons.mpr ⟨lw_p51, List.forall_mem_cons.mpr ⟨lw_p52, List.forall_mem_cons.mpr ⟨lw_p53, List.forall_mem_cons.mpr ⟨lw_p54, List.forall_mem_cons.mpr ⟨lw_p55, List.forall_mem_cons.mpr ⟨lw_p56, List.forall_mem_cons.mpr ⟨lw_p57, List.forall_mem_cons.mpr ⟨lw_p58, List.forall_mem_cons.mpr ⟨lw_p59, List.forall_mem_cons.mpr ⟨lw_p60, List.forall_mem_cons.mpr ⟨lw_p61, List.forall_mem_cons.mpr ⟨lw_p62, List.forall_mem_cons.mpr ⟨lw_p63, fun _ h => absurd h List.not_mem_nil⟩⟩⟩⟩⟩⟩⟩⟩⟩⟩⟩⟩⟩⟩⟩⟩
theorem lw_p64 : lw_okq (⟨"ScoreFormsModel", "opensSpan", "(I)V"⟩, 48) := ⟨⟨by decide +kernel, by decide +kernel⟩, List.mem_of_getElem? (i := 743) (by decide +kernel), List.mem_of_getElem? (i := 1179) (by decide +kernel), List.mem_of_getElem? (i := 1180) (by decide +kernel)⟩
theorem lw_p65 : lw_okq (⟨"ScoreFormsModel", "tellsBar", "(I)V"⟩, 48) := ⟨⟨by decide +kernel, by decide +kernel⟩, List.mem_of_getElem? (i := 743) (by decide +kernel), List.mem_of_getElem? (i := 1183) (by decide +kernel), List.mem_of_getElem? (i := 1184) (by decide +kernel)⟩
theorem lw_p66 : lw_okq (⟨"ScoreFormsModel", "foundBy", "(I)I"⟩, 48) := ⟨⟨by decide +kernel, by decide +kernel⟩, List.mem_of_getElem? (i := 743) (by decide +kernel), List.mem_of_getElem? (i := 1187) (by decide +kernel), List.mem_of_getElem? (i := 1188) (by decide +kernel)⟩
theorem lw_p67 : lw_okq (⟨"ScoreFormsModel", "shownBy", "(I)I"⟩, 48) := ⟨⟨by decide +kernel, by decide +kernel⟩, List.mem_of_getElem? (i := 743) (by decide +kernel), List.mem_of_getElem? (i := 1196) (by decide +kernel), List.mem_of_getElem? (i := 1197) (by decide +kernel)⟩
theorem lw_p68 : lw_okq (⟨"ScoreFormsModel", "mends", "()V"⟩, 48) := ⟨⟨by decide +kernel, by decide +kernel⟩, List.mem_of_getElem? (i := 743) (by decide +kernel), List.mem_of_getElem? (i := 1204) (by decide +kernel), List.mem_of_getElem? (i := 1205) (by decide +kernel)⟩
theorem lw_p69 : lw_okq (⟨"ScoreFormsModel", "mendBy", "(I)I"⟩, 48) := ⟨⟨by decide +kernel, by decide +kernel⟩, List.mem_of_getElem? (i := 743) (by decide +kernel), List.mem_of_getElem? (i := 1212) (by decide +kernel), List.mem_of_getElem? (i := 1213) (by decide +kernel)⟩
theorem lw_p70 : lw_okq (⟨"ScoreFormsModel", "tellsBarOf", "(JI)J"⟩, 48) := ⟨⟨by decide +kernel, by decide +kernel⟩, List.mem_of_getElem? (i := 743) (by decide +kernel), List.mem_of_getElem? (i := 1231) (by decide +kernel), List.mem_of_getElem? (i := 1232) (by decide +kernel)⟩
def lw_privs_5 : List (MethodName × Nat) := [(⟨"ScoreFormsModel", "opensSpan", "(I)V"⟩, 48), (⟨"ScoreFormsModel", "tellsBar", "(I)V"⟩, 48), (⟨"ScoreFormsModel", "foundBy", "(I)I"⟩, 48), (⟨"ScoreFormsModel", "shownBy", "(I)I"⟩, 48), (⟨"ScoreFormsModel", "mends", "()V"⟩, 48), (⟨"ScoreFormsModel", "mendBy", "(I)I"⟩, 48), (⟨"ScoreFormsModel", "tellsBarOf", "(JI)J"⟩, 48)]
theorem lw_r5 : ∀ q ∈ lw_privs_5, lw_okq q := List.forall_mem_cons.mpr ⟨lw_p64, List.forall_mem_cons.mpr ⟨lw_p65, List.forall_mem_cons.mpr ⟨lw_p66, List.forall_mem_cons.mpr ⟨lw_p67, List.forall_mem_cons.mpr ⟨lw_p68, List.forall_mem_cons.mpr ⟨lw_p69, List.forall_mem_cons.mpr ⟨lw_p70, fun _ h => absurd h List.not_mem_nil⟩⟩⟩⟩⟩⟩⟩
def lw_privs : List (MethodName × Nat) := lw_privs_1 ++ (lw_privs_2 ++ (lw_privs_3 ++ (lw_privs_4 ++ (lw_privs_5))))
def lw_tbl : List Cond := k2_sels lw_privs ++ tables_1
theorem lw_privs_ok : ∀ q ∈ lw_privs, lw_okq q := by
  show ∀ q ∈ lw_privs_1 ++ (lw_privs_2 ++ (lw_privs_3 ++ (lw_privs_4 ++ (lw_privs_5)))), lw_okq q
  exact List.forall_mem_append.mpr ⟨lw_r1, List.forall_mem_append.mpr ⟨lw_r2, List.forall_mem_append.mpr ⟨lw_r3, List.forall_mem_append.mpr ⟨lw_r4, lw_r5⟩⟩⟩⟩
-- ===== end of PART A; then your names; then what follows =====
/-! ===== BEGIN words of one list among another's, by their places ===== -/
theorem goodIn_r {big : List Cond} (ws : List Cond) (ps : List Nat) (hp : ws = ps.filterMap (fun i => big[i]?)) (h : ws.all goodWord = true) : GoodIn big ws := by
  intro w hw
  have h1 := List.all_eq_true.mp h w hw
  rw [hp] at hw
  obtain ⟨i, -, hi⟩ := List.mem_filterMap.mp hw
  have hm : w ∈ big := by first | exact List.mem_of_getElem? hi | exact List.getElem?_mem hi
  exact ⟨hm, good_of_word h1⟩
theorem goodIn_app {big a b : List Cond} (ha : GoodIn big a) (hb : GoodIn big b) : GoodIn big (a ++ b) := fun w h => (List.mem_append.mp h).elim (ha w) (hb w)
theorem goodIn_ca {big a b : List Cond} {c : Cond} (ha : GoodIn big (c :: a)) (hb : GoodIn big b) : GoodIn big (c :: (a ++ b)) := fun w h => (List.mem_cons.mp h).elim (fun e => ha w (List.mem_cons.mpr (Or.inl e))) (fun h => (List.mem_append.mp h).elim (fun h => ha w (List.mem_cons.mpr (Or.inr h))) (hb w))
theorem goodIn_sub {big ws : List Cond} (hm : ∀ w ∈ ws, w ∈ big) (h : ws.all goodWord = true) : GoodIn big ws := fun w hw => ⟨hm w hw, good_of_word (List.all_eq_true.mp h w hw)⟩
/-! ===== END ===== -/

/-! ===== BEGIN printed: names, fields, word lists, decode rows ===== -/
def RX0 : String := "ScoreForms$Bars"
def TX0 : u_T := fun k => match k with
  | 0 => ("ScoreForms$Bars", "codes", "[I", true)
  | _ => ("ScoreForms$Bars", "size", "I", false)
def tyX0 : Nat → FieldType := fun k => match k with
  | 0 => .array .int
  | _ => .int
abbrev wsX00 : List Cond := u_ws RX0 TX0 2
theorem nmX0 : ∀ a, a < 2 → ∀ b, b < 2 → a ≠ b → (TX0 a).2.1 ≠ (TX0 b).2.1 := by decide +kernel
theorem tyX0_ok : ∀ k, k < 2 → parseFieldDescriptor (TX0 k).2.2.1 = some (tyX0 k) := by decide +kernel
abbrev cX0_init : ByteArray := prog_2_method_1_code
def yX0_init : MethodName := ⟨RX0, "<init>", "(I)V"⟩
abbrev cX0_addLetter : ByteArray := prog_2_method_2_code
def yX0_addLetter : MethodName := ⟨RX0, "addLetter", "(I)V"⟩
abbrev cX0_addFigure : ByteArray := prog_2_method_3_code
def yX0_addFigure : MethodName := ⟨RX0, "addFigure", "(I)V"⟩
def RX1 : String := "ScoreForms$Grammar"
def TX1 : u_T := fun k => match k with
  | 0 => ("ScoreForms$Grammar", "places", "[I", true)
  | 1 => ("ScoreForms$Grammar", "endings", "[I", true)
  | 2 => ("ScoreForms$Grammar", "open", "I", false)
  | 3 => ("ScoreForms$Grammar", "stage", "I", false)
  | 4 => ("ScoreForms$Grammar", "partDue", "Z", false)
  | _ => ("ScoreForms$Grammar", "figureMay", "Z", false)
def tyX1 : Nat → FieldType := fun k => match k with
  | 0 => .array .int
  | 1 => .array .int
  | 2 => .int
  | 3 => .int
  | 4 => .boolean
  | _ => .boolean
abbrev wsX10 : List Cond := u_ws RX1 TX1 6
theorem nmX1 : ∀ a, a < 6 → ∀ b, b < 6 → a ≠ b → (TX1 a).2.1 ≠ (TX1 b).2.1 := by decide +kernel
theorem tyX1_ok : ∀ k, k < 6 → parseFieldDescriptor (TX1 k).2.2.1 = some (tyX1 k) := by decide +kernel
abbrev cX1_init : ByteArray := prog_3_method_1_code
def yX1_init : MethodName := ⟨RX1, "<init>", "()V"⟩
abbrev cX1_restart : ByteArray := prog_3_method_2_code
def yX1_restart : MethodName := ⟨RX1, "restart", "()V"⟩
abbrev cX1_reasonAgainst : ByteArray := prog_3_method_3_code
def yX1_reasonAgainst : MethodName := ⟨RX1, "reasonAgainst", "(I)I"⟩
abbrev cX1_isSign : ByteArray := prog_3_method_4_code
def yX1_isSign : MethodName := ⟨RX1, "isSign", "(I)Z"⟩
abbrev cX1_fitsBehindPart : ByteArray := prog_3_method_5_code
def yX1_fitsBehindPart : MethodName := ⟨RX1, "fitsBehindPart", "(I)Z"⟩
abbrev cX1_accept : ByteArray := prog_3_method_6_code
def yX1_accept : MethodName := ⟨RX1, "accept", "(II)V"⟩
abbrev cX1_mayEnd : ByteArray := prog_3_method_7_code
def yX1_mayEnd : MethodName := ⟨RX1, "mayEnd", "()Z"⟩
def RX2 : String := "ScoreForms$Jumps"
def TX2 : u_T := fun k => match k with
  | 0 => ("ScoreForms$Jumps", "cost", "I", false)
  | 1 => ("ScoreForms$Jumps", "kind", "I", false)
  | 2 => ("ScoreForms$Jumps", "first", "I", false)
  | _ => ("ScoreForms$Jumps", "second", "I", false)
def tyX2 : Nat → FieldType := fun k => match k with
  | 0 => .int
  | 1 => .int
  | 2 => .int
  | _ => .int
abbrev wsX20 : List Cond := u_ws RX2 TX2 4
theorem nmX2 : ∀ a, a < 4 → ∀ b, b < 4 → a ≠ b → (TX2 a).2.1 ≠ (TX2 b).2.1 := by decide +kernel
theorem tyX2_ok : ∀ k, k < 4 → parseFieldDescriptor (TX2 k).2.2.1 = some (tyX2 k) := by decide +kernel
abbrev cX2_init : ByteArray := prog_4_method_1_code
def yX2_init : MethodName := ⟨RX2, "<init>", "()V"⟩
abbrev cX2_seek : ByteArray := prog_4_method_2_code
def yX2_seek : MethodName := ⟨RX2, "seek", "(LScoreForms$Spans;I)V"⟩
abbrev cX2_seekFromSign : ByteArray := prog_4_method_3_code
def yX2_seekFromSign : MethodName := ⟨RX2, "seekFromSign", "(LScoreForms$Spans;II)V"⟩
abbrev cX2_offer : ByteArray := prog_4_method_4_code
def yX2_offer : MethodName := ⟨RX2, "offer", "(IIII)V"⟩
def RX3 : String := "ScoreForms$Mending"
def TX3 : u_T := fun k => match k with
  | 0 => ("ScoreForms$Mending", "rest", "LScoreForms$Spans;", true)
  | 1 => ("ScoreForms$Mending", "best", "LScoreForms$Jumps;", true)
  | 2 => ("ScoreForms$Mending", "which", "I", false)
  | _ => ("ScoreForms$Mending", "cost", "I", false)
def tyX3 : Nat → FieldType := fun k => match k with
  | 0 => .object "ScoreForms$Spans"
  | 1 => .object "ScoreForms$Jumps"
  | 2 => .int
  | _ => .int
abbrev wsX30 : List Cond := u_ws RX3 TX3 4
theorem nmX3 : ∀ a, a < 4 → ∀ b, b < 4 → a ≠ b → (TX3 a).2.1 ≠ (TX3 b).2.1 := by decide +kernel
theorem tyX3_ok : ∀ k, k < 4 → parseFieldDescriptor (TX3 k).2.2.1 = some (tyX3 k) := by decide +kernel
abbrev cX3_init : ByteArray := prog_5_method_1_code
def yX3_init : MethodName := ⟨RX3, "<init>", "()V"⟩
abbrev cX3_seek : ByteArray := prog_5_method_2_code
def yX3_seek : MethodName := ⟨RX3, "seek", "(LScoreForms$Bars;LScoreForms$Spans;I)V"⟩
def RX4 : String := "ScoreForms$Player"
def TX4 : u_T := fun k => match k with
  | 0 => ("ScoreForms$Player", "order", "[I", true)
  | 1 => ("ScoreForms$Player", "size", "I", false)
  | 2 => ("ScoreForms$Player", "starts", "[I", true)
  | 3 => ("ScoreForms$Player", "firstEnds", "[I", true)
  | 4 => ("ScoreForms$Player", "open", "I", false)
  | 5 => ("ScoreForms$Player", "jumpStart", "I", false)
  | _ => ("ScoreForms$Player", "jumpEnd", "I", false)
def tyX4 : Nat → FieldType := fun k => match k with
  | 0 => .array .int
  | 1 => .int
  | 2 => .array .int
  | 3 => .array .int
  | 4 => .int
  | 5 => .int
  | _ => .int
abbrev wsX40 : List Cond := u_ws RX4 TX4 7
theorem nmX4 : ∀ a, a < 7 → ∀ b, b < 7 → a ≠ b → (TX4 a).2.1 ≠ (TX4 b).2.1 := by decide +kernel
theorem tyX4_ok : ∀ k, k < 7 → parseFieldDescriptor (TX4 k).2.2.1 = some (tyX4 k) := by decide +kernel
abbrev cX4_init : ByteArray := prog_6_method_1_code
def yX4_init : MethodName := ⟨RX4, "<init>", "()V"⟩
abbrev cX4_restart : ByteArray := prog_6_method_2_code
def yX4_restart : MethodName := ⟨RX4, "restart", "()V"⟩
abbrev cX4_playBar : ByteArray := prog_6_method_3_code
def yX4_playBar : MethodName := ⟨RX4, "playBar", "(I)V"⟩
abbrev cX4_obey : ByteArray := prog_6_method_4_code
def yX4_obey : MethodName := ⟨RX4, "obey", "(I)V"⟩
abbrev cX4_openRepeat : ByteArray := prog_6_method_5_code
def yX4_openRepeat : MethodName := ⟨RX4, "openRepeat", "()V"⟩
abbrev cX4_playOnceMore : ByteArray := prog_6_method_6_code
def yX4_playOnceMore : MethodName := ⟨RX4, "playOnceMore", "(II)V"⟩
def RX5 : String := "ScoreForms$Printer"
def TX5 : u_T := fun k => match k with
  | 0 => ("ScoreForms$Printer", "bytes", "[I", true)
  | _ => ("ScoreForms$Printer", "size", "I", false)
def tyX5 : Nat → FieldType := fun k => match k with
  | 0 => .array .int
  | _ => .int
abbrev wsX50 : List Cond := u_ws RX5 TX5 2
theorem nmX5 : ∀ a, a < 2 → ∀ b, b < 2 → a ≠ b → (TX5 a).2.1 ≠ (TX5 b).2.1 := by decide +kernel
theorem tyX5_ok : ∀ k, k < 2 → parseFieldDescriptor (TX5 k).2.2.1 = some (tyX5 k) := by decide +kernel
abbrev cX5_init : ByteArray := prog_7_method_1_code
def yX5_init : MethodName := ⟨RX5, "<init>", "()V"⟩
abbrev cX5_print : ByteArray := prog_7_method_2_code
def yX5_print : MethodName := ⟨RX5, "print", "(LScoreForms$Spans;LScoreForms$Jumps;I)V"⟩
abbrev cX5_printSpan : ByteArray := prog_7_method_3_code
def yX5_printSpan : MethodName := ⟨RX5, "printSpan", "(LScoreForms$Spans;IIII)V"⟩
abbrev cX5_printEndings : ByteArray := prog_7_method_4_code
def yX5_printEndings : MethodName := ⟨RX5, "printEndings", "(LScoreForms$Spans;IIII)V"⟩
abbrev cX5_printBar : ByteArray := prog_7_method_5_code
def yX5_printBar : MethodName := ⟨RX5, "printBar", "(LScoreForms$Spans;I)V"⟩
abbrev cX5_put : ByteArray := prog_7_method_6_code
def yX5_put : MethodName := ⟨RX5, "put", "(I)V"⟩
def RX6 : String := "ScoreForms$Run"
def TX6 : u_T := fun k => match k with
  | 0 => ("ScoreForms$Run", "bars", "LScoreForms$Bars;", true)
  | 1 => ("ScoreForms$Run", "numbers", "[I", true)
  | 2 => ("ScoreForms$Run", "unlike", "I", false)
  | _ => ("ScoreForms$Run", "faultPlace", "I", false)
def tyX6 : Nat → FieldType := fun k => match k with
  | 0 => .object "ScoreForms$Bars"
  | 1 => .array .int
  | 2 => .int
  | _ => .int
abbrev wsX60 : List Cond := u_ws RX6 TX6 4
theorem nmX6 : ∀ a, a < 4 → ∀ b, b < 4 → a ≠ b → (TX6 a).2.1 ≠ (TX6 b).2.1 := by decide +kernel
theorem tyX6_ok : ∀ k, k < 4 → parseFieldDescriptor (TX6 k).2.2.1 = some (tyX6 k) := by decide +kernel
abbrev cX6_init : ByteArray := prog_8_method_1_code
def yX6_init : MethodName := ⟨RX6, "<init>", "()V"⟩
abbrev cX6_take : ByteArray := prog_8_method_2_code
def yX6_take : MethodName := ⟨RX6, "take", "(LScoreForms$Text;)V"⟩
abbrev cX6_giveNumbers : ByteArray := prog_8_method_3_code
def yX6_giveNumbers : MethodName := ⟨RX6, "giveNumbers", "()V"⟩
def RX7 : String := "ScoreForms$Score"
def TX7 : u_T := fun k => match k with
  | 0 => ("ScoreForms$Score", "printed", "LScoreForms$Bars;", true)
  | 1 => ("ScoreForms$Score", "grammar", "LScoreForms$Grammar;", true)
  | 2 => ("ScoreForms$Score", "player", "LScoreForms$Player;", true)
  | 3 => ("ScoreForms$Score", "signs", "I", false)
  | 4 => ("ScoreForms$Score", "deepest", "I", false)
  | 5 => ("ScoreForms$Score", "faultPlace", "I", false)
  | _ => ("ScoreForms$Score", "faultReason", "I", false)
def tyX7 : Nat → FieldType := fun k => match k with
  | 0 => .object "ScoreForms$Bars"
  | 1 => .object "ScoreForms$Grammar"
  | 2 => .object "ScoreForms$Player"
  | 3 => .int
  | 4 => .int
  | 5 => .int
  | _ => .int
abbrev wsX70 : List Cond := u_ws RX7 TX7 7
theorem nmX7 : ∀ a, a < 7 → ∀ b, b < 7 → a ≠ b → (TX7 a).2.1 ≠ (TX7 b).2.1 := by decide +kernel
theorem tyX7_ok : ∀ k, k < 7 → parseFieldDescriptor (TX7 k).2.2.1 = some (tyX7 k) := by decide +kernel
abbrev cX7_init : ByteArray := prog_9_method_1_code
def yX7_init : MethodName := ⟨RX7, "<init>", "()V"⟩
abbrev cX7_take : ByteArray := prog_9_method_2_code
def yX7_take : MethodName := ⟨RX7, "take", "(LScoreForms$Text;)V"⟩
abbrev cX7_playedCode : ByteArray := prog_9_method_3_code
def yX7_playedCode : MethodName := ⟨RX7, "playedCode", "(I)I"⟩
abbrev cX7_becomeEmpty : ByteArray := prog_9_method_4_code
def yX7_becomeEmpty : MethodName := ⟨RX7, "becomeEmpty", "()V"⟩
abbrev cX7_blame : ByteArray := prog_9_method_5_code
def yX7_blame : MethodName := ⟨RX7, "blame", "(II)V"⟩
abbrev cX7_accept : ByteArray := prog_9_method_6_code
def yX7_accept : MethodName := ⟨RX7, "accept", "(II)V"⟩
def RX8 : String := "ScoreForms$Sheet"
def TX8 : u_T := fun k => match k with
  | 0 => ("ScoreForms$Sheet", "items", "[I", true)
  | 1 => ("ScoreForms$Sheet", "lost", "Z", false)
  | 2 => ("ScoreForms$Sheet", "form", "I", false)
  | _ => ("ScoreForms$Sheet", "size", "I", false)
def tyX8 : Nat → FieldType := fun k => match k with
  | 0 => .array .int
  | 1 => .boolean
  | 2 => .int
  | _ => .int
abbrev wsX80 : List Cond := u_ws RX8 TX8 4
theorem nmX8 : ∀ a, a < 4 → ∀ b, b < 4 → a ≠ b → (TX8 a).2.1 ≠ (TX8 b).2.1 := by decide +kernel
theorem tyX8_ok : ∀ k, k < 4 → parseFieldDescriptor (TX8 k).2.2.1 = some (tyX8 k) := by decide +kernel
abbrev cX8_init : ByteArray := prog_10_method_1_code
def yX8_init : MethodName := ⟨RX8, "<init>", "()V"⟩
abbrev cX8_renew : ByteArray := prog_10_method_2_code
def yX8_renew : MethodName := ⟨RX8, "renew", "(II)V"⟩
abbrev cX8_holds : ByteArray := prog_10_method_3_code
def yX8_holds : MethodName := ⟨RX8, "holds", "(II)Z"⟩
abbrev cX8_put : ByteArray := prog_10_method_4_code
def yX8_put : MethodName := ⟨RX8, "put", "(II)V"⟩
def RX9 : String := "ScoreForms$Spans"
def TX9 : u_T := fun k => match k with
  | 0 => ("ScoreForms$Spans", "codes", "[I", true)
  | 1 => ("ScoreForms$Spans", "size", "I", false)
  | 2 => ("ScoreForms$Spans", "alikes", "[I", true)
  | _ => ("ScoreForms$Spans", "costs", "[I", true)
def tyX9 : Nat → FieldType := fun k => match k with
  | 0 => .array .int
  | 1 => .int
  | 2 => .array .int
  | _ => .array .int
abbrev wsX90 : List Cond := u_ws RX9 TX9 4
theorem nmX9 : ∀ a, a < 4 → ∀ b, b < 4 → a ≠ b → (TX9 a).2.1 ≠ (TX9 b).2.1 := by decide +kernel
theorem tyX9_ok : ∀ k, k < 4 → parseFieldDescriptor (TX9 k).2.2.1 = some (tyX9 k) := by decide +kernel
abbrev cX9_init : ByteArray := prog_11_method_1_code
def yX9_init : MethodName := ⟨RX9, "<init>", "()V"⟩
abbrev cX9_take : ByteArray := prog_11_method_2_code
def yX9_take : MethodName := ⟨RX9, "take", "(LScoreForms$Bars;I)V"⟩
abbrev cX9_settle : ByteArray := prog_11_method_3_code
def yX9_settle : MethodName := ⟨RX9, "settle", "(ILScoreForms$Spans;I)V"⟩
abbrev cX9_has : ByteArray := prog_11_method_4_code
def yX9_has : MethodName := ⟨RX9, "has", "(I)Z"⟩
abbrev cX9_alikeFrom : ByteArray := prog_11_method_5_code
def yX9_alikeFrom : MethodName := ⟨RX9, "alikeFrom", "(II)I"⟩
abbrev cX9_cost : ByteArray := prog_11_method_6_code
def yX9_cost : MethodName := ⟨RX9, "cost", "(III)I"⟩
abbrev cX9_cut : ByteArray := prog_11_method_7_code
def yX9_cut : MethodName := ⟨RX9, "cut", "(III)I"⟩
abbrev cX9_isRepeat : ByteArray := prog_11_method_8_code
def yX9_isRepeat : MethodName := ⟨RX9, "isRepeat", "(III)Z"⟩
abbrev cX9_endings : ByteArray := prog_11_method_9_code
def yX9_endings : MethodName := ⟨RX9, "endings", "(III)I"⟩
abbrev cX9_mayRepeat : ByteArray := prog_11_method_10_code
def yX9_mayRepeat : MethodName := ⟨RX9, "mayRepeat", "(III)Z"⟩
abbrev cX9_cheapest : ByteArray := prog_11_method_11_code
def yX9_cheapest : MethodName := ⟨RX9, "cheapest", "(III)I"⟩
abbrev cX9_cheapestEndings : ByteArray := prog_11_method_12_code
def yX9_cheapestEndings : MethodName := ⟨RX9, "cheapestEndings", "(III)I"⟩
abbrev cX9_endingsCost : ByteArray := prog_11_method_13_code
def yX9_endingsCost : MethodName := ⟨RX9, "endingsCost", "(IIIII)I"⟩
def RX10 : String := "ScoreForms$Text"
def TX10 : u_T := fun k => match k with
  | 0 => ("ScoreForms$Text", "bytes", "[I", true)
  | _ => ("ScoreForms$Text", "size", "I", false)
def tyX10 : Nat → FieldType := fun k => match k with
  | 0 => .array .int
  | _ => .int
abbrev wsX100 : List Cond := u_ws RX10 TX10 2
theorem nmX10 : ∀ a, a < 2 → ∀ b, b < 2 → a ≠ b → (TX10 a).2.1 ≠ (TX10 b).2.1 := by decide +kernel
theorem tyX10_ok : ∀ k, k < 2 → parseFieldDescriptor (TX10 k).2.2.1 = some (tyX10 k) := by decide +kernel
abbrev cX10_init : ByteArray := prog_12_method_1_code
def yX10_init : MethodName := ⟨RX10, "<init>", "(I)V"⟩
abbrev cX10_isFull : ByteArray := prog_12_method_2_code
def yX10_isFull : MethodName := ⟨RX10, "isFull", "()Z"⟩
abbrev cX10_add : ByteArray := prog_12_method_3_code
def yX10_add : MethodName := ⟨RX10, "add", "(I)V"⟩
def RX11 : String := "ScoreForms"
def TX11 : u_T := fun k => match k with
  | 0 => ("ScoreForms", "texts", "[LScoreForms$Text;", true)
  | 1 => ("ScoreForms", "theRun", "LScoreForms$Run;", true)
  | 2 => ("ScoreForms", "theScore", "LScoreForms$Score;", true)
  | 3 => ("ScoreForms", "spans", "LScoreForms$Spans;", true)
  | 4 => ("ScoreForms", "jumps", "LScoreForms$Jumps;", true)
  | 5 => ("ScoreForms", "printer", "LScoreForms$Printer;", true)
  | 6 => ("ScoreForms", "mending", "LScoreForms$Mending;", true)
  | 7 => ("ScoreForms", "sheets", "[LScoreForms$Sheet;", true)
  | 8 => ("ScoreForms", "depthNow", "I", false)
  | 9 => ("ScoreForms", "latestFinding", "I", false)
  | 10 => ("ScoreForms", "runStale", "Z", false)
  | 11 => ("ScoreForms", "scoreStale", "Z", false)
  | 12 => ("ScoreForms", "spansStale", "Z", false)
  | 13 => ("ScoreForms", "foundStale", "Z", false)
  | _ => ("ScoreForms", "mendStale", "Z", false)
def tyX11 : Nat → FieldType := fun k => match k with
  | 0 => .array (.object "ScoreForms$Text")
  | 1 => .object "ScoreForms$Run"
  | 2 => .object "ScoreForms$Score"
  | 3 => .object "ScoreForms$Spans"
  | 4 => .object "ScoreForms$Jumps"
  | 5 => .object "ScoreForms$Printer"
  | 6 => .object "ScoreForms$Mending"
  | 7 => .array (.object "ScoreForms$Sheet")
  | 8 => .int
  | 9 => .int
  | 10 => .boolean
  | 11 => .boolean
  | 12 => .boolean
  | 13 => .boolean
  | _ => .boolean
abbrev wsX110 : List Cond := u_ws RX11 TX11 15
theorem nmX11 : ∀ a, a < 15 → ∀ b, b < 15 → a ≠ b → (TX11 a).2.1 ≠ (TX11 b).2.1 := by decide +kernel
theorem tyX11_ok : ∀ k, k < 15 → parseFieldDescriptor (TX11 k).2.2.1 = some (tyX11 k) := by decide +kernel
abbrev cX11_init : ByteArray := prog_1_method_1_code
def yX11_init : MethodName := ⟨RX11, "<init>", "()V"⟩
abbrev cX11_type : ByteArray := prog_1_method_2_code
def yX11_type : MethodName := ⟨RX11, "type", "(II)I"⟩
abbrev cX11_wipe : ByteArray := prog_1_method_3_code
def yX11_wipe : MethodName := ⟨RX11, "wipe", "(I)I"⟩
abbrev cX11_undo : ByteArray := prog_1_method_4_code
def yX11_undo : MethodName := ⟨RX11, "undo", "(I)I"⟩
abbrev cX11_read : ByteArray := prog_1_method_5_code
def yX11_read : MethodName := ⟨RX11, "read", "(II)I"⟩
abbrev cX11_depth : ByteArray := prog_1_method_6_code
def yX11_depth : MethodName := ⟨RX11, "depth", "(I)I"⟩
abbrev cX11_fault : ByteArray := prog_1_method_7_code
def yX11_fault : MethodName := ⟨RX11, "fault", "(II)I"⟩
abbrev cX11_within : ByteArray := prog_1_method_8_code
def yX11_within : MethodName := ⟨RX11, "within", "(I)I"⟩
abbrev cX11_bar : ByteArray := prog_1_method_9_code
def yX11_bar : MethodName := ⟨RX11, "bar", "(I)I"⟩
abbrev cX11_alike : ByteArray := prog_1_method_10_code
def yX11_alike : MethodName := ⟨RX11, "alike", "(II)I"⟩
abbrev cX11_again : ByteArray := prog_1_method_11_code
def yX11_again : MethodName := ⟨RX11, "again", "(II)I"⟩
abbrev cX11_plays : ByteArray := prog_1_method_12_code
def yX11_plays : MethodName := ⟨RX11, "plays", "(I)I"⟩
abbrev cX11_often : ByteArray := prog_1_method_13_code
def yX11_often : MethodName := ⟨RX11, "often", "(I)I"⟩
abbrev cX11_score : ByteArray := prog_1_method_14_code
def yX11_score : MethodName := ⟨RX11, "score", "(I)I"⟩
abbrev cX11_same : ByteArray := prog_1_method_15_code
def yX11_same : MethodName := ⟨RX11, "same", "()I"⟩
abbrev cX11_first : ByteArray := prog_1_method_16_code
def yX11_first : MethodName := ⟨RX11, "first", "()I"⟩
abbrev cX11_span : ByteArray := prog_1_method_17_code
def yX11_span : MethodName := ⟨RX11, "span", "(IIII)I"⟩
abbrev cX11_found : ByteArray := prog_1_method_18_code
def yX11_found : MethodName := ⟨RX11, "found", "(I)I"⟩
abbrev cX11_shown : ByteArray := prog_1_method_19_code
def yX11_shown : MethodName := ⟨RX11, "shown", "(I)I"⟩
abbrev cX11_mend : ByteArray := prog_1_method_20_code
def yX11_mend : MethodName := ⟨RX11, "mend", "(I)I"⟩
abbrev cX11_sheet : ByteArray := prog_1_method_21_code
def yX11_sheet : MethodName := ⟨RX11, "sheet", "(III)I"⟩
abbrev cX11_lose : ByteArray := prog_1_method_22_code
def yX11_lose : MethodName := ⟨RX11, "lose", "(I)I"⟩
abbrev cX11_lay : ByteArray := prog_1_method_23_code
def yX11_lay : MethodName := ⟨RX11, "lay", "(IIII)I"⟩
abbrev cX11_get : ByteArray := prog_1_method_24_code
def yX11_get : MethodName := ⟨RX11, "get", "(III)I"⟩
abbrev cX11_copy : ByteArray := prog_1_method_25_code
def yX11_copy : MethodName := ⟨RX11, "copy", "(IIIII)I"⟩
abbrev cX11_write : ByteArray := prog_1_method_26_code
def yX11_write : MethodName := ⟨RX11, "write", "(I)I"⟩
abbrev cX11_count : ByteArray := prog_1_method_27_code
def yX11_count : MethodName := ⟨RX11, "count", "(I)I"⟩
abbrev cX11_digest : ByteArray := prog_1_method_28_code
def yX11_digest : MethodName := ⟨RX11, "digest", "()J"⟩
abbrev cX11_isText : ByteArray := prog_1_method_29_code
def yX11_isText : MethodName := ⟨RX11, "isText", "(I)Z"⟩
abbrev cX11_isByte : ByteArray := prog_1_method_30_code
def yX11_isByte : MethodName := ⟨RX11, "isByte", "(I)Z"⟩
abbrev cX11_isDepth : ByteArray := prog_1_method_31_code
def yX11_isDepth : MethodName := ⟨RX11, "isDepth", "(I)Z"⟩
abbrev cX11_isSheet : ByteArray := prog_1_method_32_code
def yX11_isSheet : MethodName := ⟨RX11, "isSheet", "(I)Z"⟩
abbrev cX11_isForm : ByteArray := prog_1_method_33_code
def yX11_isForm : MethodName := ⟨RX11, "isForm", "(I)Z"⟩
abbrev cX11_isLetter : ByteArray := prog_1_method_34_code
def yX11_isLetter : MethodName := ⟨RX11, "isLetter", "(I)Z"⟩
abbrev cX11_isFigure : ByteArray := prog_1_method_35_code
def yX11_isFigure : MethodName := ⟨RX11, "isFigure", "(I)Z"⟩
abbrev cX11_barsOf : ByteArray := prog_1_method_36_code
def yX11_barsOf : MethodName := ⟨RX11, "barsOf", "(I)I"⟩
abbrev cX11_signsOf : ByteArray := prog_1_method_37_code
def yX11_signsOf : MethodName := ⟨RX11, "signsOf", "(I)I"⟩
abbrev cX11_hindranceAt : ByteArray := prog_1_method_38_code
def yX11_hindranceAt : MethodName := ⟨RX11, "hindranceAt", "(LScoreForms$Sheet;II)I"⟩
abbrev cX11_finding : ByteArray := prog_1_method_39_code
def yX11_finding : MethodName := ⟨RX11, "finding", "(I)I"⟩
abbrev cX11_noteChange : ByteArray := prog_1_method_40_code
def yX11_noteChange : MethodName := ⟨RX11, "noteChange", "(I)V"⟩
abbrev cX11_freshRun : ByteArray := prog_1_method_41_code
def yX11_freshRun : MethodName := ⟨RX11, "freshRun", "()LScoreForms$Run;"⟩
abbrev cX11_freshScore : ByteArray := prog_1_method_42_code
def yX11_freshScore : MethodName := ⟨RX11, "freshScore", "()LScoreForms$Score;"⟩
abbrev cX11_freshSpans : ByteArray := prog_1_method_43_code
def yX11_freshSpans : MethodName := ⟨RX11, "freshSpans", "()LScoreForms$Spans;"⟩
abbrev cX11_freshFound : ByteArray := prog_1_method_44_code
def yX11_freshFound : MethodName := ⟨RX11, "freshFound", "()LScoreForms$Jumps;"⟩
abbrev cX11_freshMending : ByteArray := prog_1_method_45_code
def yX11_freshMending : MethodName := ⟨RX11, "freshMending", "()LScoreForms$Mending;"⟩
def RX12 : String := "ScoreFormsModel"
def TX12 : u_T := fun k => match k with
  | 0 => ("ScoreFormsModel", "forms", "[I", true)
  | 1 => ("ScoreFormsModel", "sizes", "[I", true)
  | 2 => ("ScoreFormsModel", "items", "[I", true)
  | 3 => ("ScoreFormsModel", "moved", "[I", true)
  | 4 => ("ScoreFormsModel", "latest", "I", false)
  | 5 => ("ScoreFormsModel", "run", "[I", true)
  | 6 => ("ScoreFormsModel", "score", "[I", true)
  | 7 => ("ScoreFormsModel", "typed", "[I", true)
  | 8 => ("ScoreFormsModel", "depth", "I", false)
  | 9 => ("ScoreFormsModel", "bars", "I", false)
  | 10 => ("ScoreFormsModel", "bar", "[I", true)
  | 11 => ("ScoreFormsModel", "number", "[I", true)
  | 12 => ("ScoreFormsModel", "unlike", "I", false)
  | 13 => ("ScoreFormsModel", "place", "I", false)
  | 14 => ("ScoreFormsModel", "reason", "I", false)
  | 15 => ("ScoreFormsModel", "open", "I", false)
  | 16 => ("ScoreFormsModel", "opens", "[I", true)
  | 17 => ("ScoreFormsModel", "stages", "[I", true)
  | 18 => ("ScoreFormsModel", "colon", "[I", true)
  | 19 => ("ScoreFormsModel", "semi", "[I", true)
  | 20 => ("ScoreFormsModel", "shut", "[I", true)
  | 21 => ("ScoreFormsModel", "percent", "I", false)
  | 22 => ("ScoreFormsModel", "bang", "I", false)
  | 23 => ("ScoreFormsModel", "dollar", "I", false)
  | 24 => ("ScoreFormsModel", "printed", "I", false)
  | 25 => ("ScoreFormsModel", "signs", "I", false)
  | 26 => ("ScoreFormsModel", "deepest", "I", false)
  | 27 => ("ScoreFormsModel", "which", "[I", true)
  | 28 => ("ScoreFormsModel", "bytesOf", "[I", true)
  | 29 => ("ScoreFormsModel", "order", "[I", true)
  | 30 => ("ScoreFormsModel", "many", "I", false)
  | 31 => ("ScoreFormsModel", "like", "[I", true)
  | 32 => ("ScoreFormsModel", "played", "[I", true)
  | 33 => ("ScoreFormsModel", "plays", "I", false)
  | 34 => ("ScoreFormsModel", "passes", "[I", true)
  | 35 => ("ScoreFormsModel", "from", "[I", true)
  | 36 => ("ScoreFormsModel", "cost", "[I", true)
  | 37 => ("ScoreFormsModel", "how", "[I", true)
  | 38 => ("ScoreFormsModel", "foundCost", "I", false)
  | 39 => ("ScoreFormsModel", "foundHow", "I", false)
  | 40 => ("ScoreFormsModel", "foundA", "I", false)
  | 41 => ("ScoreFormsModel", "foundB", "I", false)
  | 42 => ("ScoreFormsModel", "out", "[I", true)
  | 43 => ("ScoreFormsModel", "shown", "I", false)
  | 44 => ("ScoreFormsModel", "waits", "[I", true)
  | 45 => ("ScoreFormsModel", "high", "I", false)
  | 46 => ("ScoreFormsModel", "mendWhich", "I", false)
  | _ => ("ScoreFormsModel", "mendCost", "I", false)
def tyX12 : Nat → FieldType := fun k => match k with
  | 0 => .array .int
  | 1 => .array .int
  | 2 => .array .int
  | 3 => .array .int
  | 4 => .int
  | 5 => .array .int
  | 6 => .array .int
  | 7 => .array .int
  | 8 => .int
  | 9 => .int
  | 10 => .array .int
  | 11 => .array .int
  | 12 => .int
  | 13 => .int
  | 14 => .int
  | 15 => .int
  | 16 => .array .int
  | 17 => .array .int
  | 18 => .array .int
  | 19 => .array .int
  | 20 => .array .int
  | 21 => .int
  | 22 => .int
  | 23 => .int
  | 24 => .int
  | 25 => .int
  | 26 => .int
  | 27 => .array .int
  | 28 => .array .int
  | 29 => .array .int
  | 30 => .int
  | 31 => .array .int
  | 32 => .array .int
  | 33 => .int
  | 34 => .array .int
  | 35 => .array .int
  | 36 => .array .int
  | 37 => .array .int
  | 38 => .int
  | 39 => .int
  | 40 => .int
  | 41 => .int
  | 42 => .array .int
  | 43 => .int
  | 44 => .array .int
  | 45 => .int
  | 46 => .int
  | _ => .int
abbrev wsX120 : List Cond := u_ws RX12 TX12 48
theorem nmX12 : ∀ a, a < 48 → ∀ b, b < 48 → a ≠ b → (TX12 a).2.1 ≠ (TX12 b).2.1 := by decide +kernel
theorem tyX12_ok : ∀ k, k < 48 → parseFieldDescriptor (TX12 k).2.2.1 = some (tyX12 k) := by decide +kernel
abbrev cX12_init : ByteArray := prog_14_method_1_code
def yX12_init : MethodName := ⟨RX12, "<init>", "()V"⟩
abbrev cX12_in : ByteArray := prog_14_method_3_code
def yX12_in : MethodName := ⟨RX12, "in", "(JJJ)Z"⟩
abbrev cX12_isTwo : ByteArray := prog_14_method_4_code
def yX12_isTwo : MethodName := ⟨RX12, "isTwo", "(I)Z"⟩
abbrev cX12_lesser : ByteArray := prog_14_method_6_code
def yX12_lesser : MethodName := ⟨RX12, "lesser", "(II)I"⟩
abbrev cX12_greater : ByteArray := prog_14_method_7_code
def yX12_greater : MethodName := ⟨RX12, "greater", "(II)I"⟩
abbrev cX12_finds : ByteArray := prog_14_method_8_code
def yX12_finds : MethodName := ⟨RX12, "finds", "(I)I"⟩
abbrev cX12_isSheet : ByteArray := prog_14_method_9_code
def yX12_isSheet : MethodName := ⟨RX12, "isSheet", "(I)Z"⟩
abbrev cX12_sheet : ByteArray := prog_14_method_10_code
def yX12_sheet : MethodName := ⟨RX12, "sheet", "(III)I"⟩
abbrev cX12_lose : ByteArray := prog_14_method_11_code
def yX12_lose : MethodName := ⟨RX12, "lose", "(I)I"⟩
abbrev cX12_lacks : ByteArray := prog_14_method_12_code
def yX12_lacks : MethodName := ⟨RX12, "lacks", "(III)I"⟩
abbrev cX12_cut : ByteArray := prog_14_method_13_code
def yX12_cut : MethodName := ⟨RX12, "cut", "(II)I"⟩
abbrev cX12_lay : ByteArray := prog_14_method_14_code
def yX12_lay : MethodName := ⟨RX12, "lay", "(IIII)I"⟩
abbrev cX12_get : ByteArray := prog_14_method_15_code
def yX12_get : MethodName := ⟨RX12, "get", "(III)I"⟩
abbrev cX12_copy : ByteArray := prog_14_method_16_code
def yX12_copy : MethodName := ⟨RX12, "copy", "(IIIII)I"⟩
abbrev cX12_type : ByteArray := prog_14_method_17_code
def yX12_type : MethodName := ⟨RX12, "type", "(II)I"⟩
abbrev cX12_wipe : ByteArray := prog_14_method_18_code
def yX12_wipe : MethodName := ⟨RX12, "wipe", "(I)I"⟩
abbrev cX12_undo : ByteArray := prog_14_method_19_code
def yX12_undo : MethodName := ⟨RX12, "undo", "(I)I"⟩
abbrev cX12_read : ByteArray := prog_14_method_20_code
def yX12_read : MethodName := ⟨RX12, "read", "(II)I"⟩
abbrev cX12_depth : ByteArray := prog_14_method_21_code
def yX12_depth : MethodName := ⟨RX12, "depth", "(I)I"⟩
abbrev cX12_isLetter : ByteArray := prog_14_method_22_code
def yX12_isLetter : MethodName := ⟨RX12, "isLetter", "(I)Z"⟩
abbrev cX12_isFigure : ByteArray := prog_14_method_23_code
def yX12_isFigure : MethodName := ⟨RX12, "isFigure", "(I)Z"⟩
abbrev cX12_readsRun : ByteArray := prog_14_method_24_code
def yX12_readsRun : MethodName := ⟨RX12, "readsRun", "()I"⟩
abbrev cX12_numbers : ByteArray := prog_14_method_25_code
def yX12_numbers : MethodName := ⟨RX12, "numbers", "()V"⟩
abbrev cX12_isSign : ByteArray := prog_14_method_26_code
def yX12_isSign : MethodName := ⟨RX12, "isSign", "(I)Z"⟩
abbrev cX12_isOpen : ByteArray := prog_14_method_27_code
def yX12_isOpen : MethodName := ⟨RX12, "isOpen", "(I)Z"⟩
abbrev cX12_closes : ByteArray := prog_14_method_28_code
def yX12_closes : MethodName := ⟨RX12, "closes", "(I)Z"⟩
abbrev cX12_goesOn : ByteArray := prog_14_method_29_code
def yX12_goesOn : MethodName := ⟨RX12, "goesOn", "(II)Z"⟩
abbrev cX12_marks : ByteArray := prog_14_method_30_code
def yX12_marks : MethodName := ⟨RX12, "marks", "(II)Z"⟩
abbrev cX12_signed : ByteArray := prog_14_method_31_code
def yX12_signed : MethodName := ⟨RX12, "signed", "(II)Z"⟩
abbrev cX12_opensOne : ByteArray := prog_14_method_32_code
def yX12_opensOne : MethodName := ⟨RX12, "opensOne", "(I)V"⟩
abbrev cX12_fails : ByteArray := prog_14_method_33_code
def yX12_fails : MethodName := ⟨RX12, "fails", "(II)V"⟩
abbrev cX12_takes : ByteArray := prog_14_method_34_code
def yX12_takes : MethodName := ⟨RX12, "takes", "(IZ)I"⟩
abbrev cX12_readsScore : ByteArray := prog_14_method_35_code
def yX12_readsScore : MethodName := ⟨RX12, "readsScore", "()V"⟩
abbrev cX12_look : ByteArray := prog_14_method_36_code
def yX12_look : MethodName := ⟨RX12, "look", "()V"⟩
abbrev cX12_faultBy : ByteArray := prog_14_method_37_code
def yX12_faultBy : MethodName := ⟨RX12, "faultBy", "(II)I"⟩
abbrev cX12_fault : ByteArray := prog_14_method_38_code
def yX12_fault : MethodName := ⟨RX12, "fault", "(II)I"⟩
abbrev cX12_withinBy : ByteArray := prog_14_method_39_code
def yX12_withinBy : MethodName := ⟨RX12, "withinBy", "(I)I"⟩
abbrev cX12_within : ByteArray := prog_14_method_40_code
def yX12_within : MethodName := ⟨RX12, "within", "(I)I"⟩
abbrev cX12_orders : ByteArray := prog_14_method_41_code
def yX12_orders : MethodName := ⟨RX12, "orders", "(I)V"⟩
abbrev cX12_find : ByteArray := prog_14_method_42_code
def yX12_find : MethodName := ⟨RX12, "find", "()V"⟩
abbrev cX12_isBar : ByteArray := prog_14_method_43_code
def yX12_isBar : MethodName := ⟨RX12, "isBar", "(I)Z"⟩
abbrev cX12_bar : ByteArray := prog_14_method_44_code
def yX12_bar : MethodName := ⟨RX12, "bar", "(I)I"⟩
abbrev cX12_alike : ByteArray := prog_14_method_45_code
def yX12_alike : MethodName := ⟨RX12, "alike", "(II)I"⟩
abbrev cX12_againBy : ByteArray := prog_14_method_46_code
def yX12_againBy : MethodName := ⟨RX12, "againBy", "(II)I"⟩
abbrev cX12_isPlace : ByteArray := prog_14_method_47_code
def yX12_isPlace : MethodName := ⟨RX12, "isPlace", "(I)Z"⟩
abbrev cX12_again : ByteArray := prog_14_method_48_code
def yX12_again : MethodName := ⟨RX12, "again", "(II)I"⟩
abbrev cX12_after : ByteArray := prog_14_method_49_code
def yX12_after : MethodName := ⟨RX12, "after", "(II)I"⟩
abbrev cX12_playing : ByteArray := prog_14_method_50_code
def yX12_playing : MethodName := ⟨RX12, "playing", "(II)V"⟩
abbrev cX12_playsAll : ByteArray := prog_14_method_51_code
def yX12_playsAll : MethodName := ⟨RX12, "playsAll", "()V"⟩
abbrev cX12_playsBy : ByteArray := prog_14_method_52_code
def yX12_playsBy : MethodName := ⟨RX12, "playsBy", "(I)I"⟩
abbrev cX12_plays : ByteArray := prog_14_method_53_code
def yX12_plays : MethodName := ⟨RX12, "plays", "(I)I"⟩
abbrev cX12_oftenBy : ByteArray := prog_14_method_54_code
def yX12_oftenBy : MethodName := ⟨RX12, "oftenBy", "(I)I"⟩
abbrev cX12_often : ByteArray := prog_14_method_55_code
def yX12_often : MethodName := ⟨RX12, "often", "(I)I"⟩
abbrev cX12_scoreBy : ByteArray := prog_14_method_56_code
def yX12_scoreBy : MethodName := ⟨RX12, "scoreBy", "(I)I"⟩
abbrev cX12_score : ByteArray := prog_14_method_57_code
def yX12_score : MethodName := ⟨RX12, "score", "(I)I"⟩
abbrev cX12_firstNow : ByteArray := prog_14_method_58_code
def yX12_firstNow : MethodName := ⟨RX12, "firstNow", "()I"⟩
abbrev cX12_same : ByteArray := prog_14_method_59_code
def yX12_same : MethodName := ⟨RX12, "same", "()I"⟩
abbrev cX12_first : ByteArray := prog_14_method_60_code
def yX12_first : MethodName := ⟨RX12, "first", "()I"⟩
abbrev cX12_offers : ByteArray := prog_14_method_61_code
def yX12_offers : MethodName := ⟨RX12, "offers", "(III)V"⟩
abbrev cX12_spans : ByteArray := prog_14_method_62_code
def yX12_spans : MethodName := ⟨RX12, "spans", "(III)V"⟩
abbrev cX12_tables : ByteArray := prog_14_method_63_code
def yX12_tables : MethodName := ⟨RX12, "tables", "()V"⟩
abbrev cX12_spanBy : ByteArray := prog_14_method_64_code
def yX12_spanBy : MethodName := ⟨RX12, "spanBy", "(IIII)I"⟩
abbrev cX12_span : ByteArray := prog_14_method_65_code
def yX12_span : MethodName := ⟨RX12, "span", "(IIII)I"⟩
abbrev cX12_offersFound : ByteArray := prog_14_method_66_code
def yX12_offersFound : MethodName := ⟨RX12, "offersFound", "(IIII)V"⟩
abbrev cX12_costOf : ByteArray := prog_14_method_67_code
def yX12_costOf : MethodName := ⟨RX12, "costOf", "(II)I"⟩
abbrev cX12_finding : ByteArray := prog_14_method_68_code
def yX12_finding : MethodName := ⟨RX12, "finding", "()V"⟩
abbrev cX12_later : ByteArray := prog_14_method_69_code
def yX12_later : MethodName := ⟨RX12, "later", "(I)V"⟩
abbrev cX12_laterSpan : ByteArray := prog_14_method_70_code
def yX12_laterSpan : MethodName := ⟨RX12, "laterSpan", "(III)V"⟩
abbrev cX12_tellsByte : ByteArray := prog_14_method_71_code
def yX12_tellsByte : MethodName := ⟨RX12, "tellsByte", "(I)V"⟩
abbrev cX12_tellsBar : ByteArray := prog_14_method_72_code
def yX12_tellsBar : MethodName := ⟨RX12, "tellsBar", "(I)V"⟩
abbrev cX12_opensSpan : ByteArray := prog_14_method_73_code
def yX12_opensSpan : MethodName := ⟨RX12, "opensSpan", "(I)V"⟩
abbrev cX12_shows : ByteArray := prog_14_method_74_code
def yX12_shows : MethodName := ⟨RX12, "shows", "()V"⟩
abbrev cX12_findAll : ByteArray := prog_14_method_75_code
def yX12_findAll : MethodName := ⟨RX12, "findAll", "()V"⟩
abbrev cX12_foundBy : ByteArray := prog_14_method_76_code
def yX12_foundBy : MethodName := ⟨RX12, "foundBy", "(I)I"⟩
abbrev cX12_found : ByteArray := prog_14_method_77_code
def yX12_found : MethodName := ⟨RX12, "found", "(I)I"⟩
abbrev cX12_shownBy : ByteArray := prog_14_method_78_code
def yX12_shownBy : MethodName := ⟨RX12, "shownBy", "(I)I"⟩
abbrev cX12_shown : ByteArray := prog_14_method_79_code
def yX12_shown : MethodName := ⟨RX12, "shown", "(I)I"⟩
abbrev cX12_mends : ByteArray := prog_14_method_80_code
def yX12_mends : MethodName := ⟨RX12, "mends", "()V"⟩
abbrev cX12_mendBy : ByteArray := prog_14_method_81_code
def yX12_mendBy : MethodName := ⟨RX12, "mendBy", "(I)I"⟩
abbrev cX12_mend : ByteArray := prog_14_method_82_code
def yX12_mend : MethodName := ⟨RX12, "mend", "(I)I"⟩
abbrev cX12_write : ByteArray := prog_14_method_83_code
def yX12_write : MethodName := ⟨RX12, "write", "(I)I"⟩
abbrev cX12_count : ByteArray := prog_14_method_84_code
def yX12_count : MethodName := ⟨RX12, "count", "(I)I"⟩
abbrev cX12_tellsBarOf : ByteArray := prog_14_method_85_code
def yX12_tellsBarOf : MethodName := ⟨RX12, "tellsBarOf", "(JI)J"⟩
abbrev cX12_digest : ByteArray := prog_14_method_86_code
def yX12_digest : MethodName := ⟨RX12, "digest", "()J"⟩
def RJ9 : String := "java/lang/Math"
def TJ9 : u_T := fun k => match k with
  | _ => ("", "", "", false)
def tyJ9 : Nat → FieldType := fun k => match k with
  | _ => .int
abbrev wsJ90 : List Cond := u_ws RJ9 TJ9 0
theorem nmJ9 : ∀ a, a < 0 → ∀ b, b < 0 → a ≠ b → (TJ9 a).2.1 ≠ (TJ9 b).2.1 := by decide +kernel
theorem tyJ9_ok : ∀ k, k < 0 → parseFieldDescriptor (TJ9 k).2.2.1 = some (tyJ9 k) := by decide +kernel
abbrev cJ9_max_7cf53 : ByteArray := prog_15_method_65_code
def yJ9_max_7cf53 : MethodName := ⟨RJ9, "max", "(II)I"⟩
abbrev cJ9_min_7cf53 : ByteArray := prog_15_method_69_code
def yJ9_min_7cf53 : MethodName := ⟨RJ9, "min", "(II)I"⟩
def RJ10 : String := "java/lang/System"
def TJ10 : u_T := fun k => match k with
  | _ => ("", "", "", false)
def tyJ10 : Nat → FieldType := fun k => match k with
  | _ => .int
abbrev wsJ100 : List Cond := u_ws RJ10 TJ10 0
theorem nmJ10 : ∀ a, a < 0 → ∀ b, b < 0 → a ≠ b → (TJ10 a).2.1 ≠ (TJ10 b).2.1 := by decide +kernel
theorem tyJ10_ok : ∀ k, k < 0 → parseFieldDescriptor (TJ10 k).2.2.1 = some (tyJ10 k) := by decide +kernel
def RL : String := "ScoreFormsLaw"
abbrev cL_law : ByteArray := code
def yL_law : MethodName := ⟨RL, "law", "([I)Z"⟩
