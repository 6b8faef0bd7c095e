section
-- ===== PART A: goes FIRST, ahead of the names: the tables' words, and 'selects' of the private methods out of them =====
/-- a private method of a class that the tables say can be made, by its rows of tables_1 -/
def lw_okq (q : MethodName × Nat) : Prop := (q.1.cls ≠ "java/lang/invoke/MethodHandle" ∧ q.1.cls ≠ "java/lang/invoke/VarHandle") ∧ Cond.instantiable q.1.cls q.2 ∈ tables_1 ∧ Cond.privateMethod q.1 ∈ tables_1 ∧ Cond.instanceMethod q.1 ∈ tables_1
theorem lw_p0 : lw_okq (⟨"ScoreForms", "noteChange", "(I)V"⟩, 15) := ⟨⟨by decide +kernel, by decide +kernel⟩, List.mem_of_getElem? (i := 17) (by decide +kernel), List.mem_of_getElem? (i := 368) (by decide +kernel), List.mem_of_getElem? (i := 369) (by decide +kernel)⟩
theorem lw_p1 : lw_okq (⟨"ScoreForms", "finding", "(I)I"⟩, 15) := ⟨⟨by decide +kernel, by decide +kernel⟩, List.mem_of_getElem? (i := 17) (by decide +kernel), List.mem_of_getElem? (i := 387) (by decide +kernel), List.mem_of_getElem? (i := 388) (by decide +kernel)⟩
theorem lw_p2 : lw_okq (⟨"ScoreForms", "freshRun", "()LScoreForms$Run;"⟩, 15) := ⟨⟨by decide +kernel, by decide +kernel⟩, List.mem_of_getElem? (i := 17) (by decide +kernel), List.mem_of_getElem? (i := 402) (by decide +kernel), List.mem_of_getElem? (i := 403) (by decide +kernel)⟩
theorem lw_p3 : lw_okq (⟨"ScoreForms$Run", "giveNumbers", "()V"⟩, 4) := ⟨⟨by decide +kernel, by decide +kernel⟩, List.mem_of_getElem? (i := 48) (by decide +kernel), List.mem_of_getElem? (i := 424) (by decide +kernel), List.mem_of_getElem? (i := 425) (by decide +kernel)⟩
theorem lw_p4 : lw_okq (⟨"ScoreForms", "freshScore", "()LScoreForms$Score;"⟩, 15) := ⟨⟨by decide +kernel, by decide +kernel⟩, List.mem_of_getElem? (i := 17) (by decide +kernel), List.mem_of_getElem? (i := 428) (by decide +kernel), List.mem_of_getElem? (i := 429) (by decide +kernel)⟩
theorem lw_p5 : lw_okq (⟨"ScoreForms$Score", "becomeEmpty", "()V"⟩, 7) := ⟨⟨by decide +kernel, by decide +kernel⟩, List.mem_of_getElem? (i := 95) (by decide +kernel), List.mem_of_getElem? (i := 436) (by decide +kernel), List.mem_of_getElem? (i := 437) (by decide +kernel)⟩
theorem lw_p6 : lw_okq (⟨"ScoreForms$Grammar", "fitsBehindPart", "(I)Z"⟩, 6) := ⟨⟨by decide +kernel, by decide +kernel⟩, List.mem_of_getElem? (i := 103) (by decide +kernel), List.mem_of_getElem? (i := 457) (by decide +kernel), List.mem_of_getElem? (i := 458) (by decide +kernel)⟩
theorem lw_p7 : lw_okq (⟨"ScoreForms$Score", "accept", "(II)V"⟩, 7) := ⟨⟨by decide +kernel, by decide +kernel⟩, List.mem_of_getElem? (i := 95) (by decide +kernel), List.mem_of_getElem? (i := 461) (by decide +kernel), List.mem_of_getElem? (i := 462) (by decide +kernel)⟩
theorem lw_p8 : lw_okq (⟨"ScoreForms$Player", "openRepeat", "()V"⟩, 7) := ⟨⟨by decide +kernel, by decide +kernel⟩, List.mem_of_getElem? (i := 131) (by decide +kernel), List.mem_of_getElem? (i := 482) (by decide +kernel), List.mem_of_getElem? (i := 483) (by decide +kernel)⟩
theorem lw_p9 : lw_okq (⟨"ScoreForms$Player", "playOnceMore", "(II)V"⟩, 7) := ⟨⟨by decide +kernel, by decide +kernel⟩, List.mem_of_getElem? (i := 131) (by decide +kernel), List.mem_of_getElem? (i := 486) (by decide +kernel), List.mem_of_getElem? (i := 487) (by decide +kernel)⟩
theorem lw_p10 : lw_okq (⟨"ScoreForms$Score", "blame", "(II)V"⟩, 7) := ⟨⟨by decide +kernel, by decide +kernel⟩, List.mem_of_getElem? (i := 95) (by decide +kernel), List.mem_of_getElem? (i := 493) (by decide +kernel), List.mem_of_getElem? (i := 494) (by decide +kernel)⟩
theorem lw_p11 : lw_okq (⟨"ScoreForms", "freshSpans", "()LScoreForms$Spans;"⟩, 15) := ⟨⟨by decide +kernel, by decide +kernel⟩, List.mem_of_getElem? (i := 17) (by decide +kernel), List.mem_of_getElem? (i := 513) (by decide +kernel), List.mem_of_getElem? (i := 514) (by decide +kernel)⟩
theorem lw_p12 : lw_okq (⟨"ScoreForms$Spans", "cheapest", "(III)I"⟩, 4) := ⟨⟨by decide +kernel, by decide +kernel⟩, List.mem_of_getElem? (i := 192) (by decide +kernel), List.mem_of_getElem? (i := 537) (by decide +kernel), List.mem_of_getElem? (i := 538) (by decide +kernel)⟩
theorem lw_p13 : lw_okq (⟨"ScoreForms$Spans", "mayRepeat", "(III)Z"⟩, 4) := ⟨⟨by decide +kernel, by decide +kernel⟩, List.mem_of_getElem? (i := 192) (by decide +kernel), List.mem_of_getElem? (i := 541) (by decide +kernel), List.mem_of_getElem? (i := 542) (by decide +kernel)⟩
theorem lw_p14 : lw_okq (⟨"ScoreForms$Spans", "cheapestEndings", "(III)I"⟩, 4) := ⟨⟨by decide +kernel, by decide +kernel⟩, List.mem_of_getElem? (i := 192) (by decide +kernel), List.mem_of_getElem? (i := 545) (by decide +kernel), List.mem_of_getElem? (i := 546) (by decide +kernel)⟩
theorem lw_p15 : lw_okq (⟨"ScoreForms$Spans", "endingsCost", "(IIIII)I"⟩, 4) := ⟨⟨by decide +kernel, by decide +kernel⟩, List.mem_of_getElem? (i := 192) (by decide +kernel), List.mem_of_getElem? (i := 549) (by decide +kernel), List.mem_of_getElem? (i := 550) (by decide +kernel)⟩
def lw_privs_1 : List (MethodName × Nat) := [(⟨"ScoreForms", "noteChange", "(I)V"⟩, 15), (⟨"ScoreForms", "finding", "(I)I"⟩, 15), (⟨"ScoreForms", "freshRun", "()LScoreForms$Run;"⟩, 15), (⟨"ScoreForms$Run", "giveNumbers", "()V"⟩, 4), (⟨"ScoreForms", "freshScore", "()LScoreForms$Score;"⟩, 15), (⟨"ScoreForms$Score", "becomeEmpty", "()V"⟩, 7), (⟨"ScoreForms$Grammar", "fitsBehindPart", "(I)Z"⟩, 6), (⟨"ScoreForms$Score", "accept", "(II)V"⟩, 7), (⟨"ScoreForms$Player", "openRepeat", "()V"⟩, 7), (⟨"ScoreForms$Player", "playOnceMore", "(II)V"⟩, 7), (⟨"ScoreForms$Score", "blame", "(II)V"⟩, 7), (⟨"ScoreForms", "freshSpans", "()LScoreForms$Spans;"⟩, 15), (⟨"ScoreForms$Spans", "cheapest", "(III)I"⟩, 4), (⟨"ScoreForms$Spans", "mayRepeat", "(III)Z"⟩, 4), (⟨"ScoreForms$Spans", "cheapestEndings", "(III)I"⟩, 4), (⟨"ScoreForms$Spans", "endingsCost", "(IIIII)I"⟩, 4)]
theorem lw_r1 : ∀ q ∈ lw_privs_1, lw_okq q := List.forall_mem_cons.mpr ⟨lw_p0, List.forall_mem_cons.mpr ⟨lw_p1, List.forall_mem_cons.mpr ⟨lw_p2, List.forall_mem_cons.mpr ⟨lw_p3, List.forall_mem_cons.mpr ⟨lw_p4, List.forall_mem_cons.mpr ⟨lw_p5, List.forall_mem_cons.mpr ⟨lw_p6, List.forall_mem_cons.mpr ⟨lw_p7, List.forall_mem_cons.mpr ⟨lw_p8, List.forall_mem_cons.mpr ⟨lw_p9, List.forall_mem_cons.mpr ⟨lw_p10, List.forall_mem_cons.mpr ⟨lw_p11, List.forall_mem_cons.mpr ⟨lw_p12, List.forall_mem_cons.mpr ⟨lw_p13, List.forall_mem_cons.mpr ⟨lw_p14, List.forall_mem_cons.mpr ⟨lw_p15, fun _ h => absurd h List.not_mem_nil⟩⟩⟩⟩⟩⟩⟩⟩⟩⟩⟩⟩⟩⟩⟩⟩
theorem lw_p16 : lw_okq (⟨"ScoreForms", "freshFound", "()LScoreForms$Jumps;"⟩, 15) := ⟨⟨by decide +kernel, by decide +kernel⟩, List.mem_of_getElem? (i := 17) (by decide +kernel), List.mem_of_getElem? (i := 603) (by decide +kernel), List.mem_of_getElem? (i := 604) (by decide +kernel)⟩
theorem lw_p17 : lw_okq (⟨"ScoreForms$Jumps", "offer", "(IIII)V"⟩, 4) := ⟨⟨by decide +kernel, by decide +kernel⟩, List.mem_of_getElem? (i := 214) (by decide +kernel), List.mem_of_getElem? (i := 613) (by decide +kernel), List.mem_of_getElem? (i := 614) (by decide +kernel)⟩
theorem lw_p18 : lw_okq (⟨"ScoreForms$Jumps", "seekFromSign", "(LScoreForms$Spans;II)V"⟩, 4) := ⟨⟨by decide +kernel, by decide +kernel⟩, List.mem_of_getElem? (i := 214) (by decide +kernel), List.mem_of_getElem? (i := 617) (by decide +kernel), List.mem_of_getElem? (i := 618) (by decide +kernel)⟩
theorem lw_p19 : lw_okq (⟨"ScoreForms$Printer", "printSpan", "(LScoreForms$Spans;IIII)V"⟩, 2) := ⟨⟨by decide +kernel, by decide +kernel⟩, List.mem_of_getElem? (i := 239) (by decide +kernel), List.mem_of_getElem? (i := 625) (by decide +kernel), List.mem_of_getElem? (i := 626) (by decide +kernel)⟩
theorem lw_p20 : lw_okq (⟨"ScoreForms$Printer", "printBar", "(LScoreForms$Spans;I)V"⟩, 2) := ⟨⟨by decide +kernel, by decide +kernel⟩, List.mem_of_getElem? (i := 239) (by decide +kernel), List.mem_of_getElem? (i := 629) (by decide +kernel), List.mem_of_getElem? (i := 630) (by decide +kernel)⟩
theorem lw_p21 : lw_okq (⟨"ScoreForms$Printer", "put", "(I)V"⟩, 2) := ⟨⟨by decide +kernel, by decide +kernel⟩, List.mem_of_getElem? (i := 239) (by decide +kernel), List.mem_of_getElem? (i := 633) (by decide +kernel), List.mem_of_getElem? (i := 634) (by decide +kernel)⟩
theorem lw_p22 : lw_okq (⟨"ScoreForms$Printer", "printEndings", "(LScoreForms$Spans;IIII)V"⟩, 2) := ⟨⟨by decide +kernel, by decide +kernel⟩, List.mem_of_getElem? (i := 239) (by decide +kernel), List.mem_of_getElem? (i := 645) (by decide +kernel), List.mem_of_getElem? (i := 646) (by decide +kernel)⟩
theorem lw_p23 : lw_okq (⟨"ScoreForms", "freshMending", "()LScoreForms$Mending;"⟩, 15) := ⟨⟨by decide +kernel, by decide +kernel⟩, List.mem_of_getElem? (i := 17) (by decide +kernel), List.mem_of_getElem? (i := 661) (by decide +kernel), List.mem_of_getElem? (i := 662) (by decide +kernel)⟩
theorem lw_p24 : lw_okq (⟨"ScoreFormsModel", "finds", "(I)I"⟩, 48) := ⟨⟨by decide +kernel, by decide +kernel⟩, List.mem_of_getElem? (i := 743) (by decide +kernel), List.mem_of_getElem? (i := 906) (by decide +kernel), List.mem_of_getElem? (i := 907) (by decide +kernel)⟩
theorem lw_p25 : lw_okq (⟨"ScoreFormsModel", "lacks", "(III)I"⟩, 48) := ⟨⟨by decide +kernel, by decide +kernel⟩, List.mem_of_getElem? (i := 743) (by decide +kernel), List.mem_of_getElem? (i := 918) (by decide +kernel), List.mem_of_getElem? (i := 919) (by decide +kernel)⟩
theorem lw_p26 : lw_okq (⟨"ScoreFormsModel", "faultBy", "(II)I"⟩, 48) := ⟨⟨by decide +kernel, by decide +kernel⟩, List.mem_of_getElem? (i := 743) (by decide +kernel), List.mem_of_getElem? (i := 963) (by decide +kernel), List.mem_of_getElem? (i := 964) (by decide +kernel)⟩
theorem lw_p27 : lw_okq (⟨"ScoreFormsModel", "readsRun", "()I"⟩, 48) := ⟨⟨by decide +kernel, by decide +kernel⟩, List.mem_of_getElem? (i := 743) (by decide +kernel), List.mem_of_getElem? (i := 967) (by decide +kernel), List.mem_of_getElem? (i := 968) (by decide +kernel)⟩
theorem lw_p28 : lw_okq (⟨"ScoreFormsModel", "numbers", "()V"⟩, 48) := ⟨⟨by decide +kernel, by decide +kernel⟩, List.mem_of_getElem? (i := 743) (by decide +kernel), List.mem_of_getElem? (i := 981) (by decide +kernel), List.mem_of_getElem? (i := 982) (by decide +kernel)⟩
theorem lw_p29 : lw_okq (⟨"ScoreFormsModel", "readsScore", "()V"⟩, 48) := ⟨⟨by decide +kernel, by decide +kernel⟩, List.mem_of_getElem? (i := 743) (by decide +kernel), List.mem_of_getElem? (i := 985) (by decide +kernel), List.mem_of_getElem? (i := 986) (by decide +kernel)⟩
theorem lw_p30 : lw_okq (⟨"ScoreFormsModel", "takes", "(IZ)I"⟩, 48) := ⟨⟨by decide +kernel, by decide +kernel⟩, List.mem_of_getElem? (i := 743) (by decide +kernel), List.mem_of_getElem? (i := 989) (by decide +kernel), List.mem_of_getElem? (i := 990) (by decide +kernel)⟩
theorem lw_p31 : lw_okq (⟨"ScoreFormsModel", "opensOne", "(I)V"⟩, 48) := ⟨⟨by decide +kernel, by decide +kernel⟩, List.mem_of_getElem? (i := 743) (by decide +kernel), List.mem_of_getElem? (i := 996) (by decide +kernel), List.mem_of_getElem? (i := 997) (by decide +kernel)⟩
def lw_privs_2 : List (MethodName × Nat) := [(⟨"ScoreForms", "freshFound", "()LScoreForms$Jumps;"⟩, 15), (⟨"ScoreForms$Jumps", "offer", "(IIII)V"⟩, 4), (⟨"ScoreForms$Jumps", "seekFromSign", "(LScoreForms$Spans;II)V"⟩, 4), (⟨"ScoreForms$Printer", "printSpan", "(LScoreForms$Spans;IIII)V"⟩, 2), (⟨"ScoreForms$Printer", "printBar", "(LScoreForms$Spans;I)V"⟩, 2), (⟨"ScoreForms$Printer", "put", "(I)V"⟩, 2), (⟨"ScoreForms$Printer", "printEndings", "(LScoreForms$Spans;IIII)V"⟩, 2), (⟨"ScoreForms", "freshMending", "()LScoreForms$Mending;"⟩, 15), (⟨"ScoreFormsModel", "finds", "(I)I"⟩, 48), (⟨"ScoreFormsModel", "lacks", "(III)I"⟩, 48), (⟨"ScoreFormsModel", "faultBy", "(II)I"⟩, 48), (⟨"ScoreFormsModel", "readsRun", "()I"⟩, 48), (⟨"ScoreFormsModel", "numbers", "()V"⟩, 48), (⟨"ScoreFormsModel", "readsScore", "()V"⟩, 48), (⟨"ScoreFormsModel", "takes", "(IZ)I"⟩, 48), (⟨"ScoreFormsModel", "opensOne", "(I)V"⟩, 48)]
theorem lw_r2 : ∀ q ∈ lw_privs_2, lw_okq q := List.forall_mem_cons.mpr ⟨lw_p16, List.forall_mem_cons.mpr ⟨lw_p17, List.forall_mem_cons.mpr ⟨lw_p18, List.forall_mem_cons.mpr ⟨lw_p19, List.forall_mem_cons.mpr ⟨lw_p20, List.forall_mem_cons.mpr ⟨lw_p21, List.forall_mem_cons.mpr ⟨lw_p22, List.forall_mem_cons.mpr ⟨lw_p23, List.forall_mem_cons.mpr ⟨lw_p24, List.forall_mem_cons.mpr ⟨lw_p25, List.forall_mem_cons.mpr ⟨lw_p26, List.forall_mem_cons.mpr ⟨lw_p27, List.forall_mem_cons.mpr ⟨lw_p28, List.forall_mem_cons.mpr ⟨lw_p29, List.forall_mem_cons.mpr ⟨lw_p30, List.forall_mem_cons.mpr ⟨lw_p31, fun _ h => absurd h List.not_mem_nil⟩⟩⟩⟩⟩⟩⟩⟩⟩⟩⟩⟩⟩⟩⟩⟩
theorem lw_p32 : lw_okq (⟨"ScoreFormsModel", "signed", "(II)Z"⟩, 48) := ⟨⟨by decide +kernel, by decide +kernel⟩, List.mem_of_getElem? (i := 743) (by decide +kernel), List.mem_of_getElem? (i := 1003) (by decide +kernel), List.mem_of_getElem? (i := 1004) (by decide +kernel)⟩
theorem lw_p33 : lw_okq (⟨"ScoreFormsModel", "closes", "(I)Z"⟩, 48) := ⟨⟨by decide +kernel, by decide +kernel⟩, List.mem_of_getElem? (i := 743) (by decide +kernel), List.mem_of_getElem? (i := 1007) (by decide +kernel), List.mem_of_getElem? (i := 1008) (by decide +kernel)⟩
theorem lw_p34 : lw_okq (⟨"ScoreFormsModel", "isOpen", "(I)Z"⟩, 48) := ⟨⟨by decide +kernel, by decide +kernel⟩, List.mem_of_getElem? (i := 743) (by decide +kernel), List.mem_of_getElem? (i := 1011) (by decide +kernel), List.mem_of_getElem? (i := 1012) (by decide +kernel)⟩
theorem lw_p35 : lw_okq (⟨"ScoreFormsModel", "goesOn", "(II)Z"⟩, 48) := ⟨⟨by decide +kernel, by decide +kernel⟩, List.mem_of_getElem? (i := 743) (by decide +kernel), List.mem_of_getElem? (i := 1015) (by decide +kernel), List.mem_of_getElem? (i := 1016) (by decide +kernel)⟩
theorem lw_p36 : lw_okq (⟨"ScoreFormsModel", "marks", "(II)Z"⟩, 48) := ⟨⟨by decide +kernel, by decide +kernel⟩, List.mem_of_getElem? (i := 743) (by decide +kernel), List.mem_of_getElem? (i := 1019) (by decide +kernel), List.mem_of_getElem? (i := 1020) (by decide +kernel)⟩
theorem lw_p37 : lw_okq (⟨"ScoreFormsModel", "fails", "(II)V"⟩, 48) := ⟨⟨by decide +kernel, by decide +kernel⟩, List.mem_of_getElem? (i := 743) (by decide +kernel), List.mem_of_getElem? (i := 1023) (by decide +kernel), List.mem_of_getElem? (i := 1024) (by decide +kernel)⟩
theorem lw_p38 : lw_okq (⟨"ScoreFormsModel", "withinBy", "(I)I"⟩, 48) := ⟨⟨by decide +kernel, by decide +kernel⟩, List.mem_of_getElem? (i := 743) (by decide +kernel), List.mem_of_getElem? (i := 1031) (by decide +kernel), List.mem_of_getElem? (i := 1032) (by decide +kernel)⟩
theorem lw_p39 : lw_okq (⟨"ScoreFormsModel", "find", "()V"⟩, 48) := ⟨⟨by decide +kernel, by decide +kernel⟩, List.mem_of_getElem? (i := 743) (by decide +kernel), List.mem_of_getElem? (i := 1039) (by decide +kernel), List.mem_of_getElem? (i := 1040) (by decide +kernel)⟩
theorem lw_p40 : lw_okq (⟨"ScoreFormsModel", "look", "()V"⟩, 48) := ⟨⟨by decide +kernel, by decide +kernel⟩, List.mem_of_getElem? (i := 743) (by decide +kernel), List.mem_of_getElem? (i := 1043) (by decide +kernel), List.mem_of_getElem? (i := 1044) (by decide +kernel)⟩
theorem lw_p41 : lw_okq (⟨"ScoreFormsModel", "orders", "(I)V"⟩, 48) := ⟨⟨by decide +kernel, by decide +kernel⟩, List.mem_of_getElem? (i := 743) (by decide +kernel), List.mem_of_getElem? (i := 1047) (by decide +kernel), List.mem_of_getElem? (i := 1048) (by decide +kernel)⟩
theorem lw_p42 : lw_okq (⟨"ScoreFormsModel", "isBar", "(I)Z"⟩, 48) := ⟨⟨by decide +kernel, by decide +kernel⟩, List.mem_of_getElem? (i := 743) (by decide +kernel), List.mem_of_getElem? (i := 1051) (by decide +kernel), List.mem_of_getElem? (i := 1052) (by decide +kernel)⟩
theorem lw_p43 : lw_okq (⟨"ScoreFormsModel", "isPlace", "(I)Z"⟩, 48) := ⟨⟨by decide +kernel, by decide +kernel⟩, List.mem_of_getElem? (i := 743) (by decide +kernel), List.mem_of_getElem? (i := 1064) (by decide +kernel), List.mem_of_getElem? (i := 1065) (by decide +kernel)⟩
theorem lw_p44 : lw_okq (⟨"ScoreFormsModel", "againBy", "(II)I"⟩, 48) := ⟨⟨by decide +kernel, by decide +kernel⟩, List.mem_of_getElem? (i := 743) (by decide +kernel), List.mem_of_getElem? (i := 1068) (by decide +kernel), List.mem_of_getElem? (i := 1069) (by decide +kernel)⟩
theorem lw_p45 : lw_okq (⟨"ScoreFormsModel", "playsAll", "()V"⟩, 48) := ⟨⟨by decide +kernel, by decide +kernel⟩, List.mem_of_getElem? (i := 743) (by decide +kernel), List.mem_of_getElem? (i := 1076) (by decide +kernel), List.mem_of_getElem? (i := 1077) (by decide +kernel)⟩
theorem lw_p46 : lw_okq (⟨"ScoreFormsModel", "playing", "(II)V"⟩, 48) := ⟨⟨by decide +kernel, by decide +kernel⟩, List.mem_of_getElem? (i := 743) (by decide +kernel), List.mem_of_getElem? (i := 1080) (by decide +kernel), List.mem_of_getElem? (i := 1081) (by decide +kernel)⟩
theorem lw_p47 : lw_okq (⟨"ScoreFormsModel", "after", "(II)I"⟩, 48) := ⟨⟨by decide +kernel, by decide +kernel⟩, List.mem_of_getElem? (i := 743) (by decide +kernel), List.mem_of_getElem? (i := 1084) (by decide +kernel), List.mem_of_getElem? (i := 1085) (by decide +kernel)⟩
def lw_privs_3 : List (MethodName × Nat) := [(⟨"ScoreFormsModel", "signed", "(II)Z"⟩, 48), (⟨"ScoreFormsModel", "closes", "(I)Z"⟩, 48), (⟨"ScoreFormsModel", "isOpen", "(I)Z"⟩, 48), (⟨"ScoreFormsModel", "goesOn", "(II)Z"⟩, 48), (⟨"ScoreFormsModel", "marks", "(II)Z"⟩, 48), (⟨"ScoreFormsModel", "fails", "(II)V"⟩, 48), (⟨"ScoreFormsModel", "withinBy", "(I)I"⟩, 48), (⟨"ScoreFormsModel", "find", "()V"⟩, 48), (⟨"ScoreFormsModel", "look", "()V"⟩, 48), (⟨"ScoreFormsModel", "orders", "(I)V"⟩, 48), (⟨"ScoreFormsModel", "isBar", "(I)Z"⟩, 48), (⟨"ScoreFormsModel", "isPlace", "(I)Z"⟩, 48), (⟨"ScoreFormsModel", "againBy", "(II)I"⟩, 48), (⟨"ScoreFormsModel", "playsAll", "()V"⟩, 48), (⟨"ScoreFormsModel", "playing", "(II)V"⟩, 48), (⟨"ScoreFormsModel", "after", "(II)I"⟩, 48)]
theorem lw_r3 : ∀ q ∈ lw_privs_3, lw_okq q := List.forall_mem_cons.mpr ⟨lw_p32, List.forall_mem_cons.mpr ⟨lw_p33, List.forall_mem_cons.mpr ⟨lw_p34, List.forall_mem_cons.mpr ⟨lw_p35, List.forall_mem_cons.mpr ⟨lw_p36, List.forall_mem_cons.mpr ⟨lw_p37, List.forall_mem_cons.mpr ⟨lw_p38, List.forall_mem_cons.mpr ⟨lw_p39, List.forall_mem_cons.mpr ⟨lw_p40, List.forall_mem_cons.mpr ⟨lw_p41, List.forall_mem_cons.mpr ⟨lw_p42, List.forall_mem_cons.mpr ⟨lw_p43, List.forall_mem_cons.mpr ⟨lw_p44, List.forall_mem_cons.mpr ⟨lw_p45, List.forall_mem_cons.mpr ⟨lw_p46, List.forall_mem_cons.mpr ⟨lw_p47, fun _ h => absurd h List.not_mem_nil⟩⟩⟩⟩⟩⟩⟩⟩⟩⟩⟩⟩⟩⟩⟩⟩
theorem lw_p48 : lw_okq (⟨"ScoreFormsModel", "playsBy", "(I)I"⟩, 48) := ⟨⟨by decide +kernel, by decide +kernel⟩, List.mem_of_getElem? (i := 743) (by decide +kernel), List.mem_of_getElem? (i := 1090) (by decide +kernel), List.mem_of_getElem? (i := 1091) (by decide +kernel)⟩
theorem lw_p49 : lw_okq (⟨"ScoreFormsModel", "oftenBy", "(I)I"⟩, 48) := ⟨⟨by decide +kernel, by decide +kernel⟩, List.mem_of_getElem? (i := 743) (by decide +kernel), List.mem_of_getElem? (i := 1098) (by decide +kernel), List.mem_of_getElem? (i := 1099) (by decide +kernel)⟩
theorem lw_p50 : lw_okq (⟨"ScoreFormsModel", "scoreBy", "(I)I"⟩, 48) := ⟨⟨by decide +kernel, by decide +kernel⟩, List.mem_of_getElem? (i := 743) (by decide +kernel), List.mem_of_getElem? (i := 1106) (by decide +kernel), List.mem_of_getElem? (i := 1107) (by decide +kernel)⟩
theorem lw_p51 : lw_okq (⟨"ScoreFormsModel", "firstNow", "()I"⟩, 48) := ⟨⟨by decide +kernel, by decide +kernel⟩, List.mem_of_getElem? (i := 743) (by decide +kernel), List.mem_of_getElem? (i := 1114) (by decide +kernel), List.mem_of_getElem? (i := 1115) (by decide +kernel)⟩
theorem lw_p52 : lw_okq (⟨"ScoreFormsModel", "tables", "()V"⟩, 48) := ⟨⟨by decide +kernel, by decide +kernel⟩, List.mem_of_getElem? (i := 743) (by decide +kernel), List.mem_of_getElem? (i := 1126) (by decide +kernel), List.mem_of_getElem? (i := 1127) (by decide +kernel)⟩
theorem lw_p53 : lw_okq (⟨"ScoreFormsModel", "spans", "(III)V"⟩, 48) := ⟨⟨by decide +kernel, by decide +kernel⟩, List.mem_of_getElem? (i := 743) (by decide +kernel), List.mem_of_getElem? (i := 1130) (by decide +kernel), List.mem_of_getElem? (i := 1131) (by decide +kernel)⟩
theorem lw_p54 : lw_okq (⟨"ScoreFormsModel", "offers", "(III)V"⟩, 48) := ⟨⟨by decide +kernel, by decide +kernel⟩, List.mem_of_getElem? (i := 743) (by decide +kernel), List.mem_of_getElem? (i := 1135) (by decide +kernel), List.mem_of_getElem? (i := 1136) (by decide +kernel)⟩
theorem lw_p55 : lw_okq (⟨"ScoreFormsModel", "spanBy", "(IIII)I"⟩, 48) := ⟨⟨by decide +kernel, by decide +kernel⟩, List.mem_of_getElem? (i := 743) (by decide +kernel), List.mem_of_getElem? (i := 1139) (by decide +kernel), List.mem_of_getElem? (i := 1140) (by decide +kernel)⟩
theorem lw_p56 : lw_okq (⟨"ScoreFormsModel", "findAll", "()V"⟩, 48) := ⟨⟨by decide +kernel, by decide +kernel⟩, List.mem_of_getElem? (i := 743) (by decide +kernel), List.mem_of_getElem? (i := 1147) (by decide +kernel), List.mem_of_getElem? (i := 1148) (by decide +kernel)⟩
theorem lw_p57 : lw_okq (⟨"ScoreFormsModel", "finding", "()V"⟩, 48) := ⟨⟨by decide +kernel, by decide +kernel⟩, List.mem_of_getElem? (i := 743) (by decide +kernel), List.mem_of_getElem? (i := 1151) (by decide +kernel), List.mem_of_getElem? (i := 1152) (by decide +kernel)⟩
theorem lw_p58 : lw_okq (⟨"ScoreFormsModel", "costOf", "(II)I"⟩, 48) := ⟨⟨by decide +kernel, by decide +kernel⟩, List.mem_of_getElem? (i := 743) (by decide +kernel), List.mem_of_getElem? (i := 1155) (by decide +kernel), List.mem_of_getElem? (i := 1156) (by decide +kernel)⟩
theorem lw_p59 : lw_okq (⟨"ScoreFormsModel", "offersFound", "(IIII)V"⟩, 48) := ⟨⟨by decide +kernel, by decide +kernel⟩, List.mem_of_getElem? (i := 743) (by decide +kernel), List.mem_of_getElem? (i := 1159) (by decide +kernel), List.mem_of_getElem? (i := 1160) (by decide +kernel)⟩
theorem lw_p60 : lw_okq (⟨"ScoreFormsModel", "shows", "()V"⟩, 48) := ⟨⟨by decide +kernel, by decide +kernel⟩, List.mem_of_getElem? (i := 743) (by decide +kernel), List.mem_of_getElem? (i := 1163) (by decide +kernel), List.mem_of_getElem? (i := 1164) (by decide +kernel)⟩
theorem lw_p61 : lw_okq (⟨"ScoreFormsModel", "laterSpan", "(III)V"⟩, 48) := ⟨⟨by decide +kernel, by decide +kernel⟩, List.mem_of_getElem? (i := 743) (by decide +kernel), List.mem_of_getElem? (i := 1167) (by decide +kernel), List.mem_of_getElem? (i := 1168) (by decide +kernel)⟩
theorem lw_p62 : lw_okq (⟨"ScoreFormsModel", "later", "(I)V"⟩, 48) := ⟨⟨by decide +kernel, by decide +kernel⟩, List.mem_of_getElem? (i := 743) (by decide +kernel), List.mem_of_getElem? (i := 1171) (by decide +kernel), List.mem_of_getElem? (i := 1172) (by decide +kernel)⟩
theorem lw_p63 : lw_okq (⟨"ScoreFormsModel", "tellsByte", "(I)V"⟩, 48) := ⟨⟨by decide +kernel, by decide +kernel⟩, List.mem_of_getElem? (i := 743) (by decide +kernel), List.mem_of_getElem? (i := 1175) (by decide +kernel), List.mem_of_getElem? (i := 1176) (by decide +kernel)⟩
def lw_privs_4 : List (MethodName × Nat) := [(⟨"ScoreFormsModel", "playsBy", "(I)I"⟩, 48), (⟨"ScoreFormsModel", "oftenBy", "(I)I"⟩, 48), (⟨"ScoreFormsModel", "scoreBy", "(I)I"⟩, 48), (⟨"ScoreFormsModel", "firstNow", "()I"⟩, 48), (⟨"ScoreFormsModel", "tables", "()V"⟩, 48), (⟨"ScoreFormsModel", "spans", "(III)V"⟩, 48), (⟨"ScoreFormsModel", "offers", "(III)V"⟩, 48), (⟨"ScoreFormsModel", "spanBy", "(IIII)I"⟩, 48), (⟨"ScoreFormsModel", "findAll", "()V"⟩, 48), (⟨"ScoreFormsModel", "finding", "()V"⟩, 48), (⟨"ScoreFormsModel", "costOf", "(II)I"⟩, 48), (⟨"ScoreFormsModel", "offersFound", "(IIII)V"⟩, 48), (⟨"ScoreFormsModel", "shows", "()V"⟩, 48), (⟨"ScoreFormsModel", "laterSpan", "(III)V"⟩, 48), (⟨"ScoreFormsModel", "later", "(I)V"⟩, 48), (⟨"ScoreFormsModel", "tellsByte", "(I)V"⟩, 48)]
theorem lw_r4 : ∀ q ∈ lw_privs_4, lw_okq q := List.forall_mem_cons.mpr ⟨lw_p48, List.forall_mem_cons.mpr ⟨lw_p49, List.forall_mem_cons.mpr ⟨lw_p50, List.forall_mem_cons.mpr ⟨lw_p51, List.forall_mem_cons.mpr ⟨lw_p52, List.forall_mem_cons.mpr ⟨lw_p53, List.forall_mem_cons.mpr ⟨lw_p54, List.forall_mem_cons.mpr ⟨lw_p55, List.forall_mem_cons.mpr ⟨lw_p56, List.forall_mem_cons.mpr ⟨lw_p57, List.forall_mem_cons.mpr ⟨lw_p58, List.forall_mem_cons.mpr ⟨lw_p59, List.forall_mem_cons.mpr ⟨lw_p60, List.forall_mem_cons.mpr ⟨lw_p61, List.forall_mem_cons.mpr ⟨lw_p62, List.forall_mem_cons.mpr ⟨lw_p63, fun _ h => absurd h List.not_mem_nil⟩⟩⟩⟩⟩⟩⟩⟩⟩⟩⟩⟩⟩⟩⟩⟩
theorem lw_p64 : lw_okq (⟨"ScoreFormsModel", "opensSpan", "(I)V"⟩, 48) := ⟨⟨by decide +kernel, by decide +kernel⟩, List.mem_of_getElem? (i := 743) (by decide +kernel), List.mem_of_getElem? (i := 1179) (by decide +kernel), List.mem_of_getElem? (i := 1180) (by decide +kernel)⟩
theorem lw_p65 : lw_okq (⟨"ScoreFormsModel", "tellsBar", "(I)V"⟩, 48) := ⟨⟨by decide +kernel, by decide +kernel⟩, List.mem_of_getElem? (i := 743) (by decide +kernel), List.mem_of_getElem? (i := 1183) (by decide +kernel), List.mem_of_getElem? (i := 1184) (by decide +kernel)⟩
theorem lw_p66 : lw_okq (⟨"ScoreFormsModel", "foundBy", "(I)I"⟩, 48) := ⟨⟨by decide +kernel, by decide +kernel⟩, List.mem_of_getElem? (i := 743) (by decide +kernel), List.mem_of_getElem? (i := 1187) (by decide +kernel), List.mem_of_getElem? (i := 1188) (by decide +kernel)⟩
theorem lw_p67 : lw_okq (⟨"ScoreFormsModel", "shownBy", "(I)I"⟩, 48) := ⟨⟨by decide +kernel, by decide +kernel⟩, List.mem_of_getElem? (i := 743) (by decide +kernel), List.mem_of_getElem? (i := 1196) (by decide +kernel), List.mem_of_getElem? (i := 1197) (by decide +kernel)⟩
theorem lw_p68 : lw_okq (⟨"ScoreFormsModel", "mends", "()V"⟩, 48) := ⟨⟨by decide +kernel, by decide +kernel⟩, List.mem_of_getElem? (i := 743) (by decide +kernel), List.mem_of_getElem? (i := 1204) (by decide +kernel), List.mem_of_getElem? (i := 1205) (by decide +kernel)⟩
theorem lw_p69 : lw_okq (⟨"ScoreFormsModel", "mendBy", "(I)I"⟩, 48) := ⟨⟨by decide +kernel, by decide +kernel⟩, List.mem_of_getElem? (i := 743) (by decide +kernel), List.mem_of_getElem? (i := 1212) (by decide +kernel), List.mem_of_getElem? (i := 1213) (by decide +kernel)⟩
theorem lw_p70 : lw_okq (⟨"ScoreFormsModel", "tellsBarOf", "(JI)J"⟩, 48) := ⟨⟨by decide +kernel, by decide +kernel⟩, List.mem_of_getElem? (i := 743) (by decide +kernel), List.mem_of_getElem? (i := 1231) (by decide +kernel), List.mem_of_getElem? (i := 1232) (by decide +kernel)⟩
def lw_privs_5 : List (MethodName × Nat) := [(⟨"ScoreFormsModel", "opensSpan", "(I)V"⟩, 48), (⟨"ScoreFormsModel", "tellsBar", "(I)V"⟩, 48), (⟨"ScoreFormsModel", "foundBy", "(I)I"⟩, 48), (⟨"ScoreFormsModel", "shownBy", "(I)I"⟩, 48), (⟨"ScoreFormsModel", "mends", "()V"⟩, 48), (⟨"ScoreFormsModel", "mendBy", "(I)I"⟩, 48), (⟨"ScoreFormsModel", "tellsBarOf", "(JI)J"⟩, 48)]
theorem lw_r5 : ∀ q ∈ lw_privs_5, lw_okq q := List.forall_mem_cons.mpr ⟨lw_p64, List.forall_mem_cons.mpr ⟨lw_p65, List.forall_mem_cons.mpr ⟨lw_p66, List.forall_mem_cons.mpr ⟨lw_p67, List.forall_mem_cons.mpr ⟨lw_p68, List.forall_mem_cons.mpr ⟨lw_p69, List.forall_mem_cons.mpr ⟨lw_p70, fun _ h => absurd h List.not_mem_nil⟩⟩⟩⟩⟩⟩⟩
def lw_privs : List (MethodName × Nat) := lw_privs_1 ++ (lw_privs_2 ++ (lw_privs_3 ++ (lw_privs_4 ++ (lw_privs_5))))
def lw_tbl : List Cond := k2_sels lw_privs ++ tables_1
theorem lw_privs_ok : ∀ q ∈ lw_privs, lw_okq q := by
  show ∀ q ∈ lw_privs_1 ++ (lw_privs_2 ++ (lw_privs_3 ++ (lw_privs_4 ++ (lw_privs_5)))), lw_okq q
  exact List.forall_mem_append.mpr ⟨lw_r1, List.forall_mem_append.mpr ⟨lw_r2, List.forall_mem_append.mpr ⟨lw_r3, List.forall_mem_append.mpr ⟨lw_r4, lw_r5⟩⟩⟩⟩
-- ===== end of PART A; then your names; then what follows =====
/-! ===== BEGIN words of one list among another's, by their places ===== -/
theorem goodIn_r {big : List Cond} (ws : List Cond) (ps : List Nat) (hp : ws = ps.filterMap (fun i => big[i]?)) (h : ws.all goodWord = true) : GoodIn big ws := by
  intro w hw
  have h1 := List.all_eq_true.mp h w hw
  rw [hp] at hw
  obtain ⟨i, -, hi⟩ := List.mem_filterMap.mp hw
  have hm : w ∈ big := by first | exact List.mem_of_getElem? hi | exact List.getElem?_mem hi
  exact ⟨hm, good_of_word h1⟩
theorem goodIn_app {big a b : List Cond} (ha : GoodIn big a) (hb : GoodIn big b) : GoodIn big (a ++ b) := fun w h => (List.mem_append.mp h).elim (ha w) (hb w)
theorem goodIn_ca {big a b : List Cond} {c : Cond} (ha : GoodIn big (c :: a)) (hb : GoodIn big b) : GoodIn big (c :: (a ++ b)) := fun w h => (List.mem_cons.mp h).elim (fun e => ha w (List.mem_cons.mpr (Or.inl e))) (fun h => (List.mem_append.mp h).elim (fun h => ha w (List.mem_cons.mpr (Or.inr h))) (hb w))
theorem goodIn_sub {big ws : List Cond} (hm : ∀ w ∈ ws, w ∈ big) (h : ws.all goodWord = true) : GoodIn big ws := fun w hw => ⟨hm w hw, good_of_word (List.all_eq_true.mp h w hw)⟩
/-! ===== END ===== -/

/-! ===== BEGIN printed: names, fields, word lists, decode rows ===== -/
def RX0 : String := "ScoreForms$Bars"
def TX0 : u_T := fun k => match k with
  | 0 => ("ScoreForms$Bars", "codes", "[I", true)
  | _ => ("ScoreForms$Bars", "size", "I", false)
def tyX0 : Nat → FieldType := fun k => match k with
  | 0 => .array .int
  | _ => .int
abbrev wsX00 : List Cond := u_ws RX0 TX0 2
theorem nmX0 : ∀ a, a < 2 → ∀ b, b < 2 → a ≠ b → (TX0 a).2.1 ≠ (TX0 b).2.1 := by decide +kernel
theorem tyX0_ok : ∀ k, k < 2 → parseFieldDescriptor (TX0 k).2.2.1 = some (tyX0 k) := by decide +kernel
abbrev cX0_init : ByteArray := prog_2_method_1_code
def yX0_init : MethodName := ⟨RX0, "<init>", "(I)V"⟩
abbrev cX0_addLetter : ByteArray := prog_2_method_2_code
def yX0_addLetter : MethodName := ⟨RX0, "addLetter", "(I)V"⟩
abbrev cX0_addFigure : ByteArray := prog_2_method_3_code
def yX0_addFigure : MethodName := ⟨RX0, "addFigure", "(I)V"⟩
def RX1 : String := "ScoreForms$Grammar"
def TX1 : u_T := fun k => match k with
  | 0 => ("ScoreForms$Grammar", "places", "[I", true)
  | 1 => ("ScoreForms$Grammar", "endings", "[I", true)
  | 2 => ("ScoreForms$Grammar", "open", "I", false)
  | 3 => ("ScoreForms$Grammar", "stage", "I", false)
  | 4 => ("ScoreForms$Grammar", "partDue", "Z", false)
  | _ => ("ScoreForms$Grammar", "figureMay", "Z", false)
def tyX1 : Nat → FieldType := fun k => match k with
  | 0 => .array .int
  | 1 => .array .int
  | 2 => .int
  | 3 => .int
  | 4 => .boolean
  | _ => .boolean
abbrev wsX10 : List Cond := u_ws RX1 TX1 6
theorem nmX1 : ∀ a, a < 6 → ∀ b, b < 6 → a ≠ b → (TX1 a).2.1 ≠ (TX1 b).2.1 := by decide +kernel
theorem tyX1_ok : ∀ k, k < 6 → parseFieldDescriptor (TX1 k).2.2.1 = some (tyX1 k) := by decide +kernel
abbrev cX1_init : ByteArray := prog_3_method_1_code
def yX1_init : MethodName := ⟨RX1, "<init>", "()V"⟩
abbrev cX1_restart : ByteArray := prog_3_method_2_code
def yX1_restart : MethodName := ⟨RX1, "restart", "()V"⟩
abbrev cX1_reasonAgainst : ByteArray := prog_3_method_3_code
def yX1_reasonAgainst : MethodName := ⟨RX1, "reasonAgainst", "(I)I"⟩
abbrev cX1_isSign : ByteArray := prog_3_method_4_code
def yX1_isSign : MethodName := ⟨RX1, "isSign", "(I)Z"⟩
abbrev cX1_fitsBehindPart : ByteArray := prog_3_method_5_code
def yX1_fitsBehindPart : MethodName := ⟨RX1, "fitsBehindPart", "(I)Z"⟩
abbrev cX1_accept : ByteArray := prog_3_method_6_code
def yX1_accept : MethodName := ⟨RX1, "accept", "(II)V"⟩
abbrev cX1_mayEnd : ByteArray := prog_3_method_7_code
def yX1_mayEnd : MethodName := ⟨RX1, "mayEnd", "()Z"⟩
def RX2 : String := "ScoreForms$Jumps"
def TX2 : u_T := fun k => match k with
  | 0 => ("ScoreForms$Jumps", "cost", "I", false)
  | 1 => ("ScoreForms$Jumps", "kind", "I", false)
  | 2 => ("ScoreForms$Jumps", "first", "I", false)
  | _ => ("ScoreForms$Jumps", "second", "I", false)
def tyX2 : Nat → FieldType := fun k => match k with
  | 0 => .int
  | 1 => .int
  | 2 => .int
  | _ => .int
abbrev wsX20 : List Cond := u_ws RX2 TX2 4
theorem nmX2 : ∀ a, a < 4 → ∀ b, b < 4 → a ≠ b → (TX2 a).2.1 ≠ (TX2 b).2.1 := by decide +kernel
theorem tyX2_ok : ∀ k, k < 4 → parseFieldDescriptor (TX2 k).2.2.1 = some (tyX2 k) := by decide +kernel
abbrev cX2_init : ByteArray := prog_4_method_1_code
def yX2_init : MethodName := ⟨RX2, "<init>", "()V"⟩
abbrev cX2_seek : ByteArray := prog_4_method_2_code
def yX2_seek : MethodName := ⟨RX2, "seek", "(LScoreForms$Spans;I)V"⟩
abbrev cX2_seekFromSign : ByteArray := prog_4_method_3_code
def yX2_seekFromSign : MethodName := ⟨RX2, "seekFromSign", "(LScoreForms$Spans;II)V"⟩
abbrev cX2_offer : ByteArray := prog_4_method_4_code
def yX2_offer : MethodName := ⟨RX2, "offer", "(IIII)V"⟩
def RX3 : String := "ScoreForms$Mending"
def TX3 : u_T := fun k => match k with
  | 0 => ("ScoreForms$Mending", "rest", "LScoreForms$Spans;", true)
  | 1 => ("ScoreForms$Mending", "best", "LScoreForms$Jumps;", true)
  | 2 => ("ScoreForms$Mending", "which", "I", false)
  | _ => ("ScoreForms$Mending", "cost", "I", false)
def tyX3 : Nat → FieldType := fun k => match k with
  | 0 => .object "ScoreForms$Spans"
  | 1 => .object "ScoreForms$Jumps"
  | 2 => .int
  | _ => .int
abbrev wsX30 : List Cond := u_ws RX3 TX3 4
theorem nmX3 : ∀ a, a < 4 → ∀ b, b < 4 → a ≠ b → (TX3 a).2.1 ≠ (TX3 b).2.1 := by decide +kernel
theorem tyX3_ok : ∀ k, k < 4 → parseFieldDescriptor (TX3 k).2.2.1 = some (tyX3 k) := by decide +kernel
abbrev cX3_init : ByteArray := prog_5_method_1_code
def yX3_init : MethodName := ⟨RX3, "<init>", "()V"⟩
abbrev cX3_seek : ByteArray := prog_5_method_2_code
def yX3_seek : MethodName := ⟨RX3, "seek", "(LScoreForms$Bars;LScoreForms$Spans;I)V"⟩
def RX4 : String := "ScoreForms$Player"
def TX4 : u_T := fun k => match k with
  | 0 => ("ScoreForms$Player", "order", "[I", true)
  | 1 => ("ScoreForms$Player", "size", "I", false)
  | 2 => ("ScoreForms$Player", "starts", "[I", true)
  | 3 => ("ScoreForms$Player", "firstEnds", "[I", true)
  | 4 => ("ScoreForms$Player", "open", "I", false)
  | 5 => ("ScoreForms$Player", "jumpStart", "I", false)
  | _ => ("ScoreForms$Player", "jumpEnd", "I", false)
def tyX4 : Nat → FieldType := fun k => match k with
  | 0 => .array .int
  | 1 => .int
  | 2 => .array .int
  | 3 => .array .int
  | 4 => .int
  | 5 => .int
  | _ => .int
abbrev wsX40 : List Cond := u_ws RX4 TX4 7
theorem nmX4 : ∀ a, a < 7 → ∀ b, b < 7 → a ≠ b → (TX4 a).2.1 ≠ (TX4 b).2.1 := by decide +kernel
theorem tyX4_ok : ∀ k, k < 7 → parseFieldDescriptor (TX4 k).2.2.1 = some (tyX4 k) := by decide +kernel
abbrev cX4_init : ByteArray := prog_6_method_1_code
def yX4_init : MethodName := ⟨RX4, "<init>", "()V"⟩
abbrev cX4_restart : ByteArray := prog_6_method_2_code
def yX4_restart : MethodName := ⟨RX4, "restart", "()V"⟩
abbrev cX4_playBar : ByteArray := prog_6_method_3_code
def yX4_playBar : MethodName := ⟨RX4, "playBar", "(I)V"⟩
abbrev cX4_obey : ByteArray := prog_6_method_4_code
def yX4_obey : MethodName := ⟨RX4, "obey", "(I)V"⟩
abbrev cX4_openRepeat : ByteArray := prog_6_method_5_code
def yX4_openRepeat : MethodName := ⟨RX4, "openRepeat", "()V"⟩
abbrev cX4_playOnceMore : ByteArray := prog_6_method_6_code
def yX4_playOnceMore : MethodName := ⟨RX4, "playOnceMore", "(II)V"⟩
def RX5 : String := "ScoreForms$Printer"
def TX5 : u_T := fun k => match k with
  | 0 => ("ScoreForms$Printer", "bytes", "[I", true)
  | _ => ("ScoreForms$Printer", "size", "I", false)
def tyX5 : Nat → FieldType := fun k => match k with
  | 0 => .array .int
  | _ => .int
abbrev wsX50 : List Cond := u_ws RX5 TX5 2
theorem nmX5 : ∀ a, a < 2 → ∀ b, b < 2 → a ≠ b → (TX5 a).2.1 ≠ (TX5 b).2.1 := by decide +kernel
theorem tyX5_ok : ∀ k, k < 2 → parseFieldDescriptor (TX5 k).2.2.1 = some (tyX5 k) := by decide +kernel
abbrev cX5_init : ByteArray := prog_7_method_1_code
def yX5_init : MethodName := ⟨RX5, "<init>", "()V"⟩
abbrev cX5_print : ByteArray := prog_7_method_2_code
def yX5_print : MethodName := ⟨RX5, "print", "(LScoreForms$Spans;LScoreForms$Jumps;I)V"⟩
abbrev cX5_printSpan : ByteArray := prog_7_method_3_code
def yX5_printSpan : MethodName := ⟨RX5, "printSpan", "(LScoreForms$Spans;IIII)V"⟩
abbrev cX5_printEndings : ByteArray := prog_7_method_4_code
def yX5_printEndings : MethodName := ⟨RX5, "printEndings", "(LScoreForms$Spans;IIII)V"⟩
abbrev cX5_printBar : ByteArray := prog_7_method_5_code
def yX5_printBar : MethodName := ⟨RX5, "printBar", "(LScoreForms$Spans;I)V"⟩
abbrev cX5_put : ByteArray := prog_7_method_6_code
def yX5_put : MethodName := ⟨RX5, "put", "(I)V"⟩
def RX6 : String := "ScoreForms$Run"
def TX6 : u_T := fun k => match k with
  | 0 => ("ScoreForms$Run", "bars", "LScoreForms$Bars;", true)
  | 1 => ("ScoreForms$Run", "numbers", "[I", true)
  | 2 => ("ScoreForms$Run", "unlike", "I", false)
  | _ => ("ScoreForms$Run", "faultPlace", "I", false)
def tyX6 : Nat → FieldType := fun k => match k with
  | 0 => .object "ScoreForms$Bars"
  | 1 => .array .int
  | 2 => .int
  | _ => .int
abbrev wsX60 : List Cond := u_ws RX6 TX6 4
theorem nmX6 : ∀ a, a < 4 → ∀ b, b < 4 → a ≠ b → (TX6 a).2.1 ≠ (TX6 b).2.1 := by decide +kernel
theorem tyX6_ok : ∀ k, k < 4 → parseFieldDescriptor (TX6 k).2.2.1 = some (tyX6 k) := by decide +kernel
abbrev cX6_init : ByteArray := prog_8_method_1_code
def yX6_init : MethodName := ⟨RX6, "<init>", "()V"⟩
abbrev cX6_take : ByteArray := prog_8_method_2_code
def yX6_take : MethodName := ⟨RX6, "take", "(LScoreForms$Text;)V"⟩
abbrev cX6_giveNumbers : ByteArray := prog_8_method_3_code
def yX6_giveNumbers : MethodName := ⟨RX6, "giveNumbers", "()V"⟩
def RX7 : String := "ScoreForms$Score"
def TX7 : u_T := fun k => match k with
  | 0 => ("ScoreForms$Score", "printed", "LScoreForms$Bars;", true)
  | 1 => ("ScoreForms$Score", "grammar", "LScoreForms$Grammar;", true)
  | 2 => ("ScoreForms$Score", "player", "LScoreForms$Player;", true)
  | 3 => ("ScoreForms$Score", "signs", "I", false)
  | 4 => ("ScoreForms$Score", "deepest", "I", false)
  | 5 => ("ScoreForms$Score", "faultPlace", "I", false)
  | _ => ("ScoreForms$Score", "faultReason", "I", false)
def tyX7 : Nat → FieldType := fun k => match k with
  | 0 => .object "ScoreForms$Bars"
  | 1 => .object "ScoreForms$Grammar"
  | 2 => .object "ScoreForms$Player"
  | 3 => .int
  | 4 => .int
  | 5 => .int
  | _ => .int
abbrev wsX70 : List Cond := u_ws RX7 TX7 7
theorem nmX7 : ∀ a, a < 7 → ∀ b, b < 7 → a ≠ b → (TX7 a).2.1 ≠ (TX7 b).2.1 := by decide +kernel
theorem tyX7_ok : ∀ k, k < 7 → parseFieldDescriptor (TX7 k).2.2.1 = some (tyX7 k) := by decide +kernel
abbrev cX7_init : ByteArray := prog_9_method_1_code
def yX7_init : MethodName := ⟨RX7, "<init>", "()V"⟩
abbrev cX7_take : ByteArray := prog_9_method_2_code
def yX7_take : MethodName := ⟨RX7, "take", "(LScoreForms$Text;)V"⟩
abbrev cX7_playedCode : ByteArray := prog_9_method_3_code
def yX7_playedCode : MethodName := ⟨RX7, "playedCode", "(I)I"⟩
abbrev cX7_becomeEmpty : ByteArray := prog_9_method_4_code
def yX7_becomeEmpty : MethodName := ⟨RX7, "becomeEmpty", "()V"⟩
abbrev cX7_blame : ByteArray := prog_9_method_5_code
def yX7_blame : MethodName := ⟨RX7, "blame", "(II)V"⟩
abbrev cX7_accept : ByteArray := prog_9_method_6_code
def yX7_accept : MethodName := ⟨RX7, "accept", "(II)V"⟩
def RX8 : String := "ScoreForms$Sheet"
def TX8 : u_T := fun k => match k with
  | 0 => ("ScoreForms$Sheet", "items", "[I", true)
  | 1 => ("ScoreForms$Sheet", "lost", "Z", false)
  | 2 => ("ScoreForms$Sheet", "form", "I", false)
  | _ => ("ScoreForms$Sheet", "size", "I", false)
def tyX8 : Nat → FieldType := fun k => match k with
  | 0 => .array .int
  | 1 => .boolean
  | 2 => .int
  | _ => .int
abbrev wsX80 : List Cond := u_ws RX8 TX8 4
theorem nmX8 : ∀ a, a < 4 → ∀ b, b < 4 → a ≠ b → (TX8 a).2.1 ≠ (TX8 b).2.1 := by decide +kernel
theorem tyX8_ok : ∀ k, k < 4 → parseFieldDescriptor (TX8 k).2.2.1 = some (tyX8 k) := by decide +kernel
abbrev cX8_init : ByteArray := prog_10_method_1_code
def yX8_init : MethodName := ⟨RX8, "<init>", "()V"⟩
abbrev cX8_renew : ByteArray := prog_10_method_2_code
def yX8_renew : MethodName := ⟨RX8, "renew", "(II)V"⟩
abbrev cX8_holds : ByteArray := prog_10_method_3_code
def yX8_holds : MethodName := ⟨RX8, "holds", "(II)Z"⟩
abbrev cX8_put : ByteArray := prog_10_method_4_code
def yX8_put : MethodName := ⟨RX8, "put", "(II)V"⟩
def RX9 : String := "ScoreForms$Spans"
def TX9 : u_T := fun k => match k with
  | 0 => ("ScoreForms$Spans", "codes", "[I", true)
  | 1 => ("ScoreForms$Spans", "size", "I", false)
  | 2 => ("ScoreForms$Spans", "alikes", "[I", true)
  | _ => ("ScoreForms$Spans", "costs", "[I", true)
def tyX9 : Nat → FieldType := fun k => match k with
  | 0 => .array .int
  | 1 => .int
  | 2 => .array .int
  | _ => .array .int
abbrev wsX90 : List Cond := u_ws RX9 TX9 4
theorem nmX9 : ∀ a, a < 4 → ∀ b, b < 4 → a ≠ b → (TX9 a).2.1 ≠ (TX9 b).2.1 := by decide +kernel
theorem tyX9_ok : ∀ k, k < 4 → parseFieldDescriptor (TX9 k).2.2.1 = some (tyX9 k) := by decide +kernel
abbrev cX9_init : ByteArray := prog_11_method_1_code
def yX9_init : MethodName := ⟨RX9, "<init>", "()V"⟩
abbrev cX9_take : ByteArray := prog_11_method_2_code
def yX9_take : MethodName := ⟨RX9, "take", "(LScoreForms$Bars;I)V"⟩
abbrev cX9_settle : ByteArray := prog_11_method_3_code
def yX9_settle : MethodName := ⟨RX9, "settle", "(ILScoreForms$Spans;I)V"⟩
abbrev cX9_has : ByteArray := prog_11_method_4_code
def yX9_has : MethodName := ⟨RX9, "has", "(I)Z"⟩
abbrev cX9_alikeFrom : ByteArray := prog_11_method_5_code
def yX9_alikeFrom : MethodName := ⟨RX9, "alikeFrom", "(II)I"⟩
abbrev cX9_cost : ByteArray := prog_11_method_6_code
def yX9_cost : MethodName := ⟨RX9, "cost", "(III)I"⟩
abbrev cX9_cut : ByteArray := prog_11_method_7_code
def yX9_cut : MethodName := ⟨RX9, "cut", "(III)I"⟩
abbrev cX9_isRepeat : ByteArray := prog_11_method_8_code
def yX9_isRepeat : MethodName := ⟨RX9, "isRepeat", "(III)Z"⟩
abbrev cX9_endings : ByteArray := prog_11_method_9_code
def yX9_endings : MethodName := ⟨RX9, "endings", "(III)I"⟩
abbrev cX9_mayRepeat : ByteArray := prog_11_method_10_code
def yX9_mayRepeat : MethodName := ⟨RX9, "mayRepeat", "(III)Z"⟩
abbrev cX9_cheapest : ByteArray := prog_11_method_11_code
def yX9_cheapest : MethodName := ⟨RX9, "cheapest", "(III)I"⟩
abbrev cX9_cheapestEndings : ByteArray := prog_11_method_12_code
def yX9_cheapestEndings : MethodName := ⟨RX9, "cheapestEndings", "(III)I"⟩
abbrev cX9_endingsCost : ByteArray := prog_11_method_13_code
def yX9_endingsCost : MethodName := ⟨RX9, "endingsCost", "(IIIII)I"⟩
def RX10 : String := "ScoreForms$Text"
def TX10 : u_T := fun k => match k with
  | 0 => ("ScoreForms$Text", "bytes", "[I", true)
  | _ => ("ScoreForms$Text", "size", "I", false)
def tyX10 : Nat → FieldType := fun k => match k with
  | 0 => .array .int
  | _ => .int
abbrev wsX100 : List Cond := u_ws RX10 TX10 2
theorem nmX10 : ∀ a, a < 2 → ∀ b, b < 2 → a ≠ b → (TX10 a).2.1 ≠ (TX10 b).2.1 := by decide +kernel
theorem tyX10_ok : ∀ k, k < 2 → parseFieldDescriptor (TX10 k).2.2.1 = some (tyX10 k) := by decide +kernel
abbrev cX10_init : ByteArray := prog_12_method_1_code
def yX10_init : MethodName := ⟨RX10, "<init>", "(I)V"⟩
abbrev cX10_isFull : ByteArray := prog_12_method_2_code
def yX10_isFull : MethodName := ⟨RX10, "isFull", "()Z"⟩
abbrev cX10_add : ByteArray := prog_12_method_3_code
def yX10_add : MethodName := ⟨RX10, "add", "(I)V"⟩
def RX11 : String := "ScoreForms"
def TX11 : u_T := fun k => match k with
  | 0 => ("ScoreForms", "texts", "[LScoreForms$Text;", true)
  | 1 => ("ScoreForms", "theRun", "LScoreForms$Run;", true)
  | 2 => ("ScoreForms", "theScore", "LScoreForms$Score;", true)
  | 3 => ("ScoreForms", "spans", "LScoreForms$Spans;", true)
  | 4 => ("ScoreForms", "jumps", "LScoreForms$Jumps;", true)
  | 5 => ("ScoreForms", "printer", "LScoreForms$Printer;", true)
  | 6 => ("ScoreForms", "mending", "LScoreForms$Mending;", true)
  | 7 => ("ScoreForms", "sheets", "[LScoreForms$Sheet;", true)
  | 8 => ("ScoreForms", "depthNow", "I", false)
  | 9 => ("ScoreForms", "latestFinding", "I", false)
  | 10 => ("ScoreForms", "runStale", "Z", false)
  | 11 => ("ScoreForms", "scoreStale", "Z", false)
  | 12 => ("ScoreForms", "spansStale", "Z", false)
  | 13 => ("ScoreForms", "foundStale", "Z", false)
  | _ => ("ScoreForms", "mendStale", "Z", false)
def tyX11 : Nat → FieldType := fun k => match k with
  | 0 => .array (.object "ScoreForms$Text")
  | 1 => .object "ScoreForms$Run"
  | 2 => .object "ScoreForms$Score"
  | 3 => .object "ScoreForms$Spans"
  | 4 => .object "ScoreForms$Jumps"
  | 5 => .object "ScoreForms$Printer"
  | 6 => .object "ScoreForms$Mending"
  | 7 => .array (.object "ScoreForms$Sheet")
  | 8 => .int
  | 9 => .int
  | 10 => .boolean
  | 11 => .boolean
  | 12 => .boolean
  | 13 => .boolean
  | _ => .boolean
abbrev wsX110 : List Cond := u_ws RX11 TX11 15
theorem nmX11 : ∀ a, a < 15 → ∀ b, b < 15 → a ≠ b → (TX11 a).2.1 ≠ (TX11 b).2.1 := by decide +kernel
theorem tyX11_ok : ∀ k, k < 15 → parseFieldDescriptor (TX11 k).2.2.1 = some (tyX11 k) := by decide +kernel
abbrev cX11_init : ByteArray := prog_1_method_1_code
def yX11_init : MethodName := ⟨RX11, "<init>", "()V"⟩
abbrev cX11_type : ByteArray := prog_1_method_2_code
def yX11_type : MethodName := ⟨RX11, "type", "(II)I"⟩
abbrev cX11_wipe : ByteArray := prog_1_method_3_code
def yX11_wipe : MethodName := ⟨RX11, "wipe", "(I)I"⟩
abbrev cX11_undo : ByteArray := prog_1_method_4_code
def yX11_undo : MethodName := ⟨RX11, "undo", "(I)I"⟩
abbrev cX11_read : ByteArray := prog_1_method_5_code
def yX11_read : MethodName := ⟨RX11, "read", "(II)I"⟩
abbrev cX11_depth : ByteArray := prog_1_method_6_code
def yX11_depth : MethodName := ⟨RX11, "depth", "(I)I"⟩
abbrev cX11_fault : ByteArray := prog_1_method_7_code
def yX11_fault : MethodName := ⟨RX11, "fault", "(II)I"⟩
abbrev cX11_within : ByteArray := prog_1_method_8_code
def yX11_within : MethodName := ⟨RX11, "within", "(I)I"⟩
abbrev cX11_bar : ByteArray := prog_1_method_9_code
def yX11_bar : MethodName := ⟨RX11, "bar", "(I)I"⟩
abbrev cX11_alike : ByteArray := prog_1_method_10_code
def yX11_alike : MethodName := ⟨RX11, "alike", "(II)I"⟩
abbrev cX11_again : ByteArray := prog_1_method_11_code
def yX11_again : MethodName := ⟨RX11, "again", "(II)I"⟩
abbrev cX11_plays : ByteArray := prog_1_method_12_code
def yX11_plays : MethodName := ⟨RX11, "plays", "(I)I"⟩
abbrev cX11_often : ByteArray := prog_1_method_13_code
def yX11_often : MethodName := ⟨RX11, "often", "(I)I"⟩
abbrev cX11_score : ByteArray := prog_1_method_14_code
def yX11_score : MethodName := ⟨RX11, "score", "(I)I"⟩
abbrev cX11_same : ByteArray := prog_1_method_15_code
def yX11_same : MethodName := ⟨RX11, "same", "()I"⟩
abbrev cX11_first : ByteArray := prog_1_method_16_code
def yX11_first : MethodName := ⟨RX11, "first", "()I"⟩
abbrev cX11_span : ByteArray := prog_1_method_17_code
def yX11_span : MethodName := ⟨RX11, "span", "(IIII)I"⟩
abbrev cX11_found : ByteArray := prog_1_method_18_code
def yX11_found : MethodName := ⟨RX11, "found", "(I)I"⟩
abbrev cX11_shown : ByteArray := prog_1_method_19_code
def yX11_shown : MethodName := ⟨RX11, "shown", "(I)I"⟩
abbrev cX11_mend : ByteArray := prog_1_method_20_code
def yX11_mend : MethodName := ⟨RX11, "mend", "(I)I"⟩
abbrev cX11_sheet : ByteArray := prog_1_method_21_code
def yX11_sheet : MethodName := ⟨RX11, "sheet", "(III)I"⟩
abbrev cX11_lose : ByteArray := prog_1_method_22_code
def yX11_lose : MethodName := ⟨RX11, "lose", "(I)I"⟩
abbrev cX11_lay : ByteArray := prog_1_method_23_code
def yX11_lay : MethodName := ⟨RX11, "lay", "(IIII)I"⟩
abbrev cX11_get : ByteArray := prog_1_method_24_code
def yX11_get : MethodName := ⟨RX11, "get", "(III)I"⟩
abbrev cX11_copy : ByteArray := prog_1_method_25_code
def yX11_copy : MethodName := ⟨RX11, "copy", "(IIIII)I"⟩
abbrev cX11_write : ByteArray := prog_1_method_26_code
def yX11_write : MethodName := ⟨RX11, "write", "(I)I"⟩
abbrev cX11_count : ByteArray := prog_1_method_27_code
def yX11_count : MethodName := ⟨RX11, "count", "(I)I"⟩
abbrev cX11_digest : ByteArray := prog_1_method_28_code
def yX11_digest : MethodName := ⟨RX11, "digest", "()J"⟩
abbrev cX11_isText : ByteArray := prog_1_method_29_code
def yX11_isText : MethodName := ⟨RX11, "isText", "(I)Z"⟩
abbrev cX11_isByte : ByteArray := prog_1_method_30_code
def yX11_isByte : MethodName := ⟨RX11, "isByte", "(I)Z"⟩
abbrev cX11_isDepth : ByteArray := prog_1_method_31_code
def yX11_isDepth : MethodName := ⟨RX11, "isDepth", "(I)Z"⟩
abbrev cX11_isSheet : ByteArray := prog_1_method_32_code
def yX11_isSheet : MethodName := ⟨RX11, "isSheet", "(I)Z"⟩
abbrev cX11_isForm : ByteArray := prog_1_method_33_code
def yX11_isForm : MethodName := ⟨RX11, "isForm", "(I)Z"⟩
abbrev cX11_isLetter : ByteArray := prog_1_method_34_code
def yX11_isLetter : MethodName := ⟨RX11, "isLetter", "(I)Z"⟩
abbrev cX11_isFigure : ByteArray := prog_1_method_35_code
def yX11_isFigure : MethodName := ⟨RX11, "isFigure", "(I)Z"⟩
abbrev cX11_barsOf : ByteArray := prog_1_method_36_code
def yX11_barsOf : MethodName := ⟨RX11, "barsOf", "(I)I"⟩
abbrev cX11_signsOf : ByteArray := prog_1_method_37_code
def yX11_signsOf : MethodName := ⟨RX11, "signsOf", "(I)I"⟩
abbrev cX11_hindranceAt : ByteArray := prog_1_method_38_code
def yX11_hindranceAt : MethodName := ⟨RX11, "hindranceAt", "(LScoreForms$Sheet;II)I"⟩
abbrev cX11_finding : ByteArray := prog_1_method_39_code
def yX11_finding : MethodName := ⟨RX11, "finding", "(I)I"⟩
abbrev cX11_noteChange : ByteArray := prog_1_method_40_code
def yX11_noteChange : MethodName := ⟨RX11, "noteChange", "(I)V"⟩
abbrev cX11_freshRun : ByteArray := prog_1_method_41_code
def yX11_freshRun : MethodName := ⟨RX11, "freshRun", "()LScoreForms$Run;"⟩
abbrev cX11_freshScore : ByteArray := prog_1_method_42_code
def yX11_freshScore : MethodName := ⟨RX11, "freshScore", "()LScoreForms$Score;"⟩
abbrev cX11_freshSpans : ByteArray := prog_1_method_43_code
def yX11_freshSpans : MethodName := ⟨RX11, "freshSpans", "()LScoreForms$Spans;"⟩
abbrev cX11_freshFound : ByteArray := prog_1_method_44_code
def yX11_freshFound : MethodName := ⟨RX11, "freshFound", "()LScoreForms$Jumps;"⟩
abbrev cX11_freshMending : ByteArray := prog_1_method_45_code
def yX11_freshMending : MethodName := ⟨RX11, "freshMending", "()LScoreForms$Mending;"⟩
def RX12 : String := "ScoreFormsModel"
def TX12 : u_T := fun k => match k with
  | 0 => ("ScoreFormsModel", "forms", "[I", true)
  | 1 => ("ScoreFormsModel", "sizes", "[I", true)
  | 2 => ("ScoreFormsModel", "items", "[I", true)
  | 3 => ("ScoreFormsModel", "moved", "[I", true)
  | 4 => ("ScoreFormsModel", "latest", "I", false)
  | 5 => ("ScoreFormsModel", "run", "[I", true)
  | 6 => ("ScoreFormsModel", "score", "[I", true)
  | 7 => ("ScoreFormsModel", "typed", "[I", true)
  | 8 => ("ScoreFormsModel", "depth", "I", false)
  | 9 => ("ScoreFormsModel", "bars", "I", false)
  | 10 => ("ScoreFormsModel", "bar", "[I", true)
  | 11 => ("ScoreFormsModel", "number", "[I", true)
  | 12 => ("ScoreFormsModel", "unlike", "I", false)
  | 13 => ("ScoreFormsModel", "place", "I", false)
  | 14 => ("ScoreFormsModel", "reason", "I", false)
  | 15 => ("ScoreFormsModel", "open", "I", false)
  | 16 => ("ScoreFormsModel", "opens", "[I", true)
  | 17 => ("ScoreFormsModel", "stages", "[I", true)
  | 18 => ("ScoreFormsModel", "colon", "[I", true)
  | 19 => ("ScoreFormsModel", "semi", "[I", true)
  | 20 => ("ScoreFormsModel", "shut", "[I", true)
  | 21 => ("ScoreFormsModel", "percent", "I", false)
  | 22 => ("ScoreFormsModel", "bang", "I", false)
  | 23 => ("ScoreFormsModel", "dollar", "I", false)
  | 24 => ("ScoreFormsModel", "printed", "I", false)
  | 25 => ("ScoreFormsModel", "signs", "I", false)
  | 26 => ("ScoreFormsModel", "deepest", "I", false)
  | 27 => ("ScoreFormsModel", "which", "[I", true)
  | 28 => ("ScoreFormsModel", "bytesOf", "[I", true)
  | 29 => ("ScoreFormsModel", "order", "[I", true)
  | 30 => ("ScoreFormsModel", "many", "I", false)
  | 31 => ("ScoreFormsModel", "like", "[I", true)
  | 32 => ("ScoreFormsModel", "played", "[I", true)
  | 33 => ("ScoreFormsModel", "plays", "I", false)
  | 34 => ("ScoreFormsModel", "passes", "[I", true)
  | 35 => ("ScoreFormsModel", "from", "[I", true)
  | 36 => ("ScoreFormsModel", "cost", "[I", true)
  | 37 => ("ScoreFormsModel", "how", "[I", true)
  | 38 => ("ScoreFormsModel", "foundCost", "I", false)
  | 39 => ("ScoreFormsModel", "foundHow", "I", false)
  | 40 => ("ScoreFormsModel", "foundA", "I", false)
  | 41 => ("ScoreFormsModel", "foundB", "I", false)
  | 42 => ("ScoreFormsModel", "out", "[I", true)
  | 43 => ("ScoreFormsModel", "shown", "I", false)
  | 44 => ("ScoreFormsModel", "waits", "[I", true)
  | 45 => ("ScoreFormsModel", "high", "I", false)
  | 46 => ("ScoreFormsModel", "mendWhich", "I", false)
  | _ => ("ScoreFormsModel", "mendCost", "I", false)
def tyX12 : Nat → FieldType := fun k => match k with
  | 0 => .array .int
  | 1 => .array .int
  | 2 => .array .int
  | 3 => .array .int
  | 4 => .int
  | 5 => .array .int
  | 6 => .array .int
  | 7 => .array .int
  | 8 => .int
  | 9 => .int
  | 10 => .array .int
  | 11 => .array .int
  | 12 => .int
  | 13 => .int
  | 14 => .int
  | 15 => .int
  | 16 => .array .int
  | 17 => .array .int
  | 18 => .array .int
  | 19 => .array .int
  | 20 => .array .int
  | 21 => .int
  | 22 => .int
  | 23 => .int
  | 24 => .int
  | 25 => .int
  | 26 => .int
  | 27 => .array .int
  | 28 => .array .int
  | 29 => .array .int
  | 30 => .int
  | 31 => .array .int
  | 32 => .array .int
  | 33 => .int
  | 34 => .array .int
  | 35 => .array .int
  | 36 => .array .int
  | 37 => .array .int
  | 38 => .int
  | 39 => .int
  | 40 => .int
  | 41 => .int
  | 42 => .array .int
  | 43 => .int
  | 44 => .array .int
  | 45 => .int
  | 46 => .int
  | _ => .int
abbrev wsX120 : List Cond := u_ws RX12 TX12 48
theorem nmX12 : ∀ a, a < 48 → ∀ b, b < 48 → a ≠ b → (TX12 a).2.1 ≠ (TX12 b).2.1 := by decide +kernel
theorem tyX12_ok : ∀ k, k < 48 → parseFieldDescriptor (TX12 k).2.2.1 = some (tyX12 k) := by decide +kernel
abbrev cX12_init : ByteArray := prog_14_method_1_code
def yX12_init : MethodName := ⟨RX12, "<init>", "()V"⟩
abbrev cX12_in : ByteArray := prog_14_method_3_code
def yX12_in : MethodName := ⟨RX12, "in", "(JJJ)Z"⟩
abbrev cX12_isTwo : ByteArray := prog_14_method_4_code
def yX12_isTwo : MethodName := ⟨RX12, "isTwo", "(I)Z"⟩
abbrev cX12_lesser : ByteArray := prog_14_method_6_code
def yX12_lesser : MethodName := ⟨RX12, "lesser", "(II)I"⟩
abbrev cX12_greater : ByteArray := prog_14_method_7_code
def yX12_greater : MethodName := ⟨RX12, "greater", "(II)I"⟩
abbrev cX12_finds : ByteArray := prog_14_method_8_code
def yX12_finds : MethodName := ⟨RX12, "finds", "(I)I"⟩
abbrev cX12_isSheet : ByteArray := prog_14_method_9_code
def yX12_isSheet : MethodName := ⟨RX12, "isSheet", "(I)Z"⟩
abbrev cX12_sheet : ByteArray := prog_14_method_10_code
def yX12_sheet : MethodName := ⟨RX12, "sheet", "(III)I"⟩
abbrev cX12_lose : ByteArray := prog_14_method_11_code
def yX12_lose : MethodName := ⟨RX12, "lose", "(I)I"⟩
abbrev cX12_lacks : ByteArray := prog_14_method_12_code
def yX12_lacks : MethodName := ⟨RX12, "lacks", "(III)I"⟩
abbrev cX12_cut : ByteArray := prog_14_method_13_code
def yX12_cut : MethodName := ⟨RX12, "cut", "(II)I"⟩
abbrev cX12_lay : ByteArray := prog_14_method_14_code
def yX12_lay : MethodName := ⟨RX12, "lay", "(IIII)I"⟩
abbrev cX12_get : ByteArray := prog_14_method_15_code
def yX12_get : MethodName := ⟨RX12, "get", "(III)I"⟩
abbrev cX12_copy : ByteArray := prog_14_method_16_code
def yX12_copy : MethodName := ⟨RX12, "copy", "(IIIII)I"⟩
abbrev cX12_type : ByteArray := prog_14_method_17_code
def yX12_type : MethodName := ⟨RX12, "type", "(II)I"⟩
abbrev cX12_wipe : ByteArray := prog_14_method_18_code
def yX12_wipe : MethodName := ⟨RX12, "wipe", "(I)I"⟩
abbrev cX12_undo : ByteArray := prog_14_method_19_code
def yX12_undo : MethodName := ⟨RX12, "undo", "(I)I"⟩
abbrev cX12_read : ByteArray := prog_14_method_20_code
def yX12_read : MethodName := ⟨RX12, "read", "(II)I"⟩
abbrev cX12_depth : ByteArray := prog_14_method_21_code
def yX12_depth : MethodName := ⟨RX12, "depth", "(I)I"⟩
abbrev cX12_isLetter : ByteArray := prog_14_method_22_code
def yX12_isLetter : MethodName := ⟨RX12, "isLetter", "(I)Z"⟩
abbrev cX12_isFigure : ByteArray := prog_14_method_23_code
def yX12_isFigure : MethodName := ⟨RX12, "isFigure", "(I)Z"⟩
abbrev cX12_readsRun : ByteArray := prog_14_method_24_code
def yX12_readsRun : MethodName := ⟨RX12, "readsRun", "()I"⟩
abbrev cX12_numbers : ByteArray := prog_14_method_25_code
def yX12_numbers : MethodName := ⟨RX12, "numbers", "()V"⟩
abbrev cX12_isSign : ByteArray := prog_14_method_26_code
def yX12_isSign : MethodName := ⟨RX12, "isSign", "(I)Z"⟩
abbrev cX12_isOpen : ByteArray := prog_14_method_27_code
def yX12_isOpen : MethodName := ⟨RX12, "isOpen", "(I)Z"⟩
abbrev cX12_closes : ByteArray := prog_14_method_28_code
def yX12_closes : MethodName := ⟨RX12, "closes", "(I)Z"⟩
abbrev cX12_goesOn : ByteArray := prog_14_method_29_code
def yX12_goesOn : MethodName := ⟨RX12, "goesOn", "(II)Z"⟩
abbrev cX12_marks : ByteArray := prog_14_method_30_code
def yX12_marks : MethodName := ⟨RX12, "marks", "(II)Z"⟩
abbrev cX12_signed : ByteArray := prog_14_method_31_code
def yX12_signed : MethodName := ⟨RX12, "signed", "(II)Z"⟩
abbrev cX12_opensOne : ByteArray := prog_14_method_32_code
def yX12_opensOne : MethodName := ⟨RX12, "opensOne", "(I)V"⟩
abbrev cX12_fails : ByteArray := prog_14_method_33_code
def yX12_fails : MethodName := ⟨RX12, "fails", "(II)V"⟩
abbrev cX12_takes : ByteArray := prog_14_method_34_code
def yX12_takes : MethodName := ⟨RX12, "takes", "(IZ)I"⟩
abbrev cX12_readsScore : ByteArray := prog_14_method_35_code
def yX12_readsScore : MethodName := ⟨RX12, "readsScore", "()V"⟩
abbrev cX12_look : ByteArray := prog_14_method_36_code
def yX12_look : MethodName := ⟨RX12, "look", "()V"⟩
abbrev cX12_faultBy : ByteArray := prog_14_method_37_code
def yX12_faultBy : MethodName := ⟨RX12, "faultBy", "(II)I"⟩
abbrev cX12_fault : ByteArray := prog_14_method_38_code
def yX12_fault : MethodName := ⟨RX12, "fault", "(II)I"⟩
abbrev cX12_withinBy : ByteArray := prog_14_method_39_code
def yX12_withinBy : MethodName := ⟨RX12, "withinBy", "(I)I"⟩
abbrev cX12_within : ByteArray := prog_14_method_40_code
def yX12_within : MethodName := ⟨RX12, "within", "(I)I"⟩
abbrev cX12_orders : ByteArray := prog_14_method_41_code
def yX12_orders : MethodName := ⟨RX12, "orders", "(I)V"⟩
abbrev cX12_find : ByteArray := prog_14_method_42_code
def yX12_find : MethodName := ⟨RX12, "find", "()V"⟩
abbrev cX12_isBar : ByteArray := prog_14_method_43_code
def yX12_isBar : MethodName := ⟨RX12, "isBar", "(I)Z"⟩
abbrev cX12_bar : ByteArray := prog_14_method_44_code
def yX12_bar : MethodName := ⟨RX12, "bar", "(I)I"⟩
abbrev cX12_alike : ByteArray := prog_14_method_45_code
def yX12_alike : MethodName := ⟨RX12, "alike", "(II)I"⟩
abbrev cX12_againBy : ByteArray := prog_14_method_46_code
def yX12_againBy : MethodName := ⟨RX12, "againBy", "(II)I"⟩
abbrev cX12_isPlace : ByteArray := prog_14_method_47_code
def yX12_isPlace : MethodName := ⟨RX12, "isPlace", "(I)Z"⟩
abbrev cX12_again : ByteArray := prog_14_method_48_code
def yX12_again : MethodName := ⟨RX12, "again", "(II)I"⟩
abbrev cX12_after : ByteArray := prog_14_method_49_code
def yX12_after : MethodName := ⟨RX12, "after", "(II)I"⟩
abbrev cX12_playing : ByteArray := prog_14_method_50_code
def yX12_playing : MethodName := ⟨RX12, "playing", "(II)V"⟩
abbrev cX12_playsAll : ByteArray := prog_14_method_51_code
def yX12_playsAll : MethodName := ⟨RX12, "playsAll", "()V"⟩
abbrev cX12_playsBy : ByteArray := prog_14_method_52_code
def yX12_playsBy : MethodName := ⟨RX12, "playsBy", "(I)I"⟩
abbrev cX12_plays : ByteArray := prog_14_method_53_code
def yX12_plays : MethodName := ⟨RX12, "plays", "(I)I"⟩
abbrev cX12_oftenBy : ByteArray := prog_14_method_54_code
def yX12_oftenBy : MethodName := ⟨RX12, "oftenBy", "(I)I"⟩
abbrev cX12_often : ByteArray := prog_14_method_55_code
def yX12_often : MethodName := ⟨RX12, "often", "(I)I"⟩
abbrev cX12_scoreBy : ByteArray := prog_14_method_56_code
def yX12_scoreBy : MethodName := ⟨RX12, "scoreBy", "(I)I"⟩
abbrev cX12_score : ByteArray := prog_14_method_57_code
def yX12_score : MethodName := ⟨RX12, "score", "(I)I"⟩
abbrev cX12_firstNow : ByteArray := prog_14_method_58_code
def yX12_firstNow : MethodName := ⟨RX12, "firstNow", "()I"⟩
abbrev cX12_same : ByteArray := prog_14_method_59_code
def yX12_same : MethodName := ⟨RX12, "same", "()I"⟩
abbrev cX12_first : ByteArray := prog_14_method_60_code
def yX12_first : MethodName := ⟨RX12, "first", "()I"⟩
abbrev cX12_offers : ByteArray := prog_14_method_61_code
def yX12_offers : MethodName := ⟨RX12, "offers", "(III)V"⟩
abbrev cX12_spans : ByteArray := prog_14_method_62_code
def yX12_spans : MethodName := ⟨RX12, "spans", "(III)V"⟩
abbrev cX12_tables : ByteArray := prog_14_method_63_code
def yX12_tables : MethodName := ⟨RX12, "tables", "()V"⟩
abbrev cX12_spanBy : ByteArray := prog_14_method_64_code
def yX12_spanBy : MethodName := ⟨RX12, "spanBy", "(IIII)I"⟩
abbrev cX12_span : ByteArray := prog_14_method_65_code
def yX12_span : MethodName := ⟨RX12, "span", "(IIII)I"⟩
abbrev cX12_offersFound : ByteArray := prog_14_method_66_code
def yX12_offersFound : MethodName := ⟨RX12, "offersFound", "(IIII)V"⟩
abbrev cX12_costOf : ByteArray := prog_14_method_67_code
def yX12_costOf : MethodName := ⟨RX12, "costOf", "(II)I"⟩
abbrev cX12_finding : ByteArray := prog_14_method_68_code
def yX12_finding : MethodName := ⟨RX12, "finding", "()V"⟩
abbrev cX12_later : ByteArray := prog_14_method_69_code
def yX12_later : MethodName := ⟨RX12, "later", "(I)V"⟩
abbrev cX12_laterSpan : ByteArray := prog_14_method_70_code
def yX12_laterSpan : MethodName := ⟨RX12, "laterSpan", "(III)V"⟩
abbrev cX12_tellsByte : ByteArray := prog_14_method_71_code
def yX12_tellsByte : MethodName := ⟨RX12, "tellsByte", "(I)V"⟩
abbrev cX12_tellsBar : ByteArray := prog_14_method_72_code
def yX12_tellsBar : MethodName := ⟨RX12, "tellsBar", "(I)V"⟩
abbrev cX12_opensSpan : ByteArray := prog_14_method_73_code
def yX12_opensSpan : MethodName := ⟨RX12, "opensSpan", "(I)V"⟩
abbrev cX12_shows : ByteArray := prog_14_method_74_code
def yX12_shows : MethodName := ⟨RX12, "shows", "()V"⟩
abbrev cX12_findAll : ByteArray := prog_14_method_75_code
def yX12_findAll : MethodName := ⟨RX12, "findAll", "()V"⟩
abbrev cX12_foundBy : ByteArray := prog_14_method_76_code
def yX12_foundBy : MethodName := ⟨RX12, "foundBy", "(I)I"⟩
abbrev cX12_found : ByteArray := prog_14_method_77_code
def yX12_found : MethodName := ⟨RX12, "found", "(I)I"⟩
abbrev cX12_shownBy : ByteArray := prog_14_method_78_code
def yX12_shownBy : MethodName := ⟨RX12, "shownBy", "(I)I"⟩
abbrev cX12_shown : ByteArray := prog_14_method_79_code
def yX12_shown : MethodName := ⟨RX12, "shown", "(I)I"⟩
abbrev cX12_mends : ByteArray := prog_14_method_80_code
def yX12_mends : MethodName := ⟨RX12, "mends", "()V"⟩
abbrev cX12_mendBy : ByteArray := prog_14_method_81_code
def yX12_mendBy : MethodName := ⟨RX12, "mendBy", "(I)I"⟩
abbrev cX12_mend : ByteArray := prog_14_method_82_code
def yX12_mend : MethodName := ⟨RX12, "mend", "(I)I"⟩
abbrev cX12_write : ByteArray := prog_14_method_83_code
def yX12_write : MethodName := ⟨RX12, "write", "(I)I"⟩
abbrev cX12_count : ByteArray := prog_14_method_84_code
def yX12_count : MethodName := ⟨RX12, "count", "(I)I"⟩
abbrev cX12_tellsBarOf : ByteArray := prog_14_method_85_code
def yX12_tellsBarOf : MethodName := ⟨RX12, "tellsBarOf", "(JI)J"⟩
abbrev cX12_digest : ByteArray := prog_14_method_86_code
def yX12_digest : MethodName := ⟨RX12, "digest", "()J"⟩
def RJ9 : String := "java/lang/Math"
def TJ9 : u_T := fun k => match k with
  | _ => ("", "", "", false)
def tyJ9 : Nat → FieldType := fun k => match k with
  | _ => .int
abbrev wsJ90 : List Cond := u_ws RJ9 TJ9 0
theorem nmJ9 : ∀ a, a < 0 → ∀ b, b < 0 → a ≠ b → (TJ9 a).2.1 ≠ (TJ9 b).2.1 := by decide +kernel
theorem tyJ9_ok : ∀ k, k < 0 → parseFieldDescriptor (TJ9 k).2.2.1 = some (tyJ9 k) := by decide +kernel
abbrev cJ9_max_7cf53 : ByteArray := prog_15_method_65_code
def yJ9_max_7cf53 : MethodName := ⟨RJ9, "max", "(II)I"⟩
abbrev cJ9_min_7cf53 : ByteArray := prog_15_method_69_code
def yJ9_min_7cf53 : MethodName := ⟨RJ9, "min", "(II)I"⟩
def RJ10 : String := "java/lang/System"
def TJ10 : u_T := fun k => match k with
  | _ => ("", "", "", false)
def tyJ10 : Nat → FieldType := fun k => match k with
  | _ => .int
abbrev wsJ100 : List Cond := u_ws RJ10 TJ10 0
theorem nmJ10 : ∀ a, a < 0 → ∀ b, b < 0 → a ≠ b → (TJ10 a).2.1 ≠ (TJ10 b).2.1 := by decide +kernel
theorem tyJ10_ok : ∀ k, k < 0 → parseFieldDescriptor (TJ10 k).2.2.1 = some (tyJ10 k) := by decide +kernel
def RL : String := "ScoreFormsLaw"
abbrev cL_law : ByteArray := code
def yL_law : MethodName := ⟨RL, "law", "([I)Z"⟩
end
section
/-! A SMALL MACHINE over a heap of fixed shape. Cells are numbered; all that changes is a table of ints, S c k: of an object's cell its int fields, of an array's cell its items. References are fixed once the constructors are done. -/
abbrev zS : Type := Nat → Nat → Int32
/-- the shape of a cell: an int array of a length; an array of references to cells; an object of a class, its fields: none is an int, some c the cell it refers to -/
abbrev zD : Type := Nat ⊕ (List Nat ⊕ (Nat × List (Option Nat)))
/-- a row of code: pc, instruction, the next pc, a constant, three numbers, the place of its word -/
abbrev zI : Type := Nat × Instr × Nat × Int32 × Nat × Nat × Nat × Nat
abbrev zC : Type := List (List zI)
abbrev zLs : Type := List (Option Value)
abbrev zKT : Type := Nat → List Value → zS → (Option Value → zS → Prop) → Prop
abbrev zXT : Type := Nat → zLs → List Value → zS → Prop
/-- a method: name, bytes, locals, its return type, the kind of that (0 nothing, 1 int, 2 boolean, 3 long, 4 a reference), parameters, 0 or 1 and its class' number, code -/
abbrev zMI : Type := MethodName × ByteArray × Nat × Option FieldType × Nat × Nat × Nat × zC
def zu (S : zS) (c k : Nat) (v : Int32) : zS := fun c' => if c' = c then upd (S c) k v else S c'
def zcp (S : zS) (c0 c1 sp dp n : Nat) : zS := fun c' => if c' = c1 then va_cpy (S c0) (S c1) sp dp n else S c'
def zn {α : Type} : List α → Nat → Option α
  | [], _ => none
  | a :: _, 0 => some a
  | _ :: t, n + 1 => zn t n
theorem zn_eq {α : Type} (l : List α) (n : Nat) : zn l n = l[n]? := by
  induction l generalizing n with
  | nil => simp [zn]
  | cons a t ih => cases n with
    | zero => simp [zn]
    | succ n => simp [zn, ih]
def zlk : List zI → Nat → Option zI
  | [], _ => none
  | x :: t, pc => bif Nat.beq x.1 pc then some x else zlk t pc
def zat (C : zC) (pc : Nat) : Option zI := match zn C (pc / 16) with
  | none => none
  | some l => zlk l pc
def zpI (st : List Value) (f : Int32 → List Value → Prop) : Prop := match st with
  | .int x :: r => f x r
  | _ => False
def zpL (st : List Value) (f : Int64 → List Value → Prop) : Prop := match st with
  | .long x :: r => f x r
  | _ => False
def zpR (st : List Value) (f : Nat → List Value → Prop) : Prop := match st with
  | .ref x :: r => f x r
  | _ => False
def zvI (v : Value) (f : Int32 → Prop) : Prop := match v with
  | .int x => f x
  | _ => False
def zvL (v : Value) (f : Int64 → Prop) : Prop := match v with
  | .long x => f x
  | _ => False
/-- a reference or null -/
def zvA (v : Value) (f : Value → Prop) : Prop := match v with
  | .ref x => f (.ref x)
  | .null => f .null
  | _ => False
def zgl : zLs → Nat → (Value → Prop) → Prop
  | some v :: _, 0, f => f v
  | _ :: t, n + 1, f => zgl t n f
  | _, _, _ => False
def zkl : Option Value → Option Value
  | some (.long _) => none
  | a => a
def zsl : zLs → Nat → Value → (zLs → Prop) → Prop
  | _ :: t, 0, v, f => f (some v :: t)
  | a :: _ :: t, 1, v, f => f (zkl a :: some v :: t)
  | a :: t, n + 2, v, f => zsl t (n + 1) v (fun t' => f (a :: t'))
  | _, _, _, _ => False
def zsl2 : zLs → Nat → Value → (zLs → Prop) → Prop
  | _ :: _ :: t, 0, v, f => f (some v :: none :: t)
  | a :: _ :: _ :: t, 1, v, f => f (zkl a :: some v :: none :: t)
  | a :: t, n + 2, v, f => zsl2 t (n + 1) v (fun t' => f (a :: t'))
  | _, _, _, _ => False
def zpop : Nat → List Value → List Value → (List Value → List Value → Prop) → Prop
  | 0, st, acc, f => f acc st
  | n + 1, v :: st, acc, f => zpop n st (v :: acc) f
  | _ + 1, [], _, _ => False
def zpush (r : Option Value) (st : List Value) : List Value := match r with
  | some v => v :: st
  | none => st
def zfit (st : List Value) : Bool := Nat.ble ((st.map fun v => v.category).sum) 8
def zobj (sh : List zD) (o : Nat) (f : Nat → List (Option Nat) → Prop) : Prop := match zn sh o with
  | some (.inr (.inr (ci, fs))) => f ci fs
  | _ => False
def zarr (sh : List zD) (o : Nat) (f : Nat → Prop) : Prop := match zn sh o with
  | some (.inl n) => f n
  | _ => False
def zrow (sh : List zD) (o : Nat) (f : List Nat → Prop) : Prop := match zn sh o with
  | some (.inr (.inl rs)) => f rs
  | _ => False
def zfld (S : zS) (o k : Nat) (x : Option (Option Nat)) (f : Value → Prop) : Prop := match x with
  | some none => f (.int (S o k))
  | some (some r) => f (.ref r)
  | none => False
def zif (cd : Jvm.ClassFile.Cond) (x y : Int32) (T F : Prop) : Prop := match cd with
  | .eq => (x = y → T) ∧ (¬ x = y → F)
  | .ne => (¬ x = y → T) ∧ (x = y → F)
  | .lt => (x < y → T) ∧ (¬ x < y → F)
  | .ge => (y ≤ x → T) ∧ (¬ y ≤ x → F)
  | .gt => (y < x → T) ∧ (¬ y < x → F)
  | .le => (x ≤ y → T) ∧ (¬ x ≤ y → F)
def ztab (pc : Nat) (x : Int32) (G : Nat → Prop) : List Int → Int → Prop
  | [], _ => True
  | o :: t, lo => (x.toInt = lo → G ((pc : Int) + o).toNat) ∧ ztab pc x G t (lo + 1)
def zlkp (pc : Nat) (x : Int32) (G : Nat → Prop) (dflt : Int) : List (Int × Int) → Prop
  | [] => G ((pc : Int) + dflt).toNat
  | o :: t => (x.toInt = o.1 → G ((pc : Int) + o.2).toNat) ∧ (¬ x.toInt = o.1 → zlkp pc x G dflt t)
/-- one instruction -/
def zin (sh : List zD) (K : zKT) (rt : Nat) (Q : Option Value → zS → Prop) (X : zXT) (pc : Nat) (ins : Instr) (nx : Nat) (k : Int32) (a b c : Nat) (ls : zLs) (st : List Value) (S : zS) : Prop :=
  match ins with
  | .iconst _ => X nx ls (.int k :: st) S
  | .bipush _ => X nx ls (.int k :: st) S
  | .sipush _ => X nx ls (.int k :: st) S
  | .ldc _ => X nx ls (.int k :: st) S
  | .ldc_w _ => X nx ls (.int k :: st) S
  | .lconst _ => X nx ls (.long k.toInt64 :: st) S
  | .ldc2_w _ => X nx ls (.long k.toInt64 :: st) S
  | .aconst_null => X nx ls (.null :: st) S
  | .iload_n n => zgl ls n (fun v => zvI v (fun x => X nx ls (.int x :: st) S))
  | .iload n => zgl ls n (fun v => zvI v (fun x => X nx ls (.int x :: st) S))
  | .lload_n n => zgl ls n (fun v => zvL v (fun x => X nx ls (.long x :: st) S))
  | .lload n => zgl ls n (fun v => zvL v (fun x => X nx ls (.long x :: st) S))
  | .aload_n n => zgl ls n (fun v => zvA v (fun x => X nx ls (x :: st) S))
  | .aload n => zgl ls n (fun v => zvA v (fun x => X nx ls (x :: st) S))
  | .istore_n n => zpI st (fun x r => zsl ls n (.int x) (fun ls => X nx ls r S))
  | .istore n => zpI st (fun x r => zsl ls n (.int x) (fun ls => X nx ls r S))
  | .astore_n n => zpR st (fun x r => zsl ls n (.ref x) (fun ls => X nx ls r S))
  | .astore n => zpR st (fun x r => zsl ls n (.ref x) (fun ls => X nx ls r S))
  | .lstore_n n => zpL st (fun x r => zsl2 ls n (.long x) (fun ls => X nx ls r S))
  | .lstore n => zpL st (fun x r => zsl2 ls n (.long x) (fun ls => X nx ls r S))
  | .iinc n _ => zgl ls n (fun v => zvI v (fun x => zsl ls n (.int (x + k)) (fun ls => X nx ls st S)))
  | .iadd => zpI st (fun y r => zpI r (fun x r => X nx ls (.int (x + y) :: r) S))
  | .isub => zpI st (fun y r => zpI r (fun x r => X nx ls (.int (x - y) :: r) S))
  | .imul => zpI st (fun y r => zpI r (fun x r => X nx ls (.int (x * y) :: r) S))
  | .idiv => zpI st (fun y r => zpI r (fun x r => ¬ y = 0 ∧ X nx ls (.int (x / y) :: r) S))
  | .irem => zpI st (fun y r => zpI r (fun x r => ¬ y = 0 ∧ X nx ls (.int (x - x / y * y) :: r) S))
  | .iand => zpI st (fun y r => zpI r (fun x r => X nx ls (.int (x &&& y) :: r) S))
  | .ineg => zpI st (fun x r => X nx ls (.int (-x) :: r) S)
  | .i2l => zpI st (fun x r => X nx ls (.long x.toInt64 :: r) S)
  | .i2b => zpI st (fun x r => X nx ls (.int x.toInt8.toInt32 :: r) S)
  | .i2s => zpI st (fun x r => X nx ls (.int x.toInt16.toInt32 :: r) S)
  | .ladd => zpL st (fun y r => zpL r (fun x r => X nx ls (.long (x + y) :: r) S))
  | .lmul => zpL st (fun y r => zpL r (fun x r => X nx ls (.long (x * y) :: r) S))
  | .lcmp => zpL st (fun y r => zpL r (fun x r => X nx ls (.int (lg_cmp x y) :: r) S))
  | .dup => match st with
    | .int x :: r => X nx ls (.int x :: .int x :: r) S
    | .ref x :: r => X nx ls (.ref x :: .ref x :: r) S
    | _ => False
  | .dup2 => zpI st (fun y r => zpR r (fun x r => X nx ls (.int y :: .ref x :: .int y :: .ref x :: r) S))
  | .pop => match st with
    | .int _ :: r => X nx ls r S
    | .ref _ :: r => X nx ls r S
    | _ => False
  | .goto _ => X a ls st S
  | .ifCond cd _ => zpI st (fun x r => zif cd x 0 (X a ls r S) (X nx ls r S))
  | .if_icmp cd _ => zpI st (fun y r => zpI r (fun x r => zif cd x y (X a ls r S) (X nx ls r S)))
  | .ifnull _ => match st with
    | .null :: r => X a ls r S
    | .ref _ :: r => X nx ls r S
    | _ => False
  | .tableswitch df lo hi offs => zpI st (fun x r => (x.toInt < lo ∨ hi < x.toInt → X ((pc : Int) + df).toNat ls r S) ∧ ztab pc x (fun t => X t ls r S) offs.toList lo)
  | .lookupswitch df ps => zpI st (fun x r => zlkp pc x (fun t => X t ls r S) df ps.toList)
  | .getfield _ => zpR st (fun o r => zobj sh o (fun ci fs => bif Nat.beq ci a then zfld S o b (zn fs b) (fun v => X nx ls (v :: r) S) else False))
  | .putfield _ => zpI st (fun x r => zpR r (fun o r => zobj sh o (fun ci fs => bif Nat.beq ci a then (zn fs b = some none ∧ (k = 1 → x = 0 ∨ x = 1) ∧ X nx ls r (zu S o b x)) else False)))
  | .iaload => zpI st (fun i r => zpR r (fun o r => zarr sh o (fun n => vp_in i n ∧ X nx ls (.int (S o i.toNatClampNeg) :: r) S)))
  | .iastore => zpI st (fun x r => zpI r (fun i r => zpR r (fun o r => zarr sh o (fun n => vp_in i n ∧ X nx ls r (zu S o i.toNatClampNeg x)))))
  | .aaload => zpI st (fun i r => zpR r (fun o r => zrow sh o (fun rs => vp_in i rs.length ∧ ∀ q, zn rs i.toNatClampNeg = some q → X nx ls (.ref q :: r) S)))
  | .arraylength => zpR st (fun o r => zarr sh o (fun n => X nx ls (.int (nI n) :: r) S))
  | .invokevirtual _ => zpop b st [] (fun as r => zpR r (fun o r => zobj sh o (fun ci _ => bif Nat.beq ci c then (bif zfit r then K a (.ref o :: as) S (fun rv S' => X nx ls (zpush rv r) S') else False) else False)))
  | .invokestatic _ => match c with
    | 0 => zpop b st [] (fun as r => bif zfit r then K a as S (fun rv S' => X nx ls (zpush rv r) S') else False)
    | 1 => zpI st (fun y r => zpI r (fun x r => bif zfit r then X nx ls (.int (if x < y then y else x) :: r) S else False))
    | 2 => zpI st (fun y r => zpI r (fun x r => bif zfit r then X nx ls (.int (if y < x then y else x) :: r) S else False))
    | _ => zpI st (fun n r => zpI r (fun dp r => zpR r (fun o1 r => zpI r (fun sp r => zpR r (fun o0 r => zarr sh o0 (fun n0 => zarr sh o1 (fun n1 => bif zfit r then
        (¬ sp < 0 ∧ ¬ dp < 0 ∧ ¬ n < 0 ∧ sp.toNatClampNeg + n.toNatClampNeg ≤ n0 ∧ dp.toNatClampNeg + n.toNatClampNeg ≤ n1 ∧ X nx ls r (zcp S o0 o1 sp.toNatClampNeg dp.toNatClampNeg n.toNatClampNeg)) else False)))))))
  | .ireturn => match st with
    | [.int x] => match rt with
      | 1 => Q (some (.int x)) S
      | 2 => (x = 0 ∨ x = 1) ∧ Q (some (.int x)) S
      | _ => False
    | _ => False
  | .lreturn => match st with
    | [.long x] => match rt with
      | 3 => Q (some (.long x)) S
      | _ => False
    | _ => False
  | .areturn => match st with
    | [.ref x] => match rt with
      | 4 => Q (some (.ref x)) S
      | _ => False
    | _ => False
  | .return_ => match st with
    | [] => match rt with
      | 0 => Q none S
      | _ => False
    | _ => False
  | _ => False
def zstp (sh : List zD) (K : zKT) (C : zC) (rt : Nat) (Q : Option Value → zS → Prop) (X : zXT) : zXT := fun pc ls st S => match zat C pc with
  | some (_, ins, nx, k, a, b, c, _) => zin sh K rt Q X pc ins nx k a b c ls st S
  | none => False
/-- the least of all X that are closed under one instruction -/
def zWp (sh : List zD) (K : zKT) (C : zC) (rt : Nat) (Q : Option Value → zS → Prop) : zXT := fun pc ls st S => ∀ X : zXT, (∀ (Y : zXT) (pc : Nat) (ls : zLs) (st : List Value) (S : zS), (∀ pc ls st S, Y pc ls st S → X pc ls st S) → zstp sh K C rt Q Y pc ls st S → X pc ls st S) → X pc ls st S
theorem zWp_of {sh : List zD} {K : zKT} {C : zC} {rt : Nat} {Q : Option Value → zS → Prop} {Y : zXT} (hY : ∀ pc ls st S, Y pc ls st S → zWp sh K C rt Q pc ls st S) {pc : Nat} {ls : zLs} {st : List Value} {S : zS} (h : zstp sh K C rt Q Y pc ls st S) : zWp sh K C rt Q pc ls st S :=
  fun X hX => hX Y pc ls st S (fun _ _ _ _ hy => hY _ _ _ _ hy X hX) h
def zel : List Nat → Nat → Bool
  | [], _ => false
  | a :: t, n => bif Nat.beq a n then true else zel t n
/-- many instructions at once, up to one of the stops -/
noncomputable def zRun (sh : List zD) (K : zKT) (C : zC) (rt : Nat) (Q : Option Value → zS → Prop) (stops : List Nat) (n : Nat) : zXT :=
  Nat.rec (motive := fun _ => zXT) (zWp sh K C rt Q) (fun _ Y => zstp sh K C rt Q (fun pc ls st S => bif zel stops pc then zWp sh K C rt Q pc ls st S else Y pc ls st S)) n
theorem zRun_wp {sh : List zD} {K : zKT} {C : zC} {rt : Nat} {Q : Option Value → zS → Prop} (stops : List Nat) (n : Nat) : ∀ {pc : Nat} {ls : zLs} {st : List Value} {S : zS}, zRun sh K C rt Q stops n pc ls st S → zWp sh K C rt Q pc ls st S := by
  induction n with
  | zero => exact fun h => h
  | succ n ih =>
    intro pc ls st S h
    refine zWp_of (fun pc ls st S hy => ?_) h
    cases hz : zel stops pc with
    | true => rw [hz] at hy; exact hy
    | false => rw [hz] at hy; exact ih hy
def zen : List Value → Nat → zLs
  | .long v :: t, n => some (.long v) :: none :: zen t (n - 2)
  | v :: t, n => some v :: zen t (n - 1)
  | [], n => List.replicate n none
/-- the values fit into so many locals -/
def zvs : List Value → Nat → Bool
  | [], _ => true
  | .int _ :: t, n + 1 => zvs t n
  | .ref _ :: t, n + 1 => zvs t n
  | .null :: t, n + 1 => zvs t n
  | .long _ :: t, n + 2 => zvs t n
  | _, _ => false
/-- calls at most d deep -/
def zK (Ms : List zMI) (sh : List zD) : Nat → zKT
  | 0 => fun _ _ _ _ => False
  | d + 1 => fun μ vs S Q => match zn Ms μ with
    | some (_, _, mL, _, rt, _, _, C) => zvs vs mL = true ∧ zWp sh (zK Ms sh d) C rt Q 0 (zen vs mL) [] S
    | none => False
end
section
/-! the small machine's heap as a world of the kit -/
def zv (ad : Nat → Nat) : Value → Value
  | .ref k => .ref (ad k)
  | v => v
def zfv (ad : Nat → Nat) (S : zS) (c k : Nat) (o : Option Nat) : Value := match o with
  | none => .int (S c k)
  | some r => .ref (ad r)
def zce (ad : Nat → Nat) (cA : Nat → ClassId) (S : zS) (c : Nat) (d : zD) : va_E := match d with
  | .inl n => .inl (cA c, n, .inl (S c))
  | .inr (.inl rs) => .inl (cA c, rs.length, .inr (.inr (.inr (.inr (fun k => (zn rs k).map ad)))))
  | .inr (.inr (ci, fs)) => .inr (ci, fs.mapIdx (zfv ad S c))
def zws (ad : Nat → Nat) (cA : Nat → ClassId) (sh : List zD) (S : zS) : va_W := sh.mapIdx (fun c d => (ad c, zce ad cA S c d))
def zet (nm : Nat → String) (c : Nat) (d : zD) : FieldType := match d with
  | .inr (.inl _) => .object (nm c)
  | _ => .int
def zty (cA : Nat → ClassId) (nm : Nat → String) (sh : List zD) : List (ClassId × FieldType) := sh.mapIdx (fun c d => (cA c, zet nm c d))
def zll (ad : Nat → Nat) : Nat → zLs → List (Nat × Value)
  | _, [] => []
  | i, none :: t => zll ad (i + 1) t
  | i, some v :: t => (i, zv ad v) :: zll ad (i + 1) t
theorem zws_at {ad : Nat → Nat} {cA : Nat → ClassId} {sh : List zD} {S : zS} {c : Nat} {d : zD} (h : sh[c]? = some d) : (zws ad cA sh S)[c]? = some (ad c, zce ad cA S c d) := by
  simp [zws, h]
theorem zty_at {cA : Nat → ClassId} {nm : Nat → String} {sh : List zD} {c : Nat} {d : zD} (h : sh[c]? = some d) : (zty cA nm sh)[c]? = some (cA c, zet nm c d) := by
  simp only [zty, List.getElem?_mapIdx, h, Option.map_some]
theorem zws_D {ad : Nat → Nat} {cA : Nat → ClassId} {sh : List zD} {S S' : zS} {A : Nat → Prop} (h : va_D A (zws ad cA sh S)) : va_D A (zws ad cA sh S') := by
  obtain ⟨h1, h2⟩ := h
  have key : ∀ (k : Nat) (q : Nat × va_E), (zws ad cA sh S')[k]? = some q → ∃ q', (zws ad cA sh S)[k]? = some q' ∧ q'.1 = q.1 := by
    intro k q hq
    simp only [zws, List.getElem?_mapIdx, Option.map_eq_some_iff] at hq
    obtain ⟨d, hd, rfl⟩ := hq
    exact ⟨_, zws_at hd, rfl⟩
  refine ⟨fun i j p q hp hq e => ?_, fun k q hq => ?_⟩
  · obtain ⟨p', a1, a2⟩ := key i p hp
    obtain ⟨q', b1, b2⟩ := key j q hq
    exact h1 i j p' q' a1 b1 (by rw [a2, b2, e])
  · obtain ⟨q', b1, b2⟩ := key k q hq
    rw [← b2]
    exact h2 k q' b1
/-- behind a write of cell c the world is that of the new table, if all other cells read the same -/
theorem zws_set {ad : Nat → Nat} {cA : Nat → ClassId} {sh : List zD} {S S' : zS} {c : Nat} {d : zD} {x : va_E} (h : sh[c]? = some d) (hx : x = zce ad cA S' c d) (ho : ∀ c', c' ≠ c → S' c' = S c') : (zws ad cA sh S).set c (ad c, x) = zws ad cA sh S' := by
  have hce : ∀ (c' : Nat) (d' : zD), c' ≠ c → zce ad cA S c' d' = zce ad cA S' c' d' := by
    intro c' d' hc
    have := ho c' hc
    unfold zce zfv
    split <;> simp [this]
  apply List.ext_getElem?
  intro i
  have hlt : c < sh.length := (List.getElem?_eq_some_iff.mp h).1
  by_cases hi : c = i
  · subst hi
    rw [List.getElem?_set_self (by simpa [zws] using hlt), zws_at h, hx]
  · rw [List.getElem?_set_ne hi]
    simp only [zws, List.getElem?_mapIdx]
    congr 1
    funext d'
    rw [hce i d' (fun e => hi e.symm)]
theorem zu_same {S : zS} {c k : Nat} {v : Int32} {c' : Nat} (h : c' ≠ c) : zu S c k v c' = S c' := by simp [zu, h]
theorem zu_self {S : zS} {c k : Nat} {v : Int32} : zu S c k v c = upd (S c) k v := by simp [zu]
theorem zcp_same {S : zS} {c0 c1 sp dp n : Nat} {c' : Nat} (h : c' ≠ c1) : zcp S c0 c1 sp dp n c' = S c' := by simp [zcp, h]
theorem zcp_self {S : zS} {c0 c1 sp dp n : Nat} : zcp S c0 c1 sp dp n c1 = va_cpy (S c0) (S c1) sp dp n := by simp [zcp]
theorem zfs_set {ad : Nat → Nat} {S : zS} {c k : Nat} {fs : List (Option Nat)} {v : Int32} (h : fs[k]? = some none) : (fs.mapIdx (zfv ad S c)).set k (.int v) = fs.mapIdx (zfv ad (zu S c k v) c) := by
  apply List.ext_getElem?
  intro i
  have hlt : k < fs.length := (List.getElem?_eq_some_iff.mp h).1
  by_cases hi : k = i
  · subst hi
    rw [List.getElem?_set_self (by simpa using hlt)]
    simp [h, zfv, zu_self, upd]
  · rw [List.getElem?_set_ne hi]
    simp only [List.getElem?_mapIdx]
    congr 1
    funext o
    cases o with
    | none =>
      have hi' : ¬ i = k := fun e => hi e.symm
      simp [zfv, zu_self, upd, hi']
    | some r => rfl
theorem zll_has {ls : Array Slot} {nL : Nat} {l l' : List (Nat × Value)} (h : lv_has ls nL l) (hs : ∀ q ∈ l', q ∈ l) : lv_has ls nL l' := ⟨h.1, h.2.1, fun q hq => h.2.2 q (hs q hq)⟩
theorem zll_ge {ad : Nat → Nat} {ls : zLs} : ∀ {i : Nat} {q : Nat × Value}, q ∈ zll ad i ls → i ≤ q.1 := by
  induction ls with
  | nil => intro i q h; simp [zll] at h
  | cons a t ih =>
    intro i q h
    cases a with
    | none => have := ih (i := i + 1) (by simpa [zll] using h); omega
    | some v =>
      simp only [zll, List.mem_cons] at h
      rcases h with rfl | h
      · exact Nat.le_refl _
      · have := ih h; omega
theorem zgl_spec {ad : Nat → Nat} {f : Value → Prop} {ls : zLs} : ∀ {n i : Nat}, zgl ls n f → ∃ v, f v ∧ (i + n, zv ad v) ∈ zll ad i ls := by
  induction ls with
  | nil => intro n i h; cases n <;> exact h.elim
  | cons a t ih =>
    intro n i h
    cases n with
    | zero => cases a with
      | none => exact h.elim
      | some v => exact ⟨v, h, by simp [zll]⟩
    | succ n =>
      have h' : zgl t n f := by cases a <;> exact h
      obtain ⟨v, hv, hm⟩ := ih (i := i + 1) h'
      refine ⟨v, hv, ?_⟩
      have e : i + 1 + n = i + (n + 1) := by omega
      rw [e] at hm
      cases a with
      | none => simpa [zll] using hm
      | some w => simp [zll, hm]
theorem zkl_cases (a : Option Value) : zkl a = a ∧ (∀ x, a ≠ some (.long x)) ∨ zkl a = none := by
  cases a with
  | none => exact Or.inl ⟨rfl, fun x h => by cases h⟩
  | some v => cases v <;> first | exact Or.inr rfl | exact Or.inl ⟨rfl, fun x h => by cases h⟩
/-- the locals never hold a double -/
def znod (ls : zLs) : Prop := ∀ a ∈ ls, ∀ x, a ≠ some (.double x)
theorem zcat2 {ad : Nat → Nat} {v : Value} (hd : ∀ x, v ≠ .double x) (h : (zv ad v).category = 2) : ∃ x, v = .long x := by
  cases v <;> simp_all [zv, Value.category]
theorem zsl_spec {ad : Nat → Nat} {v : Value} {ls : zLs} (hc : ∀ x, v ≠ .double x) : ∀ {n i : Nat} {f : zLs → Prop}, znod ls → zsl ls n v f → ∃ ls2, f ls2 ∧ znod ls2 ∧ n < ls.length ∧ ls2.length = ls.length ∧ ∀ q ∈ zll ad i ls2, q = (i + n, zv ad v) ∨ (q ∈ zll ad i ls ∧ q.1 ≠ i + n ∧ ¬ (q.1 + 1 = i + n ∧ q.2.category = 2)) := by
  induction ls with
  | nil => intro n i f _ h; rcases n with _ | _ | n <;> exact h.elim
  | cons a t ih =>
    intro n i f hnd h
    rcases n with _ | _ | n
    · refine ⟨some v :: t, h, ?_, by simp, by simp, ?_⟩
      · intro b hb x
        rcases List.mem_cons.mp hb with rfl | hb
        · exact fun e => hc x (Option.some.inj e)
        · exact hnd b (List.mem_cons_of_mem _ hb) x
      · intro q hq
        simp only [zll, List.mem_cons] at hq
        rcases hq with rfl | hq
        · exact Or.inl rfl
        · have hge := zll_ge hq
          refine Or.inr ⟨?_, by omega, fun e => by omega⟩
          cases a <;> simp [zll, hq]
    · cases t with
      | nil => exact h.elim
      | cons b t =>
        refine ⟨zkl a :: some v :: t, h, ?_, by simp, by simp, ?_⟩
        · intro z hz x
          rcases List.mem_cons.mp hz with rfl | hz
          · rcases zkl_cases a with ⟨e, -⟩ | e
            · rw [e]; exact hnd a List.mem_cons_self x
            · rw [e]; exact fun h => by cases h
          · rcases List.mem_cons.mp hz with rfl | hz
            · exact fun e => hc x (Option.some.inj e)
            · exact hnd z (List.mem_cons_of_mem _ (List.mem_cons_of_mem _ hz)) x
        · intro q hq
          have hrest : q ∈ zll ad (i + 1) (some v :: t) → q = (i + (0 + 1), zv ad v) ∨ (q ∈ zll ad i (a :: b :: t) ∧ q.1 ≠ i + (0 + 1) ∧ ¬ (q.1 + 1 = i + (0 + 1) ∧ q.2.category = 2)) := by
            intro hr
            simp only [zll, List.mem_cons] at hr
            rcases hr with rfl | hr
            · exact Or.inl rfl
            · have hge := zll_ge hr
              refine Or.inr ⟨?_, by omega, fun e => by omega⟩
              clear hq ih
              cases a <;> cases b <;> simp [zll, hr]
          rcases zkl_cases a with ⟨e, hnl⟩ | e
          · rw [e] at hq
            cases a with
            | none => exact hrest (by simpa [zll] using hq)
            | some w =>
              rw [zll, List.mem_cons] at hq
              rcases hq with rfl | hq
              · refine Or.inr ⟨by simp [zll], by simp, ?_⟩
                rintro ⟨-, h2⟩
                obtain ⟨x, rfl⟩ := zcat2 (fun x e => hnd (some w) List.mem_cons_self x (by rw [e])) h2
                exact hnl x rfl
              · exact hrest hq
          · rw [e] at hq
            exact hrest (by simpa [zll] using hq)
    · have h' : zsl t (n + 1) v (fun t' => f (a :: t')) := by
        cases t with
        | nil => cases a <;> exact h
        | cons b t => cases a <;> exact h
      obtain ⟨ls2, g1, g2, g3, g4, g5⟩ := ih (i := i + 1) (fun b hb => hnd b (List.mem_cons_of_mem _ hb)) h'
      refine ⟨a :: ls2, g1, ?_, by simp; omega, by simp [g4], ?_⟩
      · intro b hb x
        rcases List.mem_cons.mp hb with rfl | hb
        · exact hnd b List.mem_cons_self x
        · exact g2 b hb x
      · intro q hq
        have hrest : q ∈ zll ad (i + 1) ls2 → q = (i + (n + 1 + 1), zv ad v) ∨ (q ∈ zll ad i (a :: t) ∧ q.1 ≠ i + (n + 1 + 1) ∧ ¬ (q.1 + 1 = i + (n + 1 + 1) ∧ q.2.category = 2)) := by
          intro hq
          rcases g5 q hq with rfl | ⟨m1, m2, m3⟩
          · exact Or.inl (by congr 1; omega)
          · refine Or.inr ⟨?_, by omega, fun e => m3 ⟨by omega, e.2⟩⟩
            cases a <;> simp [zll, m1]
        cases a with
        | none => exact hrest (by simpa [zll] using hq)
        | some w =>
          simp only [zll, List.mem_cons] at hq
          rcases hq with rfl | hq
          · exact Or.inr ⟨by simp [zll], by simp, fun e => by have := e.1; simp at this⟩
          · exact hrest hq
end
section
/-! the small machine's steps are the machine's -/
theorem zsl2_spec {ad : Nat → Nat} {v : Value} {ls : zLs} (hc : ∀ x, v ≠ .double x) : ∀ {n i : Nat} {f : zLs → Prop}, znod ls → zsl2 ls n v f → ∃ ls2, f ls2 ∧ znod ls2 ∧ n + 1 < ls.length ∧ ls2.length = ls.length ∧ ∀ q ∈ zll ad i ls2, q = (i + n, zv ad v) ∨ (q ∈ zll ad i ls ∧ q.1 ≠ i + n ∧ q.1 ≠ i + n + 1 ∧ ¬ (q.1 + 1 = i + n ∧ q.2.category = 2)) := by
  induction ls with
  | nil => intro n i f _ h; rcases n with _ | _ | n <;> exact h.elim
  | cons a t ih =>
    intro n i f hnd h
    rcases n with _ | _ | n
    · cases t with
      | nil => exact h.elim
      | cons b t =>
        refine ⟨some v :: none :: t, h, ?_, by simp, by simp, ?_⟩
        · intro z hz x
          rcases List.mem_cons.mp hz with rfl | hz
          · exact fun e => hc x (Option.some.inj e)
          · rcases List.mem_cons.mp hz with rfl | hz
            · exact fun e => by cases e
            · exact hnd z (List.mem_cons_of_mem _ (List.mem_cons_of_mem _ hz)) x
        · intro q hq
          simp only [zll, List.mem_cons] at hq
          rcases hq with rfl | hq
          · exact Or.inl rfl
          · have hge := zll_ge hq
            refine Or.inr ⟨?_, by omega, by omega, fun e => by omega⟩
            clear ih
            cases a <;> cases b <;> simp [zll, hq]
    · cases t with
      | nil => exact h.elim
      | cons b t =>
        cases t with
        | nil => exact h.elim
        | cons b2 t =>
          refine ⟨zkl a :: some v :: none :: t, h, ?_, by simp, by simp, ?_⟩
          · intro z hz x
            rcases List.mem_cons.mp hz with rfl | hz
            · rcases zkl_cases a with ⟨e, -⟩ | e
              · rw [e]; exact hnd a List.mem_cons_self x
              · rw [e]; exact fun h => by cases h
            · rcases List.mem_cons.mp hz with rfl | hz
              · exact fun e => hc x (Option.some.inj e)
              · rcases List.mem_cons.mp hz with rfl | hz
                · exact fun e => by cases e
                · exact hnd z (List.mem_cons_of_mem _ (List.mem_cons_of_mem _ (List.mem_cons_of_mem _ hz))) x
          · intro q hq
            have hrest : q ∈ zll ad (i + 1) (some v :: none :: t) → q = (i + (0 + 1), zv ad v) ∨ (q ∈ zll ad i (a :: b :: b2 :: t) ∧ q.1 ≠ i + (0 + 1) ∧ q.1 ≠ i + (0 + 1) + 1 ∧ ¬ (q.1 + 1 = i + (0 + 1) ∧ q.2.category = 2)) := by
              intro hr
              simp only [zll, List.mem_cons] at hr
              rcases hr with rfl | hr
              · exact Or.inl rfl
              · have hge := zll_ge hr
                refine Or.inr ⟨?_, by omega, by omega, fun e => by omega⟩
                clear hq ih
                cases a <;> cases b <;> cases b2 <;> simp [zll, hr]
            rcases zkl_cases a with ⟨e, hnl⟩ | e
            · rw [e] at hq
              cases a with
              | none => exact hrest (by simpa [zll] using hq)
              | some w =>
                rw [zll, List.mem_cons] at hq
                rcases hq with rfl | hq
                · refine Or.inr ⟨by simp [zll], by simp, by simp; omega, ?_⟩
                  rintro ⟨-, h2⟩
                  obtain ⟨x, rfl⟩ := zcat2 (fun x e => hnd (some w) List.mem_cons_self x (by rw [e])) h2
                  exact hnl x rfl
                · exact hrest hq
            · rw [e] at hq
              exact hrest (by simpa [zll] using hq)
    · have h' : zsl2 t (n + 1) v (fun t' => f (a :: t')) := by
        cases t with
        | nil => cases a <;> exact h
        | cons b t => cases t <;> cases a <;> exact h
      obtain ⟨ls2, g1, g2, g3, g4, g5⟩ := ih (i := i + 1) (fun b hb => hnd b (List.mem_cons_of_mem _ hb)) h'
      refine ⟨a :: ls2, g1, ?_, by simp; omega, by simp [g4], ?_⟩
      · intro b hb x
        rcases List.mem_cons.mp hb with rfl | hb
        · exact hnd b List.mem_cons_self x
        · exact g2 b hb x
      · intro q hq
        have hrest : q ∈ zll ad (i + 1) ls2 → q = (i + (n + 1 + 1), zv ad v) ∨ (q ∈ zll ad i (a :: t) ∧ q.1 ≠ i + (n + 1 + 1) ∧ q.1 ≠ i + (n + 1 + 1) + 1 ∧ ¬ (q.1 + 1 = i + (n + 1 + 1) ∧ q.2.category = 2)) := by
          intro hr
          rcases g5 q hr with rfl | ⟨m1, m2, m4, m3⟩
          · exact Or.inl (by congr 1; omega)
          · refine Or.inr ⟨?_, by omega, by omega, fun e => m3 ⟨by omega, e.2⟩⟩
            cases a <;> simp [zll, m1]
        cases a with
        | none => exact hrest (by simpa [zll] using hq)
        | some w =>
          simp only [zll, List.mem_cons] at hq
          rcases hq with rfl | hq
          · exact Or.inr ⟨by simp [zll], by simp, by simp; omega, fun e => by have := e.1; simp at this⟩
          · exact hrest hq
theorem zpI_spec {st : List Value} {f : Int32 → List Value → Prop} (h : zpI st f) : ∃ x r, st = .int x :: r ∧ f x r := by
  unfold zpI at h
  split at h
  · exact ⟨_, _, rfl, h⟩
  · exact h.elim
theorem zpL_spec {st : List Value} {f : Int64 → List Value → Prop} (h : zpL st f) : ∃ x r, st = .long x :: r ∧ f x r := by
  unfold zpL at h
  split at h
  · exact ⟨_, _, rfl, h⟩
  · exact h.elim
theorem zpR_spec {st : List Value} {f : Nat → List Value → Prop} (h : zpR st f) : ∃ x r, st = .ref x :: r ∧ f x r := by
  unfold zpR at h
  split at h
  · exact ⟨_, _, rfl, h⟩
  · exact h.elim
theorem zvI_spec {v : Value} {f : Int32 → Prop} (h : zvI v f) : ∃ x, v = .int x ∧ f x := by
  unfold zvI at h
  split at h
  · exact ⟨_, rfl, h⟩
  · exact h.elim
theorem zvL_spec {v : Value} {f : Int64 → Prop} (h : zvL v f) : ∃ x, v = .long x ∧ f x := by
  unfold zvL at h
  split at h
  · exact ⟨_, rfl, h⟩
  · exact h.elim
theorem zvA_spec {v : Value} {f : Value → Prop} (h : zvA v f) : f v ∧ ((∃ x, v = .ref x) ∨ v = .null) := by
  unfold zvA at h
  split at h
  · exact ⟨h, Or.inl ⟨_, rfl⟩⟩
  · exact ⟨h, Or.inr rfl⟩
  · exact h.elim
theorem zpop_spec {f : List Value → List Value → Prop} : ∀ {n : Nat} {st acc : List Value}, zpop n st acc f → ∃ as r, st = as.reverse ++ r ∧ as.length = n ∧ f (as ++ acc) r := by
  intro n
  induction n with
  | zero => intro st acc h; exact ⟨[], st, rfl, rfl, h⟩
  | succ n ih =>
    intro st acc h
    cases st with
    | nil => exact h.elim
    | cons v st =>
      obtain ⟨as, r, e1, e2, e3⟩ := ih (st := st) (acc := v :: acc) h
      exact ⟨as ++ [v], r, by simp [e1], by simp [e2], by simpa using e3⟩
theorem zobj_spec {sh : List zD} {o : Nat} {f : Nat → List (Option Nat) → Prop} (h : zobj sh o f) : ∃ ci fs, sh[o]? = some (.inr (.inr (ci, fs))) ∧ f ci fs := by
  unfold zobj at h
  rw [zn_eq] at h
  split at h
  · exact ⟨_, _, by assumption, h⟩
  · exact h.elim
theorem zarr_spec {sh : List zD} {o : Nat} {f : Nat → Prop} (h : zarr sh o f) : ∃ n, sh[o]? = some (.inl n) ∧ f n := by
  unfold zarr at h
  rw [zn_eq] at h
  split at h
  · exact ⟨_, by assumption, h⟩
  · exact h.elim
theorem zrow_spec {sh : List zD} {o : Nat} {f : List Nat → Prop} (h : zrow sh o f) : ∃ rs, sh[o]? = some (.inr (.inl rs)) ∧ f rs := by
  unfold zrow at h
  rw [zn_eq] at h
  split at h
  · exact ⟨_, by assumption, h⟩
  · exact h.elim
theorem zbif {c : Bool} {P : Prop} (h : bif c then P else False) : c = true ∧ P := by
  cases c with
  | true => exact ⟨rfl, h⟩
  | false => exact h.elim
theorem zv_cat (ad : Nat → Nat) (v : Value) : (zv ad v).category = v.category := by cases v <;> rfl
theorem zv_cats (ad : Nat → Nat) (st : List Value) : ((st.map (zv ad)).map fun v => v.category).sum = (st.map fun v => v.category).sum := by
  induction st with
  | nil => rfl
  | cons v t ih => simp only [List.map_cons, List.sum_cons, zv_cat, ih]
def zX (p : Program) (l : Launch) (e : Env) (R : Room) (s : State) (m : MethodId) (args : Array Value) (below : List Frame) (meth : Method) (c : Code) (Qw : State → Prop) (mL : Nat) (D : va_G) (cl : List vw_C) (ad : Nat → Nat) (cA : Nat → ClassId) (sh : List zD) (A : Nat → Prop) : zXT := fun pc ls st S =>
  ∀ (H : Heap) (locs : List Loc) (ls' : Array Slot), va_P D cl (zws ad cA sh S) H → va_S A s.heap H locs → ls.length ≤ mL → znod ls → lv_has ls' mL (zll ad 0 ls) → W p l e R s m args below meth c H locs 0 0 Qw (F0 m pc ls' (st.map (zv ad)))
/-- a method's answer, by the kind of its return type -/
def zQc (rt : Nat) (D : va_G) (cl : List vw_C) (ad : Nat → Nat) (cA : Nat → ClassId) (sh : List zD) (A : Nat → Prop) (Q : Option Value → zS → Prop) : Array Value → State → Outcome → State → Prop := match rt with
  | 0 => va_Qv (S := zS) (fun u => Q none u) (fun u t => va_P D cl (zws ad cA sh u) t.heap) A
  | 3 => va_Ql (S := zS) (fun r u => Q (some (.long r)) u) (fun u t => va_P D cl (zws ad cA sh u) t.heap) A
  | 4 => va_Qr (S := zS × Nat) (fun u => Q (some (.ref u.2)) u.1) (fun u a t => a = ad u.2 ∧ va_P D cl (zws ad cA sh u.1) t.heap) A
  | _ => va_Qi (S := zS) (fun r u => Q (some (.int r)) u) (fun u t => va_P D cl (zws ad cA sh u) t.heap) A
abbrev zNT : Type := List (String × Nat × MethodName × String)
def zPre (D : va_G) (cl : List vw_C) (ad : Nat → Nat) (cA : Nat → ClassId) (nm : Nat → String) (sh : List zD) (ns : zNT) (S : zS) (sz : Nat) (U : State) : Prop :=
  U.heap.size = sz ∧ va_P D cl (zws ad cA sh S) U.heap ∧ va_K D cl (zty cA nm sh) U ∧ va_D (fun _ => True) (zws ad cA sh S) ∧ ∀ q ∈ ns, va_Nw (.methodLinkNest q.1 q.2.1 q.2.2.1 q.2.2.2) U
/-- the contract of a method at values vs and a table S -/
def zMet (l : Launch) (D : va_G) (cl : List vw_C) (ad : Nat → Nat) (cA : Nat → ClassId) (nm : Nat → String) (sh : List zD) (ns : zNT) (T : List Cond) (rm : Room) (mi : zMI) (vs : List Value) (S : zS) (Q : Option Value → zS → Prop) : Prop :=
  ∀ sz : Nat, Met l mi.1 (Cond.code mi.1 mi.2.1 mi.2.2.1 mi.2.2.2.1 :: T) rm (va_Pc (vs.map (zv ad)) (zPre D cl ad cA nm sh ns S sz)) (zQc mi.2.2.2.2.1 D cl ad cA sh (va_A (zws ad cA sh S) sz) Q) 0 0 (va_A (zws ad cA sh S) sz)
theorem zPre_blind {D : va_G} {cl : List vw_C} {ad : Nat → Nat} {cA : Nat → ClassId} {nm : Nat → String} {sh : List zD} {ns : zNT} {S : zS} {sz : Nat} {vs : List Value} : FrameBlind (va_Pc vs (zPre D cl ad cA nm sh ns S sz)) := by
  intro a U g mk q
  obtain ⟨q0, q1, q2, q3, q4, q5⟩ := q
  exact ⟨q0, q1, q2, va_K.moved (u := U) (U := U.calling g mk a) (Vm.Alike.refl U.vm) q3, q4, fun x hx => va_Nw.same rfl rfl (q5 x hx)⟩
section ZS1
variable {p : Program} {l : Launch} {e : Env} {R : Room} {s : State} {m : MethodId} {args : Array Value} {below : List Frame} {meth : Method} {c : Code} {Qw : State → Prop} {mL : Nat} {D : va_G} {cl : List vw_C} {ad : Nat → Nat} {cA : Nat → ClassId} {nm : Nat → String} {sh : List zD} {A : Nat → Prop} {ns : zNT}
theorem zA1 {S : zS} {H : Heap} {locs : List Loc} (hD : ∀ S, va_D A (zws ad cA sh S)) (hA : ∀ q, s.heap.size ≤ q → A q) (hS : va_S A s.heap H locs) : ∀ q, va_A (zws ad cA sh S) H.size q → A q := by
  intro q h
  rcases h with ⟨k, e, h⟩ | h
  · exact (hD S).2 k _ h
  · exact hA q (Nat.le_trans hS.1 h)
theorem zcont {rt pc : Nat} {ls : zLs} {ls' : Array Slot} {st0 r : List Value} {S : zS} {H : Heap} {locs : List Loc} {Q : Option Value → zS → Prop} {a : Array Value}
    (hD : ∀ S, va_D A (zws ad cA sh S)) (hA : ∀ q, s.heap.size ≤ q → A q) (hS : va_S A s.heap H locs) (hlen : ls.length ≤ mL) (hnd : znod ls) (hL : lv_has ls' mL (zll ad 0 ls))
    (hr : va_Run p l e R s m args below meth c H locs 0 0 0 0 (F0 m pc ls' st0) (r.map (zv ad)) (zQc rt D cl ad cA sh (va_A (zws ad cA sh S) H.size) Q a) (va_A (zws ad cA sh S) H.size))
    (hc : ∀ rv S', Q rv S' → zX p l e R s m args below meth c Qw mL D cl ad cA sh A (pc + 3) ls (zpush rv r) S') :
    W p l e R s m args below meth c H locs 0 0 Qw (F0 m pc ls' st0) := by
  have hf := zA1 (S := S) hD hA hS
  unfold zQc at hr
  split at hr
  · refine va_callv hr hS (fun q _ h => hf q h) hf (fun u t H1 locs1 ht hvm hw hB hz hk hS1 => ?_)
    exact hc none u hw H1 locs1 ls' (by rw [← ht]; exact hB) hS1 hlen hnd hL
  · refine va_calll hr hS (fun q _ h => hf q h) hf (fun x u t H1 locs1 ht hvm hw hB hz hk hS1 => ?_)
    exact hc (some (.long x)) u hw H1 locs1 ls' (by rw [← ht]; exact hB) hS1 hlen hnd hL
  · refine va_callr hr hS (fun q _ h => hf q h) hf (fun u x t H1 locs1 ht hvm hw hB hz hk hS1 => ?_)
    obtain ⟨e1, hB⟩ := hB
    subst e1
    exact hc (some (.ref u.2)) u.1 hw H1 locs1 ls' (by rw [← ht]; exact hB) hS1 hlen hnd hL
  · refine va_calli hr hS (fun q _ h => hf q h) hf (fun x u t H1 locs1 ht hvm hw hB hz hk hS1 => ?_)
    exact hc (some (.int x)) u hw H1 locs1 ls' (by rw [← ht]; exact hB) hS1 hlen hnd hL
end ZS1
end
section
/-! the check of a row of code, and: a checked row's step is the machine's -/
def zpos (pc : Nat) (o : Int) : Bool := decide (0 ≤ (pc : Int) + o)
def zok1 (cl : List vw_C) (T : List Cond) (ns : zNT) (Ms : List zMI) (own : String) (pc : Nat) (ins : Instr) (nx : Nat) (k : Int32) (a b c h : Nat) : Bool := match ins with
  | .iconst n => Nat.beq nx (pc + 1) && decide (Int32.ofInt n = k)
  | .bipush n => Nat.beq nx (pc + 2) && decide ((Int8.ofInt n).toInt32 = k)
  | .sipush n => Nat.beq nx (pc + 3) && decide ((Int16.ofInt n).toInt32 = k)
  | .ldc i => Nat.beq nx (pc + 2) && decide (zn T h = some (Cond.constant own i k))
  | .ldc_w i => Nat.beq nx (pc + 3) && decide (zn T h = some (Cond.constant own i k))
  | .lconst n => Nat.beq nx (pc + 1) && decide (Int64.ofNat (n : Nat) = k.toInt64)
  | .ldc2_w i => Nat.beq nx (pc + 3) && decide (zn T h = some (Cond.constantLong own i k.toInt64))
  | .iload _ => Nat.beq nx (pc + 2)
  | .lload _ => Nat.beq nx (pc + 2)
  | .aload _ => Nat.beq nx (pc + 2)
  | .istore _ => Nat.beq nx (pc + 2)
  | .lstore _ => Nat.beq nx (pc + 2)
  | .astore _ => Nat.beq nx (pc + 2)
  | .iinc _ n => Nat.beq nx (pc + 3) && decide (Int32.ofInt n = k)
  | .goto o => Nat.beq nx (pc + 3) && decide ((pc : Int) + o = (a : Int))
  | .ifCond _ o => Nat.beq nx (pc + 3) && decide ((pc : Int) + o = (a : Int))
  | .if_icmp _ o => Nat.beq nx (pc + 3) && decide ((pc : Int) + o = (a : Int))
  | .ifnull o => Nat.beq nx (pc + 3) && decide ((pc : Int) + o = (a : Int))
  | .tableswitch df lo hi offs => zpos pc df && (offs.toList.all (zpos pc) && decide ((offs.toList.length : Int) = hi - lo + 1))
  | .lookupswitch df ps => zpos pc df && (ps.toList.all (fun q => zpos pc q.2) && (ps.toList.zip (ps.toList.drop 1)).all (fun (a, next) => a.1 < next.1))
  | .getfield i => Nat.beq nx (pc + 3) && (match zn cl a with
    | some (C, F, N) => decide (b < N) && (decide ((F b).1 = C) && decide (zn T h = some (Cond.fieldLink own i C (F b).2.1 (F b).2.2.1)))
    | none => false)
  | .putfield i => Nat.beq nx (pc + 3) && (match zn cl a with
    | some (C, F, N) => decide (b < N) && (decide ((F b).1 = C) && (decide (zn T h = some (Cond.fieldLink own i C (F b).2.1 (F b).2.2.1)) && (decide ((F b).2.2.2 = false) && decide ((F b).2.2.1 = "Z" ∧ k = 1 ∨ (F b).2.2.1 = "I"))))
    | none => false)
  | .invokevirtual i => Nat.beq nx (pc + 3) && (match zn Ms a with
    | some mi => decide (mi.2.2.2.2.2.1 = b) && (decide (mi.2.2.2.2.2.2.1 = c + 1) && decide (zn T h = some (Cond.methodLink own i mi.1)))
    | none => false)
  | .invokestatic i => Nat.beq nx (pc + 3) && (match c with
    | 0 => (match zn Ms a with
      | some mi => decide (mi.2.2.2.2.2.1 = b) && (decide (mi.2.2.2.2.2.2.1 = 0) && (decide (zn T h = some (Cond.methodLink own i mi.1)) || (match zn ns (h - 100000) with
        | some (o, j, y, _) => decide (o = own) && (decide (j = i) && decide (y = mi.1))
        | none => false)))
      | none => false)
    | 1 => decide (zn T h = some (Cond.methodLink own i Lib.Math.max.name))
    | 2 => decide (zn T h = some (Cond.methodLink own i Lib.Math.min.name))
    | _ => decide (zn T h = some (Cond.methodLink own i arraycopyName)))
  | _ => Nat.beq nx (pc + 1)
/-- what all classes and the natives need of the words -/
def zTok (cl : List vw_C) (T : List Cond) : Prop :=
  (∀ (ci : Nat) (C : String) (F : u_T) (N : Nat), cl[ci]? = some (C, F, N) → (∀ w ∈ u_ws C F N, w ∈ T) ∧ (∃ ty : Nat → FieldType, ∀ k, k < N → parseFieldDescriptor (F k).2.2.1 = some (ty k)) ∧ ∀ a, a < N → ∀ b, b < N → a ≠ b → (F a).2.1 ≠ (F b).2.1) ∧
  (∀ w ∈ ([.static Lib.Math.max.name, .initialized "java/lang/Math", .code Lib.Math.max.name Lib.Math.max.code 2 (some .int), .static Lib.Math.min.name, .code Lib.Math.min.name Lib.Math.min.code 2 (some .int), .native arraycopyName, .static arraycopyName, .initialized "java/lang/System"] : List Cond), w ∈ T) ∧ ∀ w ∈ T, goodWord w = true
/-- what a method's name needs of the words -/
def zMok (cl : List vw_C) (T : List Cond) (mi : zMI) : Prop :=
  Cond.code mi.1 mi.2.1 mi.2.2.1 mi.2.2.2.1 ∈ T ∧ Cond.initialized mi.1.cls ∈ T ∧ mi.2.2.1 ≤ 40 ∧
  (mi.2.2.2.2.2.2.1 = 0 → Cond.static mi.1 ∈ T) ∧ (∀ ci, mi.2.2.2.2.2.2.1 = ci + 1 → Cond.instanceMethod mi.1 ∈ T ∧ Cond.selects mi.1.cls mi.1 mi.1 ∈ T ∧ ∃ F N, cl[ci]? = some (mi.1.cls, F, N)) ∧
  mi.1.cls ≠ "java/lang/invoke/MethodHandle" ∧ mi.1.cls ≠ "java/lang/invoke/VarHandle" ∧ (parseMethodDescriptor mi.1.desc).map (fun d => d.parameters.length) = some mi.2.2.2.2.2.1 ∧ plainName mi.1.cls = true ∧
  (match mi.2.2.2.2.1 with
  | 0 => mi.2.2.2.1 = none
  | 1 => mi.2.2.2.1 = some .int
  | 2 => mi.2.2.2.1 = some .boolean
  | 3 => mi.2.2.2.1 = some .long
  | _ => ∃ C, mi.2.2.2.1 = some (.object C))
def zRm (d : Nat) : Room := { frames := d, cells := 0, slots := 0, locals := 60 * d }
section ZS2
variable {p : Program} {l : Launch} {e : Env} {R : Room} {s : State} {m : MethodId} {args : Array Value} {below : List Frame} {meth : Method} {c : Code} {Qw : State → Prop} {mL : Nat} {D : va_G} {cl : List vw_C} {ad : Nat → Nat} {cA : Nat → ClassId} {nm : Nat → String} {sh : List zD} {A : Nat → Prop} {ns : zNT}
variable {cc : ByteArray} {own : String} {T : List Cond} {y0 : Cond} {d : Nat}
theorem zgood {w0 : Cond} {ws : List Cond} (hT : ∀ w ∈ T, goodWord w = true) (h : ∀ w ∈ ws, w ∈ T) : GoodIn (w0 :: T) ws := fun w hw => ⟨List.mem_cons_of_mem _ (h w hw), good_of_word (hT w (h w hw))⟩
theorem zpreU {H : Heap} {S : zS} (hK : va_K D cl (zty cA nm sh) s) (hP : va_P D cl (zws ad cA sh S) H) (hD : ∀ S, va_D A (zws ad cA sh S)) (hns : ∀ q ∈ ns, va_Nw (.methodLinkNest q.1 q.2.1 q.2.2.1 q.2.2.2) s) :
    ∀ U : State, U.heap = H → s.WarmedH U.vm → zPre D cl ad cA nm sh ns S H.size U := fun U hU hW =>
  ⟨by rw [hU], by rw [hU]; exact hP, va_K.moved hW.alike hK, (hD S).weaken (fun _ _ _ _ => trivial), fun q hq => va_Nw.warmM hW (hns q hq)⟩
theorem zroom {m : MethodId} {pc : Nat} {ls : Array Slot} {st r : List Value} (h : zfit r = true) : 2 * (F0 m pc ls st).monitorRoom + (((r.map (zv ad))).map fun v => v.category).sum ≤ 8 := lv_room (by rw [zv_cats]; exact Nat.le_of_ble_eq_true h)
/-- a call of an instance method -/
theorem zinvV {K : zKT} {Y : zXT} {pc i : Nat} {mi : zMI} {ls : zLs} {as r : List Value} {o ci : Nat} {fs : List (Option Nat)} {S : zS} {Q : Option Value → zS → Prop}
    (hx : p.tables.exec = Jvm.exec) (hb : c.code = cc) (hml : c.maxLocals = mL) (hown : s.vm.findClass own = some m.cls) (hts : ∀ w ∈ y0 :: T, w.before args s = true) (hK : va_K D cl (zty cA nm sh) s) (hD : ∀ S, va_D A (zws ad cA sh S)) (hA : ∀ q, s.heap.size ≤ q → A q) (hns : ∀ q ∈ ns, va_Nw (.methodLinkNest q.1 q.2.1 q.2.2.1 q.2.2.2) s)
    (hT : zTok cl T) (hM : zMok cl T mi) (hR : d + 1 ≤ R.frames ∧ 60 * (d + 1) ≤ R.locals)
    (hci : mi.2.2.2.2.2.2.1 = ci + 1) (hsh : sh[o]? = some (.inr (.inr (ci, fs)))) (hlen : as.length = mi.2.2.2.2.2.1) (hlk : Cond.methodLink own i mi.1 ∈ T) (hfit : zfit r = true)
    (hmet : zMet l D cl ad cA nm sh ns T (zRm d) mi (.ref o :: as) S Q) (hdg : decode cc pc = .ok (.invokevirtual i, 3))
    (hc : ∀ rv S', Q rv S' → zX p l e R s m args below meth c Qw mL D cl ad cA sh A (pc + 3) ls (zpush rv r) S') :
    zX p l e R s m args below meth c Qw mL D cl ad cA sh A pc ls (as.reverse ++ .ref o :: r) S := by
  intro H locs ls' hP hS hll hnd hL
  obtain ⟨m1, m2, m3, m4, m5, m6, m7, m8, m9, m10⟩ := hM
  obtain ⟨k1, k2, F, N, k3⟩ := m5 ci hci
  obtain ⟨t1, t2, t3⟩ := hT
  have hw : ∀ w ∈ T, w.before args s = true := fun w h => hts w (List.mem_cons_of_mem _ h)
  have hG : GoodIn (y0 :: T) (Cond.code mi.1 mi.2.1 mi.2.2.1 mi.2.2.2.1 :: T) := zgood t3 (fun w h => (List.mem_cons.mp h).elim (fun e => e ▸ m1) id)
  have cb : CallB R s args own i mi.1 mi.2.1 mi.2.2.1 mi.2.2.2.1 (Cond.code mi.1 mi.2.1 mi.2.2.1 mi.2.2.2.1 :: T) (zRm d) 0 0 mi.2.2.2.2.2.1 :=
    callB_of _ hts hG rfl rfl rfl (hw _ m2) (hw _ hlk) ⟨m6, m7, m8⟩ ⟨by show d + 1 ≤ R.frames; exact hR.1, by show 8 + (mi.2.2.1 + 11) + 60 * d ≤ R.locals; omega⟩
  have hcw : CallW R s args own mi.1.cls i mi.1 mi.2.1 mi.2.2.1 mi.2.2.2.1 (Cond.code mi.1 mi.2.1 mi.2.2.1 mi.2.2.2.1 :: T) (zRm d) 0 0 mi.2.2.2.2.2.1 := ⟨cb, hw _ k1, hw _ k2⟩
  have hrecv : ∃ cell : Cell, H[ad o]? = some cell ∧ cell.vm.isStatics = false ∧ s.vm.findClass mi.1.cls = some cell.cls := va_recv hK hP k3 (zws_at hsh)
  refine zcont (S := S) (r := r) hD hA hS hll hnd hL (va_runV (b := ad o) (As := as.map (zv ad)) (rest := r.map (zv ad)) (nL := mL) ⟨hx, hb, hml, hown, hts⟩ (hmet H.size) hcw ⟨zPre_blind, hrecv, fun U hU hW => ⟨rfl, zpreU hK hP hD hns U hU hW⟩⟩ rfl (by simp [hlen]) hL.1 (by simp [zv]) (zroom hfit) hdg ⟨Nat.zero_le _, Nat.zero_le _⟩) hc
/-- a call of a static method -/
theorem zinvS {K : zKT} {Y : zXT} {pc i : Nat} {mi : zMI} {ls : zLs} {as r : List Value} {S : zS} {Q : Option Value → zS → Prop}
    (hx : p.tables.exec = Jvm.exec) (hb : c.code = cc) (hml : c.maxLocals = mL) (hown : s.vm.findClass own = some m.cls) (hts : ∀ w ∈ y0 :: T, w.before args s = true) (hK : va_K D cl (zty cA nm sh) s) (hD : ∀ S, va_D A (zws ad cA sh S)) (hA : ∀ q, s.heap.size ≤ q → A q) (hns : ∀ q ∈ ns, va_Nw (.methodLinkNest q.1 q.2.1 q.2.2.1 q.2.2.2) s)
    (hT : zTok cl T) (hM : zMok cl T mi) (hR : d + 1 ≤ R.frames ∧ 60 * (d + 1) ≤ R.locals)
    (hci : mi.2.2.2.2.2.2.1 = 0) (hlen : as.length = mi.2.2.2.2.2.1) (hlk : Cond.methodLink own i mi.1 ∈ T ∨ ∃ hst, (own, i, mi.1, hst) ∈ ns) (hfit : zfit r = true)
    (hmet : zMet l D cl ad cA nm sh ns T (zRm d) mi as S Q) (hdg : decode cc pc = .ok (.invokestatic i, 3))
    (hc : ∀ rv S', Q rv S' → zX p l e R s m args below meth c Qw mL D cl ad cA sh A (pc + 3) ls (zpush rv r) S') :
    zX p l e R s m args below meth c Qw mL D cl ad cA sh A pc ls (as.reverse ++ r) S := by
  intro H locs ls' hP hS hll hnd hL
  obtain ⟨m1, m2, m3, m4, m5, m6, m7, m8, m9, m10⟩ := hM
  obtain ⟨t1, t2, t3⟩ := hT
  have hw : ∀ w ∈ T, w.before args s = true := fun w h => hts w (List.mem_cons_of_mem _ h)
  have hG : GoodIn (y0 :: T) (Cond.code mi.1 mi.2.1 mi.2.2.1 mi.2.2.2.1 :: T) := zgood t3 (fun w h => (List.mem_cons.mp h).elim (fun e => e ▸ m1) id)
  have hR' : (zRm d).frames + 1 ≤ R.frames ∧ 8 + (mi.2.2.1 + 11) + (zRm d).locals ≤ R.locals := ⟨by show d + 1 ≤ R.frames; exact hR.1, by show 8 + (mi.2.2.1 + 11) + 60 * d ≤ R.locals; omega⟩
  rcases hlk with hlk | ⟨hst, hlk⟩
  · have cb : CallB R s args own i mi.1 mi.2.1 mi.2.2.1 mi.2.2.2.1 (Cond.code mi.1 mi.2.1 mi.2.2.1 mi.2.2.2.1 :: T) (zRm d) 0 0 mi.2.2.2.2.2.1 :=
      callB_of _ hts hG rfl rfl rfl (hw _ m2) (hw _ hlk) ⟨m6, m7, m8⟩ hR'
    refine zcont (S := S) (r := r) hD hA hS hll hnd hL (va_runS (As := as.map (zv ad)) (rest := r.map (zv ad)) (nL := mL) ⟨hx, hb, hml, hown, hts⟩ (hmet H.size) ⟨cb, hw _ (m4 hci)⟩ ⟨zPre_blind, fun U hU hW => ⟨rfl, zpreU hK hP hD hns U hU hW⟩⟩ rfl (by simp [hlen]) hL.1 (by simp) (zroom hfit) hdg ⟨Nat.zero_le _, Nat.zero_le _⟩) hc
  · have cb : va_CN R s args own i mi.1 hst mi.2.1 mi.2.2.1 mi.2.2.2.1 (Cond.code mi.1 mi.2.1 mi.2.2.1 mi.2.2.2.1 :: T) (zRm d) 0 0 mi.2.2.2.2.2.1 :=
      va_cnB _ hts hG rfl rfl rfl (hns _ hlk) (hw _ m2) ⟨m6, m7, m8⟩ hR'
    refine zcont (S := S) (r := r) hD hA hS hll hnd hL (va_runSN (As := as.map (zv ad)) (rest := r.map (zv ad)) (nL := mL) ⟨hx, hb, hml, hown, hts⟩ (hmet H.size) ⟨cb, hw _ (m4 hci), trivial⟩ ⟨zPre_blind, fun U hU hW => ⟨rfl, zpreU hK hP hD hns U hU hW⟩⟩ rfl (by simp [hlen]) hL.1 (by simp) (zroom hfit) hdg ⟨Nat.zero_le _, Nat.zero_le _⟩) hc
end ZS2
end
section
theorem zand {a b : Bool} (h : (a && b) = true) : a = true ∧ b = true := by cases a <;> cases b <;> simp_all
theorem zbq {a b : Nat} (h : Nat.beq a b = true) : a = b := Nat.eq_of_beq_eq_true h
theorem zdec {cc : ByteArray} {pc n : Nat} {ins : Instr} (h : decode cc pc = .ok (ins, pc + n - pc)) : decode cc pc = .ok (ins, n) := by rw [h, Nat.add_sub_cancel_left]
theorem zmem {T : List Cond} {h : Nat} {w : Cond} (hh : zn T h = some w) : w ∈ T := by rw [zn_eq] at hh; exact List.mem_of_getElem? hh
theorem zpos_nat {pc : Nat} {o : Int} (h : zpos pc o = true) : (pc : Int) + o = ((((pc : Int) + o).toNat : Nat) : Int) := by
  have := of_decide_eq_true h
  omega
theorem ztab_get {pc : Nat} {x : Int32} {G : Nat → Prop} : ∀ {offs : List Int} {lo : Int}, ztab pc x G offs lo → ∀ {j : Nat} {o : Int}, offs[j]? = some o → x.toInt = lo + j → G ((pc : Int) + o).toNat := by
  intro offs
  induction offs with
  | nil => intro lo _ j o h; simp at h
  | cons a t ih =>
    intro lo h j o hj hx
    cases j with
    | zero =>
      simp at hj
      subst hj
      exact h.1 (by simpa using hx)
    | succ j => exact ih h.2 (j := j) (by simpa using hj) (by rw [hx]; push_cast; omega)
theorem zlkp_get {pc : Nat} {x : Int32} {G : Nat → Prop} {df : Int} : ∀ {ps : List (Int × Int)}, zlkp pc x G df ps → G ((pc : Int) + Op.lookupswitch.offset ps df x.toInt).toNat := by
  intro ps
  induction ps with
  | nil => intro h; simpa [zlkp, Op.lookupswitch.offset] using h
  | cons a t ih =>
    intro h
    by_cases he : x.toInt = a.1
    · have := h.1 he
      simpa [Op.lookupswitch.offset, he] using this
    · have := ih (h.2 he)
      have he' : ¬ a.1 = x.toInt := fun e => he e.symm
      simpa [Op.lookupswitch.offset, he, he'] using this
end
section
section ZS3
variable {p : Program} {l : Launch} {e : Env} {R : Room} {s : State} {m : MethodId} {args : Array Value} {below : List Frame} {meth : Method} {c : Code} {mL : Nat} {D : va_G} {cl : List vw_C} {ad : Nat → Nat} {cA : Nat → ClassId} {nm : Nat → String} {sh : List zD} {A : Nat → Prop} {ns : zNT}
variable {cc : ByteArray} {own : String} {T : List Cond} {y0 : Cond} {d : Nat}
set_option maxHeartbeats 4000000 in
theorem zin_sim {K : zKT} {Y : zXT} {Ms : List zMI} {pc nx a b c3 hh rt : Nat} {ret : Option FieldType} {ins : Instr} {k : Int32} {ls : zLs} {st : List Value} {S : zS} {Q : Option Value → zS → Prop}
    (hx : p.tables.exec = Jvm.exec) (hb : c.code = cc) (hml : c.maxLocals = mL) (hown : s.vm.findClass own = some m.cls) (hts : ∀ w ∈ y0 :: T, w.before args s = true) (hK : va_K D cl (zty cA nm sh) s) (hD : ∀ S, va_D A (zws ad cA sh S)) (hA : ∀ q, s.heap.size ≤ q → A q) (hns : ∀ q ∈ ns, va_Nw (.methodLinkNest q.1 q.2.1 q.2.2.1 q.2.2.2) s)
    (hT : zTok cl T) (hMs : ∀ μ mi, zn Ms μ = some mi → zMok cl T mi) (hR : d + 1 ≤ R.frames ∧ 60 * (d + 1) ≤ R.locals)
    (hKs : ∀ μ mi vs S Q, zn Ms μ = some mi → K μ vs S Q → zMet l D cl ad cA nm sh ns T (zRm d) mi vs S Q)
    (hr : meth.sig.returnType = ret) (hrt : match rt with
      | 0 => ret = none
      | 1 => ret = some .int
      | 2 => ret = some .boolean
      | 3 => ret = some .long
      | _ => ∃ C, ret = some (.object C)) (hlocks : meth.locks = false)
    (hY : ∀ pc ls st S, Y pc ls st S → zX p l e R s m args below meth c (MQ below (zQc rt D cl ad cA sh A Q) args s 0 0 A) mL D cl ad cA sh A pc ls st S)
    (hok : zok1 cl T ns Ms own pc ins nx k a b c3 hh = true) (hdec : decode cc pc = .ok (ins, nx - pc))
    (h : zin sh K rt Q Y pc ins nx k a b c3 ls st S) : zX p l e R s m args below meth c (MQ below (zQc rt D cl ad cA sh A Q) args s 0 0 A) mL D cl ad cA sh A pc ls st S := by
  have hw : ∀ w ∈ T, w.before args s = true := fun w h => hts w (List.mem_cons_of_mem _ h)
  have ldI : ∀ {f : Value → Prop} {n : Nat} {ls' : Array Slot}, lv_has ls' mL (zll ad 0 ls) → zgl ls n f → ∃ v, f v ∧ ls'[n]? = some (.val (zv ad v)) := by
    intro f n ls' hL hg
    obtain ⟨v, hv, hm⟩ := zgl_spec (ad := ad) (i := 0) hg
    rw [Nat.zero_add] at hm
    exact ⟨v, hv, hL.2.2 _ hm⟩
  have stI : ∀ {v : Value} {n : Nat} {ls2 : zLs} {ls' : Array Slot}, (∀ q ∈ zll ad 0 ls2, q = (0 + n, zv ad v) ∨ (q ∈ zll ad 0 ls ∧ q.1 ≠ 0 + n ∧ ¬ (q.1 + 1 = 0 + n ∧ q.2.category = 2))) →
      lv_has ls' mL ((n, zv ad v) :: (zll ad 0 ls).filter (fun q => !(q.1 == n) && !(q.1 + 1 == n && q.2.category == 2))) → lv_has ls' mL (zll ad 0 ls2) := by
    intro v n ls2 ls' g hL
    refine zll_has hL (fun q hq => ?_)
    rcases g q hq with rfl | ⟨m1, m2, m3⟩
    · rw [Nat.zero_add]; exact List.mem_cons_self
    · refine List.mem_cons_of_mem _ (List.mem_filter.mpr ⟨m1, ?_⟩)
      rw [Nat.zero_add] at m2 m3
      simp only [Bool.and_eq_true, Bool.not_eq_true', beq_eq_false_iff_ne, ne_eq, Bool.and_eq_false_iff]
      refine ⟨m2, ?_⟩
      by_cases e1 : q.1 + 1 = n
      · exact Or.inr (fun e2 => m3 ⟨e1, e2⟩)
      · exact Or.inl e1
  have stL : ∀ {v : Value} {n : Nat} {ls2 : zLs} {ls' : Array Slot}, (∀ q ∈ zll ad 0 ls2, q = (0 + n, zv ad v) ∨ (q ∈ zll ad 0 ls ∧ q.1 ≠ 0 + n ∧ q.1 ≠ 0 + n + 1 ∧ ¬ (q.1 + 1 = 0 + n ∧ q.2.category = 2))) →
      lv_has ls' mL ((n, zv ad v) :: (zll ad 0 ls).filter (fun q => !(q.1 == n) && (!(q.1 == n + 1) && !(q.1 + 1 == n && q.2.category == 2)))) → lv_has ls' mL (zll ad 0 ls2) := by
    intro v n ls2 ls' g hL
    refine zll_has hL (fun q hq => ?_)
    rcases g q hq with rfl | ⟨m1, m2, m4, m3⟩
    · rw [Nat.zero_add]; exact List.mem_cons_self
    · refine List.mem_cons_of_mem _ (List.mem_filter.mpr ⟨m1, ?_⟩)
      rw [Nat.zero_add] at m2 m3 m4
      simp only [Bool.and_eq_true, Bool.not_eq_true', beq_eq_false_iff_ne, ne_eq, Bool.and_eq_false_iff]
      refine ⟨m2, m4, ?_⟩
      by_cases e1 : q.1 + 1 = n
      · exact Or.inr (fun e2 => m3 ⟨e1, e2⟩)
      · exact Or.inl e1
  unfold zin at h
  split at h
  · -- iconst
    obtain ⟨h1, h2⟩ := zand hok
    obtain rfl := zbq h1
    intro H locs ls' hP hS hll hnd hL
    exact lv_iconst hx hb (zdec hdec) (of_decide_eq_true h2) (hY _ _ _ _ h H locs ls' hP hS hll hnd hL)
  · -- bipush
    obtain ⟨h1, h2⟩ := zand hok
    obtain rfl := zbq h1
    intro H locs ls' hP hS hll hnd hL
    exact lv_bipush hx hb (zdec hdec) (of_decide_eq_true h2) (hY _ _ _ _ h H locs ls' hP hS hll hnd hL)
  · -- sipush
    obtain ⟨h1, h2⟩ := zand hok
    obtain rfl := zbq h1
    intro H locs ls' hP hS hll hnd hL
    exact lv_sipush hx hb (zdec hdec) (of_decide_eq_true h2) (hY _ _ _ _ h H locs ls' hP hS hll hnd hL)
  · -- ldc
    obtain ⟨h1, h2⟩ := zand hok
    obtain rfl := zbq h1
    intro H locs ls' hP hS hll hnd hL
    exact lv_ldc hx hb hown (hw _ (zmem (of_decide_eq_true h2))) (zdec hdec) (hY _ _ _ _ h H locs ls' hP hS hll hnd hL)
  · -- ldc_w
    obtain ⟨h1, h2⟩ := zand hok
    obtain rfl := zbq h1
    intro H locs ls' hP hS hll hnd hL
    exact lv_ldcw hx hb hown (hw _ (zmem (of_decide_eq_true h2))) (zdec hdec) (hY _ _ _ _ h H locs ls' hP hS hll hnd hL)
  · -- lconst
    obtain ⟨h1, h2⟩ := zand hok
    obtain rfl := zbq h1
    intro H locs ls' hP hS hll hnd hL
    exact lv_lconst hx hb (zdec hdec) (of_decide_eq_true h2) (hY _ _ _ _ h H locs ls' hP hS hll hnd hL)
  · -- ldc2_w
    obtain ⟨h1, h2⟩ := zand hok
    obtain rfl := zbq h1
    intro H locs ls' hP hS hll hnd hL
    exact lv_ldc2 hx hb hown (hw _ (zmem (of_decide_eq_true h2))) (zdec hdec) (hY _ _ _ _ h H locs ls' hP hS hll hnd hL)
  · -- aconst_null
    obtain rfl := zbq hok
    intro H locs ls' hP hS hll hnd hL
    exact lv_null hx hb (zdec hdec) (hY _ _ _ _ h H locs ls' hP hS hll hnd hL)
  · -- iload_n
    obtain rfl := zbq hok
    intro H locs ls' hP hS hll hnd hL
    obtain ⟨v, hv, hg⟩ := ldI hL h
    obtain ⟨x, rfl, hv⟩ := zvI_spec hv
    exact lv_iload_n hx hb (zdec hdec) rfl hg (hY _ _ _ _ hv H locs ls' hP hS hll hnd hL)
  · -- iload
    obtain rfl := zbq hok
    intro H locs ls' hP hS hll hnd hL
    obtain ⟨v, hv, hg⟩ := ldI hL h
    obtain ⟨x, rfl, hv⟩ := zvI_spec hv
    exact lv_iload hx hb (zdec hdec) hg (hY _ _ _ _ hv H locs ls' hP hS hll hnd hL)
  · -- lload_n
    obtain rfl := zbq hok
    intro H locs ls' hP hS hll hnd hL
    obtain ⟨v, hv, hg⟩ := ldI hL h
    obtain ⟨x, rfl, hv⟩ := zvL_spec hv
    exact lv_lload_n hx hb (zdec hdec) rfl hg (hY _ _ _ _ hv H locs ls' hP hS hll hnd hL)
  · -- lload
    obtain rfl := zbq hok
    intro H locs ls' hP hS hll hnd hL
    obtain ⟨v, hv, hg⟩ := ldI hL h
    obtain ⟨x, rfl, hv⟩ := zvL_spec hv
    exact lv_lload hx hb (zdec hdec) hg (hY _ _ _ _ hv H locs ls' hP hS hll hnd hL)
  · -- aload_n
    obtain rfl := zbq hok
    intro H locs ls' hP hS hll hnd hL
    obtain ⟨v, hv, hg⟩ := ldI hL h
    obtain ⟨hv, ⟨x, rfl⟩ | rfl⟩ := zvA_spec hv
    · exact lv_aload_n hx hb (zdec hdec) rfl hg (hY _ _ _ _ hv H locs ls' hP hS hll hnd hL)
    · exact lv_aload_nN hx hb (zdec hdec) rfl hg (hY _ _ _ _ hv H locs ls' hP hS hll hnd hL)
  · -- aload
    obtain rfl := zbq hok
    intro H locs ls' hP hS hll hnd hL
    obtain ⟨v, hv, hg⟩ := ldI hL h
    obtain ⟨hv, ⟨x, rfl⟩ | rfl⟩ := zvA_spec hv
    · exact lv_aload hx hb (zdec hdec) hg (hY _ _ _ _ hv H locs ls' hP hS hll hnd hL)
    · exact lv_aloadN hx hb (zdec hdec) hg (hY _ _ _ _ hv H locs ls' hP hS hll hnd hL)
  · -- istore_n
    obtain rfl := zbq hok
    obtain ⟨x, r, rfl, hq1⟩ := zpI_spec h
    intro H locs ls' hP hS hll hnd hL
    obtain ⟨ls2, g1, g2, g3, g4, g5⟩ := zsl_spec (ad := ad) (i := 0) (fun x e => by cases e) hnd hq1
    exact lv_istore_n hx hb (zdec hdec) rfl hL (by omega) rfl (fun ls'' hL' => hY _ _ _ _ g1 H locs ls'' hP hS (by omega) g2 (stI g5 hL'))
  · -- istore
    obtain rfl := zbq hok
    obtain ⟨x, r, rfl, hq2⟩ := zpI_spec h
    intro H locs ls' hP hS hll hnd hL
    obtain ⟨ls2, g1, g2, g3, g4, g5⟩ := zsl_spec (ad := ad) (i := 0) (fun x e => by cases e) hnd hq2
    exact lv_istore hx hb (zdec hdec) hL (by omega) rfl (fun ls'' hL' => hY _ _ _ _ g1 H locs ls'' hP hS (by omega) g2 (stI g5 hL'))
  · -- astore_n
    obtain rfl := zbq hok
    obtain ⟨x, r, rfl, hq3⟩ := zpR_spec h
    intro H locs ls' hP hS hll hnd hL
    obtain ⟨ls2, g1, g2, g3, g4, g5⟩ := zsl_spec (ad := ad) (i := 0) (fun x e => by cases e) hnd hq3
    exact lv_astore_n hx hb (zdec hdec) rfl hL (by omega) rfl (fun ls'' hL' => hY _ _ _ _ g1 H locs ls'' hP hS (by omega) g2 (stI g5 hL'))
  · -- astore
    obtain rfl := zbq hok
    obtain ⟨x, r, rfl, hq4⟩ := zpR_spec h
    intro H locs ls' hP hS hll hnd hL
    obtain ⟨ls2, g1, g2, g3, g4, g5⟩ := zsl_spec (ad := ad) (i := 0) (fun x e => by cases e) hnd hq4
    exact lv_astore hx hb (zdec hdec) hL (by omega) rfl (fun ls'' hL' => hY _ _ _ _ g1 H locs ls'' hP hS (by omega) g2 (stI g5 hL'))
  · -- lstore_n
    obtain rfl := zbq hok
    obtain ⟨x, r, rfl, hq5⟩ := zpL_spec h
    intro H locs ls' hP hS hll hnd hL
    obtain ⟨ls2, g1, g2, g3, g4, g5⟩ := zsl2_spec (ad := ad) (i := 0) (fun x e => by cases e) hnd hq5
    exact lv_lstore_n hx hb (zdec hdec) rfl hL (by omega) rfl (fun ls'' hL' => hY _ _ _ _ g1 H locs ls'' hP hS (by omega) g2 (stL g5 hL'))
  · -- lstore
    obtain rfl := zbq hok
    obtain ⟨x, r, rfl, hq6⟩ := zpL_spec h
    intro H locs ls' hP hS hll hnd hL
    obtain ⟨ls2, g1, g2, g3, g4, g5⟩ := zsl2_spec (ad := ad) (i := 0) (fun x e => by cases e) hnd hq6
    exact lv_lstore hx hb (zdec hdec) hL (by omega) rfl (fun ls'' hL' => hY _ _ _ _ g1 H locs ls'' hP hS (by omega) g2 (stL g5 hL'))
  · -- iinc
    obtain ⟨h1, h2⟩ := zand hok
    obtain rfl := zbq h1
    intro H locs ls' hP hS hll hnd hL
    obtain ⟨v, hv, hm⟩ := zgl_spec (ad := ad) (i := 0) h
    obtain ⟨x, rfl, hv⟩ := zvI_spec hv
    obtain ⟨ls2, g1, g2, g3, g4, g5⟩ := zsl_spec (ad := ad) (i := 0) (fun x e => by cases e) hnd hv
    obtain ⟨kk, hk⟩ := List.getElem?_of_mem hm
    rw [Nat.zero_add] at hk
    exact lv_iinc hx hb (zdec hdec) hL hk (by rw [of_decide_eq_true h2]) (by omega) rfl (fun ls'' hL' => hY _ _ _ _ g1 H locs ls'' hP hS (by omega) g2 (stI g5 hL'))
  · -- iadd
    obtain rfl := zbq hok
    obtain ⟨y, r, rfl, hq7⟩ := zpI_spec h
    obtain ⟨x, r, rfl, hq8⟩ := zpI_spec hq7
    intro H locs ls' hP hS hll hnd hL
    exact lv_iadd hx hb (zdec hdec) (hY _ _ _ _ hq8 H locs ls' hP hS hll hnd hL)
  · -- isub
    obtain rfl := zbq hok
    obtain ⟨y, r, rfl, hq9⟩ := zpI_spec h
    obtain ⟨x, r, rfl, hq10⟩ := zpI_spec hq9
    intro H locs ls' hP hS hll hnd hL
    exact lv_isub hx hb (zdec hdec) (hY _ _ _ _ hq10 H locs ls' hP hS hll hnd hL)
  · -- imul
    obtain rfl := zbq hok
    obtain ⟨y, r, rfl, hq11⟩ := zpI_spec h
    obtain ⟨x, r, rfl, hq12⟩ := zpI_spec hq11
    intro H locs ls' hP hS hll hnd hL
    exact lv_imul hx hb (zdec hdec) (hY _ _ _ _ hq12 H locs ls' hP hS hll hnd hL)
  · -- idiv
    obtain rfl := zbq hok
    obtain ⟨y, r, rfl, hq13⟩ := zpI_spec h
    obtain ⟨x, r, rfl, hne, hq14⟩ := zpI_spec hq13
    intro H locs ls' hP hS hll hnd hL
    exact lv_idiv hx hb (zdec hdec) hne (hY _ _ _ _ hq14 H locs ls' hP hS hll hnd hL)
  · -- irem
    obtain rfl := zbq hok
    obtain ⟨y, r, rfl, hq15⟩ := zpI_spec h
    obtain ⟨x, r, rfl, hne, hq16⟩ := zpI_spec hq15
    intro H locs ls' hP hS hll hnd hL
    exact lv_irem hx hb (zdec hdec) hne (hY _ _ _ _ hq16 H locs ls' hP hS hll hnd hL)
  · -- iand
    obtain rfl := zbq hok
    obtain ⟨y, r, rfl, hq17⟩ := zpI_spec h
    obtain ⟨x, r, rfl, hq18⟩ := zpI_spec hq17
    intro H locs ls' hP hS hll hnd hL
    exact lv_iand hx hb (zdec hdec) (hY _ _ _ _ hq18 H locs ls' hP hS hll hnd hL)
  · -- ineg
    obtain rfl := zbq hok
    obtain ⟨x, r, rfl, hq19⟩ := zpI_spec h
    intro H locs ls' hP hS hll hnd hL
    exact lv_ineg hx hb (zdec hdec) (hY _ _ _ _ hq19 H locs ls' hP hS hll hnd hL)
  · -- i2l
    obtain rfl := zbq hok
    obtain ⟨x, r, rfl, hq20⟩ := zpI_spec h
    intro H locs ls' hP hS hll hnd hL
    exact lv_i2l hx hb (zdec hdec) rfl (hY _ _ _ _ hq20 H locs ls' hP hS hll hnd hL)
  · -- i2b
    obtain rfl := zbq hok
    obtain ⟨x, r, rfl, hq21⟩ := zpI_spec h
    intro H locs ls' hP hS hll hnd hL
    exact lv_i2b hx hb (zdec hdec) rfl (hY _ _ _ _ hq21 H locs ls' hP hS hll hnd hL)
  · -- i2s
    obtain rfl := zbq hok
    obtain ⟨x, r, rfl, hq22⟩ := zpI_spec h
    intro H locs ls' hP hS hll hnd hL
    exact lv_i2s hx hb (zdec hdec) rfl (hY _ _ _ _ hq22 H locs ls' hP hS hll hnd hL)
  · -- ladd
    obtain rfl := zbq hok
    obtain ⟨y, r, rfl, hq23⟩ := zpL_spec h
    obtain ⟨x, r, rfl, hq24⟩ := zpL_spec hq23
    intro H locs ls' hP hS hll hnd hL
    exact lv_ladd hx hb (zdec hdec) (hY _ _ _ _ hq24 H locs ls' hP hS hll hnd hL)
  · -- lmul
    obtain rfl := zbq hok
    obtain ⟨y, r, rfl, hq25⟩ := zpL_spec h
    obtain ⟨x, r, rfl, hq26⟩ := zpL_spec hq25
    intro H locs ls' hP hS hll hnd hL
    exact lv_lmul hx hb (zdec hdec) (hY _ _ _ _ hq26 H locs ls' hP hS hll hnd hL)
  · -- lcmp
    obtain rfl := zbq hok
    obtain ⟨y, r, rfl, hq27⟩ := zpL_spec h
    obtain ⟨x, r, rfl, hq28⟩ := zpL_spec hq27
    intro H locs ls' hP hS hll hnd hL
    exact W.lcmp hx hb (zdec hdec) (hY _ _ _ _ hq28 H locs ls' hP hS hll hnd hL)
  · -- dup
    obtain rfl := zbq hok
    split at h
    · intro H locs ls' hP hS hll hnd hL
      exact lv_dup hx hb (zdec hdec) rfl (hY _ _ _ _ h H locs ls' hP hS hll hnd hL)
    · intro H locs ls' hP hS hll hnd hL
      exact lv_dup hx hb (zdec hdec) rfl (hY _ _ _ _ h H locs ls' hP hS hll hnd hL)
    · exact h.elim
  · -- dup2
    obtain rfl := zbq hok
    obtain ⟨y, r, rfl, hq29⟩ := zpI_spec h
    obtain ⟨x, r, rfl, hq30⟩ := zpR_spec hq29
    intro H locs ls' hP hS hll hnd hL
    exact lv_dup2_11 hx hb (zdec hdec) rfl rfl (hY _ _ _ _ hq30 H locs ls' hP hS hll hnd hL)
  · -- pop
    obtain rfl := zbq hok
    split at h
    · intro H locs ls' hP hS hll hnd hL
      exact lv_pop hx hb (zdec hdec) rfl (hY _ _ _ _ h H locs ls' hP hS hll hnd hL)
    · intro H locs ls' hP hS hll hnd hL
      exact lv_pop hx hb (zdec hdec) rfl (hY _ _ _ _ h H locs ls' hP hS hll hnd hL)
    · exact h.elim
  · -- goto
    obtain ⟨h1, h2⟩ := zand hok
    obtain rfl := zbq h1
    intro H locs ls' hP hS hll hnd hL
    exact lv_goto hx hb (zdec hdec) (of_decide_eq_true h2) (hY _ _ _ _ h H locs ls' hP hS hll hnd hL)
  · -- ifCond
    obtain ⟨h1, h2⟩ := zand hok
    obtain rfl := zbq h1
    have h2 := of_decide_eq_true h2
    obtain ⟨x, r, rfl, hq31⟩ := zpI_spec h
    intro H locs ls' hP hS hll hnd hL
    unfold zif at hq31
    split at hq31
    · exact lv_if_eq hx hb (zdec hdec) h2 (fun q => hY _ _ _ _ (hq31.1 q) H locs ls' hP hS hll hnd hL) (fun q => hY _ _ _ _ (hq31.2 q) H locs ls' hP hS hll hnd hL)
    · exact lv_if_ne hx hb (zdec hdec) h2 (fun q => hY _ _ _ _ (hq31.1 q) H locs ls' hP hS hll hnd hL) (fun q => hY _ _ _ _ (hq31.2 q) H locs ls' hP hS hll hnd hL)
    · exact lv_if_lt hx hb (zdec hdec) h2 (fun q => hY _ _ _ _ (hq31.1 q) H locs ls' hP hS hll hnd hL) (fun q => hY _ _ _ _ (hq31.2 q) H locs ls' hP hS hll hnd hL)
    · exact lv_if_ge hx hb (zdec hdec) h2 (fun q => hY _ _ _ _ (hq31.1 q) H locs ls' hP hS hll hnd hL) (fun q => hY _ _ _ _ (hq31.2 q) H locs ls' hP hS hll hnd hL)
    · exact lv_if_gt hx hb (zdec hdec) h2 (fun q => hY _ _ _ _ (hq31.1 q) H locs ls' hP hS hll hnd hL) (fun q => hY _ _ _ _ (hq31.2 q) H locs ls' hP hS hll hnd hL)
    · exact lv_if_le hx hb (zdec hdec) h2 (fun q => hY _ _ _ _ (hq31.1 q) H locs ls' hP hS hll hnd hL) (fun q => hY _ _ _ _ (hq31.2 q) H locs ls' hP hS hll hnd hL)
  · -- if_icmp
    obtain ⟨h1, h2⟩ := zand hok
    obtain rfl := zbq h1
    have h2 := of_decide_eq_true h2
    obtain ⟨y, r, rfl, hq32⟩ := zpI_spec h
    obtain ⟨x, r, rfl, hq33⟩ := zpI_spec hq32
    intro H locs ls' hP hS hll hnd hL
    unfold zif at hq33
    split at hq33
    · exact lv_icmp_eq hx hb (zdec hdec) h2 (fun q => hY _ _ _ _ (hq33.1 q) H locs ls' hP hS hll hnd hL) (fun q => hY _ _ _ _ (hq33.2 q) H locs ls' hP hS hll hnd hL)
    · exact lv_icmp_ne hx hb (zdec hdec) h2 (fun q => hY _ _ _ _ (hq33.1 q) H locs ls' hP hS hll hnd hL) (fun q => hY _ _ _ _ (hq33.2 q) H locs ls' hP hS hll hnd hL)
    · exact lv_icmp_lt hx hb (zdec hdec) h2 (fun q => hY _ _ _ _ (hq33.1 q) H locs ls' hP hS hll hnd hL) (fun q => hY _ _ _ _ (hq33.2 q) H locs ls' hP hS hll hnd hL)
    · exact lv_icmp_ge hx hb (zdec hdec) h2 (fun q => hY _ _ _ _ (hq33.1 q) H locs ls' hP hS hll hnd hL) (fun q => hY _ _ _ _ (hq33.2 q) H locs ls' hP hS hll hnd hL)
    · exact lv_icmp_gt hx hb (zdec hdec) h2 (fun q => hY _ _ _ _ (hq33.1 q) H locs ls' hP hS hll hnd hL) (fun q => hY _ _ _ _ (hq33.2 q) H locs ls' hP hS hll hnd hL)
    · exact lv_icmp_le hx hb (zdec hdec) h2 (fun q => hY _ _ _ _ (hq33.1 q) H locs ls' hP hS hll hnd hL) (fun q => hY _ _ _ _ (hq33.2 q) H locs ls' hP hS hll hnd hL)
  · -- ifnull
    obtain ⟨h1, h2⟩ := zand hok
    obtain rfl := zbq h1
    have h2 := of_decide_eq_true h2
    split at h
    · intro H locs ls' hP hS hll hnd hL
      exact lv_ifnullN hx hb (zdec hdec) h2 (hY _ _ _ _ h H locs ls' hP hS hll hnd hL)
    · intro H locs ls' hP hS hll hnd hL
      exact lv_ifnull hx hb (zdec hdec) (hY _ _ _ _ h H locs ls' hP hS hll hnd hL)
    · exact h.elim
  · -- tableswitch
    rename_i df lo hi offs
    obtain ⟨h1, h2⟩ := zand hok
    obtain ⟨h2, h3⟩ := zand h2
    have h3 := of_decide_eq_true h3
    obtain ⟨x, r, rfl, hq34⟩ := zpI_spec h
    intro H locs ls' hP hS hll hnd hL
    by_cases hin : x.toInt < lo ∨ hi < x.toInt
    · exact lv_tableOut hx hb hdec hin (zpos_nat h1) (hY _ _ _ _ (hq34.1 hin) H locs ls' hP hS hll hnd hL)
    · have hj : (x.toInt - lo).toNat < offs.toList.length := by omega
      have ho : offs.toList[(x.toInt - lo).toNat]? = some offs.toList[(x.toInt - lo).toNat] := List.getElem?_eq_getElem hj
      have hg := ztab_get hq34.2 ho (by omega)
      exact lv_tableIn hx hb hdec (fun q => hin (Or.inl q)) (fun q => hin (Or.inr q)) (by rw [← Array.getElem?_toList]; exact ho) (zpos_nat (List.all_eq_true.mp h2 _ (List.getElem_mem hj))) (hY _ _ _ _ hg H locs ls' hP hS hll hnd hL)
  · -- lookupswitch
    rename_i df ps
    obtain ⟨h1, h2⟩ := zand hok
    obtain ⟨h2, h3⟩ := zand h2
    obtain ⟨x, r, rfl, hq35⟩ := zpI_spec h
    have hg := zlkp_get hq35
    intro H locs ls' hP hS hll hnd hL
    have hpos : zpos pc (Op.lookupswitch.offset ps.toList df x.toInt) = true := by
      have gen : ∀ qs : List (Int × Int), qs.all (fun q => zpos pc q.2) = true → zpos pc (Op.lookupswitch.offset qs df x.toInt) = true := by
        intro qs
        induction qs with
        | nil => intro _; simpa [Op.lookupswitch.offset] using h1
        | cons q t ih =>
          intro h2
          have h2' := List.all_eq_true.mp h2
          by_cases he : q.1 = x.toInt
          · have := h2' q List.mem_cons_self
            simpa [Op.lookupswitch.offset, he] using this
          · have := ih (List.all_eq_true.mpr (fun z hz => h2' z (List.mem_cons_of_mem _ hz)))
            have he' : ¬ x.toInt = q.1 := fun e => he e.symm
            simpa [Op.lookupswitch.offset, he, he'] using this
      exact gen _ h2
    exact lv_lookup hx hb hdec h3 rfl (zpos_nat hpos) (hY _ _ _ _ hg H locs ls' hP hS hll hnd hL)
  · -- getfield
    obtain ⟨h1, h2⟩ := zand hok
    obtain rfl := zbq h1
    obtain ⟨o, r, rfl, hq36⟩ := zpR_spec h
    obtain ⟨ci, fs, hsh, hq37⟩ := zobj_spec hq36
    obtain ⟨hci, hq38⟩ := zbif hq37
    obtain rfl := zbq hci
    intro H locs ls' hP hS hll hnd hL
    rw [zn_eq] at h2
    split at h2
    · rename_i C F N hcl
      obtain ⟨h3, h4⟩ := zand h2
      obtain ⟨h4, h5⟩ := zand h4
      have h3 := of_decide_eq_true h3
      have h4 := of_decide_eq_true h4
      have h5 := zmem (of_decide_eq_true h5)
      obtain ⟨u1, -, -⟩ := hT.1 _ _ _ _ hcl
      rw [zn_eq] at hq38
      cases hf : fs[b]? with
      | none => rw [hf] at hq38; exact hq38.elim
      | some f =>
        rw [hf] at hq38
        have hv : (fs.mapIdx (zfv ad S o))[b]? = some (zfv ad S o b f) := by simp [hf]
        refine va_get (D := D) (ci := ci) (C := C) (T := F) (N := N) hx hb hw u1 hown hK hP o (zws_at hsh) hcl b h3 (hw _ h5) (by rw [h4]; exact fun _ h9 => h9) hv (zdec hdec) ?_
        cases f with
        | none => exact hY _ _ _ _ hq38 H locs ls' hP hS hll hnd hL
        | some r => exact hY _ _ _ _ hq38 H locs ls' hP hS hll hnd hL
    · exact absurd h2 (by simp)
  · -- putfield
    obtain ⟨h1, h2⟩ := zand hok
    obtain rfl := zbq h1
    obtain ⟨x, r, rfl, hq39⟩ := zpI_spec h
    obtain ⟨o, r, rfl, hq40⟩ := zpR_spec hq39
    obtain ⟨ci, fs, hsh, hq41⟩ := zobj_spec hq40
    obtain ⟨hci, hf, hz, hq42⟩ := zbif hq41
    obtain rfl := zbq hci
    intro H locs ls' hP hS hll hnd hL
    rw [zn_eq] at h2 hf
    split at h2
    · rename_i C F N hcl
      obtain ⟨h3, h4⟩ := zand h2
      obtain ⟨h4, h5⟩ := zand h4
      obtain ⟨h5, h6⟩ := zand h5
      obtain ⟨h6, h7⟩ := zand h6
      have h3 := of_decide_eq_true h3
      have h4 := of_decide_eq_true h4
      have h5 := zmem (of_decide_eq_true h5)
      have h6 := of_decide_eq_true h6
      have h7 := of_decide_eq_true h7
      obtain ⟨u1, ⟨ty0, u2⟩, u3⟩ := hT.1 _ _ _ _ hcl
      have hlt : b < fs.length := (List.getElem?_eq_some_iff.mp hf).1
      obtain ⟨ty, t1, t2, t3⟩ : ∃ ty, parseFieldDescriptor (F b).2.2.1 = some ty ∧ narrow ty (.int x) = .int x ∧ fits ty (.int x) = true := by
        rcases h7 with ⟨e1, e2⟩ | e1
        · refine ⟨.boolean, by rw [e1]; decide +kernel, ?_, ?_⟩
          · rcases hz e2 with rfl | rfl <;> rfl
          · rcases hz e2 with rfl | rfl <;> rfl
        · exact ⟨.int, by rw [e1]; decide +kernel, rfl, rfl⟩
      refine va_put (D := D) (ci := ci) (C := C) (T := F) (N := N) hx hb hw u1 ty0 u2 u3 hown hK hP (hD S) hS o (zws_at hsh) hcl b h3 (hw _ h5) (by rw [h4]; exact fun _ h9 => h9) h6 t1 t2 t3 (by simpa using hlt) (zdec hdec) (fun H1 locs1 hP1 hD1 hS1 => ?_)
      rw [zws_set (S' := zu S o b x) hsh (by simp only [zce]; rw [← zfs_set hf]; rfl) (fun c' hc => zu_same hc)] at hP1
      exact hY _ _ _ _ hq42 H1 locs1 ls' hP1 hS1 hll hnd hL
    · exact absurd h2 (by simp)
  · -- iaload
    obtain rfl := zbq hok
    obtain ⟨i, r, rfl, hq43⟩ := zpI_spec h
    obtain ⟨o, r, rfl, hq44⟩ := zpR_spec hq43
    obtain ⟨n, hsh, hi, hq45⟩ := zarr_spec hq44
    intro H locs ls' hP hS hll hnd hL
    exact va_iald hx hb hK hP o o (zws_at hsh) (zty_at hsh) hi (zdec hdec) (hY _ _ _ _ hq45 H locs ls' hP hS hll hnd hL)
  · -- iastore
    obtain rfl := zbq hok
    obtain ⟨x, r, rfl, hq46⟩ := zpI_spec h
    obtain ⟨i, r, rfl, hq47⟩ := zpI_spec hq46
    obtain ⟨o, r, rfl, hq48⟩ := zpR_spec hq47
    obtain ⟨n, hsh, hi, hq49⟩ := zarr_spec hq48
    intro H locs ls' hP hS hll hnd hL
    refine va_iast hx hb hK hP (hD S) hS o o (zws_at hsh) (zty_at hsh) hi (zdec hdec) (fun H1 locs1 hP1 hD1 hS1 => ?_)
    rw [zws_set (S' := zu S o i.toNatClampNeg x) hsh (by simp [zce, zu_self]) (fun c' hc => zu_same hc)] at hP1
    exact hY _ _ _ _ hq49 H1 locs1 ls' hP1 hS1 hll hnd hL
  · -- aaload
    obtain rfl := zbq hok
    obtain ⟨i, r, rfl, hq50⟩ := zpI_spec h
    obtain ⟨o, r, rfl, hq51⟩ := zpR_spec hq50
    obtain ⟨rs, hsh, hi, hq52⟩ := zrow_spec hq51
    intro H locs ls' hP hS hll hnd hL
    have hlt : i.toNatClampNeg < rs.length := Nat.not_le.mp fun q => hi (Or.inr q)
    have hq : zn rs i.toNatClampNeg = some rs[i.toNatClampNeg] := by rw [zn_eq]; exact List.getElem?_eq_getElem hlt
    refine va_aldq hx hb hK hP o o (zws_at hsh) (zty_at hsh) hi (zdec hdec) ?_
    have := hY _ _ _ _ (hq52 _ hq) H locs ls' hP hS hll hnd hL
    rw [hq]
    exact this
  · -- arraylength
    obtain rfl := zbq hok
    obtain ⟨o, r, rfl, hq53⟩ := zpR_spec h
    obtain ⟨n, hsh, hq54⟩ := zarr_spec hq53
    intro H locs ls' hP hS hll hnd hL
    exact va_alen hx hb hK hP o o (zws_at hsh) (zty_at hsh) rfl (zdec hdec) (hY _ _ _ _ hq54 H locs ls' hP hS hll hnd hL)
  · -- invokevirtual
    obtain ⟨h1, h2⟩ := zand hok
    obtain rfl := zbq h1
    obtain ⟨as, r, rfl, hlen, hq55⟩ := zpop_spec h
    obtain ⟨o, r, rfl, hq56⟩ := zpR_spec hq55
    obtain ⟨ci, fs, hsh, hq57⟩ := zobj_spec hq56
    obtain ⟨hci, hq58⟩ := zbif hq57
    obtain ⟨hfit, hq59⟩ := zbif hq58
    obtain rfl := zbq hci
    split at h2
    · rename_i mi hmi
      obtain ⟨h3, h4⟩ := zand h2
      obtain ⟨h4, h5⟩ := zand h4
      have h3 := of_decide_eq_true h3
      have h4 := of_decide_eq_true h4
      have h5 := zmem (of_decide_eq_true h5)
      rw [List.append_nil] at hq59
      exact zinvV (K := K) (Y := Y) hx hb hml hown hts hK hD hA hns hT (hMs _ _ hmi) hR h4 hsh (by rw [hlen, h3]) h5 hfit (hKs _ _ _ _ _ hmi hq59) (zdec hdec) (fun rv S' hq => hY _ _ _ _ hq)
    · exact absurd h2 (by simp)
  · -- invokestatic
    obtain ⟨h1, h2⟩ := zand hok
    obtain rfl := zbq h1
    have hfr : 1 ≤ R.frames := by omega
    split at h
    · obtain ⟨as, r, rfl, hlen, hq60⟩ := zpop_spec h
      obtain ⟨hfit, hq61⟩ := zbif hq60
      have h2 : (match zn Ms a with
        | some mi => decide (mi.2.2.2.2.2.1 = b) && (decide (mi.2.2.2.2.2.2.1 = 0) && (decide (zn T hh = some (Cond.methodLink own _ mi.1)) || (match zn ns (hh - 100000) with
          | some (o, j, y, _) => decide (o = own) && (decide (j = _) && decide (y = mi.1))
          | none => false)))
        | none => false) = true := h2
      split at h2
      · rename_i mi hmi
        obtain ⟨h3, h4⟩ := zand h2
        obtain ⟨h4, h5⟩ := zand h4
        have h3 := of_decide_eq_true h3
        have h4 := of_decide_eq_true h4
        rw [List.append_nil] at hq61
        refine zinvS (K := K) (Y := Y) hx hb hml hown hts hK hD hA hns hT (hMs _ _ hmi) hR h4 (by rw [hlen, h3]) ?_ hfit (hKs _ _ _ _ _ hmi hq61) (zdec hdec) (fun rv S' hq => hY _ _ _ _ hq)
        rcases Bool.or_eq_true _ _ ▸ h5 with h5 | h5
        · exact Or.inl (zmem (of_decide_eq_true h5))
        · split at h5
          · rename_i o j y hst hns1
            obtain ⟨e1, e2⟩ := zand h5
            obtain ⟨e2, e3⟩ := zand e2
            have e1 := of_decide_eq_true e1
            have e2 := of_decide_eq_true e2
            have e3 := of_decide_eq_true e3
            subst e1 e2 e3
            rw [zn_eq] at hns1
            exact Or.inr ⟨hst, List.mem_of_getElem? hns1⟩
          · exact absurd h5 (by simp)
      · exact absurd h2 (by simp)
    · obtain ⟨y, r, rfl, hq62⟩ := zpI_spec h
      obtain ⟨x, r, rfl, hq63⟩ := zpI_spec hq62
      obtain ⟨hfit, hq64⟩ := zbif hq63
      have h2 := zmem (of_decide_eq_true h2)
      intro H locs ls' hP hS hll hnd hL
      have hcat : ((r.map (zv ad)).map fun v => v.category).sum ≤ 8 := by rw [zv_cats]; exact Nat.le_of_ble_eq_true hfit
      exact va_mmax hx hb (by rw [hml]; exact hL.1.symm) hown (hw _ h2) (hw _ (hT.2.1 _ (by simp))) (hw _ (hT.2.1 _ (by simp))) (hw _ (hT.2.1 _ (by simp))) hfr (by omega) (Nat.zero_le _) (Nat.zero_le _) (zdec hdec) (hY _ _ _ _ hq64 H locs ls' hP hS hll hnd hL)
    · obtain ⟨y, r, rfl, hq65⟩ := zpI_spec h
      obtain ⟨x, r, rfl, hq66⟩ := zpI_spec hq65
      obtain ⟨hfit, hq67⟩ := zbif hq66
      have h2 := zmem (of_decide_eq_true h2)
      intro H locs ls' hP hS hll hnd hL
      have hcat : ((r.map (zv ad)).map fun v => v.category).sum ≤ 8 := by rw [zv_cats]; exact Nat.le_of_ble_eq_true hfit
      exact va_mmin hx hb (by rw [hml]; exact hL.1.symm) hown (hw _ h2) (hw _ (hT.2.1 _ (by simp))) (hw _ (hT.2.1 _ (by simp))) (hw _ (hT.2.1 _ (by simp))) hfr (by omega) (Nat.zero_le _) (Nat.zero_le _) (zdec hdec) (hY _ _ _ _ hq67 H locs ls' hP hS hll hnd hL)
    · rename_i hc0 hc1 hc2
      obtain ⟨n, r, rfl, hq68⟩ := zpI_spec h
      obtain ⟨dp, r, rfl, hq69⟩ := zpI_spec hq68
      obtain ⟨o1, r, rfl, hq70⟩ := zpR_spec hq69
      obtain ⟨sp, r, rfl, hq71⟩ := zpI_spec hq70
      obtain ⟨o0, r, rfl, hq72⟩ := zpR_spec hq71
      obtain ⟨n0, hs0, hq73⟩ := zarr_spec hq72
      obtain ⟨n1, hs1, hq74⟩ := zarr_spec hq73
      obtain ⟨hfit, j1, j2, j3, j4, j5, hq75⟩ := zbif hq74
      split at h2
      · exact absurd rfl hc0
      · exact absurd rfl hc1
      · exact absurd rfl hc2
      have h2 := zmem (of_decide_eq_true h2)
      intro H locs ls' hP hS hll hnd hL
      have hcat : ((r.map (zv ad)).map fun v => v.category).sum ≤ 8 := by rw [zv_cats]; exact Nat.le_of_ble_eq_true hfit
      have hnat : nativeFrameWords "java/lang/System" "arraycopy" 5 + 11 ≤ 50 := by decide +kernel
      refine va_copyi hx hb (by rw [hml]; exact hL.1.symm) hown (hw _ h2) (hw _ (hT.2.1 _ (by simp))) (hw _ (hT.2.1 _ (by simp))) (hw _ (hT.2.1 _ (by simp))) hK hP (hD S) hS o0 o1 o0 o1 (zws_at hs0) (zws_at hs1) (zty_at hs0) (zty_at hs1) rfl j1 j2 j3 j4 j5 (fun _ _ => rfl) hfr (by omega) (zdec hdec) (fun H1 locs1 hP1 hD1 hS1 => ?_)
      rw [zws_set (S' := zcp S o0 o1 sp.toNatClampNeg dp.toNatClampNeg n.toNatClampNeg) hs1 (by simp [zce, zcp_self]) (fun c' hc => zcp_same hc)] at hP1
      exact hY _ _ _ _ hq75 H1 locs1 ls' hP1 hS1 hll hnd hL
  · -- ireturn
    obtain rfl := zbq hok
    split at h
    · split at h
      · intro H locs ls' hP hS hll hnd hL
        exact W.iret hx hb (hr.trans hrt) (fun t ht hW => ⟨⟨_, S, rfl, h, by show va_P D cl (zws ad cA sh S) t.heap; rw [ht]; exact hP⟩, hS.F ht⟩) hS.2.2 (zdec hdec) hlocks
      · intro H locs ls' hP hS hll hnd hL
        refine W.zret hx hb (hr.trans hrt) ?_ (fun t ht hW => ⟨⟨_, S, rfl, h.2, by show va_P D cl (zws ad cA sh S) t.heap; rw [ht]; exact hP⟩, hS.F ht⟩) hS.2.2 (zdec hdec) hlocks
        rcases h.1 with e | e <;> rw [e] <;> rfl
      · exact h.elim
    · exact h.elim
  · -- lreturn
    obtain rfl := zbq hok
    split at h
    · split at h
      · intro H locs ls' hP hS hll hnd hL
        exact W.lret hx hb (hr.trans hrt) (fun t ht hW => ⟨⟨_, S, rfl, h, by show va_P D cl (zws ad cA sh S) t.heap; rw [ht]; exact hP⟩, hS.F ht⟩) hS.2.2 (zdec hdec) hlocks
      · exact h.elim
    · exact h.elim
  · -- areturn
    obtain rfl := zbq hok
    split at h
    · rename_i x
      split at h
      · intro H locs ls' hP hS hll hnd hL
        obtain ⟨C, hC⟩ := hrt
        exact W.aret hx hb (hr.trans hC) (Or.inl ⟨C, rfl⟩) (Or.inr ⟨ad x, rfl⟩) (fun t ht hW => ⟨⟨(S, x), _, rfl, h, rfl, by show va_P D cl (zws ad cA sh S) t.heap; rw [ht]; exact hP⟩, hS.F ht⟩) hS.2.2 (zdec hdec) hlocks
      · exact h.elim
    · exact h.elim
  · -- return
    obtain rfl := zbq hok
    split at h
    · split at h
      · intro H locs ls' hP hS hll hnd hL
        exact W.vret hx hb (hr.trans hrt) (fun t ht hW => ⟨⟨S, rfl, h, by show va_P D cl (zws ad cA sh S) t.heap; rw [ht]; exact hP⟩, hS.F ht⟩) hS.2.2 (zdec hdec) hlocks
      · exact h.elim
    · exact h.elim
  · exact h.elim
end ZS3
end
section
theorem zvs_spec {ad : Nat → Nat} : ∀ {vs : List Value} {n i : Nat}, zvs vs n = true → (lg_sl (vs.map (zv ad))).length ≤ n ∧ (zen vs n).length = n ∧ znod (zen vs n) ∧ ∀ q ∈ zll ad i (zen vs n), q ∈ lv_args i (vs.map (zv ad)) := by
  have zrep : ∀ (n i : Nat), zll ad i (List.replicate n none) = [] := by
    intro n
    induction n with
    | zero => intro i; rfl
    | succ n ih => intro i; rw [List.replicate_succ, zll]; exact ih _
  intro vs
  induction vs with
  | nil =>
    intro n i _
    refine ⟨by simp [lg_sl], by simp [zen], ?_, ?_⟩
    · intro a ha x
      simp only [zen] at ha
      rw [List.eq_of_mem_replicate ha]
      exact fun e => by cases e
    · intro q hq
      simp only [zen, zrep] at hq
      cases hq
  | cons v t ih =>
    intro n i h
    have one : ∀ w : Value, (∀ x, w ≠ .long x) → (∀ x, w ≠ .double x) → ∀ n', zvs t n' = true → (lg_sl ((w :: t).map (zv ad))).length ≤ n' + 1 ∧ (some w :: zen t n').length = n' + 1 ∧ znod (some w :: zen t n') ∧ ∀ q ∈ zll ad i (some w :: zen t n'), q ∈ lv_args i ((w :: t).map (zv ad)) := by
      intro w h1 h2 n' ht
      obtain ⟨a1, a2, a3, a4⟩ := ih (i := i + 1) ht
      have hc : ¬ (zv ad w).category = 2 := by
        intro e
        obtain ⟨x, e⟩ := zcat2 (fun x e => h2 x e) e
        exact h1 x e
      refine ⟨?_, by simp [a2], ?_, ?_⟩
      · simp only [lg_sl, List.map_cons, List.flatMap_cons, hc, if_false, List.length_append, List.length_cons, List.length_nil] at a1 ⊢
        omega
      · intro a ha x
        rcases List.mem_cons.mp ha with rfl | ha
        · exact fun e => h2 x (Option.some.inj e)
        · exact a3 a ha x
      · intro q hq
        simp only [zll, List.mem_cons] at hq
        simp only [List.map_cons, lv_args, hc, if_false, List.mem_cons]
        exact hq.imp id (fun h => a4 q h)
    cases v with
    | int x => cases n with
      | zero => cases h
      | succ n => exact one (.int x) (fun _ e => by cases e) (fun _ e => by cases e) n h
    | ref x => cases n with
      | zero => cases h
      | succ n => exact one (.ref x) (fun _ e => by cases e) (fun _ e => by cases e) n h
    | null => cases n with
      | zero => cases h
      | succ n => exact one .null (fun _ e => by cases e) (fun _ e => by cases e) n h
    | long x =>
      rcases n with _ | _ | n
      · cases h
      · cases h
      · obtain ⟨a1, a2, a3, a4⟩ := ih (n := n) (i := i + 2) h
        have hc : (zv ad (.long x)).category = 2 := rfl
        refine ⟨?_, by simp [zen, a2], ?_, ?_⟩
        · simp only [lg_sl, List.map_cons, List.flatMap_cons, hc, if_true, List.length_append, List.length_cons, List.length_nil] at a1 ⊢
          omega
        · intro a ha y
          simp only [zen, Nat.add_sub_cancel] at ha
          rcases List.mem_cons.mp ha with rfl | ha
          · exact fun e => by cases e
          · rcases List.mem_cons.mp ha with rfl | ha
            · exact fun e => by cases e
            · exact a3 a ha y
        · intro q hq
          simp only [zen, Nat.add_sub_cancel, zll, List.mem_cons] at hq
          simp only [List.map_cons, lv_args, hc, if_true, List.mem_cons]
          exact hq.imp id (fun h => a4 q h)
    | float x => cases n <;> cases h
    | double x => cases n <;> cases h
    | retAddr x => cases n <;> cases h
theorem zlk_mem : ∀ {l : List zI} {pc : Nat} {x : zI}, zlk l pc = some x → x ∈ l ∧ x.1 = pc := by
  intro l
  induction l with
  | nil => intro pc x h; cases h
  | cons a t ih =>
    intro pc x h
    unfold zlk at h
    cases hb : Nat.beq a.1 pc with
    | true =>
      rw [hb] at h
      cases h
      exact ⟨List.mem_cons_self, zbq hb⟩
    | false =>
      rw [hb] at h
      obtain ⟨h1, h2⟩ := ih h
      exact ⟨List.mem_cons_of_mem _ h1, h2⟩
theorem zat_mem {C : zC} {pc : Nat} {x : zI} (h : zat C pc = some x) : (∃ ch ∈ C, x ∈ ch) ∧ x.1 = pc := by
  unfold zat at h
  split at h
  · cases h
  · rename_i l hl
    rw [zn_eq] at hl
    obtain ⟨h1, h2⟩ := zlk_mem h
    exact ⟨⟨l, List.mem_of_getElem? hl, h1⟩, h2⟩
def zokx (cl : List vw_C) (T : List Cond) (ns : zNT) (Ms : List zMI) (y : MethodName) (bs : ByteArray) (x : zI) : Bool :=
  decide (decode bs x.1 = .ok (x.2.1, x.2.2.1 - x.1)) && zok1 cl T ns Ms y.cls x.1 x.2.1 x.2.2.1 x.2.2.2.1 x.2.2.2.2.1 x.2.2.2.2.2.1 x.2.2.2.2.2.2.1 x.2.2.2.2.2.2.2
def zCok (cl : List vw_C) (T : List Cond) (ns : zNT) (Ms : List zMI) (mi : zMI) : Prop := ∀ ch ∈ mi.2.2.2.2.2.2.2, ∀ x ∈ ch, zokx cl T ns Ms mi.1 mi.2.1 x = true
set_option maxHeartbeats 4000000 in
/-- what the small machine comes to, the machine comes to -/
theorem zmet_all {l : Launch} {D : va_G} {cl : List vw_C} {ad : Nat → Nat} {cA : Nat → ClassId} {nm : Nat → String} {sh : List zD} {ns : zNT} {T : List Cond} {Ms : List zMI}
    (hT : zTok cl T) (hMs : ∀ μ mi, zn Ms μ = some mi → zMok cl T mi) (hCs : ∀ μ mi, zn Ms μ = some mi → zCok cl T ns Ms mi) :
    ∀ (d μ : Nat) (mi : zMI) (vs : List Value) (S : zS) (Q : Option Value → zS → Prop), zn Ms μ = some mi → zK Ms sh d μ vs S Q → zMet l D cl ad cA nm sh ns T (zRm d) mi vs S Q := by
  intro d
  induction d with
  | zero => intro μ mi vs S Q _ h; exact h.elim
  | succ d ih =>
    intro μ mi vs S Q hmi h sz
    have hMi := hMs μ mi hmi
    have hCi := hCs μ mi hmi
    obtain ⟨y, bs, mL, ret, rt, na, kd, C⟩ := mi
    obtain ⟨hvs, h⟩ : zvs vs mL = true ∧ zWp sh (zK Ms sh d) C rt Q 0 (zen vs mL) [] S := by
      unfold zK at h
      rw [hmi] at h
      exact h
    obtain ⟨v1, v2, v3, v4⟩ := zvs_spec (ad := ad) (i := 0) hvs
    refine Met.ofW (cc := bs) (maxL := mL) (ret := ret) hMi.2.2.2.2.2.2.2.2.1 rfl ?_
    intro p e s m args below meth c s₁ B hml hv
    obtain ⟨rfl, hsz, hP, hK, hD0, hns⟩ := hv
    have hts := atoms_spec (ws := Cond.code y bs mL ret :: T) B.pre
    have hown : s.vm.findClass y.cls = some m.cls := findClass_of_methodNamed B.named
    subst hsz
    have hD := hD0.self (sz := s.heap.size)
    have hA : ∀ q : Nat, s.heap.size ≤ q → va_A (zws ad cA sh S) s.heap.size q := fun q h => Or.inr h
    have hDS : ∀ S', va_D (va_A (zws ad cA sh S) s.heap.size) (zws ad cA sh S') := fun S' => zws_D hD
    have hl := lv_entry (vs.map (zv ad)) (n := mL) v1
    rw [lg_entry_eq]
    have key := h (zX p l e (headSpec (Cond.code y bs mL ret :: T) (zRm (d + 1))).room s m (vs.map (zv ad)).toArray below meth c (MQ below (zQc rt D cl ad cA sh (va_A (zws ad cA sh S) s.heap.size) Q) (vs.map (zv ad)).toArray s 0 0 (va_A (zws ad cA sh S) s.heap.size)) mL D cl ad cA sh (va_A (zws ad cA sh S) s.heap.size)) (by
      intro Y pc ls st S' hY hst
      unfold zstp at hst
      split at hst
      · rename_i pc0 ins nx k a b c3 hh hat
        obtain ⟨⟨ch, hch, hxx⟩, hpc⟩ := zat_mem hat
        dsimp only at hpc
        subst hpc
        obtain ⟨o1, o2⟩ := zand (hCi ch hch _ hxx)
        exact zin_sim (own := y.cls) (ret := ret) (T := T) (d := d) B.exec B.bytes hml hown hts hK hDS hA hns hT hMs ⟨Nat.le_refl _, Nat.le_refl _⟩ (fun μ mi vs S Q h1 h2 => ih μ mi vs S Q h1 h2) B.returns hMi.2.2.2.2.2.2.2.2.2 B.notSynchronized hY o2 (of_decide_eq_true o1) hst
      · exact hst.elim)
    exact key s.heap [] _ hP va_S.rf (by omega) v3 (zll_has hl v4)
end
