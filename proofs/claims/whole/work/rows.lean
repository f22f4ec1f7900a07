section
-- ===== PART A: goes FIRST, ahead of the names: the tables' words, and 'selects' of the private methods out of them =====
/-- a private method of a class that the tables say can be made, by its rows of tables_1 -/
def lw_okq (q : MethodName × Nat) : Prop := (q.1.cls ≠ "java/lang/invoke/MethodHandle" ∧ q.1.cls ≠ "java/lang/invoke/VarHandle") ∧ Cond.instantiable q.1.cls q.2 ∈ tables_1 ∧ Cond.privateMethod q.1 ∈ tables_1 ∧ Cond.instanceMethod q.1 ∈ tables_1
theorem lw_p0 : lw_okq (⟨"ConsHouse$Reader", "scan", "()Z"⟩, 14) := ⟨⟨by decide +kernel, by decide +kernel⟩, List.mem_of_getElem? (i := 227) (by decide +kernel), List.mem_of_getElem? (i := 460) (by decide +kernel), List.mem_of_getElem? (i := 461) (by decide +kernel)⟩
theorem lw_p1 : lw_okq (⟨"ConsHouse$Reader", "takeToken", "(I)Z"⟩, 14) := ⟨⟨by decide +kernel, by decide +kernel⟩, List.mem_of_getElem? (i := 227) (by decide +kernel), List.mem_of_getElem? (i := 466) (by decide +kernel), List.mem_of_getElem? (i := 467) (by decide +kernel)⟩
theorem lw_p2 : lw_okq (⟨"ConsHouse$Reader", "takeClose", "()Z"⟩, 14) := ⟨⟨by decide +kernel, by decide +kernel⟩, List.mem_of_getElem? (i := 227) (by decide +kernel), List.mem_of_getElem? (i := 470) (by decide +kernel), List.mem_of_getElem? (i := 471) (by decide +kernel)⟩
theorem lw_p3 : lw_okq (⟨"ConsHouse$Reader", "state", "()I"⟩, 14) := ⟨⟨by decide +kernel, by decide +kernel⟩, List.mem_of_getElem? (i := 227) (by decide +kernel), List.mem_of_getElem? (i := 474) (by decide +kernel), List.mem_of_getElem? (i := 475) (by decide +kernel)⟩
theorem lw_p4 : lw_okq (⟨"ConsHouse$Reader", "noteExpression", "()V"⟩, 14) := ⟨⟨by decide +kernel, by decide +kernel⟩, List.mem_of_getElem? (i := 227) (by decide +kernel), List.mem_of_getElem? (i := 478) (by decide +kernel), List.mem_of_getElem? (i := 479) (by decide +kernel)⟩
theorem lw_p5 : lw_okq (⟨"ConsHouse$Reader", "keep", "(J)Z"⟩, 14) := ⟨⟨by decide +kernel, by decide +kernel⟩, List.mem_of_getElem? (i := 227) (by decide +kernel), List.mem_of_getElem? (i := 483) (by decide +kernel), List.mem_of_getElem? (i := 484) (by decide +kernel)⟩
theorem lw_p6 : lw_okq (⟨"ConsHouse$Reader", "takeDot", "()Z"⟩, 14) := ⟨⟨by decide +kernel, by decide +kernel⟩, List.mem_of_getElem? (i := 227) (by decide +kernel), List.mem_of_getElem? (i := 487) (by decide +kernel), List.mem_of_getElem? (i := 488) (by decide +kernel)⟩
theorem lw_p7 : lw_okq (⟨"ConsHouse$Reader", "takeOpen", "()Z"⟩, 14) := ⟨⟨by decide +kernel, by decide +kernel⟩, List.mem_of_getElem? (i := 227) (by decide +kernel), List.mem_of_getElem? (i := 492) (by decide +kernel), List.mem_of_getElem? (i := 493) (by decide +kernel)⟩
theorem lw_p8 : lw_okq (⟨"ConsHouse$Reader", "takeNumber", "(Z)Z"⟩, 14) := ⟨⟨by decide +kernel, by decide +kernel⟩, List.mem_of_getElem? (i := 227) (by decide +kernel), List.mem_of_getElem? (i := 500) (by decide +kernel), List.mem_of_getElem? (i := 501) (by decide +kernel)⟩
theorem lw_p9 : lw_okq (⟨"ConsHouse$Reader", "takeName", "()Z"⟩, 14) := ⟨⟨by decide +kernel, by decide +kernel⟩, List.mem_of_getElem? (i := 227) (by decide +kernel), List.mem_of_getElem? (i := 505) (by decide +kernel), List.mem_of_getElem? (i := 506) (by decide +kernel)⟩
theorem lw_p10 : lw_okq (⟨"ConsHouse$Reader", "build", "()V"⟩, 14) := ⟨⟨by decide +kernel, by decide +kernel⟩, List.mem_of_getElem? (i := 227) (by decide +kernel), List.mem_of_getElem? (i := 519) (by decide +kernel), List.mem_of_getElem? (i := 520) (by decide +kernel)⟩
theorem lw_p11 : lw_okq (⟨"ConsHouse$Reader", "openList", "()V"⟩, 14) := ⟨⟨by decide +kernel, by decide +kernel⟩, List.mem_of_getElem? (i := 227) (by decide +kernel), List.mem_of_getElem? (i := 523) (by decide +kernel), List.mem_of_getElem? (i := 524) (by decide +kernel)⟩
theorem lw_p12 : lw_okq (⟨"ConsHouse$Reader", "markDot", "()V"⟩, 14) := ⟨⟨by decide +kernel, by decide +kernel⟩, List.mem_of_getElem? (i := 227) (by decide +kernel), List.mem_of_getElem? (i := 527) (by decide +kernel), List.mem_of_getElem? (i := 528) (by decide +kernel)⟩
theorem lw_p13 : lw_okq (⟨"ConsHouse$Reader", "closeList", "()V"⟩, 14) := ⟨⟨by decide +kernel, by decide +kernel⟩, List.mem_of_getElem? (i := 227) (by decide +kernel), List.mem_of_getElem? (i := 531) (by decide +kernel), List.mem_of_getElem? (i := 532) (by decide +kernel)⟩
theorem lw_p14 : lw_okq (⟨"ConsHouse$Reader", "attach", "(J)V"⟩, 14) := ⟨⟨by decide +kernel, by decide +kernel⟩, List.mem_of_getElem? (i := 227) (by decide +kernel), List.mem_of_getElem? (i := 535) (by decide +kernel), List.mem_of_getElem? (i := 536) (by decide +kernel)⟩
theorem lw_p15 : lw_okq (⟨"ConsHouse$Heap", "cellOf", "(J)I"⟩, 8) := ⟨⟨by decide +kernel, by decide +kernel⟩, List.mem_of_getElem? (i := 32) (by decide +kernel), List.mem_of_getElem? (i := 543) (by decide +kernel), List.mem_of_getElem? (i := 544) (by decide +kernel)⟩
def lw_privs_1 : List (MethodName × Nat) := [(⟨"ConsHouse$Reader", "scan", "()Z"⟩, 14), (⟨"ConsHouse$Reader", "takeToken", "(I)Z"⟩, 14), (⟨"ConsHouse$Reader", "takeClose", "()Z"⟩, 14), (⟨"ConsHouse$Reader", "state", "()I"⟩, 14), (⟨"ConsHouse$Reader", "noteExpression", "()V"⟩, 14), (⟨"ConsHouse$Reader", "keep", "(J)Z"⟩, 14), (⟨"ConsHouse$Reader", "takeDot", "()Z"⟩, 14), (⟨"ConsHouse$Reader", "takeOpen", "()Z"⟩, 14), (⟨"ConsHouse$Reader", "takeNumber", "(Z)Z"⟩, 14), (⟨"ConsHouse$Reader", "takeName", "()Z"⟩, 14), (⟨"ConsHouse$Reader", "build", "()V"⟩, 14), (⟨"ConsHouse$Reader", "openList", "()V"⟩, 14), (⟨"ConsHouse$Reader", "markDot", "()V"⟩, 14), (⟨"ConsHouse$Reader", "closeList", "()V"⟩, 14), (⟨"ConsHouse$Reader", "attach", "(J)V"⟩, 14), (⟨"ConsHouse$Heap", "cellOf", "(J)I"⟩, 8)]
theorem lw_r1 : ∀ q ∈ lw_privs_1, lw_okq q := List.forall_mem_cons.mpr ⟨lw_p0, List.forall_mem_cons.mpr ⟨lw_p1, List.forall_mem_cons.mpr ⟨lw_p2, List.forall_mem_cons.mpr ⟨lw_p3, List.forall_mem_cons.mpr ⟨lw_p4, List.forall_mem_cons.mpr ⟨lw_p5, List.forall_mem_cons.mpr ⟨lw_p6, List.forall_mem_cons.mpr ⟨lw_p7, List.forall_mem_cons.mpr ⟨lw_p8, List.forall_mem_cons.mpr ⟨lw_p9, List.forall_mem_cons.mpr ⟨lw_p10, List.forall_mem_cons.mpr ⟨lw_p11, List.forall_mem_cons.mpr ⟨lw_p12, List.forall_mem_cons.mpr ⟨lw_p13, List.forall_mem_cons.mpr ⟨lw_p14, List.forall_mem_cons.mpr ⟨lw_p15, fun _ h => absurd h List.not_mem_nil⟩⟩⟩⟩⟩⟩⟩⟩⟩⟩⟩⟩⟩⟩⟩⟩
theorem lw_p16 : lw_okq (⟨"java/lang/Throwable", "fillInStackTrace", "(I)Ljava/lang/Throwable;"⟩, 6) := ⟨⟨by decide +kernel, by decide +kernel⟩, List.mem_of_getElem? (i := 589) (by decide +kernel), List.mem_of_getElem? (i := 587) (by decide +kernel), List.mem_of_getElem? (i := 588) (by decide +kernel)⟩
theorem lw_p17 : lw_okq (⟨"ConsHouse$Machine", "beginEvaluating", "(JJ)V"⟩, 15) := ⟨⟨by decide +kernel, by decide +kernel⟩, List.mem_of_getElem? (i := 278) (by decide +kernel), List.mem_of_getElem? (i := 622) (by decide +kernel), List.mem_of_getElem? (i := 623) (by decide +kernel)⟩
theorem lw_p18 : lw_okq (⟨"ConsHouse$Machine", "handBack", "()V"⟩, 15) := ⟨⟨by decide +kernel, by decide +kernel⟩, List.mem_of_getElem? (i := 278) (by decide +kernel), List.mem_of_getElem? (i := 626) (by decide +kernel), List.mem_of_getElem? (i := 627) (by decide +kernel)⟩
theorem lw_p19 : lw_okq (⟨"ConsHouse$Machine", "goOnWithCall", "()V"⟩, 15) := ⟨⟨by decide +kernel, by decide +kernel⟩, List.mem_of_getElem? (i := 278) (by decide +kernel), List.mem_of_getElem? (i := 639) (by decide +kernel), List.mem_of_getElem? (i := 640) (by decide +kernel)⟩
theorem lw_p20 : lw_okq (⟨"ConsHouse$Machine", "beginApplying", "(J)V"⟩, 15) := ⟨⟨by decide +kernel, by decide +kernel⟩, List.mem_of_getElem? (i := 278) (by decide +kernel), List.mem_of_getElem? (i := 658) (by decide +kernel), List.mem_of_getElem? (i := 659) (by decide +kernel)⟩
theorem lw_p21 : lw_okq (⟨"ConsHouse$Machine", "goOnWithChoice", "()V"⟩, 15) := ⟨⟨by decide +kernel, by decide +kernel⟩, List.mem_of_getElem? (i := 278) (by decide +kernel), List.mem_of_getElem? (i := 684) (by decide +kernel), List.mem_of_getElem? (i := 685) (by decide +kernel)⟩
theorem lw_p22 : lw_okq (⟨"ConsHouse$Machine", "choose", "()V"⟩, 15) := ⟨⟨by decide +kernel, by decide +kernel⟩, List.mem_of_getElem? (i := 278) (by decide +kernel), List.mem_of_getElem? (i := 688) (by decide +kernel), List.mem_of_getElem? (i := 689) (by decide +kernel)⟩
theorem lw_p23 : lw_okq (⟨"ConsHouse$Machine", "evaluatePair", "()V"⟩, 15) := ⟨⟨by decide +kernel, by decide +kernel⟩, List.mem_of_getElem? (i := 278) (by decide +kernel), List.mem_of_getElem? (i := 705) (by decide +kernel), List.mem_of_getElem? (i := 706) (by decide +kernel)⟩
theorem lw_p24 : lw_okq (⟨"ConsHouse$Machine", "evaluateQuote", "()V"⟩, 15) := ⟨⟨by decide +kernel, by decide +kernel⟩, List.mem_of_getElem? (i := 278) (by decide +kernel), List.mem_of_getElem? (i := 710) (by decide +kernel), List.mem_of_getElem? (i := 711) (by decide +kernel)⟩
theorem lw_p25 : lw_okq (⟨"ConsHouse$Machine", "answer", "(J)V"⟩, 15) := ⟨⟨by decide +kernel, by decide +kernel⟩, List.mem_of_getElem? (i := 278) (by decide +kernel), List.mem_of_getElem? (i := 714) (by decide +kernel), List.mem_of_getElem? (i := 715) (by decide +kernel)⟩
theorem lw_p26 : lw_okq (⟨"ConsHouse$Machine", "evaluateDefine", "()V"⟩, 15) := ⟨⟨by decide +kernel, by decide +kernel⟩, List.mem_of_getElem? (i := 278) (by decide +kernel), List.mem_of_getElem? (i := 720) (by decide +kernel), List.mem_of_getElem? (i := 721) (by decide +kernel)⟩
theorem lw_p27 : lw_okq (⟨"ConsHouse$Names", "isKnown", "(J)Z"⟩, 4) := ⟨⟨by decide +kernel, by decide +kernel⟩, List.mem_of_getElem? (i := 97) (by decide +kernel), List.mem_of_getElem? (i := 739) (by decide +kernel), List.mem_of_getElem? (i := 740) (by decide +kernel)⟩
theorem lw_p28 : lw_okq (⟨"ConsHouse$Machine", "evaluateCall", "(JJ)V"⟩, 15) := ⟨⟨by decide +kernel, by decide +kernel⟩, List.mem_of_getElem? (i := 278) (by decide +kernel), List.mem_of_getElem? (i := 743) (by decide +kernel), List.mem_of_getElem? (i := 744) (by decide +kernel)⟩
theorem lw_p29 : lw_okq (⟨"ConsHouse$Machine", "evaluateAtom", "()V"⟩, 15) := ⟨⟨by decide +kernel, by decide +kernel⟩, List.mem_of_getElem? (i := 278) (by decide +kernel), List.mem_of_getElem? (i := 747) (by decide +kernel), List.mem_of_getElem? (i := 748) (by decide +kernel)⟩
theorem lw_p30 : lw_okq (⟨"ConsHouse$Machine", "boundTo", "(J)J"⟩, 15) := ⟨⟨by decide +kernel, by decide +kernel⟩, List.mem_of_getElem? (i := 278) (by decide +kernel), List.mem_of_getElem? (i := 751) (by decide +kernel), List.mem_of_getElem? (i := 752) (by decide +kernel)⟩
theorem lw_p31 : lw_okq (⟨"ConsHouse$Machine", "applyPair", "()V"⟩, 15) := ⟨⟨by decide +kernel, by decide +kernel⟩, List.mem_of_getElem? (i := 278) (by decide +kernel), List.mem_of_getElem? (i := 760) (by decide +kernel), List.mem_of_getElem? (i := 761) (by decide +kernel)⟩
def lw_privs_2 : List (MethodName × Nat) := [(⟨"java/lang/Throwable", "fillInStackTrace", "(I)Ljava/lang/Throwable;"⟩, 6), (⟨"ConsHouse$Machine", "beginEvaluating", "(JJ)V"⟩, 15), (⟨"ConsHouse$Machine", "handBack", "()V"⟩, 15), (⟨"ConsHouse$Machine", "goOnWithCall", "()V"⟩, 15), (⟨"ConsHouse$Machine", "beginApplying", "(J)V"⟩, 15), (⟨"ConsHouse$Machine", "goOnWithChoice", "()V"⟩, 15), (⟨"ConsHouse$Machine", "choose", "()V"⟩, 15), (⟨"ConsHouse$Machine", "evaluatePair", "()V"⟩, 15), (⟨"ConsHouse$Machine", "evaluateQuote", "()V"⟩, 15), (⟨"ConsHouse$Machine", "answer", "(J)V"⟩, 15), (⟨"ConsHouse$Machine", "evaluateDefine", "()V"⟩, 15), (⟨"ConsHouse$Names", "isKnown", "(J)Z"⟩, 4), (⟨"ConsHouse$Machine", "evaluateCall", "(JJ)V"⟩, 15), (⟨"ConsHouse$Machine", "evaluateAtom", "()V"⟩, 15), (⟨"ConsHouse$Machine", "boundTo", "(J)J"⟩, 15), (⟨"ConsHouse$Machine", "applyPair", "()V"⟩, 15)]
theorem lw_r2 : ∀ q ∈ lw_privs_2, lw_okq q := List.forall_mem_cons.mpr ⟨lw_p16, List.forall_mem_cons.mpr ⟨lw_p17, List.forall_mem_cons.mpr ⟨lw_p18, List.forall_mem_cons.mpr ⟨lw_p19, List.forall_mem_cons.mpr ⟨lw_p20, List.forall_mem_cons.mpr ⟨lw_p21, List.forall_mem_cons.mpr ⟨lw_p22, List.forall_mem_cons.mpr ⟨lw_p23, List.forall_mem_cons.mpr ⟨lw_p24, List.forall_mem_cons.mpr ⟨lw_p25, List.forall_mem_cons.mpr ⟨lw_p26, List.forall_mem_cons.mpr ⟨lw_p27, List.forall_mem_cons.mpr ⟨lw_p28, List.forall_mem_cons.mpr ⟨lw_p29, List.forall_mem_cons.mpr ⟨lw_p30, List.forall_mem_cons.mpr ⟨lw_p31, fun _ h => absurd h List.not_mem_nil⟩⟩⟩⟩⟩⟩⟩⟩⟩⟩⟩⟩⟩⟩⟩⟩
theorem lw_p32 : lw_okq (⟨"ConsHouse$Machine", "applyLambda", "()V"⟩, 15) := ⟨⟨by decide +kernel, by decide +kernel⟩, List.mem_of_getElem? (i := 278) (by decide +kernel), List.mem_of_getElem? (i := 765) (by decide +kernel), List.mem_of_getElem? (i := 766) (by decide +kernel)⟩
theorem lw_p33 : lw_okq (⟨"ConsHouse$Machine", "bindAll", "(J)J"⟩, 15) := ⟨⟨by decide +kernel, by decide +kernel⟩, List.mem_of_getElem? (i := 278) (by decide +kernel), List.mem_of_getElem? (i := 776) (by decide +kernel), List.mem_of_getElem? (i := 777) (by decide +kernel)⟩
theorem lw_p34 : lw_okq (⟨"ConsHouse$Machine", "applyLabel", "()V"⟩, 15) := ⟨⟨by decide +kernel, by decide +kernel⟩, List.mem_of_getElem? (i := 278) (by decide +kernel), List.mem_of_getElem? (i := 783) (by decide +kernel), List.mem_of_getElem? (i := 784) (by decide +kernel)⟩
theorem lw_p35 : lw_okq (⟨"ConsHouse$Machine", "applyAtom", "()V"⟩, 15) := ⟨⟨by decide +kernel, by decide +kernel⟩, List.mem_of_getElem? (i := 278) (by decide +kernel), List.mem_of_getElem? (i := 792) (by decide +kernel), List.mem_of_getElem? (i := 793) (by decide +kernel)⟩
theorem lw_p36 : lw_okq (⟨"ConsHouse$Machine", "applyBuiltIn", "(I)V"⟩, 15) := ⟨⟨by decide +kernel, by decide +kernel⟩, List.mem_of_getElem? (i := 278) (by decide +kernel), List.mem_of_getElem? (i := 798) (by decide +kernel), List.mem_of_getElem? (i := 799) (by decide +kernel)⟩
theorem lw_p37 : lw_okq (⟨"ConsHouse$Machine", "takePart", "(IJ)V"⟩, 15) := ⟨⟨by decide +kernel, by decide +kernel⟩, List.mem_of_getElem? (i := 278) (by decide +kernel), List.mem_of_getElem? (i := 805) (by decide +kernel), List.mem_of_getElem? (i := 806) (by decide +kernel)⟩
theorem lw_p38 : lw_okq (⟨"ConsHouse$Machine", "makePair", "()V"⟩, 15) := ⟨⟨by decide +kernel, by decide +kernel⟩, List.mem_of_getElem? (i := 278) (by decide +kernel), List.mem_of_getElem? (i := 809) (by decide +kernel), List.mem_of_getElem? (i := 810) (by decide +kernel)⟩
theorem lw_p39 : lw_okq (⟨"ConsHouse$Machine", "answerTruth", "(Z)V"⟩, 15) := ⟨⟨by decide +kernel, by decide +kernel⟩, List.mem_of_getElem? (i := 278) (by decide +kernel), List.mem_of_getElem? (i := 813) (by decide +kernel), List.mem_of_getElem? (i := 814) (by decide +kernel)⟩
theorem lw_p40 : lw_okq (⟨"ConsHouse$Machine", "compareAtoms", "(JJ)V"⟩, 15) := ⟨⟨by decide +kernel, by decide +kernel⟩, List.mem_of_getElem? (i := 278) (by decide +kernel), List.mem_of_getElem? (i := 818) (by decide +kernel), List.mem_of_getElem? (i := 819) (by decide +kernel)⟩
theorem lw_p41 : lw_okq (⟨"ConsHouse$Machine", "reckon", "(IJJ)V"⟩, 15) := ⟨⟨by decide +kernel, by decide +kernel⟩, List.mem_of_getElem? (i := 278) (by decide +kernel), List.mem_of_getElem? (i := 823) (by decide +kernel), List.mem_of_getElem? (i := 824) (by decide +kernel)⟩
theorem lw_p42 : lw_okq (⟨"ConsHouse$Printer", "printBeginning", "(J)V"⟩, 7) := ⟨⟨by decide +kernel, by decide +kernel⟩, List.mem_of_getElem? (i := 333) (by decide +kernel), List.mem_of_getElem? (i := 847) (by decide +kernel), List.mem_of_getElem? (i := 848) (by decide +kernel)⟩
theorem lw_p43 : lw_okq (⟨"ConsHouse$Printer", "printAtom", "(J)V"⟩, 7) := ⟨⟨by decide +kernel, by decide +kernel⟩, List.mem_of_getElem? (i := 333) (by decide +kernel), List.mem_of_getElem? (i := 852) (by decide +kernel), List.mem_of_getElem? (i := 853) (by decide +kernel)⟩
theorem lw_p44 : lw_okq (⟨"ConsHouse$Printer", "printNumber", "(J)V"⟩, 7) := ⟨⟨by decide +kernel, by decide +kernel⟩, List.mem_of_getElem? (i := 333) (by decide +kernel), List.mem_of_getElem? (i := 857) (by decide +kernel), List.mem_of_getElem? (i := 858) (by decide +kernel)⟩
theorem lw_p45 : lw_okq (⟨"ConsHouse$Printer", "put", "(C)V"⟩, 7) := ⟨⟨by decide +kernel, by decide +kernel⟩, List.mem_of_getElem? (i := 333) (by decide +kernel), List.mem_of_getElem? (i := 861) (by decide +kernel), List.mem_of_getElem? (i := 862) (by decide +kernel)⟩
theorem lw_p46 : lw_okq (⟨"ConsHouse$Printer", "putBackwards", "(I)V"⟩, 7) := ⟨⟨by decide +kernel, by decide +kernel⟩, List.mem_of_getElem? (i := 333) (by decide +kernel), List.mem_of_getElem? (i := 870) (by decide +kernel), List.mem_of_getElem? (i := 871) (by decide +kernel)⟩
theorem lw_p47 : lw_okq (⟨"ConsHouse$Printer", "printName", "(J)V"⟩, 7) := ⟨⟨by decide +kernel, by decide +kernel⟩, List.mem_of_getElem? (i := 333) (by decide +kernel), List.mem_of_getElem? (i := 878) (by decide +kernel), List.mem_of_getElem? (i := 879) (by decide +kernel)⟩
def lw_privs_3 : List (MethodName × Nat) := [(⟨"ConsHouse$Machine", "applyLambda", "()V"⟩, 15), (⟨"ConsHouse$Machine", "bindAll", "(J)J"⟩, 15), (⟨"ConsHouse$Machine", "applyLabel", "()V"⟩, 15), (⟨"ConsHouse$Machine", "applyAtom", "()V"⟩, 15), (⟨"ConsHouse$Machine", "applyBuiltIn", "(I)V"⟩, 15), (⟨"ConsHouse$Machine", "takePart", "(IJ)V"⟩, 15), (⟨"ConsHouse$Machine", "makePair", "()V"⟩, 15), (⟨"ConsHouse$Machine", "answerTruth", "(Z)V"⟩, 15), (⟨"ConsHouse$Machine", "compareAtoms", "(JJ)V"⟩, 15), (⟨"ConsHouse$Machine", "reckon", "(IJJ)V"⟩, 15), (⟨"ConsHouse$Printer", "printBeginning", "(J)V"⟩, 7), (⟨"ConsHouse$Printer", "printAtom", "(J)V"⟩, 7), (⟨"ConsHouse$Printer", "printNumber", "(J)V"⟩, 7), (⟨"ConsHouse$Printer", "put", "(C)V"⟩, 7), (⟨"ConsHouse$Printer", "putBackwards", "(I)V"⟩, 7), (⟨"ConsHouse$Printer", "printName", "(J)V"⟩, 7)]
theorem lw_r3 : ∀ q ∈ lw_privs_3, lw_okq q := List.forall_mem_cons.mpr ⟨lw_p32, List.forall_mem_cons.mpr ⟨lw_p33, List.forall_mem_cons.mpr ⟨lw_p34, List.forall_mem_cons.mpr ⟨lw_p35, List.forall_mem_cons.mpr ⟨lw_p36, List.forall_mem_cons.mpr ⟨lw_p37, List.forall_mem_cons.mpr ⟨lw_p38, List.forall_mem_cons.mpr ⟨lw_p39, List.forall_mem_cons.mpr ⟨lw_p40, List.forall_mem_cons.mpr ⟨lw_p41, List.forall_mem_cons.mpr ⟨lw_p42, List.forall_mem_cons.mpr ⟨lw_p43, List.forall_mem_cons.mpr ⟨lw_p44, List.forall_mem_cons.mpr ⟨lw_p45, List.forall_mem_cons.mpr ⟨lw_p46, List.forall_mem_cons.mpr ⟨lw_p47, fun _ h => absurd h List.not_mem_nil⟩⟩⟩⟩⟩⟩⟩⟩⟩⟩⟩⟩⟩⟩⟩⟩
theorem lw_p48 : lw_okq (⟨"ConsHouse$Printer", "printEnd", "(J)V"⟩, 7) := ⟨⟨by decide +kernel, by decide +kernel⟩, List.mem_of_getElem? (i := 333) (by decide +kernel), List.mem_of_getElem? (i := 888) (by decide +kernel), List.mem_of_getElem? (i := 889) (by decide +kernel)⟩
theorem lw_p49 : lw_okq (⟨"ConsHouseModel", "known", "(J)V"⟩, 44) := ⟨⟨by decide +kernel, by decide +kernel⟩, List.mem_of_getElem? (i := 893) (by decide +kernel), List.mem_of_getElem? (i := 900) (by decide +kernel), List.mem_of_getElem? (i := 901) (by decide +kernel)⟩
theorem lw_p50 : lw_okq (⟨"ConsHouseModel", "readAll", "(ZI)I"⟩, 44) := ⟨⟨by decide +kernel, by decide +kernel⟩, List.mem_of_getElem? (i := 893) (by decide +kernel), List.mem_of_getElem? (i := 1081) (by decide +kernel), List.mem_of_getElem? (i := 1082) (by decide +kernel)⟩
theorem lw_p51 : lw_okq (⟨"ConsHouseModel", "reads", "(ZI)I"⟩, 44) := ⟨⟨by decide +kernel, by decide +kernel⟩, List.mem_of_getElem? (i := 893) (by decide +kernel), List.mem_of_getElem? (i := 1085) (by decide +kernel), List.mem_of_getElem? (i := 1086) (by decide +kernel)⟩
theorem lw_p52 : lw_okq (⟨"ConsHouseModel", "charAt", "(I)I"⟩, 44) := ⟨⟨by decide +kernel, by decide +kernel⟩, List.mem_of_getElem? (i := 893) (by decide +kernel), List.mem_of_getElem? (i := 1089) (by decide +kernel), List.mem_of_getElem? (i := 1090) (by decide +kernel)⟩
theorem lw_p53 : lw_okq (⟨"ConsHouseModel", "comes", "(ZJ)V"⟩, 44) := ⟨⟨by decide +kernel, by decide +kernel⟩, List.mem_of_getElem? (i := 893) (by decide +kernel), List.mem_of_getElem? (i := 1094) (by decide +kernel), List.mem_of_getElem? (i := 1095) (by decide +kernel)⟩
theorem lw_p54 : lw_okq (⟨"ConsHouseModel", "pair", "(JJ)J"⟩, 44) := ⟨⟨by decide +kernel, by decide +kernel⟩, List.mem_of_getElem? (i := 893) (by decide +kernel), List.mem_of_getElem? (i := 1098) (by decide +kernel), List.mem_of_getElem? (i := 1099) (by decide +kernel)⟩
theorem lw_p55 : lw_okq (⟨"ConsHouseModel", "atom", "(I)I"⟩, 44) := ⟨⟨by decide +kernel, by decide +kernel⟩, List.mem_of_getElem? (i := 893) (by decide +kernel), List.mem_of_getElem? (i := 1103) (by decide +kernel), List.mem_of_getElem? (i := 1104) (by decide +kernel)⟩
theorem lw_p56 : lw_okq (⟨"ConsHouseModel", "meets", "(J)V"⟩, 44) := ⟨⟨by decide +kernel, by decide +kernel⟩, List.mem_of_getElem? (i := 893) (by decide +kernel), List.mem_of_getElem? (i := 1116) (by decide +kernel), List.mem_of_getElem? (i := 1117) (by decide +kernel)⟩
theorem lw_p57 : lw_okq (⟨"ConsHouseModel", "placeOf", "(J)I"⟩, 44) := ⟨⟨by decide +kernel, by decide +kernel⟩, List.mem_of_getElem? (i := 893) (by decide +kernel), List.mem_of_getElem? (i := 1120) (by decide +kernel), List.mem_of_getElem? (i := 1121) (by decide +kernel)⟩
theorem lw_p58 : lw_okq (⟨"ConsHouseModel", "fails", "(I)V"⟩, 44) := ⟨⟨by decide +kernel, by decide +kernel⟩, List.mem_of_getElem? (i := 893) (by decide +kernel), List.mem_of_getElem? (i := 1124) (by decide +kernel), List.mem_of_getElem? (i := 1125) (by decide +kernel)⟩
theorem lw_p59 : lw_okq (⟨"ConsHouseModel", "holdGlobals", "()V"⟩, 44) := ⟨⟨by decide +kernel, by decide +kernel⟩, List.mem_of_getElem? (i := 893) (by decide +kernel), List.mem_of_getElem? (i := 1128) (by decide +kernel), List.mem_of_getElem? (i := 1129) (by decide +kernel)⟩
theorem lw_p60 : lw_okq (⟨"ConsHouseModel", "hold", "(J)V"⟩, 44) := ⟨⟨by decide +kernel, by decide +kernel⟩, List.mem_of_getElem? (i := 893) (by decide +kernel), List.mem_of_getElem? (i := 1132) (by decide +kernel), List.mem_of_getElem? (i := 1133) (by decide +kernel)⟩
theorem lw_p61 : lw_okq (⟨"ConsHouseModel", "holdAll", "()V"⟩, 44) := ⟨⟨by decide +kernel, by decide +kernel⟩, List.mem_of_getElem? (i := 893) (by decide +kernel), List.mem_of_getElem? (i := 1139) (by decide +kernel), List.mem_of_getElem? (i := 1140) (by decide +kernel)⟩
theorem lw_p62 : lw_okq (⟨"ConsHouseModel", "first", "(J)J"⟩, 44) := ⟨⟨by decide +kernel, by decide +kernel⟩, List.mem_of_getElem? (i := 893) (by decide +kernel), List.mem_of_getElem? (i := 1143) (by decide +kernel), List.mem_of_getElem? (i := 1144) (by decide +kernel)⟩
theorem lw_p63 : lw_okq (⟨"ConsHouseModel", "behind", "(J)J"⟩, 44) := ⟨⟨by decide +kernel, by decide +kernel⟩, List.mem_of_getElem? (i := 893) (by decide +kernel), List.mem_of_getElem? (i := 1147) (by decide +kernel), List.mem_of_getElem? (i := 1148) (by decide +kernel)⟩
def lw_privs_4 : List (MethodName × Nat) := [(⟨"ConsHouse$Printer", "printEnd", "(J)V"⟩, 7), (⟨"ConsHouseModel", "known", "(J)V"⟩, 44), (⟨"ConsHouseModel", "readAll", "(ZI)I"⟩, 44), (⟨"ConsHouseModel", "reads", "(ZI)I"⟩, 44), (⟨"ConsHouseModel", "charAt", "(I)I"⟩, 44), (⟨"ConsHouseModel", "comes", "(ZJ)V"⟩, 44), (⟨"ConsHouseModel", "pair", "(JJ)J"⟩, 44), (⟨"ConsHouseModel", "atom", "(I)I"⟩, 44), (⟨"ConsHouseModel", "meets", "(J)V"⟩, 44), (⟨"ConsHouseModel", "placeOf", "(J)I"⟩, 44), (⟨"ConsHouseModel", "fails", "(I)V"⟩, 44), (⟨"ConsHouseModel", "holdGlobals", "()V"⟩, 44), (⟨"ConsHouseModel", "hold", "(J)V"⟩, 44), (⟨"ConsHouseModel", "holdAll", "()V"⟩, 44), (⟨"ConsHouseModel", "first", "(J)J"⟩, 44), (⟨"ConsHouseModel", "behind", "(J)J"⟩, 44)]
theorem lw_r4 : ∀ q ∈ lw_privs_4, lw_okq q := List.forall_mem_cons.mpr ⟨lw_p48, List.forall_mem_cons.mpr ⟨lw_p49, List.forall_mem_cons.mpr ⟨lw_p50, List.forall_mem_cons.mpr ⟨lw_p51, List.forall_mem_cons.mpr ⟨lw_p52, List.forall_mem_cons.mpr ⟨lw_p53, List.forall_mem_cons.mpr ⟨lw_p54, List.forall_mem_cons.mpr ⟨lw_p55, List.forall_mem_cons.mpr ⟨lw_p56, List.forall_mem_cons.mpr ⟨lw_p57, List.forall_mem_cons.mpr ⟨lw_p58, List.forall_mem_cons.mpr ⟨lw_p59, List.forall_mem_cons.mpr ⟨lw_p60, List.forall_mem_cons.mpr ⟨lw_p61, List.forall_mem_cons.mpr ⟨lw_p62, List.forall_mem_cons.mpr ⟨lw_p63, fun _ h => absurd h List.not_mem_nil⟩⟩⟩⟩⟩⟩⟩⟩⟩⟩⟩⟩⟩⟩⟩⟩
theorem lw_p64 : lw_okq (⟨"ConsHouseModel", "room", "(I)Z"⟩, 44) := ⟨⟨by decide +kernel, by decide +kernel⟩, List.mem_of_getElem? (i := 893) (by decide +kernel), List.mem_of_getElem? (i := 1151) (by decide +kernel), List.mem_of_getElem? (i := 1152) (by decide +kernel)⟩
theorem lw_p65 : lw_okq (⟨"ConsHouseModel", "evaluateAll", "(J)V"⟩, 44) := ⟨⟨by decide +kernel, by decide +kernel⟩, List.mem_of_getElem? (i := 893) (by decide +kernel), List.mem_of_getElem? (i := 1155) (by decide +kernel), List.mem_of_getElem? (i := 1156) (by decide +kernel)⟩
theorem lw_p66 : lw_okq (⟨"ConsHouseModel", "evaluate", "()V"⟩, 44) := ⟨⟨by decide +kernel, by decide +kernel⟩, List.mem_of_getElem? (i := 893) (by decide +kernel), List.mem_of_getElem? (i := 1159) (by decide +kernel), List.mem_of_getElem? (i := 1160) (by decide +kernel)⟩
theorem lw_p67 : lw_okq (⟨"ConsHouseModel", "begins", "()Z"⟩, 44) := ⟨⟨by decide +kernel, by decide +kernel⟩, List.mem_of_getElem? (i := 893) (by decide +kernel), List.mem_of_getElem? (i := 1163) (by decide +kernel), List.mem_of_getElem? (i := 1164) (by decide +kernel)⟩
theorem lw_p68 : lw_okq (⟨"ConsHouseModel", "gives", "(J)V"⟩, 44) := ⟨⟨by decide +kernel, by decide +kernel⟩, List.mem_of_getElem? (i := 893) (by decide +kernel), List.mem_of_getElem? (i := 1171) (by decide +kernel), List.mem_of_getElem? (i := 1172) (by decide +kernel)⟩
theorem lw_p69 : lw_okq (⟨"ConsHouseModel", "lookUp", "(J)J"⟩, 44) := ⟨⟨by decide +kernel, by decide +kernel⟩, List.mem_of_getElem? (i := 893) (by decide +kernel), List.mem_of_getElem? (i := 1178) (by decide +kernel), List.mem_of_getElem? (i := 1179) (by decide +kernel)⟩
theorem lw_p70 : lw_okq (⟨"ConsHouseModel", "listOf", "(JI)Z"⟩, 44) := ⟨⟨by decide +kernel, by decide +kernel⟩, List.mem_of_getElem? (i := 893) (by decide +kernel), List.mem_of_getElem? (i := 1183) (by decide +kernel), List.mem_of_getElem? (i := 1184) (by decide +kernel)⟩
theorem lw_p71 : lw_okq (⟨"ConsHouseModel", "condition", "(J)V"⟩, 44) := ⟨⟨by decide +kernel, by decide +kernel⟩, List.mem_of_getElem? (i := 893) (by decide +kernel), List.mem_of_getElem? (i := 1188) (by decide +kernel), List.mem_of_getElem? (i := 1189) (by decide +kernel)⟩
theorem lw_p72 : lw_okq (⟨"ConsHouseModel", "waits", "(IJJ)Z"⟩, 44) := ⟨⟨by decide +kernel, by decide +kernel⟩, List.mem_of_getElem? (i := 893) (by decide +kernel), List.mem_of_getElem? (i := 1192) (by decide +kernel), List.mem_of_getElem? (i := 1193) (by decide +kernel)⟩
theorem lw_p73 : lw_okq (⟨"ConsHouseModel", "apply", "()V"⟩, 44) := ⟨⟨by decide +kernel, by decide +kernel⟩, List.mem_of_getElem? (i := 893) (by decide +kernel), List.mem_of_getElem? (i := 1197) (by decide +kernel), List.mem_of_getElem? (i := 1198) (by decide +kernel)⟩
theorem lw_p74 : lw_okq (⟨"ConsHouseModel", "primitive", "(I)V"⟩, 44) := ⟨⟨by decide +kernel, by decide +kernel⟩, List.mem_of_getElem? (i := 893) (by decide +kernel), List.mem_of_getElem? (i := 1201) (by decide +kernel), List.mem_of_getElem? (i := 1202) (by decide +kernel)⟩
theorem lw_p75 : lw_okq (⟨"ConsHouseModel", "holdWaiting", "()V"⟩, 44) := ⟨⟨by decide +kernel, by decide +kernel⟩, List.mem_of_getElem? (i := 893) (by decide +kernel), List.mem_of_getElem? (i := 1205) (by decide +kernel), List.mem_of_getElem? (i := 1206) (by decide +kernel)⟩
theorem lw_p76 : lw_okq (⟨"ConsHouseModel", "lambda", "(J)V"⟩, 44) := ⟨⟨by decide +kernel, by decide +kernel⟩, List.mem_of_getElem? (i := 893) (by decide +kernel), List.mem_of_getElem? (i := 1210) (by decide +kernel), List.mem_of_getElem? (i := 1211) (by decide +kernel)⟩
theorem lw_p77 : lw_okq (⟨"ConsHouseModel", "namesIn", "(J)I"⟩, 44) := ⟨⟨by decide +kernel, by decide +kernel⟩, List.mem_of_getElem? (i := 893) (by decide +kernel), List.mem_of_getElem? (i := 1214) (by decide +kernel), List.mem_of_getElem? (i := 1215) (by decide +kernel)⟩
theorem lw_p78 : lw_okq (⟨"ConsHouseModel", "holdForBinding", "(J)V"⟩, 44) := ⟨⟨by decide +kernel, by decide +kernel⟩, List.mem_of_getElem? (i := 893) (by decide +kernel), List.mem_of_getElem? (i := 1218) (by decide +kernel), List.mem_of_getElem? (i := 1219) (by decide +kernel)⟩
theorem lw_p79 : lw_okq (⟨"ConsHouseModel", "label", "(J)V"⟩, 44) := ⟨⟨by decide +kernel, by decide +kernel⟩, List.mem_of_getElem? (i := 893) (by decide +kernel), List.mem_of_getElem? (i := 1223) (by decide +kernel), List.mem_of_getElem? (i := 1224) (by decide +kernel)⟩
def lw_privs_5 : List (MethodName × Nat) := [(⟨"ConsHouseModel", "room", "(I)Z"⟩, 44), (⟨"ConsHouseModel", "evaluateAll", "(J)V"⟩, 44), (⟨"ConsHouseModel", "evaluate", "()V"⟩, 44), (⟨"ConsHouseModel", "begins", "()Z"⟩, 44), (⟨"ConsHouseModel", "gives", "(J)V"⟩, 44), (⟨"ConsHouseModel", "lookUp", "(J)J"⟩, 44), (⟨"ConsHouseModel", "listOf", "(JI)Z"⟩, 44), (⟨"ConsHouseModel", "condition", "(J)V"⟩, 44), (⟨"ConsHouseModel", "waits", "(IJJ)Z"⟩, 44), (⟨"ConsHouseModel", "apply", "()V"⟩, 44), (⟨"ConsHouseModel", "primitive", "(I)V"⟩, 44), (⟨"ConsHouseModel", "holdWaiting", "()V"⟩, 44), (⟨"ConsHouseModel", "lambda", "(J)V"⟩, 44), (⟨"ConsHouseModel", "namesIn", "(J)I"⟩, 44), (⟨"ConsHouseModel", "holdForBinding", "(J)V"⟩, 44), (⟨"ConsHouseModel", "label", "(J)V"⟩, 44)]
theorem lw_r5 : ∀ q ∈ lw_privs_5, lw_okq q := List.forall_mem_cons.mpr ⟨lw_p64, List.forall_mem_cons.mpr ⟨lw_p65, List.forall_mem_cons.mpr ⟨lw_p66, List.forall_mem_cons.mpr ⟨lw_p67, List.forall_mem_cons.mpr ⟨lw_p68, List.forall_mem_cons.mpr ⟨lw_p69, List.forall_mem_cons.mpr ⟨lw_p70, List.forall_mem_cons.mpr ⟨lw_p71, List.forall_mem_cons.mpr ⟨lw_p72, List.forall_mem_cons.mpr ⟨lw_p73, List.forall_mem_cons.mpr ⟨lw_p74, List.forall_mem_cons.mpr ⟨lw_p75, List.forall_mem_cons.mpr ⟨lw_p76, List.forall_mem_cons.mpr ⟨lw_p77, List.forall_mem_cons.mpr ⟨lw_p78, List.forall_mem_cons.mpr ⟨lw_p79, fun _ h => absurd h List.not_mem_nil⟩⟩⟩⟩⟩⟩⟩⟩⟩⟩⟩⟩⟩⟩⟩⟩
theorem lw_p80 : lw_okq (⟨"ConsHouseModel", "back", "()V"⟩, 44) := ⟨⟨by decide +kernel, by decide +kernel⟩, List.mem_of_getElem? (i := 893) (by decide +kernel), List.mem_of_getElem? (i := 1227) (by decide +kernel), List.mem_of_getElem? (i := 1228) (by decide +kernel)⟩
theorem lw_p81 : lw_okq (⟨"ConsHouseModel", "printAll", "(J)V"⟩, 44) := ⟨⟨by decide +kernel, by decide +kernel⟩, List.mem_of_getElem? (i := 893) (by decide +kernel), List.mem_of_getElem? (i := 1231) (by decide +kernel), List.mem_of_getElem? (i := 1232) (by decide +kernel)⟩
theorem lw_p82 : lw_okq (⟨"ConsHouseModel", "put", "(I)V"⟩, 44) := ⟨⟨by decide +kernel, by decide +kernel⟩, List.mem_of_getElem? (i := 893) (by decide +kernel), List.mem_of_getElem? (i := 1235) (by decide +kernel), List.mem_of_getElem? (i := 1236) (by decide +kernel)⟩
theorem lw_p83 : lw_okq (⟨"ConsHouseModel", "putAtom", "(J)V"⟩, 44) := ⟨⟨by decide +kernel, by decide +kernel⟩, List.mem_of_getElem? (i := 893) (by decide +kernel), List.mem_of_getElem? (i := 1239) (by decide +kernel), List.mem_of_getElem? (i := 1240) (by decide +kernel)⟩
def lw_privs_6 : List (MethodName × Nat) := [(⟨"ConsHouseModel", "back", "()V"⟩, 44), (⟨"ConsHouseModel", "printAll", "(J)V"⟩, 44), (⟨"ConsHouseModel", "put", "(I)V"⟩, 44), (⟨"ConsHouseModel", "putAtom", "(J)V"⟩, 44)]
theorem lw_r6 : ∀ q ∈ lw_privs_6, lw_okq q := List.forall_mem_cons.mpr ⟨lw_p80, List.forall_mem_cons.mpr ⟨lw_p81, List.forall_mem_cons.mpr ⟨lw_p82, List.forall_mem_cons.mpr ⟨lw_p83, fun _ h => absurd h List.not_mem_nil⟩⟩⟩⟩
def lw_privs : List (MethodName × Nat) := lw_privs_1 ++ (lw_privs_2 ++ (lw_privs_3 ++ (lw_privs_4 ++ (lw_privs_5 ++ (lw_privs_6)))))
def lw_tbl : List Cond := k2_sels lw_privs ++ tables_1
theorem lw_privs_ok : ∀ q ∈ lw_privs, lw_okq q := by
  show ∀ q ∈ lw_privs_1 ++ (lw_privs_2 ++ (lw_privs_3 ++ (lw_privs_4 ++ (lw_privs_5 ++ (lw_privs_6))))), lw_okq q
  exact List.forall_mem_append.mpr ⟨lw_r1, List.forall_mem_append.mpr ⟨lw_r2, List.forall_mem_append.mpr ⟨lw_r3, List.forall_mem_append.mpr ⟨lw_r4, List.forall_mem_append.mpr ⟨lw_r5, lw_r6⟩⟩⟩⟩⟩
end
section
def RX0 : String := "ConsHouse$Heap"
def TX0 : u_T := fun k => match k with
  | 0 => ("ConsHouse$Heap", "cars", "[J", true)
  | 1 => ("ConsHouse$Heap", "cdrs", "[J", true)
  | 2 => ("ConsHouse$Heap", "marks", "[I", true)
  | 3 => ("ConsHouse$Heap", "pending", "[J", true)
  | 4 => ("ConsHouse$Heap", "free", "[I", true)
  | 5 => ("ConsHouse$Heap", "freeCount", "I", false)
  | 6 => ("ConsHouse$Heap", "round", "I", false)
  | _ => ("ConsHouse$Heap", "markedCount", "I", false)
def tyX0 : Nat → FieldType := fun k => match k with
  | 0 => .array .long
  | 1 => .array .long
  | 2 => .array .int
  | 3 => .array .long
  | 4 => .array .int
  | 5 => .int
  | 6 => .int
  | _ => .int
theorem nmX0 : ∀ a, a < 8 → ∀ b, b < 8 → a ≠ b → (TX0 a).2.1 ≠ (TX0 b).2.1 := by decide +kernel
theorem tyX0_ok : ∀ k, k < 8 → parseFieldDescriptor (TX0 k).2.2.1 = some (tyX0 k) := by decide +kernel
abbrev cX0_init : ByteArray := prog_2_method_1_code
def yX0_init : MethodName := ⟨RX0, "<init>", "(I)V"⟩
abbrev cX0_cellOf : ByteArray := prog_2_method_2_code
def yX0_cellOf : MethodName := ⟨RX0, "cellOf", "(J)I"⟩
abbrev cX0_car : ByteArray := prog_2_method_3_code
def yX0_car : MethodName := ⟨RX0, "car", "(J)J"⟩
abbrev cX0_cdr : ByteArray := prog_2_method_4_code
def yX0_cdr : MethodName := ⟨RX0, "cdr", "(J)J"⟩
abbrev cX0_setCdr : ByteArray := prog_2_method_5_code
def yX0_setCdr : MethodName := ⟨RX0, "setCdr", "(JJ)V"⟩
abbrev cX0_newPair : ByteArray := prog_2_method_6_code
def yX0_newPair : MethodName := ⟨RX0, "newPair", "(JJ)J"⟩
abbrev cX0_isListOf : ByteArray := prog_2_method_7_code
def yX0_isListOf : MethodName := ⟨RX0, "isListOf", "(JI)Z"⟩
abbrev cX0_isListOfNames : ByteArray := prog_2_method_8_code
def yX0_isListOfNames : MethodName := ⟨RX0, "isListOfNames", "(JI)Z"⟩
abbrev cX0_beginMarking : ByteArray := prog_2_method_9_code
def yX0_beginMarking : MethodName := ⟨RX0, "beginMarking", "()V"⟩
abbrev cX0_mark : ByteArray := prog_2_method_10_code
def yX0_mark : MethodName := ⟨RX0, "mark", "([JI)V"⟩
abbrev cX0_sweep : ByteArray := prog_2_method_11_code
def yX0_sweep : MethodName := ⟨RX0, "sweep", "()V"⟩
def RX1 : String := "ConsHouse$Keeper"
def TX1 : u_T := fun k => match k with
  | 0 => ("ConsHouse$Keeper", "heap", "LConsHouse$Heap;", true)
  | 1 => ("ConsHouse$Keeper", "names", "LConsHouse$Names;", true)
  | 2 => ("ConsHouse$Keeper", "waiting", "LConsHouse$Waiting;", true)
  | _ => ("ConsHouse$Keeper", "others", "[J", true)
def tyX1 : Nat → FieldType := fun k => match k with
  | 0 => .object "ConsHouse$Heap"
  | 1 => .object "ConsHouse$Names"
  | 2 => .object "ConsHouse$Waiting"
  | _ => .array .long
theorem nmX1 : ∀ a, a < 4 → ∀ b, b < 4 → a ≠ b → (TX1 a).2.1 ≠ (TX1 b).2.1 := by decide +kernel
theorem tyX1_ok : ∀ k, k < 4 → parseFieldDescriptor (TX1 k).2.2.1 = some (tyX1 k) := by decide +kernel
abbrev cX1_init : ByteArray := prog_3_method_1_code
def yX1_init : MethodName := ⟨RX1, "<init>", "(LConsHouse$Heap;LConsHouse$Names;LConsHouse$Waiting;)V"⟩
abbrev cX1_pairsOfGlobals : ByteArray := prog_3_method_2_code
def yX1_pairsOfGlobals : MethodName := ⟨RX1, "pairsOfGlobals", "()I"⟩
abbrev cX1_hasRoom : ByteArray := prog_3_method_3_code
def yX1_hasRoom : MethodName := ⟨RX1, "hasRoom", "(I[JIJJ)Z"⟩
def RX2 : String := "ConsHouse$Machine"
def TX2 : u_T := fun k => match k with
  | 0 => ("ConsHouse$Machine", "heap", "LConsHouse$Heap;", true)
  | 1 => ("ConsHouse$Machine", "names", "LConsHouse$Names;", true)
  | 2 => ("ConsHouse$Machine", "waiting", "LConsHouse$Waiting;", true)
  | 3 => ("ConsHouse$Machine", "keeper", "LConsHouse$Keeper;", true)
  | 4 => ("ConsHouse$Machine", "stepLimit", "I", true)
  | 5 => ("ConsHouse$Machine", "values", "[J", true)
  | 6 => ("ConsHouse$Machine", "valueCount", "I", false)
  | 7 => ("ConsHouse$Machine", "steps", "I", false)
  | 8 => ("ConsHouse$Machine", "mode", "I", false)
  | 9 => ("ConsHouse$Machine", "failure", "I", false)
  | 10 => ("ConsHouse$Machine", "expression", "J", false)
  | 11 => ("ConsHouse$Machine", "clauses", "J", false)
  | 12 => ("ConsHouse$Machine", "function", "J", false)
  | 13 => ("ConsHouse$Machine", "bindings", "J", false)
  | _ => ("ConsHouse$Machine", "result", "J", false)
def tyX2 : Nat → FieldType := fun k => match k with
  | 0 => .object "ConsHouse$Heap"
  | 1 => .object "ConsHouse$Names"
  | 2 => .object "ConsHouse$Waiting"
  | 3 => .object "ConsHouse$Keeper"
  | 4 => .int
  | 5 => .array .long
  | 6 => .int
  | 7 => .int
  | 8 => .int
  | 9 => .int
  | 10 => .long
  | 11 => .long
  | 12 => .long
  | 13 => .long
  | _ => .long
theorem nmX2 : ∀ a, a < 15 → ∀ b, b < 15 → a ≠ b → (TX2 a).2.1 ≠ (TX2 b).2.1 := by decide +kernel
theorem tyX2_ok : ∀ k, k < 15 → parseFieldDescriptor (TX2 k).2.2.1 = some (tyX2 k) := by decide +kernel
abbrev cX2_init : ByteArray := prog_4_method_1_code
def yX2_init : MethodName := ⟨RX2, "<init>", "(LConsHouse$Heap;LConsHouse$Names;LConsHouse$Waiting;LConsHouse$Keeper;I)V"⟩
abbrev cX2_evaluate : ByteArray := prog_4_method_2_code
def yX2_evaluate : MethodName := ⟨RX2, "evaluate", "(J)I"⟩
abbrev cX2_beginEvaluating : ByteArray := prog_4_method_3_code
def yX2_beginEvaluating : MethodName := ⟨RX2, "beginEvaluating", "(JJ)V"⟩
abbrev cX2_beginApplying : ByteArray := prog_4_method_4_code
def yX2_beginApplying : MethodName := ⟨RX2, "beginApplying", "(J)V"⟩
abbrev cX2_answer : ByteArray := prog_4_method_5_code
def yX2_answer : MethodName := ⟨RX2, "answer", "(J)V"⟩
abbrev cX2_answerTruth : ByteArray := prog_4_method_6_code
def yX2_answerTruth : MethodName := ⟨RX2, "answerTruth", "(Z)V"⟩
abbrev cX2_boundTo : ByteArray := prog_4_method_7_code
def yX2_boundTo : MethodName := ⟨RX2, "boundTo", "(J)J"⟩
abbrev cX2_evaluateAtom : ByteArray := prog_4_method_8_code
def yX2_evaluateAtom : MethodName := ⟨RX2, "evaluateAtom", "()V"⟩
abbrev cX2_evaluatePair : ByteArray := prog_4_method_9_code
def yX2_evaluatePair : MethodName := ⟨RX2, "evaluatePair", "()V"⟩
abbrev cX2_evaluateQuote : ByteArray := prog_4_method_10_code
def yX2_evaluateQuote : MethodName := ⟨RX2, "evaluateQuote", "()V"⟩
abbrev cX2_evaluateDefine : ByteArray := prog_4_method_11_code
def yX2_evaluateDefine : MethodName := ⟨RX2, "evaluateDefine", "()V"⟩
abbrev cX2_choose : ByteArray := prog_4_method_12_code
def yX2_choose : MethodName := ⟨RX2, "choose", "()V"⟩
abbrev cX2_evaluateCall : ByteArray := prog_4_method_13_code
def yX2_evaluateCall : MethodName := ⟨RX2, "evaluateCall", "(JJ)V"⟩
abbrev cX2_handBack : ByteArray := prog_4_method_14_code
def yX2_handBack : MethodName := ⟨RX2, "handBack", "()V"⟩
abbrev cX2_goOnWithCall : ByteArray := prog_4_method_15_code
def yX2_goOnWithCall : MethodName := ⟨RX2, "goOnWithCall", "()V"⟩
abbrev cX2_goOnWithChoice : ByteArray := prog_4_method_16_code
def yX2_goOnWithChoice : MethodName := ⟨RX2, "goOnWithChoice", "()V"⟩
abbrev cX2_applyPair : ByteArray := prog_4_method_17_code
def yX2_applyPair : MethodName := ⟨RX2, "applyPair", "()V"⟩
abbrev cX2_applyAtom : ByteArray := prog_4_method_18_code
def yX2_applyAtom : MethodName := ⟨RX2, "applyAtom", "()V"⟩
abbrev cX2_applyLambda : ByteArray := prog_4_method_19_code
def yX2_applyLambda : MethodName := ⟨RX2, "applyLambda", "()V"⟩
abbrev cX2_bindAll : ByteArray := prog_4_method_20_code
def yX2_bindAll : MethodName := ⟨RX2, "bindAll", "(J)J"⟩
abbrev cX2_applyLabel : ByteArray := prog_4_method_21_code
def yX2_applyLabel : MethodName := ⟨RX2, "applyLabel", "()V"⟩
abbrev cX2_valuesOf : ByteArray := prog_4_method_22_code
def yX2_valuesOf : MethodName := ⟨RX2, "valuesOf", "(I)I"⟩
abbrev cX2_applyBuiltIn : ByteArray := prog_4_method_23_code
def yX2_applyBuiltIn : MethodName := ⟨RX2, "applyBuiltIn", "(I)V"⟩
abbrev cX2_takePart : ByteArray := prog_4_method_24_code
def yX2_takePart : MethodName := ⟨RX2, "takePart", "(IJ)V"⟩
abbrev cX2_makePair : ByteArray := prog_4_method_25_code
def yX2_makePair : MethodName := ⟨RX2, "makePair", "()V"⟩
abbrev cX2_compareAtoms : ByteArray := prog_4_method_26_code
def yX2_compareAtoms : MethodName := ⟨RX2, "compareAtoms", "(JJ)V"⟩
abbrev cX2_reckon : ByteArray := prog_4_method_27_code
def yX2_reckon : MethodName := ⟨RX2, "reckon", "(IJJ)V"⟩
def RX3 : String := "ConsHouse$Names"
def TX3 : u_T := fun k => match k with
  | 0 => ("ConsHouse$Names", "spelled", "[J", true)
  | 1 => ("ConsHouse$Names", "globals", "[J", true)
  | 2 => ("ConsHouse$Names", "total", "I", false)
  | _ => ("ConsHouse$Names", "crowded", "Z", false)
def tyX3 : Nat → FieldType := fun k => match k with
  | 0 => .array .long
  | 1 => .array .long
  | 2 => .int
  | _ => .boolean
theorem nmX3 : ∀ a, a < 4 → ∀ b, b < 4 → a ≠ b → (TX3 a).2.1 ≠ (TX3 b).2.1 := by decide +kernel
theorem tyX3_ok : ∀ k, k < 4 → parseFieldDescriptor (TX3 k).2.2.1 = some (tyX3 k) := by decide +kernel
abbrev cX3_init : ByteArray := prog_5_method_1_code
def yX3_init : MethodName := ⟨RX3, "<init>", "()V"⟩
abbrev cX3_digitOf : ByteArray := prog_5_method_2_code
def yX3_digitOf : MethodName := ⟨RX3, "digitOf", "(I)I"⟩
abbrev cX3_characterOf : ByteArray := prog_5_method_3_code
def yX3_characterOf : MethodName := ⟨RX3, "characterOf", "(I)C"⟩
abbrev cX3_wordOf : ByteArray := prog_5_method_4_code
def yX3_wordOf : MethodName := ⟨RX3, "wordOf", "(J)J"⟩
abbrev cX3_spellingOf : ByteArray := prog_5_method_5_code
def yX3_spellingOf : MethodName := ⟨RX3, "spellingOf", "(J)J"⟩
abbrev cX3_globalOf : ByteArray := prog_5_method_6_code
def yX3_globalOf : MethodName := ⟨RX3, "globalOf", "(J)J"⟩
abbrev cX3_makeGlobal : ByteArray := prog_5_method_7_code
def yX3_makeGlobal : MethodName := ⟨RX3, "makeGlobal", "(JJ)V"⟩
abbrev cX3_isKnown : ByteArray := prog_5_method_8_code
def yX3_isKnown : MethodName := ⟨RX3, "isKnown", "(J)Z"⟩
def RX4 : String := "ConsHouse$Printer"
def TX4 : u_T := fun k => match k with
  | 0 => ("ConsHouse$Printer", "heap", "LConsHouse$Heap;", true)
  | 1 => ("ConsHouse$Printer", "names", "LConsHouse$Names;", true)
  | 2 => ("ConsHouse$Printer", "printed", "[C", true)
  | 3 => ("ConsHouse$Printer", "rests", "[J", true)
  | 4 => ("ConsHouse$Printer", "backwards", "[C", true)
  | 5 => ("ConsHouse$Printer", "depth", "I", false)
  | _ => ("ConsHouse$Printer", "length", "I", false)
def tyX4 : Nat → FieldType := fun k => match k with
  | 0 => .object "ConsHouse$Heap"
  | 1 => .object "ConsHouse$Names"
  | 2 => .array .char
  | 3 => .array .long
  | 4 => .array .char
  | 5 => .int
  | _ => .int
theorem nmX4 : ∀ a, a < 7 → ∀ b, b < 7 → a ≠ b → (TX4 a).2.1 ≠ (TX4 b).2.1 := by decide +kernel
theorem tyX4_ok : ∀ k, k < 7 → parseFieldDescriptor (TX4 k).2.2.1 = some (tyX4 k) := by decide +kernel
abbrev cX4_init : ByteArray := prog_6_method_1_code
def yX4_init : MethodName := ⟨RX4, "<init>", "(LConsHouse$Heap;LConsHouse$Names;)V"⟩
abbrev cX4_print : ByteArray := prog_6_method_2_code
def yX4_print : MethodName := ⟨RX4, "print", "(J)V"⟩
abbrev cX4_printBeginning : ByteArray := prog_6_method_3_code
def yX4_printBeginning : MethodName := ⟨RX4, "printBeginning", "(J)V"⟩
abbrev cX4_printEnd : ByteArray := prog_6_method_4_code
def yX4_printEnd : MethodName := ⟨RX4, "printEnd", "(J)V"⟩
abbrev cX4_printAtom : ByteArray := prog_6_method_5_code
def yX4_printAtom : MethodName := ⟨RX4, "printAtom", "(J)V"⟩
abbrev cX4_printNumber : ByteArray := prog_6_method_6_code
def yX4_printNumber : MethodName := ⟨RX4, "printNumber", "(J)V"⟩
abbrev cX4_printName : ByteArray := prog_6_method_7_code
def yX4_printName : MethodName := ⟨RX4, "printName", "(J)V"⟩
abbrev cX4_putBackwards : ByteArray := prog_6_method_8_code
def yX4_putBackwards : MethodName := ⟨RX4, "putBackwards", "(I)V"⟩
abbrev cX4_put : ByteArray := prog_6_method_9_code
def yX4_put : MethodName := ⟨RX4, "put", "(C)V"⟩
def RX5 : String := "ConsHouse$Reader"
def TX5 : u_T := fun k => match k with
  | 0 => ("ConsHouse$Reader", "text", "LConsHouse$Text;", true)
  | 1 => ("ConsHouse$Reader", "names", "LConsHouse$Names;", true)
  | 2 => ("ConsHouse$Reader", "heap", "LConsHouse$Heap;", true)
  | 3 => ("ConsHouse$Reader", "keeper", "LConsHouse$Keeper;", true)
  | 4 => ("ConsHouse$Reader", "tokens", "[J", true)
  | 5 => ("ConsHouse$Reader", "states", "[I", true)
  | 6 => ("ConsHouse$Reader", "firsts", "[J", true)
  | 7 => ("ConsHouse$Reader", "lasts", "[J", true)
  | 8 => ("ConsHouse$Reader", "noValues", "[J", true)
  | 9 => ("ConsHouse$Reader", "tokenCount", "I", false)
  | 10 => ("ConsHouse$Reader", "depth", "I", false)
  | 11 => ("ConsHouse$Reader", "pairs", "I", false)
  | 12 => ("ConsHouse$Reader", "at", "I", false)
  | _ => ("ConsHouse$Reader", "expression", "J", false)
def tyX5 : Nat → FieldType := fun k => match k with
  | 0 => .object "ConsHouse$Text"
  | 1 => .object "ConsHouse$Names"
  | 2 => .object "ConsHouse$Heap"
  | 3 => .object "ConsHouse$Keeper"
  | 4 => .array .long
  | 5 => .array .int
  | 6 => .array .long
  | 7 => .array .long
  | 8 => .array .long
  | 9 => .int
  | 10 => .int
  | 11 => .int
  | 12 => .int
  | _ => .long
theorem nmX5 : ∀ a, a < 14 → ∀ b, b < 14 → a ≠ b → (TX5 a).2.1 ≠ (TX5 b).2.1 := by decide +kernel
theorem tyX5_ok : ∀ k, k < 14 → parseFieldDescriptor (TX5 k).2.2.1 = some (tyX5 k) := by decide +kernel
abbrev cX5_init : ByteArray := prog_7_method_1_code
def yX5_init : MethodName := ⟨RX5, "<init>", "(LConsHouse$Text;LConsHouse$Names;LConsHouse$Heap;LConsHouse$Keeper;)V"⟩
abbrev cX5_read : ByteArray := prog_7_method_2_code
def yX5_read : MethodName := ⟨RX5, "read", "()I"⟩
abbrev cX5_scan : ByteArray := prog_7_method_3_code
def yX5_scan : MethodName := ⟨RX5, "scan", "()Z"⟩
abbrev cX5_takeToken : ByteArray := prog_7_method_4_code
def yX5_takeToken : MethodName := ⟨RX5, "takeToken", "(I)Z"⟩
abbrev cX5_isDigit : ByteArray := prog_7_method_5_code
def yX5_isDigit : MethodName := ⟨RX5, "isDigit", "(I)Z"⟩
abbrev cX5_state : ByteArray := prog_7_method_6_code
def yX5_state : MethodName := ⟨RX5, "state", "()I"⟩
abbrev cX5_takeOpen : ByteArray := prog_7_method_7_code
def yX5_takeOpen : MethodName := ⟨RX5, "takeOpen", "()Z"⟩
abbrev cX5_takeClose : ByteArray := prog_7_method_8_code
def yX5_takeClose : MethodName := ⟨RX5, "takeClose", "()Z"⟩
abbrev cX5_takeDot : ByteArray := prog_7_method_9_code
def yX5_takeDot : MethodName := ⟨RX5, "takeDot", "()Z"⟩
abbrev cX5_takeNumber : ByteArray := prog_7_method_10_code
def yX5_takeNumber : MethodName := ⟨RX5, "takeNumber", "(Z)Z"⟩
abbrev cX5_takeName : ByteArray := prog_7_method_11_code
def yX5_takeName : MethodName := ⟨RX5, "takeName", "()Z"⟩
abbrev cX5_noteExpression : ByteArray := prog_7_method_12_code
def yX5_noteExpression : MethodName := ⟨RX5, "noteExpression", "()V"⟩
abbrev cX5_keep : ByteArray := prog_7_method_13_code
def yX5_keep : MethodName := ⟨RX5, "keep", "(J)Z"⟩
abbrev cX5_build : ByteArray := prog_7_method_14_code
def yX5_build : MethodName := ⟨RX5, "build", "()V"⟩
abbrev cX5_openList : ByteArray := prog_7_method_15_code
def yX5_openList : MethodName := ⟨RX5, "openList", "()V"⟩
abbrev cX5_markDot : ByteArray := prog_7_method_16_code
def yX5_markDot : MethodName := ⟨RX5, "markDot", "()V"⟩
abbrev cX5_closeList : ByteArray := prog_7_method_17_code
def yX5_closeList : MethodName := ⟨RX5, "closeList", "()V"⟩
abbrev cX5_attach : ByteArray := prog_7_method_18_code
def yX5_attach : MethodName := ⟨RX5, "attach", "(J)V"⟩
def RX6 : String := "ConsHouse$Text"
def TX6 : u_T := fun k => match k with
  | 0 => ("ConsHouse$Text", "characters", "[C", true)
  | 1 => ("ConsHouse$Text", "length", "I", false)
  | 2 => ("ConsHouse$Text", "position", "I", false)
  | _ => ("ConsHouse$Text", "faultPlace", "I", false)
def tyX6 : Nat → FieldType := fun k => match k with
  | 0 => .array .char
  | 1 => .int
  | 2 => .int
  | _ => .int
theorem nmX6 : ∀ a, a < 4 → ∀ b, b < 4 → a ≠ b → (TX6 a).2.1 ≠ (TX6 b).2.1 := by decide +kernel
theorem tyX6_ok : ∀ k, k < 4 → parseFieldDescriptor (TX6 k).2.2.1 = some (tyX6 k) := by decide +kernel
abbrev cX6_init : ByteArray := prog_8_method_1_code
def yX6_init : MethodName := ⟨RX6, "<init>", "()V"⟩
abbrev cX6_append : ByteArray := prog_8_method_2_code
def yX6_append : MethodName := ⟨RX6, "append", "(J)Z"⟩
abbrev cX6_isCharacter : ByteArray := prog_8_method_3_code
def yX6_isCharacter : MethodName := ⟨RX6, "isCharacter", "(I)Z"⟩
abbrev cX6_at : ByteArray := prog_8_method_4_code
def yX6_at : MethodName := ⟨RX6, "at", "(I)I"⟩
abbrev cX6_behindBlanks : ByteArray := prog_8_method_5_code
def yX6_behindBlanks : MethodName := ⟨RX6, "behindBlanks", "(I)I"⟩
def RX7 : String := "ConsHouse$Waiting"
def TX7 : u_T := fun k => match k with
  | 0 => ("ConsHouse$Waiting", "kinds", "[I", true)
  | 1 => ("ConsHouse$Waiting", "valueCounts", "[I", true)
  | 2 => ("ConsHouse$Waiting", "words", "[J", true)
  | 3 => ("ConsHouse$Waiting", "depth", "I", false)
  | _ => ("ConsHouse$Waiting", "greatest", "I", false)
def tyX7 : Nat → FieldType := fun k => match k with
  | 0 => .array .int
  | 1 => .array .int
  | 2 => .array .long
  | 3 => .int
  | _ => .int
theorem nmX7 : ∀ a, a < 5 → ∀ b, b < 5 → a ≠ b → (TX7 a).2.1 ≠ (TX7 b).2.1 := by decide +kernel
theorem tyX7_ok : ∀ k, k < 5 → parseFieldDescriptor (TX7 k).2.2.1 = some (tyX7 k) := by decide +kernel
abbrev cX7_init : ByteArray := prog_9_method_1_code
def yX7_init : MethodName := ⟨RX7, "<init>", "(I)V"⟩
abbrev cX7_push : ByteArray := prog_9_method_2_code
def yX7_push : MethodName := ⟨RX7, "push", "(IJJJ)Z"⟩
abbrev cX7_pop : ByteArray := prog_9_method_3_code
def yX7_pop : MethodName := ⟨RX7, "pop", "()V"⟩
abbrev cX7_kindOnTop : ByteArray := prog_9_method_4_code
def yX7_kindOnTop : MethodName := ⟨RX7, "kindOnTop", "()I"⟩
abbrev cX7_valuesOnTop : ByteArray := prog_9_method_5_code
def yX7_valuesOnTop : MethodName := ⟨RX7, "valuesOnTop", "()I"⟩
abbrev cX7_part : ByteArray := prog_9_method_6_code
def yX7_part : MethodName := ⟨RX7, "part", "(I)J"⟩
abbrev cX7_setRest : ByteArray := prog_9_method_7_code
def yX7_setRest : MethodName := ⟨RX7, "setRest", "(J)V"⟩
abbrev cX7_addValue : ByteArray := prog_9_method_8_code
def yX7_addValue : MethodName := ⟨RX7, "addValue", "(J)V"⟩
abbrev cX7_putValues : ByteArray := prog_9_method_9_code
def yX7_putValues : MethodName := ⟨RX7, "putValues", "([JI)V"⟩
abbrev cX7_takeValues : ByteArray := prog_9_method_10_code
def yX7_takeValues : MethodName := ⟨RX7, "takeValues", "([J)I"⟩
def RX8 : String := "ConsHouse$Word"
def TX8 : u_T := fun k => match k with
  | _ => ("", "", "", false)
def tyX8 : Nat → FieldType := fun k => match k with
  | _ => .int
theorem nmX8 : ∀ a, a < 0 → ∀ b, b < 0 → a ≠ b → (TX8 a).2.1 ≠ (TX8 b).2.1 := by decide +kernel
theorem tyX8_ok : ∀ k, k < 0 → parseFieldDescriptor (TX8 k).2.2.1 = some (tyX8 k) := by decide +kernel
abbrev cX8_isNumber : ByteArray := prog_10_method_2_code
def yX8_isNumber : MethodName := ⟨RX8, "isNumber", "(J)Z"⟩
abbrev cX8_isName : ByteArray := prog_10_method_3_code
def yX8_isName : MethodName := ⟨RX8, "isName", "(J)Z"⟩
abbrev cX8_isPair : ByteArray := prog_10_method_4_code
def yX8_isPair : MethodName := ⟨RX8, "isPair", "(J)Z"⟩
abbrev cX8_isFixed : ByteArray := prog_10_method_5_code
def yX8_isFixed : MethodName := ⟨RX8, "isFixed", "(J)Z"⟩
def RX9 : String := "ConsHouse"
def TX9 : u_T := fun k => match k with
  | 0 => ("ConsHouse", "text", "LConsHouse$Text;", true)
  | 1 => ("ConsHouse", "names", "LConsHouse$Names;", true)
  | 2 => ("ConsHouse", "waiting", "LConsHouse$Waiting;", true)
  | 3 => ("ConsHouse", "keeper", "LConsHouse$Keeper;", true)
  | 4 => ("ConsHouse", "reader", "LConsHouse$Reader;", true)
  | 5 => ("ConsHouse", "machine", "LConsHouse$Machine;", true)
  | 6 => ("ConsHouse", "printer", "LConsHouse$Printer;", true)
  | _ => ("ConsHouse", "latestFault", "I", false)
def tyX9 : Nat → FieldType := fun k => match k with
  | 0 => .object "ConsHouse$Text"
  | 1 => .object "ConsHouse$Names"
  | 2 => .object "ConsHouse$Waiting"
  | 3 => .object "ConsHouse$Keeper"
  | 4 => .object "ConsHouse$Reader"
  | 5 => .object "ConsHouse$Machine"
  | 6 => .object "ConsHouse$Printer"
  | _ => .int
theorem nmX9 : ∀ a, a < 8 → ∀ b, b < 8 → a ≠ b → (TX9 a).2.1 ≠ (TX9 b).2.1 := by decide +kernel
theorem tyX9_ok : ∀ k, k < 8 → parseFieldDescriptor (TX9 k).2.2.1 = some (tyX9 k) := by decide +kernel
abbrev cX9_init : ByteArray := prog_1_method_1_code
def yX9_init : MethodName := ⟨RX9, "<init>", "(III)V"⟩
abbrev cX9_within : ByteArray := prog_1_method_2_code
def yX9_within : MethodName := ⟨RX9, "within", "(IIII)I"⟩
abbrev cX9_write : ByteArray := prog_1_method_3_code
def yX9_write : MethodName := ⟨RX9, "write", "(J)Z"⟩
abbrev cX9_clear : ByteArray := prog_1_method_4_code
def yX9_clear : MethodName := ⟨RX9, "clear", "()V"⟩
abbrev cX9_next : ByteArray := prog_1_method_5_code
def yX9_next : MethodName := ⟨RX9, "next", "()I"⟩
abbrev cX9_fault : ByteArray := prog_1_method_6_code
def yX9_fault : MethodName := ⟨RX9, "fault", "()I"⟩
abbrev cX9_place : ByteArray := prog_1_method_7_code
def yX9_place : MethodName := ⟨RX9, "place", "()I"⟩
abbrev cX9_size : ByteArray := prog_1_method_8_code
def yX9_size : MethodName := ⟨RX9, "size", "()I"⟩
abbrev cX9_out : ByteArray := prog_1_method_9_code
def yX9_out : MethodName := ⟨RX9, "out", "(I)I"⟩
abbrev cX9_count : ByteArray := prog_1_method_10_code
def yX9_count : MethodName := ⟨RX9, "count", "(I)I"⟩
def RX10 : String := "ConsHouseModel"
def TX10 : u_T := fun k => match k with
  | 0 => ("ConsHouseModel", "thrownCode", "I", false)
  | 1 => ("ConsHouseModel", "cells", "I", false)
  | 2 => ("ConsHouseModel", "tasks", "I", false)
  | 3 => ("ConsHouseModel", "stepsMost", "I", false)
  | 4 => ("ConsHouseModel", "text", "[I", true)
  | 5 => ("ConsHouseModel", "typed", "I", false)
  | 6 => ("ConsHouseModel", "at", "I", false)
  | 7 => ("ConsHouseModel", "placeNow", "I", false)
  | 8 => ("ConsHouseModel", "faultNow", "I", false)
  | 9 => ("ConsHouseModel", "steps", "I", false)
  | 10 => ("ConsHouseModel", "mostWaiting", "I", false)
  | 11 => ("ConsHouseModel", "print", "[I", true)
  | 12 => ("ConsHouseModel", "printed", "I", false)
  | 13 => ("ConsHouseModel", "car", "[J", true)
  | 14 => ("ConsHouseModel", "cdr", "[J", true)
  | 15 => ("ConsHouseModel", "held", "[Z", true)
  | 16 => ("ConsHouseModel", "heldCount", "I", false)
  | 17 => ("ConsHouseModel", "toMark", "[J", true)
  | 18 => ("ConsHouseModel", "marks", "I", false)
  | 19 => ("ConsHouseModel", "name", "[J", true)
  | 20 => ("ConsHouseModel", "global", "[J", true)
  | 21 => ("ConsHouseModel", "names", "I", false)
  | 22 => ("ConsHouseModel", "newName", "[J", true)
  | 23 => ("ConsHouseModel", "newNames", "I", false)
  | 24 => ("ConsHouseModel", "tooMany", "Z", false)
  | 25 => ("ConsHouseModel", "readState", "I", false)
  | 26 => ("ConsHouseModel", "openState", "[I", true)
  | 27 => ("ConsHouseModel", "openHead", "[J", true)
  | 28 => ("ConsHouseModel", "openTail", "[I", true)
  | 29 => ("ConsHouseModel", "opened", "I", false)
  | 30 => ("ConsHouseModel", "pairs", "I", false)
  | 31 => ("ConsHouseModel", "tokenValue", "J", false)
  | 32 => ("ConsHouseModel", "waiting", "I", false)
  | 33 => ("ConsHouseModel", "kind", "[I", true)
  | 34 => ("ConsHouseModel", "function", "[J", true)
  | 35 => ("ConsHouseModel", "rest", "[J", true)
  | 36 => ("ConsHouseModel", "bound", "[J", true)
  | 37 => ("ConsHouseModel", "count", "[I", true)
  | 38 => ("ConsHouseModel", "values", "[J", true)
  | 39 => ("ConsHouseModel", "mode", "I", false)
  | 40 => ("ConsHouseModel", "thing", "J", false)
  | 41 => ("ConsHouseModel", "list", "J", false)
  | 42 => ("ConsHouseModel", "value", "[J", true)
  | _ => ("ConsHouseModel", "many", "I", false)
def tyX10 : Nat → FieldType := fun k => match k with
  | 0 => .int
  | 1 => .int
  | 2 => .int
  | 3 => .int
  | 4 => .array .int
  | 5 => .int
  | 6 => .int
  | 7 => .int
  | 8 => .int
  | 9 => .int
  | 10 => .int
  | 11 => .array .int
  | 12 => .int
  | 13 => .array .long
  | 14 => .array .long
  | 15 => .array .boolean
  | 16 => .int
  | 17 => .array .long
  | 18 => .int
  | 19 => .array .long
  | 20 => .array .long
  | 21 => .int
  | 22 => .array .long
  | 23 => .int
  | 24 => .boolean
  | 25 => .int
  | 26 => .array .int
  | 27 => .array .long
  | 28 => .array .int
  | 29 => .int
  | 30 => .int
  | 31 => .long
  | 32 => .int
  | 33 => .array .int
  | 34 => .array .long
  | 35 => .array .long
  | 36 => .array .long
  | 37 => .array .int
  | 38 => .array .long
  | 39 => .int
  | 40 => .long
  | 41 => .long
  | 42 => .array .long
  | _ => .int
theorem nmX10 : ∀ a, a < 44 → ∀ b, b < 44 → a ≠ b → (TX10 a).2.1 ≠ (TX10 b).2.1 := by decide +kernel
theorem tyX10_ok : ∀ k, k < 44 → parseFieldDescriptor (TX10 k).2.2.1 = some (tyX10 k) := by decide +kernel
abbrev cX10_init : ByteArray := prog_12_method_1_code
def yX10_init : MethodName := ⟨RX10, "<init>", "(III)V"⟩
abbrev cX10_digitOf : ByteArray := prog_12_method_2_code
def yX10_digitOf : MethodName := ⟨RX10, "digitOf", "(I)I"⟩
abbrev cX10_known : ByteArray := prog_12_method_3_code
def yX10_known : MethodName := ⟨RX10, "known", "(J)V"⟩
abbrev cX10_isName : ByteArray := prog_12_method_4_code
def yX10_isName : MethodName := ⟨RX10, "isName", "(J)Z"⟩
abbrev cX10_isPair : ByteArray := prog_12_method_5_code
def yX10_isPair : MethodName := ⟨RX10, "isPair", "(J)Z"⟩
abbrev cX10_isNumber : ByteArray := prog_12_method_6_code
def yX10_isNumber : MethodName := ⟨RX10, "isNumber", "(J)Z"⟩
abbrev cX10_number : ByteArray := prog_12_method_7_code
def yX10_number : MethodName := ⟨RX10, "number", "(I)J"⟩
abbrev cX10_first : ByteArray := prog_12_method_8_code
def yX10_first : MethodName := ⟨RX10, "first", "(J)J"⟩
abbrev cX10_behind : ByteArray := prog_12_method_9_code
def yX10_behind : MethodName := ⟨RX10, "behind", "(J)J"⟩
abbrev cX10_hold : ByteArray := prog_12_method_10_code
def yX10_hold : MethodName := ⟨RX10, "hold", "(J)V"⟩
abbrev cX10_holdAll : ByteArray := prog_12_method_11_code
def yX10_holdAll : MethodName := ⟨RX10, "holdAll", "()V"⟩
abbrev cX10_holdGlobals : ByteArray := prog_12_method_12_code
def yX10_holdGlobals : MethodName := ⟨RX10, "holdGlobals", "()V"⟩
abbrev cX10_holdWaiting : ByteArray := prog_12_method_13_code
def yX10_holdWaiting : MethodName := ⟨RX10, "holdWaiting", "()V"⟩
abbrev cX10_room : ByteArray := prog_12_method_14_code
def yX10_room : MethodName := ⟨RX10, "room", "(I)Z"⟩
abbrev cX10_pair : ByteArray := prog_12_method_15_code
def yX10_pair : MethodName := ⟨RX10, "pair", "(JJ)J"⟩
abbrev cX10_charAt : ByteArray := prog_12_method_16_code
def yX10_charAt : MethodName := ⟨RX10, "charAt", "(I)I"⟩
abbrev cX10_blank : ByteArray := prog_12_method_17_code
def yX10_blank : MethodName := ⟨RX10, "blank", "(I)Z"⟩
abbrev cX10_digit : ByteArray := prog_12_method_18_code
def yX10_digit : MethodName := ⟨RX10, "digit", "(I)Z"⟩
abbrev cX10_atom : ByteArray := prog_12_method_19_code
def yX10_atom : MethodName := ⟨RX10, "atom", "(I)I"⟩
abbrev cX10_placeOf : ByteArray := prog_12_method_20_code
def yX10_placeOf : MethodName := ⟨RX10, "placeOf", "(J)I"⟩
abbrev cX10_meets : ByteArray := prog_12_method_21_code
def yX10_meets : MethodName := ⟨RX10, "meets", "(J)V"⟩
abbrev cX10_comes : ByteArray := prog_12_method_22_code
def yX10_comes : MethodName := ⟨RX10, "comes", "(ZJ)V"⟩
abbrev cX10_reads : ByteArray := prog_12_method_23_code
def yX10_reads : MethodName := ⟨RX10, "reads", "(ZI)I"⟩
abbrev cX10_readAll : ByteArray := prog_12_method_24_code
def yX10_readAll : MethodName := ⟨RX10, "readAll", "(ZI)I"⟩
abbrev cX10_fails : ByteArray := prog_12_method_25_code
def yX10_fails : MethodName := ⟨RX10, "fails", "(I)V"⟩
abbrev cX10_begins : ByteArray := prog_12_method_26_code
def yX10_begins : MethodName := ⟨RX10, "begins", "()Z"⟩
abbrev cX10_waits : ByteArray := prog_12_method_27_code
def yX10_waits : MethodName := ⟨RX10, "waits", "(IJJ)Z"⟩
abbrev cX10_gives : ByteArray := prog_12_method_28_code
def yX10_gives : MethodName := ⟨RX10, "gives", "(J)V"⟩
abbrev cX10_lookUp : ByteArray := prog_12_method_29_code
def yX10_lookUp : MethodName := ⟨RX10, "lookUp", "(J)J"⟩
abbrev cX10_listOf : ByteArray := prog_12_method_30_code
def yX10_listOf : MethodName := ⟨RX10, "listOf", "(JI)Z"⟩
abbrev cX10_condition : ByteArray := prog_12_method_31_code
def yX10_condition : MethodName := ⟨RX10, "condition", "(J)V"⟩
abbrev cX10_evaluate : ByteArray := prog_12_method_32_code
def yX10_evaluate : MethodName := ⟨RX10, "evaluate", "()V"⟩
abbrev cX10_back : ByteArray := prog_12_method_33_code
def yX10_back : MethodName := ⟨RX10, "back", "()V"⟩
abbrev cX10_primitive : ByteArray := prog_12_method_34_code
def yX10_primitive : MethodName := ⟨RX10, "primitive", "(I)V"⟩
abbrev cX10_namesIn : ByteArray := prog_12_method_35_code
def yX10_namesIn : MethodName := ⟨RX10, "namesIn", "(J)I"⟩
abbrev cX10_holdForBinding : ByteArray := prog_12_method_36_code
def yX10_holdForBinding : MethodName := ⟨RX10, "holdForBinding", "(J)V"⟩
abbrev cX10_lambda : ByteArray := prog_12_method_37_code
def yX10_lambda : MethodName := ⟨RX10, "lambda", "(J)V"⟩
abbrev cX10_label : ByteArray := prog_12_method_38_code
def yX10_label : MethodName := ⟨RX10, "label", "(J)V"⟩
abbrev cX10_apply : ByteArray := prog_12_method_39_code
def yX10_apply : MethodName := ⟨RX10, "apply", "()V"⟩
abbrev cX10_evaluateAll : ByteArray := prog_12_method_40_code
def yX10_evaluateAll : MethodName := ⟨RX10, "evaluateAll", "(J)V"⟩
abbrev cX10_put : ByteArray := prog_12_method_41_code
def yX10_put : MethodName := ⟨RX10, "put", "(I)V"⟩
abbrev cX10_putAtom : ByteArray := prog_12_method_42_code
def yX10_putAtom : MethodName := ⟨RX10, "putAtom", "(J)V"⟩
abbrev cX10_printAll : ByteArray := prog_12_method_43_code
def yX10_printAll : MethodName := ⟨RX10, "printAll", "(J)V"⟩
abbrev cX10_thrown : ByteArray := prog_12_method_44_code
def yX10_thrown : MethodName := ⟨RX10, "thrown", "()I"⟩
abbrev cX10_write : ByteArray := prog_12_method_45_code
def yX10_write : MethodName := ⟨RX10, "write", "(J)Z"⟩
abbrev cX10_clear : ByteArray := prog_12_method_46_code
def yX10_clear : MethodName := ⟨RX10, "clear", "()V"⟩
abbrev cX10_next : ByteArray := prog_12_method_47_code
def yX10_next : MethodName := ⟨RX10, "next", "()I"⟩
abbrev cX10_fault : ByteArray := prog_12_method_48_code
def yX10_fault : MethodName := ⟨RX10, "fault", "()I"⟩
abbrev cX10_place : ByteArray := prog_12_method_49_code
def yX10_place : MethodName := ⟨RX10, "place", "()I"⟩
abbrev cX10_size : ByteArray := prog_12_method_50_code
def yX10_size : MethodName := ⟨RX10, "size", "()I"⟩
abbrev cX10_out : ByteArray := prog_12_method_51_code
def yX10_out : MethodName := ⟨RX10, "out", "(I)I"⟩
abbrev cX10_count : ByteArray := prog_12_method_52_code
def yX10_count : MethodName := ⟨RX10, "count", "(I)I"⟩
def RJ9 : String := "java/lang/Math"
def TJ9 : u_T := fun k => match k with
  | _ => ("", "", "", false)
def tyJ9 : Nat → FieldType := fun k => match k with
  | _ => .int
theorem nmJ9 : ∀ a, a < 0 → ∀ b, b < 0 → a ≠ b → (TJ9 a).2.1 ≠ (TJ9 b).2.1 := by decide +kernel
theorem tyJ9_ok : ∀ k, k < 0 → parseFieldDescriptor (TJ9 k).2.2.1 = some (tyJ9 k) := by decide +kernel
abbrev cJ9_abs_067f4 : ByteArray := prog_16_method_61_code
def yJ9_abs_067f4 : MethodName := ⟨RJ9, "abs", "(J)J"⟩
abbrev cJ9_max_7cf53 : ByteArray := prog_16_method_65_code
def yJ9_max_7cf53 : MethodName := ⟨RJ9, "max", "(II)I"⟩
def RJ0 : String := "java/lang/String"
def TJ0 : u_T := fun k => match k with
  | _ => ("", "", "", false)
def tyJ0 : Nat → FieldType := fun k => match k with
  | _ => .int
theorem nmJ0 : ∀ a, a < 0 → ∀ b, b < 0 → a ≠ b → (TJ0 a).2.1 ≠ (TJ0 b).2.1 := by decide +kernel
theorem tyJ0_ok : ∀ k, k < 0 → parseFieldDescriptor (TJ0 k).2.2.1 = some (tyJ0 k) := by decide +kernel
abbrev cJ0_length_8abf5 : ByteArray := prog_18_method_54_code
def yJ0_length_8abf5 : MethodName := ⟨RJ0, "length", "()I"⟩
abbrev cJ0_charAt_5068e : ByteArray := prog_18_method_56_code
def yJ0_charAt_5068e : MethodName := ⟨RJ0, "charAt", "(I)C"⟩
abbrev cJ0_coder_7d493 : ByteArray := prog_18_method_152_code
def yJ0_coder_7d493 : MethodName := ⟨RJ0, "coder", "()B"⟩
abbrev cJ0_isLatin1_aae02 : ByteArray := prog_18_method_154_code
def yJ0_isLatin1_aae02 : MethodName := ⟨RJ0, "isLatin1", "()Z"⟩
abbrev cJ0_checkIndex_df160 : ByteArray := prog_18_method_155_code
def yJ0_checkIndex_df160 : MethodName := ⟨RJ0, "checkIndex", "(II)V"⟩
def RJ1 : String := "java/lang/StringLatin1"
def TJ1 : u_T := fun k => match k with
  | _ => ("", "", "", false)
def tyJ1 : Nat → FieldType := fun k => match k with
  | _ => .int
theorem nmJ1 : ∀ a, a < 0 → ∀ b, b < 0 → a ≠ b → (TJ1 a).2.1 ≠ (TJ1 b).2.1 := by decide +kernel
theorem tyJ1_ok : ∀ k, k < 0 → parseFieldDescriptor (TJ1 k).2.2.1 = some (tyJ1 k) := by decide +kernel
abbrev cJ1_charAt_3b067 : ByteArray := prog_19_method_2_code
def yJ1_charAt_3b067 : MethodName := ⟨RJ1, "charAt", "([BI)C"⟩
def RJ2 : String := "java/lang/StringUTF16"
def TJ2 : u_T := fun k => match k with
  | _ => ("", "", "", false)
def tyJ2 : Nat → FieldType := fun k => match k with
  | _ => .int
theorem nmJ2 : ∀ a, a < 0 → ∀ b, b < 0 → a ≠ b → (TJ2 a).2.1 ≠ (TJ2 b).2.1 := by decide +kernel
theorem tyJ2_ok : ∀ k, k < 0 → parseFieldDescriptor (TJ2 k).2.2.1 = some (tyJ2 k) := by decide +kernel
abbrev cJ2_getChar_3b067 : ByteArray := prog_20_method_5_code
def yJ2_getChar_3b067 : MethodName := ⟨RJ2, "getChar", "([BI)C"⟩
abbrev cJ2_length_9d52b : ByteArray := prog_20_method_6_code
def yJ2_length_9d52b : MethodName := ⟨RJ2, "length", "([B)I"⟩
abbrev cJ2_charAt_3b067 : ByteArray := prog_20_method_83_code
def yJ2_charAt_3b067 : MethodName := ⟨RJ2, "charAt", "([BI)C"⟩
abbrev cJ2_checkIndex_2214a : ByteArray := prog_20_method_91_code
def yJ2_checkIndex_2214a : MethodName := ⟨RJ2, "checkIndex", "(I[B)V"⟩
def RJ10 : String := "java/lang/System"
def TJ10 : u_T := fun k => match k with
  | _ => ("", "", "", false)
def tyJ10 : Nat → FieldType := fun k => match k with
  | _ => .int
theorem nmJ10 : ∀ a, a < 0 → ∀ b, b < 0 → a ≠ b → (TJ10 a).2.1 ≠ (TJ10 b).2.1 := by decide +kernel
theorem tyJ10_ok : ∀ k, k < 0 → parseFieldDescriptor (TJ10 k).2.2.1 = some (tyJ10 k) := by decide +kernel
def RJ3 : String := "jdk/internal/util/Preconditions"
def TJ3 : u_T := fun k => match k with
  | _ => ("", "", "", false)
def tyJ3 : Nat → FieldType := fun k => match k with
  | _ => .int
theorem nmJ3 : ∀ a, a < 0 → ∀ b, b < 0 → a ≠ b → (TJ3 a).2.1 ≠ (TJ3 b).2.1 := by decide +kernel
theorem tyJ3_ok : ∀ k, k < 0 → parseFieldDescriptor (TJ3 k).2.2.1 = some (tyJ3 k) := by decide +kernel
abbrev cJ3_checkIndex_8e157 : ByteArray := prog_23_method_11_code
def yJ3_checkIndex_8e157 : MethodName := ⟨RJ3, "checkIndex", "(IILjava/util/function/BiFunction;)I"⟩
def RL : String := "ConsHouseLaw"
abbrev cL_cell : ByteArray := method_2_code
def yL_cell : MethodName := ⟨RL, "cell", "([II)I"⟩
abbrev cL_next : ByteArray := method_3_code
def yL_next : MethodName := ⟨RL, "next", "(LConsHouse;[J)I"⟩
abbrev cL_law : ByteArray := code
def yL_law : MethodName := ⟨RL, "law", "([I)Z"⟩
abbrev vwCl : List vw_C := [(RX0, TX0, 8), (RX1, TX1, 4), (RX2, TX2, 15), (RX3, TX3, 4), (RX4, TX4, 7), (RX5, TX5, 14), (RX6, TX6, 4), (RX7, TX7, 5), (RX9, TX9, 8), (RX10, TX10, 44)]
end
section
theorem dX0_init_0 : decode cX0_init 0 = .ok (.aload_n 0, 1) := by decide +kernel
theorem dX0_init_1 : decode cX0_init 1 = .ok (.invokespecial 3, 3) := by decide +kernel
theorem dX0_init_4 : decode cX0_init 4 = .ok (.aload_n 0, 1) := by decide +kernel
theorem dX0_init_5 : decode cX0_init 5 = .ok (.iconst 0, 1) := by decide +kernel
theorem dX0_init_6 : decode cX0_init 6 = .ok (.putfield 9, 3) := by decide +kernel
theorem dX0_init_9 : decode cX0_init 9 = .ok (.aload_n 0, 1) := by decide +kernel
theorem dX0_init_10 : decode cX0_init 10 = .ok (.iconst 0, 1) := by decide +kernel
theorem dX0_init_11 : decode cX0_init 11 = .ok (.putfield 15, 3) := by decide +kernel
theorem dX0_init_14 : decode cX0_init 14 = .ok (.aload_n 0, 1) := by decide +kernel
theorem dX0_init_15 : decode cX0_init 15 = .ok (.iload_n 1, 1) := by decide +kernel
theorem dX0_init_16 : decode cX0_init 16 = .ok (.newarray .long, 2) := by decide +kernel
theorem dX0_init_18 : decode cX0_init 18 = .ok (.putfield 18, 3) := by decide +kernel
theorem dX0_init_21 : decode cX0_init 21 = .ok (.aload_n 0, 1) := by decide +kernel
theorem dX0_init_22 : decode cX0_init 22 = .ok (.iload_n 1, 1) := by decide +kernel
theorem dX0_init_23 : decode cX0_init 23 = .ok (.newarray .long, 2) := by decide +kernel
theorem dX0_init_25 : decode cX0_init 25 = .ok (.putfield 22, 3) := by decide +kernel
theorem dX0_init_28 : decode cX0_init 28 = .ok (.aload_n 0, 1) := by decide +kernel
theorem dX0_init_29 : decode cX0_init 29 = .ok (.iload_n 1, 1) := by decide +kernel
theorem dX0_init_30 : decode cX0_init 30 = .ok (.newarray .int, 2) := by decide +kernel
theorem dX0_init_32 : decode cX0_init 32 = .ok (.putfield 25, 3) := by decide +kernel
theorem dX0_init_35 : decode cX0_init 35 = .ok (.aload_n 0, 1) := by decide +kernel
theorem dX0_init_36 : decode cX0_init 36 = .ok (.iload_n 1, 1) := by decide +kernel
theorem dX0_init_37 : decode cX0_init 37 = .ok (.iconst 1, 1) := by decide +kernel
theorem dX0_init_38 : decode cX0_init 38 = .ok (.iadd, 1) := by decide +kernel
theorem dX0_init_39 : decode cX0_init 39 = .ok (.newarray .long, 2) := by decide +kernel
theorem dX0_init_41 : decode cX0_init 41 = .ok (.putfield 29, 3) := by decide +kernel
theorem dX0_init_44 : decode cX0_init 44 = .ok (.aload_n 0, 1) := by decide +kernel
theorem dX0_init_45 : decode cX0_init 45 = .ok (.iload_n 1, 1) := by decide +kernel
theorem dX0_init_46 : decode cX0_init 46 = .ok (.newarray .int, 2) := by decide +kernel
theorem dX0_init_48 : decode cX0_init 48 = .ok (.putfield 32, 3) := by decide +kernel
theorem dX0_init_51 : decode cX0_init 51 = .ok (.aload_n 0, 1) := by decide +kernel
theorem dX0_init_52 : decode cX0_init 52 = .ok (.iload_n 1, 1) := by decide +kernel
theorem dX0_init_53 : decode cX0_init 53 = .ok (.putfield 35, 3) := by decide +kernel
theorem dX0_init_56 : decode cX0_init 56 = .ok (.iconst 0, 1) := by decide +kernel
theorem dX0_init_57 : decode cX0_init 57 = .ok (.istore_n 2, 1) := by decide +kernel
theorem dX0_init_58 : decode cX0_init 58 = .ok (.iload_n 2, 1) := by decide +kernel
theorem dX0_init_59 : decode cX0_init 59 = .ok (.iload_n 1, 1) := by decide +kernel
theorem dX0_init_60 : decode cX0_init 60 = .ok (.if_icmp .ge 16, 3) := by decide +kernel
theorem dX0_init_63 : decode cX0_init 63 = .ok (.aload_n 0, 1) := by decide +kernel
theorem dX0_init_64 : decode cX0_init 64 = .ok (.getfield 32, 3) := by decide +kernel
theorem dX0_init_67 : decode cX0_init 67 = .ok (.iload_n 2, 1) := by decide +kernel
theorem dX0_init_68 : decode cX0_init 68 = .ok (.iload_n 2, 1) := by decide +kernel
theorem dX0_init_69 : decode cX0_init 69 = .ok (.iastore, 1) := by decide +kernel
theorem dX0_init_70 : decode cX0_init 70 = .ok (.iinc 2 1, 3) := by decide +kernel
theorem dX0_init_73 : decode cX0_init 73 = .ok (.goto (-15), 3) := by decide +kernel
theorem dX0_init_76 : decode cX0_init 76 = .ok (.return_, 1) := by decide +kernel
theorem dX0_cellOf_0 : decode cX0_cellOf 0 = .ok (.lload_n 1, 1) := by decide +kernel
theorem dX0_cellOf_1 : decode cX0_cellOf 1 = .ok (.ldc2_w 38, 3) := by decide +kernel
theorem dX0_cellOf_4 : decode cX0_cellOf 4 = .ok (.lcmp, 1) := by decide +kernel
theorem dX0_cellOf_5 : decode cX0_cellOf 5 = .ok (.ifCond .lt 27, 3) := by decide +kernel
theorem dX0_cellOf_8 : decode cX0_cellOf 8 = .ok (.lload_n 1, 1) := by decide +kernel
theorem dX0_cellOf_9 : decode cX0_cellOf 9 = .ok (.ldc2_w 38, 3) := by decide +kernel
theorem dX0_cellOf_12 : decode cX0_cellOf 12 = .ok (.aload_n 0, 1) := by decide +kernel
theorem dX0_cellOf_13 : decode cX0_cellOf 13 = .ok (.getfield 18, 3) := by decide +kernel
theorem dX0_cellOf_16 : decode cX0_cellOf 16 = .ok (.arraylength, 1) := by decide +kernel
theorem dX0_cellOf_17 : decode cX0_cellOf 17 = .ok (.i2l, 1) := by decide +kernel
theorem dX0_cellOf_18 : decode cX0_cellOf 18 = .ok (.ladd, 1) := by decide +kernel
theorem dX0_cellOf_19 : decode cX0_cellOf 19 = .ok (.lcmp, 1) := by decide +kernel
theorem dX0_cellOf_20 : decode cX0_cellOf 20 = .ok (.ifCond .ge 12, 3) := by decide +kernel
theorem dX0_cellOf_23 : decode cX0_cellOf 23 = .ok (.lload_n 1, 1) := by decide +kernel
theorem dX0_cellOf_24 : decode cX0_cellOf 24 = .ok (.ldc2_w 38, 3) := by decide +kernel
theorem dX0_cellOf_27 : decode cX0_cellOf 27 = .ok (.lsub, 1) := by decide +kernel
theorem dX0_cellOf_28 : decode cX0_cellOf 28 = .ok (.l2i, 1) := by decide +kernel
theorem dX0_cellOf_29 : decode cX0_cellOf 29 = .ok (.goto 4, 3) := by decide +kernel
theorem dX0_cellOf_32 : decode cX0_cellOf 32 = .ok (.iconst (-1), 1) := by decide +kernel
theorem dX0_cellOf_33 : decode cX0_cellOf 33 = .ok (.ireturn, 1) := by decide +kernel
theorem dX0_car_0 : decode cX0_car 0 = .ok (.aload_n 0, 1) := by decide +kernel
theorem dX0_car_1 : decode cX0_car 1 = .ok (.lload_n 1, 1) := by decide +kernel
theorem dX0_car_2 : decode cX0_car 2 = .ok (.invokevirtual 40, 3) := by decide +kernel
theorem dX0_car_5 : decode cX0_car 5 = .ok (.istore_n 3, 1) := by decide +kernel
theorem dX0_car_6 : decode cX0_car 6 = .ok (.iload_n 3, 1) := by decide +kernel
theorem dX0_car_7 : decode cX0_car 7 = .ok (.ifCond .ge 9, 3) := by decide +kernel
theorem dX0_car_10 : decode cX0_car 10 = .ok (.ldc2_w 44, 3) := by decide +kernel
theorem dX0_car_13 : decode cX0_car 13 = .ok (.goto 9, 3) := by decide +kernel
theorem dX0_car_16 : decode cX0_car 16 = .ok (.aload_n 0, 1) := by decide +kernel
theorem dX0_car_17 : decode cX0_car 17 = .ok (.getfield 18, 3) := by decide +kernel
theorem dX0_car_20 : decode cX0_car 20 = .ok (.iload_n 3, 1) := by decide +kernel
theorem dX0_car_21 : decode cX0_car 21 = .ok (.laload, 1) := by decide +kernel
theorem dX0_car_22 : decode cX0_car 22 = .ok (.lreturn, 1) := by decide +kernel
theorem dX0_cdr_0 : decode cX0_cdr 0 = .ok (.aload_n 0, 1) := by decide +kernel
theorem dX0_cdr_1 : decode cX0_cdr 1 = .ok (.lload_n 1, 1) := by decide +kernel
theorem dX0_cdr_2 : decode cX0_cdr 2 = .ok (.invokevirtual 40, 3) := by decide +kernel
theorem dX0_cdr_5 : decode cX0_cdr 5 = .ok (.istore_n 3, 1) := by decide +kernel
theorem dX0_cdr_6 : decode cX0_cdr 6 = .ok (.iload_n 3, 1) := by decide +kernel
theorem dX0_cdr_7 : decode cX0_cdr 7 = .ok (.ifCond .ge 9, 3) := by decide +kernel
theorem dX0_cdr_10 : decode cX0_cdr 10 = .ok (.ldc2_w 44, 3) := by decide +kernel
theorem dX0_cdr_13 : decode cX0_cdr 13 = .ok (.goto 9, 3) := by decide +kernel
theorem dX0_cdr_16 : decode cX0_cdr 16 = .ok (.aload_n 0, 1) := by decide +kernel
theorem dX0_cdr_17 : decode cX0_cdr 17 = .ok (.getfield 22, 3) := by decide +kernel
theorem dX0_cdr_20 : decode cX0_cdr 20 = .ok (.iload_n 3, 1) := by decide +kernel
theorem dX0_cdr_21 : decode cX0_cdr 21 = .ok (.laload, 1) := by decide +kernel
theorem dX0_cdr_22 : decode cX0_cdr 22 = .ok (.lreturn, 1) := by decide +kernel
theorem dX0_setCdr_0 : decode cX0_setCdr 0 = .ok (.aload_n 0, 1) := by decide +kernel
theorem dX0_setCdr_1 : decode cX0_setCdr 1 = .ok (.lload_n 1, 1) := by decide +kernel
theorem dX0_setCdr_2 : decode cX0_setCdr 2 = .ok (.invokevirtual 40, 3) := by decide +kernel
theorem dX0_setCdr_5 : decode cX0_setCdr 5 = .ok (.istore 5, 2) := by decide +kernel
theorem dX0_setCdr_7 : decode cX0_setCdr 7 = .ok (.iload 5, 2) := by decide +kernel
theorem dX0_setCdr_9 : decode cX0_setCdr 9 = .ok (.ifCond .lt 11, 3) := by decide +kernel
theorem dX0_setCdr_12 : decode cX0_setCdr 12 = .ok (.aload_n 0, 1) := by decide +kernel
theorem dX0_setCdr_13 : decode cX0_setCdr 13 = .ok (.getfield 22, 3) := by decide +kernel
theorem dX0_setCdr_16 : decode cX0_setCdr 16 = .ok (.iload 5, 2) := by decide +kernel
theorem dX0_setCdr_18 : decode cX0_setCdr 18 = .ok (.lload_n 3, 1) := by decide +kernel
theorem dX0_setCdr_19 : decode cX0_setCdr 19 = .ok (.lastore, 1) := by decide +kernel
theorem dX0_setCdr_20 : decode cX0_setCdr 20 = .ok (.return_, 1) := by decide +kernel
theorem dX0_newPair_0 : decode cX0_newPair 0 = .ok (.aload_n 0, 1) := by decide +kernel
theorem dX0_newPair_1 : decode cX0_newPair 1 = .ok (.getfield 35, 3) := by decide +kernel
theorem dX0_newPair_4 : decode cX0_newPair 4 = .ok (.ifCond .gt 7, 3) := by decide +kernel
theorem dX0_newPair_7 : decode cX0_newPair 7 = .ok (.ldc2_w 44, 3) := by decide +kernel
theorem dX0_newPair_10 : decode cX0_newPair 10 = .ok (.lreturn, 1) := by decide +kernel
theorem dX0_newPair_11 : decode cX0_newPair 11 = .ok (.aload_n 0, 1) := by decide +kernel
theorem dX0_newPair_12 : decode cX0_newPair 12 = .ok (.dup, 1) := by decide +kernel
theorem dX0_newPair_13 : decode cX0_newPair 13 = .ok (.getfield 35, 3) := by decide +kernel
theorem dX0_newPair_16 : decode cX0_newPair 16 = .ok (.iconst 1, 1) := by decide +kernel
theorem dX0_newPair_17 : decode cX0_newPair 17 = .ok (.isub, 1) := by decide +kernel
theorem dX0_newPair_18 : decode cX0_newPair 18 = .ok (.putfield 35, 3) := by decide +kernel
theorem dX0_newPair_21 : decode cX0_newPair 21 = .ok (.aload_n 0, 1) := by decide +kernel
theorem dX0_newPair_22 : decode cX0_newPair 22 = .ok (.getfield 32, 3) := by decide +kernel
theorem dX0_newPair_25 : decode cX0_newPair 25 = .ok (.aload_n 0, 1) := by decide +kernel
theorem dX0_newPair_26 : decode cX0_newPair 26 = .ok (.getfield 35, 3) := by decide +kernel
theorem dX0_newPair_29 : decode cX0_newPair 29 = .ok (.iaload, 1) := by decide +kernel
theorem dX0_newPair_30 : decode cX0_newPair 30 = .ok (.istore 5, 2) := by decide +kernel
theorem dX0_newPair_32 : decode cX0_newPair 32 = .ok (.aload_n 0, 1) := by decide +kernel
theorem dX0_newPair_33 : decode cX0_newPair 33 = .ok (.getfield 18, 3) := by decide +kernel
theorem dX0_newPair_36 : decode cX0_newPair 36 = .ok (.iload 5, 2) := by decide +kernel
theorem dX0_newPair_38 : decode cX0_newPair 38 = .ok (.lload_n 1, 1) := by decide +kernel
theorem dX0_newPair_39 : decode cX0_newPair 39 = .ok (.lastore, 1) := by decide +kernel
theorem dX0_newPair_40 : decode cX0_newPair 40 = .ok (.aload_n 0, 1) := by decide +kernel
theorem dX0_newPair_41 : decode cX0_newPair 41 = .ok (.getfield 22, 3) := by decide +kernel
theorem dX0_newPair_44 : decode cX0_newPair 44 = .ok (.iload 5, 2) := by decide +kernel
theorem dX0_newPair_46 : decode cX0_newPair 46 = .ok (.lload_n 3, 1) := by decide +kernel
theorem dX0_newPair_47 : decode cX0_newPair 47 = .ok (.lastore, 1) := by decide +kernel
theorem dX0_newPair_48 : decode cX0_newPair 48 = .ok (.ldc2_w 38, 3) := by decide +kernel
theorem dX0_newPair_51 : decode cX0_newPair 51 = .ok (.iload 5, 2) := by decide +kernel
theorem dX0_newPair_53 : decode cX0_newPair 53 = .ok (.i2l, 1) := by decide +kernel
theorem dX0_newPair_54 : decode cX0_newPair 54 = .ok (.ladd, 1) := by decide +kernel
theorem dX0_newPair_55 : decode cX0_newPair 55 = .ok (.lreturn, 1) := by decide +kernel
theorem dX0_isListOf_0 : decode cX0_isListOf 0 = .ok (.lload_n 1, 1) := by decide +kernel
theorem dX0_isListOf_1 : decode cX0_isListOf 1 = .ok (.lstore 4, 2) := by decide +kernel
theorem dX0_isListOf_3 : decode cX0_isListOf 3 = .ok (.iconst 0, 1) := by decide +kernel
theorem dX0_isListOf_4 : decode cX0_isListOf 4 = .ok (.istore 6, 2) := by decide +kernel
theorem dX0_isListOf_6 : decode cX0_isListOf 6 = .ok (.iload 6, 2) := by decide +kernel
theorem dX0_isListOf_8 : decode cX0_isListOf 8 = .ok (.iload_n 3, 1) := by decide +kernel
theorem dX0_isListOf_9 : decode cX0_isListOf 9 = .ok (.if_icmp .ge 27, 3) := by decide +kernel
theorem dX0_isListOf_12 : decode cX0_isListOf 12 = .ok (.lload 4, 2) := by decide +kernel
theorem dX0_isListOf_14 : decode cX0_isListOf 14 = .ok (.invokestatic 46, 3) := by decide +kernel
theorem dX0_isListOf_17 : decode cX0_isListOf 17 = .ok (.ifCond .ne 5, 3) := by decide +kernel
theorem dX0_isListOf_20 : decode cX0_isListOf 20 = .ok (.iconst 0, 1) := by decide +kernel
theorem dX0_isListOf_21 : decode cX0_isListOf 21 = .ok (.ireturn, 1) := by decide +kernel
theorem dX0_isListOf_22 : decode cX0_isListOf 22 = .ok (.aload_n 0, 1) := by decide +kernel
theorem dX0_isListOf_23 : decode cX0_isListOf 23 = .ok (.lload 4, 2) := by decide +kernel
theorem dX0_isListOf_25 : decode cX0_isListOf 25 = .ok (.invokevirtual 52, 3) := by decide +kernel
theorem dX0_isListOf_28 : decode cX0_isListOf 28 = .ok (.lstore 4, 2) := by decide +kernel
theorem dX0_isListOf_30 : decode cX0_isListOf 30 = .ok (.iinc 6 1, 3) := by decide +kernel
theorem dX0_isListOf_33 : decode cX0_isListOf 33 = .ok (.goto (-27), 3) := by decide +kernel
theorem dX0_isListOf_36 : decode cX0_isListOf 36 = .ok (.lload 4, 2) := by decide +kernel
theorem dX0_isListOf_38 : decode cX0_isListOf 38 = .ok (.ldc2_w 44, 3) := by decide +kernel
theorem dX0_isListOf_41 : decode cX0_isListOf 41 = .ok (.lcmp, 1) := by decide +kernel
theorem dX0_isListOf_42 : decode cX0_isListOf 42 = .ok (.ifCond .ne 7, 3) := by decide +kernel
theorem dX0_isListOf_45 : decode cX0_isListOf 45 = .ok (.iconst 1, 1) := by decide +kernel
theorem dX0_isListOf_46 : decode cX0_isListOf 46 = .ok (.goto 4, 3) := by decide +kernel
theorem dX0_isListOf_49 : decode cX0_isListOf 49 = .ok (.iconst 0, 1) := by decide +kernel
theorem dX0_isListOf_50 : decode cX0_isListOf 50 = .ok (.ireturn, 1) := by decide +kernel
theorem dX0_isListOfNames_0 : decode cX0_isListOfNames 0 = .ok (.lload_n 1, 1) := by decide +kernel
theorem dX0_isListOfNames_1 : decode cX0_isListOfNames 1 = .ok (.lstore 4, 2) := by decide +kernel
theorem dX0_isListOfNames_3 : decode cX0_isListOfNames 3 = .ok (.iconst 0, 1) := by decide +kernel
theorem dX0_isListOfNames_4 : decode cX0_isListOfNames 4 = .ok (.istore 6, 2) := by decide +kernel
theorem dX0_isListOfNames_6 : decode cX0_isListOfNames 6 = .ok (.iload 6, 2) := by decide +kernel
theorem dX0_isListOfNames_8 : decode cX0_isListOfNames 8 = .ok (.iload_n 3, 1) := by decide +kernel
theorem dX0_isListOfNames_9 : decode cX0_isListOfNames 9 = .ok (.if_icmp .ge 39, 3) := by decide +kernel
theorem dX0_isListOfNames_12 : decode cX0_isListOfNames 12 = .ok (.lload 4, 2) := by decide +kernel
theorem dX0_isListOfNames_14 : decode cX0_isListOfNames 14 = .ok (.invokestatic 46, 3) := by decide +kernel
theorem dX0_isListOfNames_17 : decode cX0_isListOfNames 17 = .ok (.ifCond .eq 15, 3) := by decide +kernel
theorem dX0_isListOfNames_20 : decode cX0_isListOfNames 20 = .ok (.aload_n 0, 1) := by decide +kernel
theorem dX0_isListOfNames_21 : decode cX0_isListOfNames 21 = .ok (.lload 4, 2) := by decide +kernel
theorem dX0_isListOfNames_23 : decode cX0_isListOfNames 23 = .ok (.invokevirtual 56, 3) := by decide +kernel
theorem dX0_isListOfNames_26 : decode cX0_isListOfNames 26 = .ok (.invokestatic 59, 3) := by decide +kernel
theorem dX0_isListOfNames_29 : decode cX0_isListOfNames 29 = .ok (.ifCond .ne 5, 3) := by decide +kernel
theorem dX0_isListOfNames_32 : decode cX0_isListOfNames 32 = .ok (.iconst 0, 1) := by decide +kernel
theorem dX0_isListOfNames_33 : decode cX0_isListOfNames 33 = .ok (.ireturn, 1) := by decide +kernel
theorem dX0_isListOfNames_34 : decode cX0_isListOfNames 34 = .ok (.aload_n 0, 1) := by decide +kernel
theorem dX0_isListOfNames_35 : decode cX0_isListOfNames 35 = .ok (.lload 4, 2) := by decide +kernel
theorem dX0_isListOfNames_37 : decode cX0_isListOfNames 37 = .ok (.invokevirtual 52, 3) := by decide +kernel
theorem dX0_isListOfNames_40 : decode cX0_isListOfNames 40 = .ok (.lstore 4, 2) := by decide +kernel
theorem dX0_isListOfNames_42 : decode cX0_isListOfNames 42 = .ok (.iinc 6 1, 3) := by decide +kernel
theorem dX0_isListOfNames_45 : decode cX0_isListOfNames 45 = .ok (.goto (-39), 3) := by decide +kernel
theorem dX0_isListOfNames_48 : decode cX0_isListOfNames 48 = .ok (.lload 4, 2) := by decide +kernel
theorem dX0_isListOfNames_50 : decode cX0_isListOfNames 50 = .ok (.ldc2_w 44, 3) := by decide +kernel
theorem dX0_isListOfNames_53 : decode cX0_isListOfNames 53 = .ok (.lcmp, 1) := by decide +kernel
theorem dX0_isListOfNames_54 : decode cX0_isListOfNames 54 = .ok (.ifCond .ne 7, 3) := by decide +kernel
theorem dX0_isListOfNames_57 : decode cX0_isListOfNames 57 = .ok (.iconst 1, 1) := by decide +kernel
theorem dX0_isListOfNames_58 : decode cX0_isListOfNames 58 = .ok (.goto 4, 3) := by decide +kernel
theorem dX0_isListOfNames_61 : decode cX0_isListOfNames 61 = .ok (.iconst 0, 1) := by decide +kernel
theorem dX0_isListOfNames_62 : decode cX0_isListOfNames 62 = .ok (.ireturn, 1) := by decide +kernel
theorem dX0_beginMarking_0 : decode cX0_beginMarking 0 = .ok (.aload_n 0, 1) := by decide +kernel
theorem dX0_beginMarking_1 : decode cX0_beginMarking 1 = .ok (.dup, 1) := by decide +kernel
theorem dX0_beginMarking_2 : decode cX0_beginMarking 2 = .ok (.getfield 9, 3) := by decide +kernel
theorem dX0_beginMarking_5 : decode cX0_beginMarking 5 = .ok (.iconst 1, 1) := by decide +kernel
theorem dX0_beginMarking_6 : decode cX0_beginMarking 6 = .ok (.iadd, 1) := by decide +kernel
theorem dX0_beginMarking_7 : decode cX0_beginMarking 7 = .ok (.putfield 9, 3) := by decide +kernel
theorem dX0_beginMarking_10 : decode cX0_beginMarking 10 = .ok (.aload_n 0, 1) := by decide +kernel
theorem dX0_beginMarking_11 : decode cX0_beginMarking 11 = .ok (.iconst 0, 1) := by decide +kernel
theorem dX0_beginMarking_12 : decode cX0_beginMarking 12 = .ok (.putfield 15, 3) := by decide +kernel
theorem dX0_beginMarking_15 : decode cX0_beginMarking 15 = .ok (.return_, 1) := by decide +kernel
theorem dX0_mark_0 : decode cX0_mark 0 = .ok (.iconst 0, 1) := by decide +kernel
theorem dX0_mark_1 : decode cX0_mark 1 = .ok (.istore_n 3, 1) := by decide +kernel
theorem dX0_mark_2 : decode cX0_mark 2 = .ok (.iload_n 3, 1) := by decide +kernel
theorem dX0_mark_3 : decode cX0_mark 3 = .ok (.iload_n 2, 1) := by decide +kernel
theorem dX0_mark_4 : decode cX0_mark 4 = .ok (.if_icmp .ge 200, 3) := by decide +kernel
theorem dX0_mark_7 : decode cX0_mark 7 = .ok (.iload_n 3, 1) := by decide +kernel
theorem dX0_mark_8 : decode cX0_mark 8 = .ok (.aload_n 1, 1) := by decide +kernel
theorem dX0_mark_9 : decode cX0_mark 9 = .ok (.arraylength, 1) := by decide +kernel
theorem dX0_mark_10 : decode cX0_mark 10 = .ok (.if_icmp .ge 194, 3) := by decide +kernel
theorem dX0_mark_13 : decode cX0_mark 13 = .ok (.aload_n 0, 1) := by decide +kernel
theorem dX0_mark_14 : decode cX0_mark 14 = .ok (.getfield 29, 3) := by decide +kernel
theorem dX0_mark_17 : decode cX0_mark 17 = .ok (.iconst 0, 1) := by decide +kernel
theorem dX0_mark_18 : decode cX0_mark 18 = .ok (.aload_n 1, 1) := by decide +kernel
theorem dX0_mark_19 : decode cX0_mark 19 = .ok (.iload_n 3, 1) := by decide +kernel
theorem dX0_mark_20 : decode cX0_mark 20 = .ok (.laload, 1) := by decide +kernel
theorem dX0_mark_21 : decode cX0_mark 21 = .ok (.lastore, 1) := by decide +kernel
theorem dX0_mark_22 : decode cX0_mark 22 = .ok (.iconst 1, 1) := by decide +kernel
theorem dX0_mark_23 : decode cX0_mark 23 = .ok (.istore 4, 2) := by decide +kernel
theorem dX0_mark_25 : decode cX0_mark 25 = .ok (.iconst 0, 1) := by decide +kernel
theorem dX0_mark_26 : decode cX0_mark 26 = .ok (.istore 5, 2) := by decide +kernel
theorem dX0_mark_28 : decode cX0_mark 28 = .ok (.iload 5, 2) := by decide +kernel
theorem dX0_mark_30 : decode cX0_mark 30 = .ok (.iconst 2, 1) := by decide +kernel
theorem dX0_mark_31 : decode cX0_mark 31 = .ok (.aload_n 0, 1) := by decide +kernel
theorem dX0_mark_32 : decode cX0_mark 32 = .ok (.getfield 18, 3) := by decide +kernel
theorem dX0_mark_35 : decode cX0_mark 35 = .ok (.arraylength, 1) := by decide +kernel
theorem dX0_mark_36 : decode cX0_mark 36 = .ok (.imul, 1) := by decide +kernel
theorem dX0_mark_37 : decode cX0_mark 37 = .ok (.if_icmp .gt 161, 3) := by decide +kernel
theorem dX0_mark_40 : decode cX0_mark 40 = .ok (.iload 4, 2) := by decide +kernel
theorem dX0_mark_42 : decode cX0_mark 42 = .ok (.ifCond .le 156, 3) := by decide +kernel
theorem dX0_mark_45 : decode cX0_mark 45 = .ok (.iinc 4 (-1), 3) := by decide +kernel
theorem dX0_mark_48 : decode cX0_mark 48 = .ok (.aload_n 0, 1) := by decide +kernel
theorem dX0_mark_49 : decode cX0_mark 49 = .ok (.getfield 29, 3) := by decide +kernel
theorem dX0_mark_52 : decode cX0_mark 52 = .ok (.iload 4, 2) := by decide +kernel
theorem dX0_mark_54 : decode cX0_mark 54 = .ok (.laload, 1) := by decide +kernel
theorem dX0_mark_55 : decode cX0_mark 55 = .ok (.lstore 6, 2) := by decide +kernel
theorem dX0_mark_57 : decode cX0_mark 57 = .ok (.lload 6, 2) := by decide +kernel
theorem dX0_mark_59 : decode cX0_mark 59 = .ok (.ldc2_w 38, 3) := by decide +kernel
theorem dX0_mark_62 : decode cX0_mark 62 = .ok (.lcmp, 1) := by decide +kernel
theorem dX0_mark_63 : decode cX0_mark 63 = .ok (.ifCond .lt 23, 3) := by decide +kernel
theorem dX0_mark_66 : decode cX0_mark 66 = .ok (.lload 6, 2) := by decide +kernel
theorem dX0_mark_68 : decode cX0_mark 68 = .ok (.ldc2_w 38, 3) := by decide +kernel
theorem dX0_mark_71 : decode cX0_mark 71 = .ok (.aload_n 0, 1) := by decide +kernel
theorem dX0_mark_72 : decode cX0_mark 72 = .ok (.getfield 18, 3) := by decide +kernel
theorem dX0_mark_75 : decode cX0_mark 75 = .ok (.arraylength, 1) := by decide +kernel
theorem dX0_mark_76 : decode cX0_mark 76 = .ok (.i2l, 1) := by decide +kernel
theorem dX0_mark_77 : decode cX0_mark 77 = .ok (.ladd, 1) := by decide +kernel
theorem dX0_mark_78 : decode cX0_mark 78 = .ok (.lcmp, 1) := by decide +kernel
theorem dX0_mark_79 : decode cX0_mark 79 = .ok (.ifCond .ge 7, 3) := by decide +kernel
theorem dX0_mark_82 : decode cX0_mark 82 = .ok (.iconst 1, 1) := by decide +kernel
theorem dX0_mark_83 : decode cX0_mark 83 = .ok (.goto 4, 3) := by decide +kernel
theorem dX0_mark_86 : decode cX0_mark 86 = .ok (.iconst 0, 1) := by decide +kernel
theorem dX0_mark_87 : decode cX0_mark 87 = .ok (.istore 8, 2) := by decide +kernel
theorem dX0_mark_89 : decode cX0_mark 89 = .ok (.iload 8, 2) := by decide +kernel
theorem dX0_mark_91 : decode cX0_mark 91 = .ok (.ifCond .eq 13, 3) := by decide +kernel
theorem dX0_mark_94 : decode cX0_mark 94 = .ok (.lload 6, 2) := by decide +kernel
theorem dX0_mark_96 : decode cX0_mark 96 = .ok (.ldc2_w 38, 3) := by decide +kernel
theorem dX0_mark_99 : decode cX0_mark 99 = .ok (.lsub, 1) := by decide +kernel
theorem dX0_mark_100 : decode cX0_mark 100 = .ok (.l2i, 1) := by decide +kernel
theorem dX0_mark_101 : decode cX0_mark 101 = .ok (.goto 4, 3) := by decide +kernel
theorem dX0_mark_104 : decode cX0_mark 104 = .ok (.iconst 0, 1) := by decide +kernel
theorem dX0_mark_105 : decode cX0_mark 105 = .ok (.istore 9, 2) := by decide +kernel
theorem dX0_mark_107 : decode cX0_mark 107 = .ok (.iload 8, 2) := by decide +kernel
theorem dX0_mark_109 : decode cX0_mark 109 = .ok (.ifCond .eq 83, 3) := by decide +kernel
theorem dX0_mark_112 : decode cX0_mark 112 = .ok (.aload_n 0, 1) := by decide +kernel
theorem dX0_mark_113 : decode cX0_mark 113 = .ok (.getfield 25, 3) := by decide +kernel
theorem dX0_mark_116 : decode cX0_mark 116 = .ok (.iload 9, 2) := by decide +kernel
theorem dX0_mark_118 : decode cX0_mark 118 = .ok (.iaload, 1) := by decide +kernel
theorem dX0_mark_119 : decode cX0_mark 119 = .ok (.aload_n 0, 1) := by decide +kernel
theorem dX0_mark_120 : decode cX0_mark 120 = .ok (.getfield 9, 3) := by decide +kernel
theorem dX0_mark_123 : decode cX0_mark 123 = .ok (.if_icmp .eq 69, 3) := by decide +kernel
theorem dX0_mark_126 : decode cX0_mark 126 = .ok (.iload 4, 2) := by decide +kernel
theorem dX0_mark_128 : decode cX0_mark 128 = .ok (.iconst 1, 1) := by decide +kernel
theorem dX0_mark_129 : decode cX0_mark 129 = .ok (.iadd, 1) := by decide +kernel
theorem dX0_mark_130 : decode cX0_mark 130 = .ok (.aload_n 0, 1) := by decide +kernel
theorem dX0_mark_131 : decode cX0_mark 131 = .ok (.getfield 29, 3) := by decide +kernel
theorem dX0_mark_134 : decode cX0_mark 134 = .ok (.arraylength, 1) := by decide +kernel
theorem dX0_mark_135 : decode cX0_mark 135 = .ok (.if_icmp .ge 57, 3) := by decide +kernel
theorem dX0_mark_138 : decode cX0_mark 138 = .ok (.aload_n 0, 1) := by decide +kernel
theorem dX0_mark_139 : decode cX0_mark 139 = .ok (.getfield 25, 3) := by decide +kernel
theorem dX0_mark_142 : decode cX0_mark 142 = .ok (.iload 9, 2) := by decide +kernel
theorem dX0_mark_144 : decode cX0_mark 144 = .ok (.aload_n 0, 1) := by decide +kernel
theorem dX0_mark_145 : decode cX0_mark 145 = .ok (.getfield 9, 3) := by decide +kernel
theorem dX0_mark_148 : decode cX0_mark 148 = .ok (.iastore, 1) := by decide +kernel
theorem dX0_mark_149 : decode cX0_mark 149 = .ok (.aload_n 0, 1) := by decide +kernel
theorem dX0_mark_150 : decode cX0_mark 150 = .ok (.dup, 1) := by decide +kernel
theorem dX0_mark_151 : decode cX0_mark 151 = .ok (.getfield 15, 3) := by decide +kernel
theorem dX0_mark_154 : decode cX0_mark 154 = .ok (.iconst 1, 1) := by decide +kernel
theorem dX0_mark_155 : decode cX0_mark 155 = .ok (.iadd, 1) := by decide +kernel
theorem dX0_mark_156 : decode cX0_mark 156 = .ok (.putfield 15, 3) := by decide +kernel
theorem dX0_mark_159 : decode cX0_mark 159 = .ok (.aload_n 0, 1) := by decide +kernel
theorem dX0_mark_160 : decode cX0_mark 160 = .ok (.getfield 29, 3) := by decide +kernel
theorem dX0_mark_163 : decode cX0_mark 163 = .ok (.iload 4, 2) := by decide +kernel
theorem dX0_mark_165 : decode cX0_mark 165 = .ok (.aload_n 0, 1) := by decide +kernel
theorem dX0_mark_166 : decode cX0_mark 166 = .ok (.getfield 22, 3) := by decide +kernel
theorem dX0_mark_169 : decode cX0_mark 169 = .ok (.iload 9, 2) := by decide +kernel
theorem dX0_mark_171 : decode cX0_mark 171 = .ok (.laload, 1) := by decide +kernel
theorem dX0_mark_172 : decode cX0_mark 172 = .ok (.lastore, 1) := by decide +kernel
theorem dX0_mark_173 : decode cX0_mark 173 = .ok (.aload_n 0, 1) := by decide +kernel
theorem dX0_mark_174 : decode cX0_mark 174 = .ok (.getfield 29, 3) := by decide +kernel
theorem dX0_mark_177 : decode cX0_mark 177 = .ok (.iload 4, 2) := by decide +kernel
theorem dX0_mark_179 : decode cX0_mark 179 = .ok (.iconst 1, 1) := by decide +kernel
theorem dX0_mark_180 : decode cX0_mark 180 = .ok (.iadd, 1) := by decide +kernel
theorem dX0_mark_181 : decode cX0_mark 181 = .ok (.aload_n 0, 1) := by decide +kernel
theorem dX0_mark_182 : decode cX0_mark 182 = .ok (.getfield 18, 3) := by decide +kernel
theorem dX0_mark_185 : decode cX0_mark 185 = .ok (.iload 9, 2) := by decide +kernel
theorem dX0_mark_187 : decode cX0_mark 187 = .ok (.laload, 1) := by decide +kernel
theorem dX0_mark_188 : decode cX0_mark 188 = .ok (.lastore, 1) := by decide +kernel
theorem dX0_mark_189 : decode cX0_mark 189 = .ok (.iinc 4 2, 3) := by decide +kernel
theorem dX0_mark_192 : decode cX0_mark 192 = .ok (.iinc 5 1, 3) := by decide +kernel
theorem dX0_mark_195 : decode cX0_mark 195 = .ok (.goto (-167), 3) := by decide +kernel
theorem dX0_mark_198 : decode cX0_mark 198 = .ok (.iinc 3 1, 3) := by decide +kernel
theorem dX0_mark_201 : decode cX0_mark 201 = .ok (.goto (-199), 3) := by decide +kernel
theorem dX0_mark_204 : decode cX0_mark 204 = .ok (.return_, 1) := by decide +kernel
theorem dX0_sweep_0 : decode cX0_sweep 0 = .ok (.aload_n 0, 1) := by decide +kernel
theorem dX0_sweep_1 : decode cX0_sweep 1 = .ok (.iconst 0, 1) := by decide +kernel
theorem dX0_sweep_2 : decode cX0_sweep 2 = .ok (.putfield 35, 3) := by decide +kernel
theorem dX0_sweep_5 : decode cX0_sweep 5 = .ok (.iconst 0, 1) := by decide +kernel
theorem dX0_sweep_6 : decode cX0_sweep 6 = .ok (.istore_n 1, 1) := by decide +kernel
theorem dX0_sweep_7 : decode cX0_sweep 7 = .ok (.iload_n 1, 1) := by decide +kernel
theorem dX0_sweep_8 : decode cX0_sweep 8 = .ok (.aload_n 0, 1) := by decide +kernel
theorem dX0_sweep_9 : decode cX0_sweep 9 = .ok (.getfield 18, 3) := by decide +kernel
theorem dX0_sweep_12 : decode cX0_sweep 12 = .ok (.arraylength, 1) := by decide +kernel
theorem dX0_sweep_13 : decode cX0_sweep 13 = .ok (.if_icmp .ge 42, 3) := by decide +kernel
theorem dX0_sweep_16 : decode cX0_sweep 16 = .ok (.aload_n 0, 1) := by decide +kernel
theorem dX0_sweep_17 : decode cX0_sweep 17 = .ok (.getfield 25, 3) := by decide +kernel
theorem dX0_sweep_20 : decode cX0_sweep 20 = .ok (.iload_n 1, 1) := by decide +kernel
theorem dX0_sweep_21 : decode cX0_sweep 21 = .ok (.iaload, 1) := by decide +kernel
theorem dX0_sweep_22 : decode cX0_sweep 22 = .ok (.aload_n 0, 1) := by decide +kernel
theorem dX0_sweep_23 : decode cX0_sweep 23 = .ok (.getfield 9, 3) := by decide +kernel
theorem dX0_sweep_26 : decode cX0_sweep 26 = .ok (.if_icmp .eq 23, 3) := by decide +kernel
theorem dX0_sweep_29 : decode cX0_sweep 29 = .ok (.aload_n 0, 1) := by decide +kernel
theorem dX0_sweep_30 : decode cX0_sweep 30 = .ok (.getfield 32, 3) := by decide +kernel
theorem dX0_sweep_33 : decode cX0_sweep 33 = .ok (.aload_n 0, 1) := by decide +kernel
theorem dX0_sweep_34 : decode cX0_sweep 34 = .ok (.getfield 35, 3) := by decide +kernel
theorem dX0_sweep_37 : decode cX0_sweep 37 = .ok (.iload_n 1, 1) := by decide +kernel
theorem dX0_sweep_38 : decode cX0_sweep 38 = .ok (.iastore, 1) := by decide +kernel
theorem dX0_sweep_39 : decode cX0_sweep 39 = .ok (.aload_n 0, 1) := by decide +kernel
theorem dX0_sweep_40 : decode cX0_sweep 40 = .ok (.dup, 1) := by decide +kernel
theorem dX0_sweep_41 : decode cX0_sweep 41 = .ok (.getfield 35, 3) := by decide +kernel
theorem dX0_sweep_44 : decode cX0_sweep 44 = .ok (.iconst 1, 1) := by decide +kernel
theorem dX0_sweep_45 : decode cX0_sweep 45 = .ok (.iadd, 1) := by decide +kernel
theorem dX0_sweep_46 : decode cX0_sweep 46 = .ok (.putfield 35, 3) := by decide +kernel
theorem dX0_sweep_49 : decode cX0_sweep 49 = .ok (.iinc 1 1, 3) := by decide +kernel
theorem dX0_sweep_52 : decode cX0_sweep 52 = .ok (.goto (-45), 3) := by decide +kernel
theorem dX0_sweep_55 : decode cX0_sweep 55 = .ok (.return_, 1) := by decide +kernel
theorem dX1_init_0 : decode cX1_init 0 = .ok (.aload_n 0, 1) := by decide +kernel
theorem dX1_init_1 : decode cX1_init 1 = .ok (.invokespecial 1, 3) := by decide +kernel
theorem dX1_init_4 : decode cX1_init 4 = .ok (.aload_n 0, 1) := by decide +kernel
theorem dX1_init_5 : decode cX1_init 5 = .ok (.iconst 2, 1) := by decide +kernel
theorem dX1_init_6 : decode cX1_init 6 = .ok (.newarray .long, 2) := by decide +kernel
theorem dX1_init_8 : decode cX1_init 8 = .ok (.putfield 7, 3) := by decide +kernel
theorem dX1_init_11 : decode cX1_init 11 = .ok (.aload_n 0, 1) := by decide +kernel
theorem dX1_init_12 : decode cX1_init 12 = .ok (.aload_n 1, 1) := by decide +kernel
theorem dX1_init_13 : decode cX1_init 13 = .ok (.putfield 13, 3) := by decide +kernel
theorem dX1_init_16 : decode cX1_init 16 = .ok (.aload_n 0, 1) := by decide +kernel
theorem dX1_init_17 : decode cX1_init 17 = .ok (.aload_n 2, 1) := by decide +kernel
theorem dX1_init_18 : decode cX1_init 18 = .ok (.putfield 17, 3) := by decide +kernel
theorem dX1_init_21 : decode cX1_init 21 = .ok (.aload_n 0, 1) := by decide +kernel
theorem dX1_init_22 : decode cX1_init 22 = .ok (.aload_n 3, 1) := by decide +kernel
theorem dX1_init_23 : decode cX1_init 23 = .ok (.putfield 21, 3) := by decide +kernel
theorem dX1_init_26 : decode cX1_init 26 = .ok (.return_, 1) := by decide +kernel
theorem dX1_pairsOfGlobals_0 : decode cX1_pairsOfGlobals 0 = .ok (.aload_n 0, 1) := by decide +kernel
theorem dX1_pairsOfGlobals_1 : decode cX1_pairsOfGlobals 1 = .ok (.getfield 13, 3) := by decide +kernel
theorem dX1_pairsOfGlobals_4 : decode cX1_pairsOfGlobals 4 = .ok (.invokevirtual 25, 3) := by decide +kernel
theorem dX1_pairsOfGlobals_7 : decode cX1_pairsOfGlobals 7 = .ok (.aload_n 0, 1) := by decide +kernel
theorem dX1_pairsOfGlobals_8 : decode cX1_pairsOfGlobals 8 = .ok (.getfield 13, 3) := by decide +kernel
theorem dX1_pairsOfGlobals_11 : decode cX1_pairsOfGlobals 11 = .ok (.aload_n 0, 1) := by decide +kernel
theorem dX1_pairsOfGlobals_12 : decode cX1_pairsOfGlobals 12 = .ok (.getfield 17, 3) := by decide +kernel
theorem dX1_pairsOfGlobals_15 : decode cX1_pairsOfGlobals 15 = .ok (.getfield 30, 3) := by decide +kernel
theorem dX1_pairsOfGlobals_18 : decode cX1_pairsOfGlobals 18 = .ok (.aload_n 0, 1) := by decide +kernel
theorem dX1_pairsOfGlobals_19 : decode cX1_pairsOfGlobals 19 = .ok (.getfield 17, 3) := by decide +kernel
theorem dX1_pairsOfGlobals_22 : decode cX1_pairsOfGlobals 22 = .ok (.getfield 35, 3) := by decide +kernel
theorem dX1_pairsOfGlobals_25 : decode cX1_pairsOfGlobals 25 = .ok (.invokevirtual 39, 3) := by decide +kernel
theorem dX1_pairsOfGlobals_28 : decode cX1_pairsOfGlobals 28 = .ok (.aload_n 0, 1) := by decide +kernel
theorem dX1_pairsOfGlobals_29 : decode cX1_pairsOfGlobals 29 = .ok (.getfield 13, 3) := by decide +kernel
theorem dX1_pairsOfGlobals_32 : decode cX1_pairsOfGlobals 32 = .ok (.getfield 43, 3) := by decide +kernel
theorem dX1_pairsOfGlobals_35 : decode cX1_pairsOfGlobals 35 = .ok (.ireturn, 1) := by decide +kernel
theorem dX1_hasRoom_0 : decode cX1_hasRoom 0 = .ok (.aload_n 0, 1) := by decide +kernel
theorem dX1_hasRoom_1 : decode cX1_hasRoom 1 = .ok (.getfield 13, 3) := by decide +kernel
theorem dX1_hasRoom_4 : decode cX1_hasRoom 4 = .ok (.getfield 46, 3) := by decide +kernel
theorem dX1_hasRoom_7 : decode cX1_hasRoom 7 = .ok (.iload_n 1, 1) := by decide +kernel
theorem dX1_hasRoom_8 : decode cX1_hasRoom 8 = .ok (.if_icmp .lt 5, 3) := by decide +kernel
theorem dX1_hasRoom_11 : decode cX1_hasRoom 11 = .ok (.iconst 1, 1) := by decide +kernel
theorem dX1_hasRoom_12 : decode cX1_hasRoom 12 = .ok (.ireturn, 1) := by decide +kernel
theorem dX1_hasRoom_13 : decode cX1_hasRoom 13 = .ok (.aload_n 0, 1) := by decide +kernel
theorem dX1_hasRoom_14 : decode cX1_hasRoom 14 = .ok (.getfield 7, 3) := by decide +kernel
theorem dX1_hasRoom_17 : decode cX1_hasRoom 17 = .ok (.iconst 0, 1) := by decide +kernel
theorem dX1_hasRoom_18 : decode cX1_hasRoom 18 = .ok (.lload 4, 2) := by decide +kernel
theorem dX1_hasRoom_20 : decode cX1_hasRoom 20 = .ok (.lastore, 1) := by decide +kernel
theorem dX1_hasRoom_21 : decode cX1_hasRoom 21 = .ok (.aload_n 0, 1) := by decide +kernel
theorem dX1_hasRoom_22 : decode cX1_hasRoom 22 = .ok (.getfield 7, 3) := by decide +kernel
theorem dX1_hasRoom_25 : decode cX1_hasRoom 25 = .ok (.iconst 1, 1) := by decide +kernel
theorem dX1_hasRoom_26 : decode cX1_hasRoom 26 = .ok (.lload 6, 2) := by decide +kernel
theorem dX1_hasRoom_28 : decode cX1_hasRoom 28 = .ok (.lastore, 1) := by decide +kernel
theorem dX1_hasRoom_29 : decode cX1_hasRoom 29 = .ok (.aload_n 0, 1) := by decide +kernel
theorem dX1_hasRoom_30 : decode cX1_hasRoom 30 = .ok (.getfield 13, 3) := by decide +kernel
theorem dX1_hasRoom_33 : decode cX1_hasRoom 33 = .ok (.invokevirtual 25, 3) := by decide +kernel
theorem dX1_hasRoom_36 : decode cX1_hasRoom 36 = .ok (.aload_n 0, 1) := by decide +kernel
theorem dX1_hasRoom_37 : decode cX1_hasRoom 37 = .ok (.getfield 13, 3) := by decide +kernel
theorem dX1_hasRoom_40 : decode cX1_hasRoom 40 = .ok (.aload_n 0, 1) := by decide +kernel
theorem dX1_hasRoom_41 : decode cX1_hasRoom 41 = .ok (.getfield 17, 3) := by decide +kernel
theorem dX1_hasRoom_44 : decode cX1_hasRoom 44 = .ok (.getfield 30, 3) := by decide +kernel
theorem dX1_hasRoom_47 : decode cX1_hasRoom 47 = .ok (.aload_n 0, 1) := by decide +kernel
theorem dX1_hasRoom_48 : decode cX1_hasRoom 48 = .ok (.getfield 17, 3) := by decide +kernel
theorem dX1_hasRoom_51 : decode cX1_hasRoom 51 = .ok (.getfield 35, 3) := by decide +kernel
theorem dX1_hasRoom_54 : decode cX1_hasRoom 54 = .ok (.invokevirtual 39, 3) := by decide +kernel
theorem dX1_hasRoom_57 : decode cX1_hasRoom 57 = .ok (.aload_n 0, 1) := by decide +kernel
theorem dX1_hasRoom_58 : decode cX1_hasRoom 58 = .ok (.getfield 13, 3) := by decide +kernel
theorem dX1_hasRoom_61 : decode cX1_hasRoom 61 = .ok (.aload_n 0, 1) := by decide +kernel
theorem dX1_hasRoom_62 : decode cX1_hasRoom 62 = .ok (.getfield 21, 3) := by decide +kernel
theorem dX1_hasRoom_65 : decode cX1_hasRoom 65 = .ok (.getfield 49, 3) := by decide +kernel
theorem dX1_hasRoom_68 : decode cX1_hasRoom 68 = .ok (.aload_n 0, 1) := by decide +kernel
theorem dX1_hasRoom_69 : decode cX1_hasRoom 69 = .ok (.getfield 21, 3) := by decide +kernel
theorem dX1_hasRoom_72 : decode cX1_hasRoom 72 = .ok (.getfield 54, 3) := by decide +kernel
theorem dX1_hasRoom_75 : decode cX1_hasRoom 75 = .ok (.bipush 11, 2) := by decide +kernel
theorem dX1_hasRoom_77 : decode cX1_hasRoom 77 = .ok (.imul, 1) := by decide +kernel
theorem dX1_hasRoom_78 : decode cX1_hasRoom 78 = .ok (.invokevirtual 39, 3) := by decide +kernel
theorem dX1_hasRoom_81 : decode cX1_hasRoom 81 = .ok (.aload_n 0, 1) := by decide +kernel
theorem dX1_hasRoom_82 : decode cX1_hasRoom 82 = .ok (.getfield 13, 3) := by decide +kernel
theorem dX1_hasRoom_85 : decode cX1_hasRoom 85 = .ok (.aload_n 2, 1) := by decide +kernel
theorem dX1_hasRoom_86 : decode cX1_hasRoom 86 = .ok (.iload_n 3, 1) := by decide +kernel
theorem dX1_hasRoom_87 : decode cX1_hasRoom 87 = .ok (.invokevirtual 39, 3) := by decide +kernel
theorem dX1_hasRoom_90 : decode cX1_hasRoom 90 = .ok (.aload_n 0, 1) := by decide +kernel
theorem dX1_hasRoom_91 : decode cX1_hasRoom 91 = .ok (.getfield 13, 3) := by decide +kernel
theorem dX1_hasRoom_94 : decode cX1_hasRoom 94 = .ok (.aload_n 0, 1) := by decide +kernel
theorem dX1_hasRoom_95 : decode cX1_hasRoom 95 = .ok (.getfield 7, 3) := by decide +kernel
theorem dX1_hasRoom_98 : decode cX1_hasRoom 98 = .ok (.iconst 2, 1) := by decide +kernel
theorem dX1_hasRoom_99 : decode cX1_hasRoom 99 = .ok (.invokevirtual 39, 3) := by decide +kernel
theorem dX1_hasRoom_102 : decode cX1_hasRoom 102 = .ok (.aload_n 0, 1) := by decide +kernel
theorem dX1_hasRoom_103 : decode cX1_hasRoom 103 = .ok (.getfield 13, 3) := by decide +kernel
theorem dX1_hasRoom_106 : decode cX1_hasRoom 106 = .ok (.invokevirtual 57, 3) := by decide +kernel
theorem dX1_hasRoom_109 : decode cX1_hasRoom 109 = .ok (.aload_n 0, 1) := by decide +kernel
theorem dX1_hasRoom_110 : decode cX1_hasRoom 110 = .ok (.getfield 13, 3) := by decide +kernel
theorem dX1_hasRoom_113 : decode cX1_hasRoom 113 = .ok (.getfield 46, 3) := by decide +kernel
theorem dX1_hasRoom_116 : decode cX1_hasRoom 116 = .ok (.iload_n 1, 1) := by decide +kernel
theorem dX1_hasRoom_117 : decode cX1_hasRoom 117 = .ok (.if_icmp .lt 7, 3) := by decide +kernel
theorem dX1_hasRoom_120 : decode cX1_hasRoom 120 = .ok (.iconst 1, 1) := by decide +kernel
theorem dX1_hasRoom_121 : decode cX1_hasRoom 121 = .ok (.goto 4, 3) := by decide +kernel
theorem dX1_hasRoom_124 : decode cX1_hasRoom 124 = .ok (.iconst 0, 1) := by decide +kernel
theorem dX1_hasRoom_125 : decode cX1_hasRoom 125 = .ok (.ireturn, 1) := by decide +kernel
theorem dX2_init_0 : decode cX2_init 0 = .ok (.aload_n 0, 1) := by decide +kernel
theorem dX2_init_1 : decode cX2_init 1 = .ok (.invokespecial 3, 3) := by decide +kernel
theorem dX2_init_4 : decode cX2_init 4 = .ok (.aload_n 0, 1) := by decide +kernel
theorem dX2_init_5 : decode cX2_init 5 = .ok (.bipush 8, 2) := by decide +kernel
theorem dX2_init_7 : decode cX2_init 7 = .ok (.newarray .long, 2) := by decide +kernel
theorem dX2_init_9 : decode cX2_init 9 = .ok (.putfield 9, 3) := by decide +kernel
theorem dX2_init_12 : decode cX2_init 12 = .ok (.aload_n 0, 1) := by decide +kernel
theorem dX2_init_13 : decode cX2_init 13 = .ok (.iconst 0, 1) := by decide +kernel
theorem dX2_init_14 : decode cX2_init 14 = .ok (.putfield 15, 3) := by decide +kernel
theorem dX2_init_17 : decode cX2_init 17 = .ok (.aload_n 0, 1) := by decide +kernel
theorem dX2_init_18 : decode cX2_init 18 = .ok (.iconst 0, 1) := by decide +kernel
theorem dX2_init_19 : decode cX2_init 19 = .ok (.putfield 19, 3) := by decide +kernel
theorem dX2_init_22 : decode cX2_init 22 = .ok (.aload_n 0, 1) := by decide +kernel
theorem dX2_init_23 : decode cX2_init 23 = .ok (.iconst 4, 1) := by decide +kernel
theorem dX2_init_24 : decode cX2_init 24 = .ok (.putfield 22, 3) := by decide +kernel
theorem dX2_init_27 : decode cX2_init 27 = .ok (.aload_n 0, 1) := by decide +kernel
theorem dX2_init_28 : decode cX2_init 28 = .ok (.iconst 0, 1) := by decide +kernel
theorem dX2_init_29 : decode cX2_init 29 = .ok (.putfield 25, 3) := by decide +kernel
theorem dX2_init_32 : decode cX2_init 32 = .ok (.aload_n 0, 1) := by decide +kernel
theorem dX2_init_33 : decode cX2_init 33 = .ok (.ldc2_w 28, 3) := by decide +kernel
theorem dX2_init_36 : decode cX2_init 36 = .ok (.putfield 30, 3) := by decide +kernel
theorem dX2_init_39 : decode cX2_init 39 = .ok (.aload_n 0, 1) := by decide +kernel
theorem dX2_init_40 : decode cX2_init 40 = .ok (.ldc2_w 28, 3) := by decide +kernel
theorem dX2_init_43 : decode cX2_init 43 = .ok (.putfield 34, 3) := by decide +kernel
theorem dX2_init_46 : decode cX2_init 46 = .ok (.aload_n 0, 1) := by decide +kernel
theorem dX2_init_47 : decode cX2_init 47 = .ok (.ldc2_w 28, 3) := by decide +kernel
theorem dX2_init_50 : decode cX2_init 50 = .ok (.putfield 37, 3) := by decide +kernel
theorem dX2_init_53 : decode cX2_init 53 = .ok (.aload_n 0, 1) := by decide +kernel
theorem dX2_init_54 : decode cX2_init 54 = .ok (.ldc2_w 28, 3) := by decide +kernel
theorem dX2_init_57 : decode cX2_init 57 = .ok (.putfield 40, 3) := by decide +kernel
theorem dX2_init_60 : decode cX2_init 60 = .ok (.aload_n 0, 1) := by decide +kernel
theorem dX2_init_61 : decode cX2_init 61 = .ok (.ldc2_w 28, 3) := by decide +kernel
theorem dX2_init_64 : decode cX2_init 64 = .ok (.putfield 43, 3) := by decide +kernel
theorem dX2_init_67 : decode cX2_init 67 = .ok (.aload_n 0, 1) := by decide +kernel
theorem dX2_init_68 : decode cX2_init 68 = .ok (.aload_n 1, 1) := by decide +kernel
theorem dX2_init_69 : decode cX2_init 69 = .ok (.putfield 46, 3) := by decide +kernel
theorem dX2_init_72 : decode cX2_init 72 = .ok (.aload_n 0, 1) := by decide +kernel
theorem dX2_init_73 : decode cX2_init 73 = .ok (.aload_n 2, 1) := by decide +kernel
theorem dX2_init_74 : decode cX2_init 74 = .ok (.putfield 50, 3) := by decide +kernel
theorem dX2_init_77 : decode cX2_init 77 = .ok (.aload_n 0, 1) := by decide +kernel
theorem dX2_init_78 : decode cX2_init 78 = .ok (.aload_n 3, 1) := by decide +kernel
theorem dX2_init_79 : decode cX2_init 79 = .ok (.putfield 54, 3) := by decide +kernel
theorem dX2_init_82 : decode cX2_init 82 = .ok (.aload_n 0, 1) := by decide +kernel
theorem dX2_init_83 : decode cX2_init 83 = .ok (.aload 4, 2) := by decide +kernel
theorem dX2_init_85 : decode cX2_init 85 = .ok (.putfield 58, 3) := by decide +kernel
theorem dX2_init_88 : decode cX2_init 88 = .ok (.aload_n 0, 1) := by decide +kernel
theorem dX2_init_89 : decode cX2_init 89 = .ok (.iload 5, 2) := by decide +kernel
theorem dX2_init_91 : decode cX2_init 91 = .ok (.putfield 62, 3) := by decide +kernel
theorem dX2_init_94 : decode cX2_init 94 = .ok (.return_, 1) := by decide +kernel
theorem dX2_evaluate_0 : decode cX2_evaluate 0 = .ok (.aload_n 0, 1) := by decide +kernel
theorem dX2_evaluate_1 : decode cX2_evaluate 1 = .ok (.iconst 0, 1) := by decide +kernel
theorem dX2_evaluate_2 : decode cX2_evaluate 2 = .ok (.putfield 25, 3) := by decide +kernel
theorem dX2_evaluate_5 : decode cX2_evaluate 5 = .ok (.aload_n 0, 1) := by decide +kernel
theorem dX2_evaluate_6 : decode cX2_evaluate 6 = .ok (.lload_n 1, 1) := by decide +kernel
theorem dX2_evaluate_7 : decode cX2_evaluate 7 = .ok (.ldc2_w 28, 3) := by decide +kernel
theorem dX2_evaluate_10 : decode cX2_evaluate 10 = .ok (.invokevirtual 65, 3) := by decide +kernel
theorem dX2_evaluate_13 : decode cX2_evaluate 13 = .ok (.iconst 2, 1) := by decide +kernel
theorem dX2_evaluate_14 : decode cX2_evaluate 14 = .ok (.aload_n 0, 1) := by decide +kernel
theorem dX2_evaluate_15 : decode cX2_evaluate 15 = .ok (.getfield 62, 3) := by decide +kernel
theorem dX2_evaluate_18 : decode cX2_evaluate 18 = .ok (.imul, 1) := by decide +kernel
theorem dX2_evaluate_19 : decode cX2_evaluate 19 = .ok (.iconst 4, 1) := by decide +kernel
theorem dX2_evaluate_20 : decode cX2_evaluate 20 = .ok (.iadd, 1) := by decide +kernel
theorem dX2_evaluate_21 : decode cX2_evaluate 21 = .ok (.istore_n 3, 1) := by decide +kernel
theorem dX2_evaluate_22 : decode cX2_evaluate 22 = .ok (.iconst 0, 1) := by decide +kernel
theorem dX2_evaluate_23 : decode cX2_evaluate 23 = .ok (.istore 4, 2) := by decide +kernel
theorem dX2_evaluate_25 : decode cX2_evaluate 25 = .ok (.iload 4, 2) := by decide +kernel
theorem dX2_evaluate_27 : decode cX2_evaluate 27 = .ok (.iload_n 3, 1) := by decide +kernel
theorem dX2_evaluate_28 : decode cX2_evaluate 28 = .ok (.if_icmp .ge 143, 3) := by decide +kernel
theorem dX2_evaluate_31 : decode cX2_evaluate 31 = .ok (.aload_n 0, 1) := by decide +kernel
theorem dX2_evaluate_32 : decode cX2_evaluate 32 = .ok (.getfield 22, 3) := by decide +kernel
theorem dX2_evaluate_35 : decode cX2_evaluate 35 = .ok (.iconst 4, 1) := by decide +kernel
theorem dX2_evaluate_36 : decode cX2_evaluate 36 = .ok (.if_icmp .eq 135, 3) := by decide +kernel
theorem dX2_evaluate_39 : decode cX2_evaluate 39 = .ok (.aload_n 0, 1) := by decide +kernel
theorem dX2_evaluate_40 : decode cX2_evaluate 40 = .ok (.getfield 25, 3) := by decide +kernel
theorem dX2_evaluate_43 : decode cX2_evaluate 43 = .ok (.ifCond .ne 128, 3) := by decide +kernel
theorem dX2_evaluate_46 : decode cX2_evaluate 46 = .ok (.aload_n 0, 1) := by decide +kernel
theorem dX2_evaluate_47 : decode cX2_evaluate 47 = .ok (.getfield 22, 3) := by decide +kernel
theorem dX2_evaluate_50 : decode cX2_evaluate 50 = .ok (.iconst 3, 1) := by decide +kernel
theorem dX2_evaluate_51 : decode cX2_evaluate 51 = .ok (.if_icmp .ne 10, 3) := by decide +kernel
theorem dX2_evaluate_54 : decode cX2_evaluate 54 = .ok (.aload_n 0, 1) := by decide +kernel
theorem dX2_evaluate_55 : decode cX2_evaluate 55 = .ok (.invokevirtual 69, 3) := by decide +kernel
theorem dX2_evaluate_58 : decode cX2_evaluate 58 = .ok (.goto 107, 3) := by decide +kernel
theorem dX2_evaluate_61 : decode cX2_evaluate 61 = .ok (.aload_n 0, 1) := by decide +kernel
theorem dX2_evaluate_62 : decode cX2_evaluate 62 = .ok (.getfield 19, 3) := by decide +kernel
theorem dX2_evaluate_65 : decode cX2_evaluate 65 = .ok (.aload_n 0, 1) := by decide +kernel
theorem dX2_evaluate_66 : decode cX2_evaluate 66 = .ok (.getfield 62, 3) := by decide +kernel
theorem dX2_evaluate_69 : decode cX2_evaluate 69 = .ok (.if_icmp .lt 12, 3) := by decide +kernel
theorem dX2_evaluate_72 : decode cX2_evaluate 72 = .ok (.aload_n 0, 1) := by decide +kernel
theorem dX2_evaluate_73 : decode cX2_evaluate 73 = .ok (.bipush 8, 2) := by decide +kernel
theorem dX2_evaluate_75 : decode cX2_evaluate 75 = .ok (.putfield 25, 3) := by decide +kernel
theorem dX2_evaluate_78 : decode cX2_evaluate 78 = .ok (.goto 87, 3) := by decide +kernel
theorem dX2_evaluate_81 : decode cX2_evaluate 81 = .ok (.aload_n 0, 1) := by decide +kernel
theorem dX2_evaluate_82 : decode cX2_evaluate 82 = .ok (.dup, 1) := by decide +kernel
theorem dX2_evaluate_83 : decode cX2_evaluate 83 = .ok (.getfield 19, 3) := by decide +kernel
theorem dX2_evaluate_86 : decode cX2_evaluate 86 = .ok (.iconst 1, 1) := by decide +kernel
theorem dX2_evaluate_87 : decode cX2_evaluate 87 = .ok (.iadd, 1) := by decide +kernel
theorem dX2_evaluate_88 : decode cX2_evaluate 88 = .ok (.putfield 19, 3) := by decide +kernel
theorem dX2_evaluate_91 : decode cX2_evaluate 91 = .ok (.aload_n 0, 1) := by decide +kernel
theorem dX2_evaluate_92 : decode cX2_evaluate 92 = .ok (.getfield 22, 3) := by decide +kernel
theorem dX2_evaluate_95 : decode cX2_evaluate 95 = .ok (.iconst 1, 1) := by decide +kernel
theorem dX2_evaluate_96 : decode cX2_evaluate 96 = .ok (.if_icmp .ne 10, 3) := by decide +kernel
theorem dX2_evaluate_99 : decode cX2_evaluate 99 = .ok (.aload_n 0, 1) := by decide +kernel
theorem dX2_evaluate_100 : decode cX2_evaluate 100 = .ok (.invokevirtual 72, 3) := by decide +kernel
theorem dX2_evaluate_103 : decode cX2_evaluate 103 = .ok (.goto 62, 3) := by decide +kernel
theorem dX2_evaluate_106 : decode cX2_evaluate 106 = .ok (.aload_n 0, 1) := by decide +kernel
theorem dX2_evaluate_107 : decode cX2_evaluate 107 = .ok (.getfield 22, 3) := by decide +kernel
theorem dX2_evaluate_110 : decode cX2_evaluate 110 = .ok (.ifCond .ne 20, 3) := by decide +kernel
theorem dX2_evaluate_113 : decode cX2_evaluate 113 = .ok (.aload_n 0, 1) := by decide +kernel
theorem dX2_evaluate_114 : decode cX2_evaluate 114 = .ok (.getfield 30, 3) := by decide +kernel
theorem dX2_evaluate_117 : decode cX2_evaluate 117 = .ok (.invokestatic 75, 3) := by decide +kernel
theorem dX2_evaluate_120 : decode cX2_evaluate 120 = .ok (.ifCond .eq 10, 3) := by decide +kernel
theorem dX2_evaluate_123 : decode cX2_evaluate 123 = .ok (.aload_n 0, 1) := by decide +kernel
theorem dX2_evaluate_124 : decode cX2_evaluate 124 = .ok (.invokevirtual 81, 3) := by decide +kernel
theorem dX2_evaluate_127 : decode cX2_evaluate 127 = .ok (.goto 38, 3) := by decide +kernel
theorem dX2_evaluate_130 : decode cX2_evaluate 130 = .ok (.aload_n 0, 1) := by decide +kernel
theorem dX2_evaluate_131 : decode cX2_evaluate 131 = .ok (.getfield 22, 3) := by decide +kernel
theorem dX2_evaluate_134 : decode cX2_evaluate 134 = .ok (.ifCond .ne 10, 3) := by decide +kernel
theorem dX2_evaluate_137 : decode cX2_evaluate 137 = .ok (.aload_n 0, 1) := by decide +kernel
theorem dX2_evaluate_138 : decode cX2_evaluate 138 = .ok (.invokevirtual 84, 3) := by decide +kernel
theorem dX2_evaluate_141 : decode cX2_evaluate 141 = .ok (.goto 24, 3) := by decide +kernel
theorem dX2_evaluate_144 : decode cX2_evaluate 144 = .ok (.aload_n 0, 1) := by decide +kernel
theorem dX2_evaluate_145 : decode cX2_evaluate 145 = .ok (.getfield 37, 3) := by decide +kernel
theorem dX2_evaluate_148 : decode cX2_evaluate 148 = .ok (.invokestatic 75, 3) := by decide +kernel
theorem dX2_evaluate_151 : decode cX2_evaluate 151 = .ok (.ifCond .eq 10, 3) := by decide +kernel
theorem dX2_evaluate_154 : decode cX2_evaluate 154 = .ok (.aload_n 0, 1) := by decide +kernel
theorem dX2_evaluate_155 : decode cX2_evaluate 155 = .ok (.invokevirtual 87, 3) := by decide +kernel
theorem dX2_evaluate_158 : decode cX2_evaluate 158 = .ok (.goto 7, 3) := by decide +kernel
theorem dX2_evaluate_161 : decode cX2_evaluate 161 = .ok (.aload_n 0, 1) := by decide +kernel
theorem dX2_evaluate_162 : decode cX2_evaluate 162 = .ok (.invokevirtual 90, 3) := by decide +kernel
theorem dX2_evaluate_165 : decode cX2_evaluate 165 = .ok (.iinc 4 1, 3) := by decide +kernel
theorem dX2_evaluate_168 : decode cX2_evaluate 168 = .ok (.goto (-143), 3) := by decide +kernel
theorem dX2_evaluate_171 : decode cX2_evaluate 171 = .ok (.aload_n 0, 1) := by decide +kernel
theorem dX2_evaluate_172 : decode cX2_evaluate 172 = .ok (.getfield 25, 3) := by decide +kernel
theorem dX2_evaluate_175 : decode cX2_evaluate 175 = .ok (.ireturn, 1) := by decide +kernel
theorem dX2_beginEvaluating_0 : decode cX2_beginEvaluating 0 = .ok (.aload_n 0, 1) := by decide +kernel
theorem dX2_beginEvaluating_1 : decode cX2_beginEvaluating 1 = .ok (.lload_n 1, 1) := by decide +kernel
theorem dX2_beginEvaluating_2 : decode cX2_beginEvaluating 2 = .ok (.putfield 30, 3) := by decide +kernel
theorem dX2_beginEvaluating_5 : decode cX2_beginEvaluating 5 = .ok (.aload_n 0, 1) := by decide +kernel
theorem dX2_beginEvaluating_6 : decode cX2_beginEvaluating 6 = .ok (.lload_n 3, 1) := by decide +kernel
theorem dX2_beginEvaluating_7 : decode cX2_beginEvaluating 7 = .ok (.putfield 40, 3) := by decide +kernel
theorem dX2_beginEvaluating_10 : decode cX2_beginEvaluating 10 = .ok (.aload_n 0, 1) := by decide +kernel
theorem dX2_beginEvaluating_11 : decode cX2_beginEvaluating 11 = .ok (.iconst 0, 1) := by decide +kernel
theorem dX2_beginEvaluating_12 : decode cX2_beginEvaluating 12 = .ok (.putfield 22, 3) := by decide +kernel
theorem dX2_beginEvaluating_15 : decode cX2_beginEvaluating 15 = .ok (.return_, 1) := by decide +kernel
theorem dX2_beginApplying_0 : decode cX2_beginApplying 0 = .ok (.aload_n 0, 1) := by decide +kernel
theorem dX2_beginApplying_1 : decode cX2_beginApplying 1 = .ok (.lload_n 1, 1) := by decide +kernel
theorem dX2_beginApplying_2 : decode cX2_beginApplying 2 = .ok (.putfield 37, 3) := by decide +kernel
theorem dX2_beginApplying_5 : decode cX2_beginApplying 5 = .ok (.aload_n 0, 1) := by decide +kernel
theorem dX2_beginApplying_6 : decode cX2_beginApplying 6 = .ok (.iconst 2, 1) := by decide +kernel
theorem dX2_beginApplying_7 : decode cX2_beginApplying 7 = .ok (.putfield 22, 3) := by decide +kernel
theorem dX2_beginApplying_10 : decode cX2_beginApplying 10 = .ok (.return_, 1) := by decide +kernel
theorem dX2_answer_0 : decode cX2_answer 0 = .ok (.aload_n 0, 1) := by decide +kernel
theorem dX2_answer_1 : decode cX2_answer 1 = .ok (.lload_n 1, 1) := by decide +kernel
theorem dX2_answer_2 : decode cX2_answer 2 = .ok (.putfield 43, 3) := by decide +kernel
theorem dX2_answer_5 : decode cX2_answer 5 = .ok (.aload_n 0, 1) := by decide +kernel
theorem dX2_answer_6 : decode cX2_answer 6 = .ok (.iconst 3, 1) := by decide +kernel
theorem dX2_answer_7 : decode cX2_answer 7 = .ok (.putfield 22, 3) := by decide +kernel
theorem dX2_answer_10 : decode cX2_answer 10 = .ok (.return_, 1) := by decide +kernel
theorem dX2_answerTruth_0 : decode cX2_answerTruth 0 = .ok (.aload_n 0, 1) := by decide +kernel
theorem dX2_answerTruth_1 : decode cX2_answerTruth 1 = .ok (.iload_n 1, 1) := by decide +kernel
theorem dX2_answerTruth_2 : decode cX2_answerTruth 2 = .ok (.ifCond .eq 9, 3) := by decide +kernel
theorem dX2_answerTruth_5 : decode cX2_answerTruth 5 = .ok (.ldc2_w 93, 3) := by decide +kernel
theorem dX2_answerTruth_8 : decode cX2_answerTruth 8 = .ok (.goto 6, 3) := by decide +kernel
theorem dX2_answerTruth_11 : decode cX2_answerTruth 11 = .ok (.ldc2_w 28, 3) := by decide +kernel
theorem dX2_answerTruth_14 : decode cX2_answerTruth 14 = .ok (.invokevirtual 95, 3) := by decide +kernel
theorem dX2_answerTruth_17 : decode cX2_answerTruth 17 = .ok (.return_, 1) := by decide +kernel
theorem dX2_boundTo_0 : decode cX2_boundTo 0 = .ok (.aload_n 0, 1) := by decide +kernel
theorem dX2_boundTo_1 : decode cX2_boundTo 1 = .ok (.getfield 40, 3) := by decide +kernel
theorem dX2_boundTo_4 : decode cX2_boundTo 4 = .ok (.lstore_n 3, 1) := by decide +kernel
theorem dX2_boundTo_5 : decode cX2_boundTo 5 = .ok (.iconst 0, 1) := by decide +kernel
theorem dX2_boundTo_6 : decode cX2_boundTo 6 = .ok (.istore 5, 2) := by decide +kernel
theorem dX2_boundTo_8 : decode cX2_boundTo 8 = .ok (.iload 5, 2) := by decide +kernel
theorem dX2_boundTo_10 : decode cX2_boundTo 10 = .ok (.aload_n 0, 1) := by decide +kernel
theorem dX2_boundTo_11 : decode cX2_boundTo 11 = .ok (.getfield 46, 3) := by decide +kernel
theorem dX2_boundTo_14 : decode cX2_boundTo 14 = .ok (.getfield 99, 3) := by decide +kernel
theorem dX2_boundTo_17 : decode cX2_boundTo 17 = .ok (.arraylength, 1) := by decide +kernel
theorem dX2_boundTo_18 : decode cX2_boundTo 18 = .ok (.if_icmp .ge 59, 3) := by decide +kernel
theorem dX2_boundTo_21 : decode cX2_boundTo 21 = .ok (.lload_n 3, 1) := by decide +kernel
theorem dX2_boundTo_22 : decode cX2_boundTo 22 = .ok (.invokestatic 75, 3) := by decide +kernel
theorem dX2_boundTo_25 : decode cX2_boundTo 25 = .ok (.ifCond .eq 52, 3) := by decide +kernel
theorem dX2_boundTo_28 : decode cX2_boundTo 28 = .ok (.aload_n 0, 1) := by decide +kernel
theorem dX2_boundTo_29 : decode cX2_boundTo 29 = .ok (.getfield 46, 3) := by decide +kernel
theorem dX2_boundTo_32 : decode cX2_boundTo 32 = .ok (.lload_n 3, 1) := by decide +kernel
theorem dX2_boundTo_33 : decode cX2_boundTo 33 = .ok (.invokevirtual 104, 3) := by decide +kernel
theorem dX2_boundTo_36 : decode cX2_boundTo 36 = .ok (.lstore 6, 2) := by decide +kernel
theorem dX2_boundTo_38 : decode cX2_boundTo 38 = .ok (.aload_n 0, 1) := by decide +kernel
theorem dX2_boundTo_39 : decode cX2_boundTo 39 = .ok (.getfield 46, 3) := by decide +kernel
theorem dX2_boundTo_42 : decode cX2_boundTo 42 = .ok (.lload 6, 2) := by decide +kernel
theorem dX2_boundTo_44 : decode cX2_boundTo 44 = .ok (.invokevirtual 104, 3) := by decide +kernel
theorem dX2_boundTo_47 : decode cX2_boundTo 47 = .ok (.lload_n 1, 1) := by decide +kernel
theorem dX2_boundTo_48 : decode cX2_boundTo 48 = .ok (.lcmp, 1) := by decide +kernel
theorem dX2_boundTo_49 : decode cX2_boundTo 49 = .ok (.ifCond .ne 13, 3) := by decide +kernel
theorem dX2_boundTo_52 : decode cX2_boundTo 52 = .ok (.aload_n 0, 1) := by decide +kernel
theorem dX2_boundTo_53 : decode cX2_boundTo 53 = .ok (.getfield 46, 3) := by decide +kernel
theorem dX2_boundTo_56 : decode cX2_boundTo 56 = .ok (.lload 6, 2) := by decide +kernel
theorem dX2_boundTo_58 : decode cX2_boundTo 58 = .ok (.invokevirtual 108, 3) := by decide +kernel
theorem dX2_boundTo_61 : decode cX2_boundTo 61 = .ok (.lreturn, 1) := by decide +kernel
theorem dX2_boundTo_62 : decode cX2_boundTo 62 = .ok (.aload_n 0, 1) := by decide +kernel
theorem dX2_boundTo_63 : decode cX2_boundTo 63 = .ok (.getfield 46, 3) := by decide +kernel
theorem dX2_boundTo_66 : decode cX2_boundTo 66 = .ok (.lload_n 3, 1) := by decide +kernel
theorem dX2_boundTo_67 : decode cX2_boundTo 67 = .ok (.invokevirtual 108, 3) := by decide +kernel
theorem dX2_boundTo_70 : decode cX2_boundTo 70 = .ok (.lstore_n 3, 1) := by decide +kernel
theorem dX2_boundTo_71 : decode cX2_boundTo 71 = .ok (.iinc 5 1, 3) := by decide +kernel
theorem dX2_boundTo_74 : decode cX2_boundTo 74 = .ok (.goto (-66), 3) := by decide +kernel
theorem dX2_boundTo_77 : decode cX2_boundTo 77 = .ok (.aload_n 0, 1) := by decide +kernel
theorem dX2_boundTo_78 : decode cX2_boundTo 78 = .ok (.getfield 50, 3) := by decide +kernel
theorem dX2_boundTo_81 : decode cX2_boundTo 81 = .ok (.lload_n 1, 1) := by decide +kernel
theorem dX2_boundTo_82 : decode cX2_boundTo 82 = .ok (.invokevirtual 111, 3) := by decide +kernel
theorem dX2_boundTo_85 : decode cX2_boundTo 85 = .ok (.lreturn, 1) := by decide +kernel
theorem dX2_evaluateAtom_0 : decode cX2_evaluateAtom 0 = .ok (.aload_n 0, 1) := by decide +kernel
theorem dX2_evaluateAtom_1 : decode cX2_evaluateAtom 1 = .ok (.getfield 30, 3) := by decide +kernel
theorem dX2_evaluateAtom_4 : decode cX2_evaluateAtom 4 = .ok (.invokestatic 116, 3) := by decide +kernel
theorem dX2_evaluateAtom_7 : decode cX2_evaluateAtom 7 = .ok (.ifCond .eq 10, 3) := by decide +kernel
theorem dX2_evaluateAtom_10 : decode cX2_evaluateAtom 10 = .ok (.aload_n 0, 1) := by decide +kernel
theorem dX2_evaluateAtom_11 : decode cX2_evaluateAtom 11 = .ok (.getfield 30, 3) := by decide +kernel
theorem dX2_evaluateAtom_14 : decode cX2_evaluateAtom 14 = .ok (.goto 11, 3) := by decide +kernel
theorem dX2_evaluateAtom_17 : decode cX2_evaluateAtom 17 = .ok (.aload_n 0, 1) := by decide +kernel
theorem dX2_evaluateAtom_18 : decode cX2_evaluateAtom 18 = .ok (.aload_n 0, 1) := by decide +kernel
theorem dX2_evaluateAtom_19 : decode cX2_evaluateAtom 19 = .ok (.getfield 30, 3) := by decide +kernel
theorem dX2_evaluateAtom_22 : decode cX2_evaluateAtom 22 = .ok (.invokevirtual 119, 3) := by decide +kernel
theorem dX2_evaluateAtom_25 : decode cX2_evaluateAtom 25 = .ok (.lstore_n 1, 1) := by decide +kernel
theorem dX2_evaluateAtom_26 : decode cX2_evaluateAtom 26 = .ok (.lload_n 1, 1) := by decide +kernel
theorem dX2_evaluateAtom_27 : decode cX2_evaluateAtom 27 = .ok (.ldc2_w 122, 3) := by decide +kernel
theorem dX2_evaluateAtom_30 : decode cX2_evaluateAtom 30 = .ok (.lcmp, 1) := by decide +kernel
theorem dX2_evaluateAtom_31 : decode cX2_evaluateAtom 31 = .ok (.ifCond .ne 11, 3) := by decide +kernel
theorem dX2_evaluateAtom_34 : decode cX2_evaluateAtom 34 = .ok (.aload_n 0, 1) := by decide +kernel
theorem dX2_evaluateAtom_35 : decode cX2_evaluateAtom 35 = .ok (.iconst 1, 1) := by decide +kernel
theorem dX2_evaluateAtom_36 : decode cX2_evaluateAtom 36 = .ok (.putfield 25, 3) := by decide +kernel
theorem dX2_evaluateAtom_39 : decode cX2_evaluateAtom 39 = .ok (.goto 8, 3) := by decide +kernel
theorem dX2_evaluateAtom_42 : decode cX2_evaluateAtom 42 = .ok (.aload_n 0, 1) := by decide +kernel
theorem dX2_evaluateAtom_43 : decode cX2_evaluateAtom 43 = .ok (.lload_n 1, 1) := by decide +kernel
theorem dX2_evaluateAtom_44 : decode cX2_evaluateAtom 44 = .ok (.invokevirtual 95, 3) := by decide +kernel
theorem dX2_evaluateAtom_47 : decode cX2_evaluateAtom 47 = .ok (.return_, 1) := by decide +kernel
theorem dX2_evaluatePair_0 : decode cX2_evaluatePair 0 = .ok (.aload_n 0, 1) := by decide +kernel
theorem dX2_evaluatePair_1 : decode cX2_evaluatePair 1 = .ok (.getfield 46, 3) := by decide +kernel
theorem dX2_evaluatePair_4 : decode cX2_evaluatePair 4 = .ok (.aload_n 0, 1) := by decide +kernel
theorem dX2_evaluatePair_5 : decode cX2_evaluatePair 5 = .ok (.getfield 30, 3) := by decide +kernel
theorem dX2_evaluatePair_8 : decode cX2_evaluatePair 8 = .ok (.invokevirtual 104, 3) := by decide +kernel
theorem dX2_evaluatePair_11 : decode cX2_evaluatePair 11 = .ok (.lstore_n 1, 1) := by decide +kernel
theorem dX2_evaluatePair_12 : decode cX2_evaluatePair 12 = .ok (.lload_n 1, 1) := by decide +kernel
theorem dX2_evaluatePair_13 : decode cX2_evaluatePair 13 = .ok (.ldc2_w 124, 3) := by decide +kernel
theorem dX2_evaluatePair_16 : decode cX2_evaluatePair 16 = .ok (.lcmp, 1) := by decide +kernel
theorem dX2_evaluatePair_17 : decode cX2_evaluatePair 17 = .ok (.ifCond .ne 10, 3) := by decide +kernel
theorem dX2_evaluatePair_20 : decode cX2_evaluatePair 20 = .ok (.aload_n 0, 1) := by decide +kernel
theorem dX2_evaluatePair_21 : decode cX2_evaluatePair 21 = .ok (.invokevirtual 126, 3) := by decide +kernel
theorem dX2_evaluatePair_24 : decode cX2_evaluatePair 24 = .ok (.goto 64, 3) := by decide +kernel
theorem dX2_evaluatePair_27 : decode cX2_evaluatePair 27 = .ok (.lload_n 1, 1) := by decide +kernel
theorem dX2_evaluatePair_28 : decode cX2_evaluatePair 28 = .ok (.ldc2_w 129, 3) := by decide +kernel
theorem dX2_evaluatePair_31 : decode cX2_evaluatePair 31 = .ok (.lcmp, 1) := by decide +kernel
theorem dX2_evaluatePair_32 : decode cX2_evaluatePair 32 = .ok (.ifCond .ne 25, 3) := by decide +kernel
theorem dX2_evaluatePair_35 : decode cX2_evaluatePair 35 = .ok (.aload_n 0, 1) := by decide +kernel
theorem dX2_evaluatePair_36 : decode cX2_evaluatePair 36 = .ok (.aload_n 0, 1) := by decide +kernel
theorem dX2_evaluatePair_37 : decode cX2_evaluatePair 37 = .ok (.getfield 46, 3) := by decide +kernel
theorem dX2_evaluatePair_40 : decode cX2_evaluatePair 40 = .ok (.aload_n 0, 1) := by decide +kernel
theorem dX2_evaluatePair_41 : decode cX2_evaluatePair 41 = .ok (.getfield 30, 3) := by decide +kernel
theorem dX2_evaluatePair_44 : decode cX2_evaluatePair 44 = .ok (.invokevirtual 108, 3) := by decide +kernel
theorem dX2_evaluatePair_47 : decode cX2_evaluatePair 47 = .ok (.putfield 34, 3) := by decide +kernel
theorem dX2_evaluatePair_50 : decode cX2_evaluatePair 50 = .ok (.aload_n 0, 1) := by decide +kernel
theorem dX2_evaluatePair_51 : decode cX2_evaluatePair 51 = .ok (.invokevirtual 72, 3) := by decide +kernel
theorem dX2_evaluatePair_54 : decode cX2_evaluatePair 54 = .ok (.goto 34, 3) := by decide +kernel
theorem dX2_evaluatePair_57 : decode cX2_evaluatePair 57 = .ok (.lload_n 1, 1) := by decide +kernel
theorem dX2_evaluatePair_58 : decode cX2_evaluatePair 58 = .ok (.ldc2_w 131, 3) := by decide +kernel
theorem dX2_evaluatePair_61 : decode cX2_evaluatePair 61 = .ok (.lcmp, 1) := by decide +kernel
theorem dX2_evaluatePair_62 : decode cX2_evaluatePair 62 = .ok (.ifCond .ne 10, 3) := by decide +kernel
theorem dX2_evaluatePair_65 : decode cX2_evaluatePair 65 = .ok (.aload_n 0, 1) := by decide +kernel
theorem dX2_evaluatePair_66 : decode cX2_evaluatePair 66 = .ok (.invokevirtual 133, 3) := by decide +kernel
theorem dX2_evaluatePair_69 : decode cX2_evaluatePair 69 = .ok (.goto 19, 3) := by decide +kernel
theorem dX2_evaluatePair_72 : decode cX2_evaluatePair 72 = .ok (.aload_n 0, 1) := by decide +kernel
theorem dX2_evaluatePair_73 : decode cX2_evaluatePair 73 = .ok (.lload_n 1, 1) := by decide +kernel
theorem dX2_evaluatePair_74 : decode cX2_evaluatePair 74 = .ok (.aload_n 0, 1) := by decide +kernel
theorem dX2_evaluatePair_75 : decode cX2_evaluatePair 75 = .ok (.getfield 46, 3) := by decide +kernel
theorem dX2_evaluatePair_78 : decode cX2_evaluatePair 78 = .ok (.aload_n 0, 1) := by decide +kernel
theorem dX2_evaluatePair_79 : decode cX2_evaluatePair 79 = .ok (.getfield 30, 3) := by decide +kernel
theorem dX2_evaluatePair_82 : decode cX2_evaluatePair 82 = .ok (.invokevirtual 108, 3) := by decide +kernel
theorem dX2_evaluatePair_85 : decode cX2_evaluatePair 85 = .ok (.invokevirtual 136, 3) := by decide +kernel
theorem dX2_evaluatePair_88 : decode cX2_evaluatePair 88 = .ok (.return_, 1) := by decide +kernel
theorem dX2_evaluateQuote_0 : decode cX2_evaluateQuote 0 = .ok (.aload_n 0, 1) := by decide +kernel
theorem dX2_evaluateQuote_1 : decode cX2_evaluateQuote 1 = .ok (.getfield 46, 3) := by decide +kernel
theorem dX2_evaluateQuote_4 : decode cX2_evaluateQuote 4 = .ok (.aload_n 0, 1) := by decide +kernel
theorem dX2_evaluateQuote_5 : decode cX2_evaluateQuote 5 = .ok (.getfield 30, 3) := by decide +kernel
theorem dX2_evaluateQuote_8 : decode cX2_evaluateQuote 8 = .ok (.iconst 2, 1) := by decide +kernel
theorem dX2_evaluateQuote_9 : decode cX2_evaluateQuote 9 = .ok (.invokevirtual 139, 3) := by decide +kernel
theorem dX2_evaluateQuote_12 : decode cX2_evaluateQuote 12 = .ok (.ifCond .eq 28, 3) := by decide +kernel
theorem dX2_evaluateQuote_15 : decode cX2_evaluateQuote 15 = .ok (.aload_n 0, 1) := by decide +kernel
theorem dX2_evaluateQuote_16 : decode cX2_evaluateQuote 16 = .ok (.aload_n 0, 1) := by decide +kernel
theorem dX2_evaluateQuote_17 : decode cX2_evaluateQuote 17 = .ok (.getfield 46, 3) := by decide +kernel
theorem dX2_evaluateQuote_20 : decode cX2_evaluateQuote 20 = .ok (.aload_n 0, 1) := by decide +kernel
theorem dX2_evaluateQuote_21 : decode cX2_evaluateQuote 21 = .ok (.getfield 46, 3) := by decide +kernel
theorem dX2_evaluateQuote_24 : decode cX2_evaluateQuote 24 = .ok (.aload_n 0, 1) := by decide +kernel
theorem dX2_evaluateQuote_25 : decode cX2_evaluateQuote 25 = .ok (.getfield 30, 3) := by decide +kernel
theorem dX2_evaluateQuote_28 : decode cX2_evaluateQuote 28 = .ok (.invokevirtual 108, 3) := by decide +kernel
theorem dX2_evaluateQuote_31 : decode cX2_evaluateQuote 31 = .ok (.invokevirtual 104, 3) := by decide +kernel
theorem dX2_evaluateQuote_34 : decode cX2_evaluateQuote 34 = .ok (.invokevirtual 95, 3) := by decide +kernel
theorem dX2_evaluateQuote_37 : decode cX2_evaluateQuote 37 = .ok (.goto 8, 3) := by decide +kernel
theorem dX2_evaluateQuote_40 : decode cX2_evaluateQuote 40 = .ok (.aload_n 0, 1) := by decide +kernel
theorem dX2_evaluateQuote_41 : decode cX2_evaluateQuote 41 = .ok (.iconst 3, 1) := by decide +kernel
theorem dX2_evaluateQuote_42 : decode cX2_evaluateQuote 42 = .ok (.putfield 25, 3) := by decide +kernel
theorem dX2_evaluateQuote_45 : decode cX2_evaluateQuote 45 = .ok (.return_, 1) := by decide +kernel
theorem dX2_evaluateDefine_0 : decode cX2_evaluateDefine 0 = .ok (.aload_n 0, 1) := by decide +kernel
theorem dX2_evaluateDefine_1 : decode cX2_evaluateDefine 1 = .ok (.getfield 46, 3) := by decide +kernel
theorem dX2_evaluateDefine_4 : decode cX2_evaluateDefine 4 = .ok (.aload_n 0, 1) := by decide +kernel
theorem dX2_evaluateDefine_5 : decode cX2_evaluateDefine 5 = .ok (.getfield 46, 3) := by decide +kernel
theorem dX2_evaluateDefine_8 : decode cX2_evaluateDefine 8 = .ok (.aload_n 0, 1) := by decide +kernel
theorem dX2_evaluateDefine_9 : decode cX2_evaluateDefine 9 = .ok (.getfield 30, 3) := by decide +kernel
theorem dX2_evaluateDefine_12 : decode cX2_evaluateDefine 12 = .ok (.invokevirtual 108, 3) := by decide +kernel
theorem dX2_evaluateDefine_15 : decode cX2_evaluateDefine 15 = .ok (.invokevirtual 104, 3) := by decide +kernel
theorem dX2_evaluateDefine_18 : decode cX2_evaluateDefine 18 = .ok (.lstore_n 1, 1) := by decide +kernel
theorem dX2_evaluateDefine_19 : decode cX2_evaluateDefine 19 = .ok (.aload_n 0, 1) := by decide +kernel
theorem dX2_evaluateDefine_20 : decode cX2_evaluateDefine 20 = .ok (.getfield 46, 3) := by decide +kernel
theorem dX2_evaluateDefine_23 : decode cX2_evaluateDefine 23 = .ok (.aload_n 0, 1) := by decide +kernel
theorem dX2_evaluateDefine_24 : decode cX2_evaluateDefine 24 = .ok (.getfield 30, 3) := by decide +kernel
theorem dX2_evaluateDefine_27 : decode cX2_evaluateDefine 27 = .ok (.iconst 3, 1) := by decide +kernel
theorem dX2_evaluateDefine_28 : decode cX2_evaluateDefine 28 = .ok (.invokevirtual 139, 3) := by decide +kernel
theorem dX2_evaluateDefine_31 : decode cX2_evaluateDefine 31 = .ok (.ifCond .eq 17, 3) := by decide +kernel
theorem dX2_evaluateDefine_34 : decode cX2_evaluateDefine 34 = .ok (.lload_n 1, 1) := by decide +kernel
theorem dX2_evaluateDefine_35 : decode cX2_evaluateDefine 35 = .ok (.invokestatic 143, 3) := by decide +kernel
theorem dX2_evaluateDefine_38 : decode cX2_evaluateDefine 38 = .ok (.ifCond .eq 10, 3) := by decide +kernel
theorem dX2_evaluateDefine_41 : decode cX2_evaluateDefine 41 = .ok (.lload_n 1, 1) := by decide +kernel
theorem dX2_evaluateDefine_42 : decode cX2_evaluateDefine 42 = .ok (.invokestatic 116, 3) := by decide +kernel
theorem dX2_evaluateDefine_45 : decode cX2_evaluateDefine 45 = .ok (.ifCond .eq 9, 3) := by decide +kernel
theorem dX2_evaluateDefine_48 : decode cX2_evaluateDefine 48 = .ok (.aload_n 0, 1) := by decide +kernel
theorem dX2_evaluateDefine_49 : decode cX2_evaluateDefine 49 = .ok (.iconst 3, 1) := by decide +kernel
theorem dX2_evaluateDefine_50 : decode cX2_evaluateDefine 50 = .ok (.putfield 25, 3) := by decide +kernel
theorem dX2_evaluateDefine_53 : decode cX2_evaluateDefine 53 = .ok (.return_, 1) := by decide +kernel
theorem dX2_evaluateDefine_54 : decode cX2_evaluateDefine 54 = .ok (.aload_n 0, 1) := by decide +kernel
theorem dX2_evaluateDefine_55 : decode cX2_evaluateDefine 55 = .ok (.getfield 50, 3) := by decide +kernel
theorem dX2_evaluateDefine_58 : decode cX2_evaluateDefine 58 = .ok (.lload_n 1, 1) := by decide +kernel
theorem dX2_evaluateDefine_59 : decode cX2_evaluateDefine 59 = .ok (.aload_n 0, 1) := by decide +kernel
theorem dX2_evaluateDefine_60 : decode cX2_evaluateDefine 60 = .ok (.getfield 46, 3) := by decide +kernel
theorem dX2_evaluateDefine_63 : decode cX2_evaluateDefine 63 = .ok (.aload_n 0, 1) := by decide +kernel
theorem dX2_evaluateDefine_64 : decode cX2_evaluateDefine 64 = .ok (.getfield 46, 3) := by decide +kernel
theorem dX2_evaluateDefine_67 : decode cX2_evaluateDefine 67 = .ok (.aload_n 0, 1) := by decide +kernel
theorem dX2_evaluateDefine_68 : decode cX2_evaluateDefine 68 = .ok (.getfield 46, 3) := by decide +kernel
theorem dX2_evaluateDefine_71 : decode cX2_evaluateDefine 71 = .ok (.aload_n 0, 1) := by decide +kernel
theorem dX2_evaluateDefine_72 : decode cX2_evaluateDefine 72 = .ok (.getfield 30, 3) := by decide +kernel
theorem dX2_evaluateDefine_75 : decode cX2_evaluateDefine 75 = .ok (.invokevirtual 108, 3) := by decide +kernel
theorem dX2_evaluateDefine_78 : decode cX2_evaluateDefine 78 = .ok (.invokevirtual 108, 3) := by decide +kernel
theorem dX2_evaluateDefine_81 : decode cX2_evaluateDefine 81 = .ok (.invokevirtual 104, 3) := by decide +kernel
theorem dX2_evaluateDefine_84 : decode cX2_evaluateDefine 84 = .ok (.invokevirtual 146, 3) := by decide +kernel
theorem dX2_evaluateDefine_87 : decode cX2_evaluateDefine 87 = .ok (.aload_n 0, 1) := by decide +kernel
theorem dX2_evaluateDefine_88 : decode cX2_evaluateDefine 88 = .ok (.lload_n 1, 1) := by decide +kernel
theorem dX2_evaluateDefine_89 : decode cX2_evaluateDefine 89 = .ok (.invokevirtual 95, 3) := by decide +kernel
theorem dX2_evaluateDefine_92 : decode cX2_evaluateDefine 92 = .ok (.return_, 1) := by decide +kernel
theorem dX2_choose_0 : decode cX2_choose 0 = .ok (.aload_n 0, 1) := by decide +kernel
theorem dX2_choose_1 : decode cX2_choose 1 = .ok (.getfield 46, 3) := by decide +kernel
theorem dX2_choose_4 : decode cX2_choose 4 = .ok (.aload_n 0, 1) := by decide +kernel
theorem dX2_choose_5 : decode cX2_choose 5 = .ok (.getfield 34, 3) := by decide +kernel
theorem dX2_choose_8 : decode cX2_choose 8 = .ok (.invokevirtual 104, 3) := by decide +kernel
theorem dX2_choose_11 : decode cX2_choose 11 = .ok (.lstore_n 1, 1) := by decide +kernel
theorem dX2_choose_12 : decode cX2_choose 12 = .ok (.aload_n 0, 1) := by decide +kernel
theorem dX2_choose_13 : decode cX2_choose 13 = .ok (.getfield 34, 3) := by decide +kernel
theorem dX2_choose_16 : decode cX2_choose 16 = .ok (.ldc2_w 28, 3) := by decide +kernel
theorem dX2_choose_19 : decode cX2_choose 19 = .ok (.lcmp, 1) := by decide +kernel
theorem dX2_choose_20 : decode cX2_choose 20 = .ok (.ifCond .ne 11, 3) := by decide +kernel
theorem dX2_choose_23 : decode cX2_choose 23 = .ok (.aload_n 0, 1) := by decide +kernel
theorem dX2_choose_24 : decode cX2_choose 24 = .ok (.iconst 5, 1) := by decide +kernel
theorem dX2_choose_25 : decode cX2_choose 25 = .ok (.putfield 25, 3) := by decide +kernel
theorem dX2_choose_28 : decode cX2_choose 28 = .ok (.goto 80, 3) := by decide +kernel
theorem dX2_choose_31 : decode cX2_choose 31 = .ok (.aload_n 0, 1) := by decide +kernel
theorem dX2_choose_32 : decode cX2_choose 32 = .ok (.getfield 34, 3) := by decide +kernel
theorem dX2_choose_35 : decode cX2_choose 35 = .ok (.invokestatic 75, 3) := by decide +kernel
theorem dX2_choose_38 : decode cX2_choose 38 = .ok (.ifCond .eq 15, 3) := by decide +kernel
theorem dX2_choose_41 : decode cX2_choose 41 = .ok (.aload_n 0, 1) := by decide +kernel
theorem dX2_choose_42 : decode cX2_choose 42 = .ok (.getfield 46, 3) := by decide +kernel
theorem dX2_choose_45 : decode cX2_choose 45 = .ok (.lload_n 1, 1) := by decide +kernel
theorem dX2_choose_46 : decode cX2_choose 46 = .ok (.iconst 2, 1) := by decide +kernel
theorem dX2_choose_47 : decode cX2_choose 47 = .ok (.invokevirtual 139, 3) := by decide +kernel
theorem dX2_choose_50 : decode cX2_choose 50 = .ok (.ifCond .ne 11, 3) := by decide +kernel
theorem dX2_choose_53 : decode cX2_choose 53 = .ok (.aload_n 0, 1) := by decide +kernel
theorem dX2_choose_54 : decode cX2_choose 54 = .ok (.iconst 3, 1) := by decide +kernel
theorem dX2_choose_55 : decode cX2_choose 55 = .ok (.putfield 25, 3) := by decide +kernel
theorem dX2_choose_58 : decode cX2_choose 58 = .ok (.goto 50, 3) := by decide +kernel
theorem dX2_choose_61 : decode cX2_choose 61 = .ok (.aload_n 0, 1) := by decide +kernel
theorem dX2_choose_62 : decode cX2_choose 62 = .ok (.getfield 54, 3) := by decide +kernel
theorem dX2_choose_65 : decode cX2_choose 65 = .ok (.iconst 1, 1) := by decide +kernel
theorem dX2_choose_66 : decode cX2_choose 66 = .ok (.ldc2_w 28, 3) := by decide +kernel
theorem dX2_choose_69 : decode cX2_choose 69 = .ok (.aload_n 0, 1) := by decide +kernel
theorem dX2_choose_70 : decode cX2_choose 70 = .ok (.getfield 34, 3) := by decide +kernel
theorem dX2_choose_73 : decode cX2_choose 73 = .ok (.aload_n 0, 1) := by decide +kernel
theorem dX2_choose_74 : decode cX2_choose 74 = .ok (.getfield 40, 3) := by decide +kernel
theorem dX2_choose_77 : decode cX2_choose 77 = .ok (.invokevirtual 151, 3) := by decide +kernel
theorem dX2_choose_80 : decode cX2_choose 80 = .ok (.ifCond .ne 12, 3) := by decide +kernel
theorem dX2_choose_83 : decode cX2_choose 83 = .ok (.aload_n 0, 1) := by decide +kernel
theorem dX2_choose_84 : decode cX2_choose 84 = .ok (.bipush 7, 2) := by decide +kernel
theorem dX2_choose_86 : decode cX2_choose 86 = .ok (.putfield 25, 3) := by decide +kernel
theorem dX2_choose_89 : decode cX2_choose 89 = .ok (.goto 19, 3) := by decide +kernel
theorem dX2_choose_92 : decode cX2_choose 92 = .ok (.aload_n 0, 1) := by decide +kernel
theorem dX2_choose_93 : decode cX2_choose 93 = .ok (.aload_n 0, 1) := by decide +kernel
theorem dX2_choose_94 : decode cX2_choose 94 = .ok (.getfield 46, 3) := by decide +kernel
theorem dX2_choose_97 : decode cX2_choose 97 = .ok (.lload_n 1, 1) := by decide +kernel
theorem dX2_choose_98 : decode cX2_choose 98 = .ok (.invokevirtual 104, 3) := by decide +kernel
theorem dX2_choose_101 : decode cX2_choose 101 = .ok (.aload_n 0, 1) := by decide +kernel
theorem dX2_choose_102 : decode cX2_choose 102 = .ok (.getfield 40, 3) := by decide +kernel
theorem dX2_choose_105 : decode cX2_choose 105 = .ok (.invokevirtual 65, 3) := by decide +kernel
theorem dX2_choose_108 : decode cX2_choose 108 = .ok (.return_, 1) := by decide +kernel
theorem dX2_evaluateCall_0 : decode cX2_evaluateCall 0 = .ok (.lload_n 3, 1) := by decide +kernel
theorem dX2_evaluateCall_1 : decode cX2_evaluateCall 1 = .ok (.ldc2_w 28, 3) := by decide +kernel
theorem dX2_evaluateCall_4 : decode cX2_evaluateCall 4 = .ok (.lcmp, 1) := by decide +kernel
theorem dX2_evaluateCall_5 : decode cX2_evaluateCall 5 = .ok (.ifCond .ne 16, 3) := by decide +kernel
theorem dX2_evaluateCall_8 : decode cX2_evaluateCall 8 = .ok (.aload_n 0, 1) := by decide +kernel
theorem dX2_evaluateCall_9 : decode cX2_evaluateCall 9 = .ok (.iconst 0, 1) := by decide +kernel
theorem dX2_evaluateCall_10 : decode cX2_evaluateCall 10 = .ok (.putfield 15, 3) := by decide +kernel
theorem dX2_evaluateCall_13 : decode cX2_evaluateCall 13 = .ok (.aload_n 0, 1) := by decide +kernel
theorem dX2_evaluateCall_14 : decode cX2_evaluateCall 14 = .ok (.lload_n 1, 1) := by decide +kernel
theorem dX2_evaluateCall_15 : decode cX2_evaluateCall 15 = .ok (.invokevirtual 155, 3) := by decide +kernel
theorem dX2_evaluateCall_18 : decode cX2_evaluateCall 18 = .ok (.goto 67, 3) := by decide +kernel
theorem dX2_evaluateCall_21 : decode cX2_evaluateCall 21 = .ok (.lload_n 3, 1) := by decide +kernel
theorem dX2_evaluateCall_22 : decode cX2_evaluateCall 22 = .ok (.invokestatic 75, 3) := by decide +kernel
theorem dX2_evaluateCall_25 : decode cX2_evaluateCall 25 = .ok (.ifCond .ne 11, 3) := by decide +kernel
theorem dX2_evaluateCall_28 : decode cX2_evaluateCall 28 = .ok (.aload_n 0, 1) := by decide +kernel
theorem dX2_evaluateCall_29 : decode cX2_evaluateCall 29 = .ok (.iconst 3, 1) := by decide +kernel
theorem dX2_evaluateCall_30 : decode cX2_evaluateCall 30 = .ok (.putfield 25, 3) := by decide +kernel
theorem dX2_evaluateCall_33 : decode cX2_evaluateCall 33 = .ok (.goto 52, 3) := by decide +kernel
theorem dX2_evaluateCall_36 : decode cX2_evaluateCall 36 = .ok (.aload_n 0, 1) := by decide +kernel
theorem dX2_evaluateCall_37 : decode cX2_evaluateCall 37 = .ok (.getfield 54, 3) := by decide +kernel
theorem dX2_evaluateCall_40 : decode cX2_evaluateCall 40 = .ok (.iconst 0, 1) := by decide +kernel
theorem dX2_evaluateCall_41 : decode cX2_evaluateCall 41 = .ok (.lload_n 1, 1) := by decide +kernel
theorem dX2_evaluateCall_42 : decode cX2_evaluateCall 42 = .ok (.aload_n 0, 1) := by decide +kernel
theorem dX2_evaluateCall_43 : decode cX2_evaluateCall 43 = .ok (.getfield 46, 3) := by decide +kernel
theorem dX2_evaluateCall_46 : decode cX2_evaluateCall 46 = .ok (.lload_n 3, 1) := by decide +kernel
theorem dX2_evaluateCall_47 : decode cX2_evaluateCall 47 = .ok (.invokevirtual 108, 3) := by decide +kernel
theorem dX2_evaluateCall_50 : decode cX2_evaluateCall 50 = .ok (.aload_n 0, 1) := by decide +kernel
theorem dX2_evaluateCall_51 : decode cX2_evaluateCall 51 = .ok (.getfield 40, 3) := by decide +kernel
theorem dX2_evaluateCall_54 : decode cX2_evaluateCall 54 = .ok (.invokevirtual 151, 3) := by decide +kernel
theorem dX2_evaluateCall_57 : decode cX2_evaluateCall 57 = .ok (.ifCond .ne 12, 3) := by decide +kernel
theorem dX2_evaluateCall_60 : decode cX2_evaluateCall 60 = .ok (.aload_n 0, 1) := by decide +kernel
theorem dX2_evaluateCall_61 : decode cX2_evaluateCall 61 = .ok (.bipush 7, 2) := by decide +kernel
theorem dX2_evaluateCall_63 : decode cX2_evaluateCall 63 = .ok (.putfield 25, 3) := by decide +kernel
theorem dX2_evaluateCall_66 : decode cX2_evaluateCall 66 = .ok (.goto 19, 3) := by decide +kernel
theorem dX2_evaluateCall_69 : decode cX2_evaluateCall 69 = .ok (.aload_n 0, 1) := by decide +kernel
theorem dX2_evaluateCall_70 : decode cX2_evaluateCall 70 = .ok (.aload_n 0, 1) := by decide +kernel
theorem dX2_evaluateCall_71 : decode cX2_evaluateCall 71 = .ok (.getfield 46, 3) := by decide +kernel
theorem dX2_evaluateCall_74 : decode cX2_evaluateCall 74 = .ok (.lload_n 3, 1) := by decide +kernel
theorem dX2_evaluateCall_75 : decode cX2_evaluateCall 75 = .ok (.invokevirtual 104, 3) := by decide +kernel
theorem dX2_evaluateCall_78 : decode cX2_evaluateCall 78 = .ok (.aload_n 0, 1) := by decide +kernel
theorem dX2_evaluateCall_79 : decode cX2_evaluateCall 79 = .ok (.getfield 40, 3) := by decide +kernel
theorem dX2_evaluateCall_82 : decode cX2_evaluateCall 82 = .ok (.invokevirtual 65, 3) := by decide +kernel
theorem dX2_evaluateCall_85 : decode cX2_evaluateCall 85 = .ok (.return_, 1) := by decide +kernel
theorem dX2_handBack_0 : decode cX2_handBack 0 = .ok (.aload_n 0, 1) := by decide +kernel
theorem dX2_handBack_1 : decode cX2_handBack 1 = .ok (.getfield 54, 3) := by decide +kernel
theorem dX2_handBack_4 : decode cX2_handBack 4 = .ok (.getfield 158, 3) := by decide +kernel
theorem dX2_handBack_7 : decode cX2_handBack 7 = .ok (.ifCond .ne 9, 3) := by decide +kernel
theorem dX2_handBack_10 : decode cX2_handBack 10 = .ok (.aload_n 0, 1) := by decide +kernel
theorem dX2_handBack_11 : decode cX2_handBack 11 = .ok (.iconst 4, 1) := by decide +kernel
theorem dX2_handBack_12 : decode cX2_handBack 12 = .ok (.putfield 22, 3) := by decide +kernel
theorem dX2_handBack_15 : decode cX2_handBack 15 = .ok (.return_, 1) := by decide +kernel
theorem dX2_handBack_16 : decode cX2_handBack 16 = .ok (.aload_n 0, 1) := by decide +kernel
theorem dX2_handBack_17 : decode cX2_handBack 17 = .ok (.aload_n 0, 1) := by decide +kernel
theorem dX2_handBack_18 : decode cX2_handBack 18 = .ok (.getfield 54, 3) := by decide +kernel
theorem dX2_handBack_21 : decode cX2_handBack 21 = .ok (.iconst 2, 1) := by decide +kernel
theorem dX2_handBack_22 : decode cX2_handBack 22 = .ok (.invokevirtual 161, 3) := by decide +kernel
theorem dX2_handBack_25 : decode cX2_handBack 25 = .ok (.putfield 40, 3) := by decide +kernel
theorem dX2_handBack_28 : decode cX2_handBack 28 = .ok (.aload_n 0, 1) := by decide +kernel
theorem dX2_handBack_29 : decode cX2_handBack 29 = .ok (.getfield 54, 3) := by decide +kernel
theorem dX2_handBack_32 : decode cX2_handBack 32 = .ok (.invokevirtual 165, 3) := by decide +kernel
theorem dX2_handBack_35 : decode cX2_handBack 35 = .ok (.lookupswitch 39 #[(0, 25), (1, 32)], 25) := by decide +kernel
theorem dX2_handBack_60 : decode cX2_handBack 60 = .ok (.aload_n 0, 1) := by decide +kernel
theorem dX2_handBack_61 : decode cX2_handBack 61 = .ok (.invokevirtual 169, 3) := by decide +kernel
theorem dX2_handBack_64 : decode cX2_handBack 64 = .ok (.goto 40, 3) := by decide +kernel
theorem dX2_handBack_67 : decode cX2_handBack 67 = .ok (.aload_n 0, 1) := by decide +kernel
theorem dX2_handBack_68 : decode cX2_handBack 68 = .ok (.invokevirtual 172, 3) := by decide +kernel
theorem dX2_handBack_71 : decode cX2_handBack 71 = .ok (.goto 33, 3) := by decide +kernel
theorem dX2_handBack_74 : decode cX2_handBack 74 = .ok (.aload_n 0, 1) := by decide +kernel
theorem dX2_handBack_75 : decode cX2_handBack 75 = .ok (.aload_n 0, 1) := by decide +kernel
theorem dX2_handBack_76 : decode cX2_handBack 76 = .ok (.getfield 54, 3) := by decide +kernel
theorem dX2_handBack_79 : decode cX2_handBack 79 = .ok (.aload_n 0, 1) := by decide +kernel
theorem dX2_handBack_80 : decode cX2_handBack 80 = .ok (.getfield 9, 3) := by decide +kernel
theorem dX2_handBack_83 : decode cX2_handBack 83 = .ok (.invokevirtual 175, 3) := by decide +kernel
theorem dX2_handBack_86 : decode cX2_handBack 86 = .ok (.putfield 15, 3) := by decide +kernel
theorem dX2_handBack_89 : decode cX2_handBack 89 = .ok (.aload_n 0, 1) := by decide +kernel
theorem dX2_handBack_90 : decode cX2_handBack 90 = .ok (.getfield 54, 3) := by decide +kernel
theorem dX2_handBack_93 : decode cX2_handBack 93 = .ok (.invokevirtual 179, 3) := by decide +kernel
theorem dX2_handBack_96 : decode cX2_handBack 96 = .ok (.aload_n 0, 1) := by decide +kernel
theorem dX2_handBack_97 : decode cX2_handBack 97 = .ok (.aload_n 0, 1) := by decide +kernel
theorem dX2_handBack_98 : decode cX2_handBack 98 = .ok (.getfield 43, 3) := by decide +kernel
theorem dX2_handBack_101 : decode cX2_handBack 101 = .ok (.invokevirtual 155, 3) := by decide +kernel
theorem dX2_handBack_104 : decode cX2_handBack 104 = .ok (.return_, 1) := by decide +kernel
theorem dX2_goOnWithCall_0 : decode cX2_goOnWithCall 0 = .ok (.aload_n 0, 1) := by decide +kernel
theorem dX2_goOnWithCall_1 : decode cX2_goOnWithCall 1 = .ok (.getfield 54, 3) := by decide +kernel
theorem dX2_goOnWithCall_4 : decode cX2_goOnWithCall 4 = .ok (.aload_n 0, 1) := by decide +kernel
theorem dX2_goOnWithCall_5 : decode cX2_goOnWithCall 5 = .ok (.getfield 43, 3) := by decide +kernel
theorem dX2_goOnWithCall_8 : decode cX2_goOnWithCall 8 = .ok (.invokevirtual 182, 3) := by decide +kernel
theorem dX2_goOnWithCall_11 : decode cX2_goOnWithCall 11 = .ok (.aload_n 0, 1) := by decide +kernel
theorem dX2_goOnWithCall_12 : decode cX2_goOnWithCall 12 = .ok (.getfield 54, 3) := by decide +kernel
theorem dX2_goOnWithCall_15 : decode cX2_goOnWithCall 15 = .ok (.iconst 1, 1) := by decide +kernel
theorem dX2_goOnWithCall_16 : decode cX2_goOnWithCall 16 = .ok (.invokevirtual 161, 3) := by decide +kernel
theorem dX2_goOnWithCall_19 : decode cX2_goOnWithCall 19 = .ok (.lstore_n 1, 1) := by decide +kernel
theorem dX2_goOnWithCall_20 : decode cX2_goOnWithCall 20 = .ok (.lload_n 1, 1) := by decide +kernel
theorem dX2_goOnWithCall_21 : decode cX2_goOnWithCall 21 = .ok (.ldc2_w 28, 3) := by decide +kernel
theorem dX2_goOnWithCall_24 : decode cX2_goOnWithCall 24 = .ok (.lcmp, 1) := by decide +kernel
theorem dX2_goOnWithCall_25 : decode cX2_goOnWithCall 25 = .ok (.ifCond .ne 40, 3) := by decide +kernel
theorem dX2_goOnWithCall_28 : decode cX2_goOnWithCall 28 = .ok (.aload_n 0, 1) := by decide +kernel
theorem dX2_goOnWithCall_29 : decode cX2_goOnWithCall 29 = .ok (.aload_n 0, 1) := by decide +kernel
theorem dX2_goOnWithCall_30 : decode cX2_goOnWithCall 30 = .ok (.getfield 54, 3) := by decide +kernel
theorem dX2_goOnWithCall_33 : decode cX2_goOnWithCall 33 = .ok (.aload_n 0, 1) := by decide +kernel
theorem dX2_goOnWithCall_34 : decode cX2_goOnWithCall 34 = .ok (.getfield 9, 3) := by decide +kernel
theorem dX2_goOnWithCall_37 : decode cX2_goOnWithCall 37 = .ok (.invokevirtual 175, 3) := by decide +kernel
theorem dX2_goOnWithCall_40 : decode cX2_goOnWithCall 40 = .ok (.putfield 15, 3) := by decide +kernel
theorem dX2_goOnWithCall_43 : decode cX2_goOnWithCall 43 = .ok (.aload_n 0, 1) := by decide +kernel
theorem dX2_goOnWithCall_44 : decode cX2_goOnWithCall 44 = .ok (.aload_n 0, 1) := by decide +kernel
theorem dX2_goOnWithCall_45 : decode cX2_goOnWithCall 45 = .ok (.getfield 54, 3) := by decide +kernel
theorem dX2_goOnWithCall_48 : decode cX2_goOnWithCall 48 = .ok (.iconst 0, 1) := by decide +kernel
theorem dX2_goOnWithCall_49 : decode cX2_goOnWithCall 49 = .ok (.invokevirtual 161, 3) := by decide +kernel
theorem dX2_goOnWithCall_52 : decode cX2_goOnWithCall 52 = .ok (.invokevirtual 155, 3) := by decide +kernel
theorem dX2_goOnWithCall_55 : decode cX2_goOnWithCall 55 = .ok (.aload_n 0, 1) := by decide +kernel
theorem dX2_goOnWithCall_56 : decode cX2_goOnWithCall 56 = .ok (.getfield 54, 3) := by decide +kernel
theorem dX2_goOnWithCall_59 : decode cX2_goOnWithCall 59 = .ok (.invokevirtual 179, 3) := by decide +kernel
theorem dX2_goOnWithCall_62 : decode cX2_goOnWithCall 62 = .ok (.goto 61, 3) := by decide +kernel
theorem dX2_goOnWithCall_65 : decode cX2_goOnWithCall 65 = .ok (.lload_n 1, 1) := by decide +kernel
theorem dX2_goOnWithCall_66 : decode cX2_goOnWithCall 66 = .ok (.invokestatic 75, 3) := by decide +kernel
theorem dX2_goOnWithCall_69 : decode cX2_goOnWithCall 69 = .ok (.ifCond .eq 15, 3) := by decide +kernel
theorem dX2_goOnWithCall_72 : decode cX2_goOnWithCall 72 = .ok (.aload_n 0, 1) := by decide +kernel
theorem dX2_goOnWithCall_73 : decode cX2_goOnWithCall 73 = .ok (.getfield 54, 3) := by decide +kernel
theorem dX2_goOnWithCall_76 : decode cX2_goOnWithCall 76 = .ok (.invokevirtual 185, 3) := by decide +kernel
theorem dX2_goOnWithCall_79 : decode cX2_goOnWithCall 79 = .ok (.bipush 8, 2) := by decide +kernel
theorem dX2_goOnWithCall_81 : decode cX2_goOnWithCall 81 = .ok (.if_icmp .lt 11, 3) := by decide +kernel
theorem dX2_goOnWithCall_84 : decode cX2_goOnWithCall 84 = .ok (.aload_n 0, 1) := by decide +kernel
theorem dX2_goOnWithCall_85 : decode cX2_goOnWithCall 85 = .ok (.iconst 3, 1) := by decide +kernel
theorem dX2_goOnWithCall_86 : decode cX2_goOnWithCall 86 = .ok (.putfield 25, 3) := by decide +kernel
theorem dX2_goOnWithCall_89 : decode cX2_goOnWithCall 89 = .ok (.goto 34, 3) := by decide +kernel
theorem dX2_goOnWithCall_92 : decode cX2_goOnWithCall 92 = .ok (.aload_n 0, 1) := by decide +kernel
theorem dX2_goOnWithCall_93 : decode cX2_goOnWithCall 93 = .ok (.getfield 54, 3) := by decide +kernel
theorem dX2_goOnWithCall_96 : decode cX2_goOnWithCall 96 = .ok (.aload_n 0, 1) := by decide +kernel
theorem dX2_goOnWithCall_97 : decode cX2_goOnWithCall 97 = .ok (.getfield 46, 3) := by decide +kernel
theorem dX2_goOnWithCall_100 : decode cX2_goOnWithCall 100 = .ok (.lload_n 1, 1) := by decide +kernel
theorem dX2_goOnWithCall_101 : decode cX2_goOnWithCall 101 = .ok (.invokevirtual 108, 3) := by decide +kernel
theorem dX2_goOnWithCall_104 : decode cX2_goOnWithCall 104 = .ok (.invokevirtual 188, 3) := by decide +kernel
theorem dX2_goOnWithCall_107 : decode cX2_goOnWithCall 107 = .ok (.aload_n 0, 1) := by decide +kernel
theorem dX2_goOnWithCall_108 : decode cX2_goOnWithCall 108 = .ok (.aload_n 0, 1) := by decide +kernel
theorem dX2_goOnWithCall_109 : decode cX2_goOnWithCall 109 = .ok (.getfield 46, 3) := by decide +kernel
theorem dX2_goOnWithCall_112 : decode cX2_goOnWithCall 112 = .ok (.lload_n 1, 1) := by decide +kernel
theorem dX2_goOnWithCall_113 : decode cX2_goOnWithCall 113 = .ok (.invokevirtual 104, 3) := by decide +kernel
theorem dX2_goOnWithCall_116 : decode cX2_goOnWithCall 116 = .ok (.aload_n 0, 1) := by decide +kernel
theorem dX2_goOnWithCall_117 : decode cX2_goOnWithCall 117 = .ok (.getfield 40, 3) := by decide +kernel
theorem dX2_goOnWithCall_120 : decode cX2_goOnWithCall 120 = .ok (.invokevirtual 65, 3) := by decide +kernel
theorem dX2_goOnWithCall_123 : decode cX2_goOnWithCall 123 = .ok (.return_, 1) := by decide +kernel
theorem dX2_goOnWithChoice_0 : decode cX2_goOnWithChoice 0 = .ok (.aload_n 0, 1) := by decide +kernel
theorem dX2_goOnWithChoice_1 : decode cX2_goOnWithChoice 1 = .ok (.getfield 54, 3) := by decide +kernel
theorem dX2_goOnWithChoice_4 : decode cX2_goOnWithChoice 4 = .ok (.iconst 1, 1) := by decide +kernel
theorem dX2_goOnWithChoice_5 : decode cX2_goOnWithChoice 5 = .ok (.invokevirtual 161, 3) := by decide +kernel
theorem dX2_goOnWithChoice_8 : decode cX2_goOnWithChoice 8 = .ok (.lstore_n 1, 1) := by decide +kernel
theorem dX2_goOnWithChoice_9 : decode cX2_goOnWithChoice 9 = .ok (.aload_n 0, 1) := by decide +kernel
theorem dX2_goOnWithChoice_10 : decode cX2_goOnWithChoice 10 = .ok (.getfield 54, 3) := by decide +kernel
theorem dX2_goOnWithChoice_13 : decode cX2_goOnWithChoice 13 = .ok (.invokevirtual 179, 3) := by decide +kernel
theorem dX2_goOnWithChoice_16 : decode cX2_goOnWithChoice 16 = .ok (.aload_n 0, 1) := by decide +kernel
theorem dX2_goOnWithChoice_17 : decode cX2_goOnWithChoice 17 = .ok (.getfield 43, 3) := by decide +kernel
theorem dX2_goOnWithChoice_20 : decode cX2_goOnWithChoice 20 = .ok (.ldc2_w 28, 3) := by decide +kernel
theorem dX2_goOnWithChoice_23 : decode cX2_goOnWithChoice 23 = .ok (.lcmp, 1) := by decide +kernel
theorem dX2_goOnWithChoice_24 : decode cX2_goOnWithChoice 24 = .ok (.ifCond .ne 23, 3) := by decide +kernel
theorem dX2_goOnWithChoice_27 : decode cX2_goOnWithChoice 27 = .ok (.aload_n 0, 1) := by decide +kernel
theorem dX2_goOnWithChoice_28 : decode cX2_goOnWithChoice 28 = .ok (.aload_n 0, 1) := by decide +kernel
theorem dX2_goOnWithChoice_29 : decode cX2_goOnWithChoice 29 = .ok (.getfield 46, 3) := by decide +kernel
theorem dX2_goOnWithChoice_32 : decode cX2_goOnWithChoice 32 = .ok (.lload_n 1, 1) := by decide +kernel
theorem dX2_goOnWithChoice_33 : decode cX2_goOnWithChoice 33 = .ok (.invokevirtual 108, 3) := by decide +kernel
theorem dX2_goOnWithChoice_36 : decode cX2_goOnWithChoice 36 = .ok (.putfield 34, 3) := by decide +kernel
theorem dX2_goOnWithChoice_39 : decode cX2_goOnWithChoice 39 = .ok (.aload_n 0, 1) := by decide +kernel
theorem dX2_goOnWithChoice_40 : decode cX2_goOnWithChoice 40 = .ok (.iconst 1, 1) := by decide +kernel
theorem dX2_goOnWithChoice_41 : decode cX2_goOnWithChoice 41 = .ok (.putfield 22, 3) := by decide +kernel
theorem dX2_goOnWithChoice_44 : decode cX2_goOnWithChoice 44 = .ok (.goto 33, 3) := by decide +kernel
theorem dX2_goOnWithChoice_47 : decode cX2_goOnWithChoice 47 = .ok (.aload_n 0, 1) := by decide +kernel
theorem dX2_goOnWithChoice_48 : decode cX2_goOnWithChoice 48 = .ok (.aload_n 0, 1) := by decide +kernel
theorem dX2_goOnWithChoice_49 : decode cX2_goOnWithChoice 49 = .ok (.getfield 46, 3) := by decide +kernel
theorem dX2_goOnWithChoice_52 : decode cX2_goOnWithChoice 52 = .ok (.aload_n 0, 1) := by decide +kernel
theorem dX2_goOnWithChoice_53 : decode cX2_goOnWithChoice 53 = .ok (.getfield 46, 3) := by decide +kernel
theorem dX2_goOnWithChoice_56 : decode cX2_goOnWithChoice 56 = .ok (.aload_n 0, 1) := by decide +kernel
theorem dX2_goOnWithChoice_57 : decode cX2_goOnWithChoice 57 = .ok (.getfield 46, 3) := by decide +kernel
theorem dX2_goOnWithChoice_60 : decode cX2_goOnWithChoice 60 = .ok (.lload_n 1, 1) := by decide +kernel
theorem dX2_goOnWithChoice_61 : decode cX2_goOnWithChoice 61 = .ok (.invokevirtual 104, 3) := by decide +kernel
theorem dX2_goOnWithChoice_64 : decode cX2_goOnWithChoice 64 = .ok (.invokevirtual 108, 3) := by decide +kernel
theorem dX2_goOnWithChoice_67 : decode cX2_goOnWithChoice 67 = .ok (.invokevirtual 104, 3) := by decide +kernel
theorem dX2_goOnWithChoice_70 : decode cX2_goOnWithChoice 70 = .ok (.aload_n 0, 1) := by decide +kernel
theorem dX2_goOnWithChoice_71 : decode cX2_goOnWithChoice 71 = .ok (.getfield 40, 3) := by decide +kernel
theorem dX2_goOnWithChoice_74 : decode cX2_goOnWithChoice 74 = .ok (.invokevirtual 65, 3) := by decide +kernel
theorem dX2_goOnWithChoice_77 : decode cX2_goOnWithChoice 77 = .ok (.return_, 1) := by decide +kernel
theorem dX2_applyPair_0 : decode cX2_applyPair 0 = .ok (.aload_n 0, 1) := by decide +kernel
theorem dX2_applyPair_1 : decode cX2_applyPair 1 = .ok (.getfield 46, 3) := by decide +kernel
theorem dX2_applyPair_4 : decode cX2_applyPair 4 = .ok (.aload_n 0, 1) := by decide +kernel
theorem dX2_applyPair_5 : decode cX2_applyPair 5 = .ok (.getfield 37, 3) := by decide +kernel
theorem dX2_applyPair_8 : decode cX2_applyPair 8 = .ok (.invokevirtual 104, 3) := by decide +kernel
theorem dX2_applyPair_11 : decode cX2_applyPair 11 = .ok (.lstore_n 1, 1) := by decide +kernel
theorem dX2_applyPair_12 : decode cX2_applyPair 12 = .ok (.lload_n 1, 1) := by decide +kernel
theorem dX2_applyPair_13 : decode cX2_applyPair 13 = .ok (.ldc2_w 191, 3) := by decide +kernel
theorem dX2_applyPair_16 : decode cX2_applyPair 16 = .ok (.lcmp, 1) := by decide +kernel
theorem dX2_applyPair_17 : decode cX2_applyPair 17 = .ok (.ifCond .ne 10, 3) := by decide +kernel
theorem dX2_applyPair_20 : decode cX2_applyPair 20 = .ok (.aload_n 0, 1) := by decide +kernel
theorem dX2_applyPair_21 : decode cX2_applyPair 21 = .ok (.invokevirtual 193, 3) := by decide +kernel
theorem dX2_applyPair_24 : decode cX2_applyPair 24 = .ok (.goto 75, 3) := by decide +kernel
theorem dX2_applyPair_27 : decode cX2_applyPair 27 = .ok (.lload_n 1, 1) := by decide +kernel
theorem dX2_applyPair_28 : decode cX2_applyPair 28 = .ok (.ldc2_w 196, 3) := by decide +kernel
theorem dX2_applyPair_31 : decode cX2_applyPair 31 = .ok (.lcmp, 1) := by decide +kernel
theorem dX2_applyPair_32 : decode cX2_applyPair 32 = .ok (.ifCond .ne 10, 3) := by decide +kernel
theorem dX2_applyPair_35 : decode cX2_applyPair 35 = .ok (.aload_n 0, 1) := by decide +kernel
theorem dX2_applyPair_36 : decode cX2_applyPair 36 = .ok (.invokevirtual 198, 3) := by decide +kernel
theorem dX2_applyPair_39 : decode cX2_applyPair 39 = .ok (.goto 60, 3) := by decide +kernel
theorem dX2_applyPair_42 : decode cX2_applyPair 42 = .ok (.aload_n 0, 1) := by decide +kernel
theorem dX2_applyPair_43 : decode cX2_applyPair 43 = .ok (.getfield 54, 3) := by decide +kernel
theorem dX2_applyPair_46 : decode cX2_applyPair 46 = .ok (.iconst 2, 1) := by decide +kernel
theorem dX2_applyPair_47 : decode cX2_applyPair 47 = .ok (.ldc2_w 28, 3) := by decide +kernel
theorem dX2_applyPair_50 : decode cX2_applyPair 50 = .ok (.ldc2_w 28, 3) := by decide +kernel
theorem dX2_applyPair_53 : decode cX2_applyPair 53 = .ok (.aload_n 0, 1) := by decide +kernel
theorem dX2_applyPair_54 : decode cX2_applyPair 54 = .ok (.getfield 40, 3) := by decide +kernel
theorem dX2_applyPair_57 : decode cX2_applyPair 57 = .ok (.invokevirtual 151, 3) := by decide +kernel
theorem dX2_applyPair_60 : decode cX2_applyPair 60 = .ok (.ifCond .ne 12, 3) := by decide +kernel
theorem dX2_applyPair_63 : decode cX2_applyPair 63 = .ok (.aload_n 0, 1) := by decide +kernel
theorem dX2_applyPair_64 : decode cX2_applyPair 64 = .ok (.bipush 7, 2) := by decide +kernel
theorem dX2_applyPair_66 : decode cX2_applyPair 66 = .ok (.putfield 25, 3) := by decide +kernel
theorem dX2_applyPair_69 : decode cX2_applyPair 69 = .ok (.goto 30, 3) := by decide +kernel
theorem dX2_applyPair_72 : decode cX2_applyPair 72 = .ok (.aload_n 0, 1) := by decide +kernel
theorem dX2_applyPair_73 : decode cX2_applyPair 73 = .ok (.getfield 54, 3) := by decide +kernel
theorem dX2_applyPair_76 : decode cX2_applyPair 76 = .ok (.aload_n 0, 1) := by decide +kernel
theorem dX2_applyPair_77 : decode cX2_applyPair 77 = .ok (.getfield 9, 3) := by decide +kernel
theorem dX2_applyPair_80 : decode cX2_applyPair 80 = .ok (.aload_n 0, 1) := by decide +kernel
theorem dX2_applyPair_81 : decode cX2_applyPair 81 = .ok (.getfield 15, 3) := by decide +kernel
theorem dX2_applyPair_84 : decode cX2_applyPair 84 = .ok (.invokevirtual 201, 3) := by decide +kernel
theorem dX2_applyPair_87 : decode cX2_applyPair 87 = .ok (.aload_n 0, 1) := by decide +kernel
theorem dX2_applyPair_88 : decode cX2_applyPair 88 = .ok (.aload_n 0, 1) := by decide +kernel
theorem dX2_applyPair_89 : decode cX2_applyPair 89 = .ok (.getfield 37, 3) := by decide +kernel
theorem dX2_applyPair_92 : decode cX2_applyPair 92 = .ok (.aload_n 0, 1) := by decide +kernel
theorem dX2_applyPair_93 : decode cX2_applyPair 93 = .ok (.getfield 40, 3) := by decide +kernel
theorem dX2_applyPair_96 : decode cX2_applyPair 96 = .ok (.invokevirtual 65, 3) := by decide +kernel
theorem dX2_applyPair_99 : decode cX2_applyPair 99 = .ok (.return_, 1) := by decide +kernel
theorem dX2_applyAtom_0 : decode cX2_applyAtom 0 = .ok (.aload_n 0, 1) := by decide +kernel
theorem dX2_applyAtom_1 : decode cX2_applyAtom 1 = .ok (.getfield 37, 3) := by decide +kernel
theorem dX2_applyAtom_4 : decode cX2_applyAtom 4 = .ok (.invokestatic 116, 3) := by decide +kernel
theorem dX2_applyAtom_7 : decode cX2_applyAtom 7 = .ok (.ifCond .eq 9, 3) := by decide +kernel
theorem dX2_applyAtom_10 : decode cX2_applyAtom 10 = .ok (.aload_n 0, 1) := by decide +kernel
theorem dX2_applyAtom_11 : decode cX2_applyAtom 11 = .ok (.iconst 4, 1) := by decide +kernel
theorem dX2_applyAtom_12 : decode cX2_applyAtom 12 = .ok (.putfield 25, 3) := by decide +kernel
theorem dX2_applyAtom_15 : decode cX2_applyAtom 15 = .ok (.return_, 1) := by decide +kernel
theorem dX2_applyAtom_16 : decode cX2_applyAtom 16 = .ok (.aload_n 0, 1) := by decide +kernel
theorem dX2_applyAtom_17 : decode cX2_applyAtom 17 = .ok (.getfield 37, 3) := by decide +kernel
theorem dX2_applyAtom_20 : decode cX2_applyAtom 20 = .ok (.ldc2_w 28, 3) := by decide +kernel
theorem dX2_applyAtom_23 : decode cX2_applyAtom 23 = .ok (.lsub, 1) := by decide +kernel
theorem dX2_applyAtom_24 : decode cX2_applyAtom 24 = .ok (.lstore_n 1, 1) := by decide +kernel
theorem dX2_applyAtom_25 : decode cX2_applyAtom 25 = .ok (.lload_n 1, 1) := by decide +kernel
theorem dX2_applyAtom_26 : decode cX2_applyAtom 26 = .ok (.ldc2_w 205, 3) := by decide +kernel
theorem dX2_applyAtom_29 : decode cX2_applyAtom 29 = .ok (.lcmp, 1) := by decide +kernel
theorem dX2_applyAtom_30 : decode cX2_applyAtom 30 = .ok (.ifCond .lt 18, 3) := by decide +kernel
theorem dX2_applyAtom_33 : decode cX2_applyAtom 33 = .ok (.lload_n 1, 1) := by decide +kernel
theorem dX2_applyAtom_34 : decode cX2_applyAtom 34 = .ok (.ldc2_w 207, 3) := by decide +kernel
theorem dX2_applyAtom_37 : decode cX2_applyAtom 37 = .ok (.lcmp, 1) := by decide +kernel
theorem dX2_applyAtom_38 : decode cX2_applyAtom 38 = .ok (.ifCond .gt 10, 3) := by decide +kernel
theorem dX2_applyAtom_41 : decode cX2_applyAtom 41 = .ok (.aload_n 0, 1) := by decide +kernel
theorem dX2_applyAtom_42 : decode cX2_applyAtom 42 = .ok (.lload_n 1, 1) := by decide +kernel
theorem dX2_applyAtom_43 : decode cX2_applyAtom 43 = .ok (.l2i, 1) := by decide +kernel
theorem dX2_applyAtom_44 : decode cX2_applyAtom 44 = .ok (.invokevirtual 209, 3) := by decide +kernel
theorem dX2_applyAtom_47 : decode cX2_applyAtom 47 = .ok (.return_, 1) := by decide +kernel
theorem dX2_applyAtom_48 : decode cX2_applyAtom 48 = .ok (.aload_n 0, 1) := by decide +kernel
theorem dX2_applyAtom_49 : decode cX2_applyAtom 49 = .ok (.aload_n 0, 1) := by decide +kernel
theorem dX2_applyAtom_50 : decode cX2_applyAtom 50 = .ok (.getfield 37, 3) := by decide +kernel
theorem dX2_applyAtom_53 : decode cX2_applyAtom 53 = .ok (.invokevirtual 119, 3) := by decide +kernel
theorem dX2_applyAtom_56 : decode cX2_applyAtom 56 = .ok (.lstore_n 3, 1) := by decide +kernel
theorem dX2_applyAtom_57 : decode cX2_applyAtom 57 = .ok (.lload_n 3, 1) := by decide +kernel
theorem dX2_applyAtom_58 : decode cX2_applyAtom 58 = .ok (.ldc2_w 122, 3) := by decide +kernel
theorem dX2_applyAtom_61 : decode cX2_applyAtom 61 = .ok (.lcmp, 1) := by decide +kernel
theorem dX2_applyAtom_62 : decode cX2_applyAtom 62 = .ok (.ifCond .ne 11, 3) := by decide +kernel
theorem dX2_applyAtom_65 : decode cX2_applyAtom 65 = .ok (.aload_n 0, 1) := by decide +kernel
theorem dX2_applyAtom_66 : decode cX2_applyAtom 66 = .ok (.iconst 1, 1) := by decide +kernel
theorem dX2_applyAtom_67 : decode cX2_applyAtom 67 = .ok (.putfield 25, 3) := by decide +kernel
theorem dX2_applyAtom_70 : decode cX2_applyAtom 70 = .ok (.goto 8, 3) := by decide +kernel
theorem dX2_applyAtom_73 : decode cX2_applyAtom 73 = .ok (.aload_n 0, 1) := by decide +kernel
theorem dX2_applyAtom_74 : decode cX2_applyAtom 74 = .ok (.lload_n 3, 1) := by decide +kernel
theorem dX2_applyAtom_75 : decode cX2_applyAtom 75 = .ok (.invokevirtual 155, 3) := by decide +kernel
theorem dX2_applyAtom_78 : decode cX2_applyAtom 78 = .ok (.return_, 1) := by decide +kernel
theorem dX2_applyLambda_0 : decode cX2_applyLambda 0 = .ok (.aload_n 0, 1) := by decide +kernel
theorem dX2_applyLambda_1 : decode cX2_applyLambda 1 = .ok (.getfield 46, 3) := by decide +kernel
theorem dX2_applyLambda_4 : decode cX2_applyLambda 4 = .ok (.aload_n 0, 1) := by decide +kernel
theorem dX2_applyLambda_5 : decode cX2_applyLambda 5 = .ok (.getfield 46, 3) := by decide +kernel
theorem dX2_applyLambda_8 : decode cX2_applyLambda 8 = .ok (.aload_n 0, 1) := by decide +kernel
theorem dX2_applyLambda_9 : decode cX2_applyLambda 9 = .ok (.getfield 37, 3) := by decide +kernel
theorem dX2_applyLambda_12 : decode cX2_applyLambda 12 = .ok (.invokevirtual 108, 3) := by decide +kernel
theorem dX2_applyLambda_15 : decode cX2_applyLambda 15 = .ok (.invokevirtual 104, 3) := by decide +kernel
theorem dX2_applyLambda_18 : decode cX2_applyLambda 18 = .ok (.lstore_n 1, 1) := by decide +kernel
theorem dX2_applyLambda_19 : decode cX2_applyLambda 19 = .ok (.aload_n 0, 1) := by decide +kernel
theorem dX2_applyLambda_20 : decode cX2_applyLambda 20 = .ok (.getfield 46, 3) := by decide +kernel
theorem dX2_applyLambda_23 : decode cX2_applyLambda 23 = .ok (.aload_n 0, 1) := by decide +kernel
theorem dX2_applyLambda_24 : decode cX2_applyLambda 24 = .ok (.getfield 37, 3) := by decide +kernel
theorem dX2_applyLambda_27 : decode cX2_applyLambda 27 = .ok (.iconst 3, 1) := by decide +kernel
theorem dX2_applyLambda_28 : decode cX2_applyLambda 28 = .ok (.invokevirtual 139, 3) := by decide +kernel
theorem dX2_applyLambda_31 : decode cX2_applyLambda 31 = .ok (.ifCond .eq 18, 3) := by decide +kernel
theorem dX2_applyLambda_34 : decode cX2_applyLambda 34 = .ok (.aload_n 0, 1) := by decide +kernel
theorem dX2_applyLambda_35 : decode cX2_applyLambda 35 = .ok (.getfield 46, 3) := by decide +kernel
theorem dX2_applyLambda_38 : decode cX2_applyLambda 38 = .ok (.lload_n 1, 1) := by decide +kernel
theorem dX2_applyLambda_39 : decode cX2_applyLambda 39 = .ok (.aload_n 0, 1) := by decide +kernel
theorem dX2_applyLambda_40 : decode cX2_applyLambda 40 = .ok (.getfield 15, 3) := by decide +kernel
theorem dX2_applyLambda_43 : decode cX2_applyLambda 43 = .ok (.invokevirtual 213, 3) := by decide +kernel
theorem dX2_applyLambda_46 : decode cX2_applyLambda 46 = .ok (.ifCond .ne 11, 3) := by decide +kernel
theorem dX2_applyLambda_49 : decode cX2_applyLambda 49 = .ok (.aload_n 0, 1) := by decide +kernel
theorem dX2_applyLambda_50 : decode cX2_applyLambda 50 = .ok (.iconst 3, 1) := by decide +kernel
theorem dX2_applyLambda_51 : decode cX2_applyLambda 51 = .ok (.putfield 25, 3) := by decide +kernel
theorem dX2_applyLambda_54 : decode cX2_applyLambda 54 = .ok (.goto 80, 3) := by decide +kernel
theorem dX2_applyLambda_57 : decode cX2_applyLambda 57 = .ok (.aload_n 0, 1) := by decide +kernel
theorem dX2_applyLambda_58 : decode cX2_applyLambda 58 = .ok (.getfield 58, 3) := by decide +kernel
theorem dX2_applyLambda_61 : decode cX2_applyLambda 61 = .ok (.iconst 2, 1) := by decide +kernel
theorem dX2_applyLambda_62 : decode cX2_applyLambda 62 = .ok (.aload_n 0, 1) := by decide +kernel
theorem dX2_applyLambda_63 : decode cX2_applyLambda 63 = .ok (.getfield 15, 3) := by decide +kernel
theorem dX2_applyLambda_66 : decode cX2_applyLambda 66 = .ok (.imul, 1) := by decide +kernel
theorem dX2_applyLambda_67 : decode cX2_applyLambda 67 = .ok (.aload_n 0, 1) := by decide +kernel
theorem dX2_applyLambda_68 : decode cX2_applyLambda 68 = .ok (.getfield 9, 3) := by decide +kernel
theorem dX2_applyLambda_71 : decode cX2_applyLambda 71 = .ok (.aload_n 0, 1) := by decide +kernel
theorem dX2_applyLambda_72 : decode cX2_applyLambda 72 = .ok (.getfield 15, 3) := by decide +kernel
theorem dX2_applyLambda_75 : decode cX2_applyLambda 75 = .ok (.aload_n 0, 1) := by decide +kernel
theorem dX2_applyLambda_76 : decode cX2_applyLambda 76 = .ok (.getfield 37, 3) := by decide +kernel
theorem dX2_applyLambda_79 : decode cX2_applyLambda 79 = .ok (.aload_n 0, 1) := by decide +kernel
theorem dX2_applyLambda_80 : decode cX2_applyLambda 80 = .ok (.getfield 40, 3) := by decide +kernel
theorem dX2_applyLambda_83 : decode cX2_applyLambda 83 = .ok (.invokevirtual 216, 3) := by decide +kernel
theorem dX2_applyLambda_86 : decode cX2_applyLambda 86 = .ok (.ifCond .ne 12, 3) := by decide +kernel
theorem dX2_applyLambda_89 : decode cX2_applyLambda 89 = .ok (.aload_n 0, 1) := by decide +kernel
theorem dX2_applyLambda_90 : decode cX2_applyLambda 90 = .ok (.bipush 6, 2) := by decide +kernel
theorem dX2_applyLambda_92 : decode cX2_applyLambda 92 = .ok (.putfield 25, 3) := by decide +kernel
theorem dX2_applyLambda_95 : decode cX2_applyLambda 95 = .ok (.goto 39, 3) := by decide +kernel
theorem dX2_applyLambda_98 : decode cX2_applyLambda 98 = .ok (.aload_n 0, 1) := by decide +kernel
theorem dX2_applyLambda_99 : decode cX2_applyLambda 99 = .ok (.getfield 46, 3) := by decide +kernel
theorem dX2_applyLambda_102 : decode cX2_applyLambda 102 = .ok (.aload_n 0, 1) := by decide +kernel
theorem dX2_applyLambda_103 : decode cX2_applyLambda 103 = .ok (.getfield 46, 3) := by decide +kernel
theorem dX2_applyLambda_106 : decode cX2_applyLambda 106 = .ok (.aload_n 0, 1) := by decide +kernel
theorem dX2_applyLambda_107 : decode cX2_applyLambda 107 = .ok (.getfield 46, 3) := by decide +kernel
theorem dX2_applyLambda_110 : decode cX2_applyLambda 110 = .ok (.aload_n 0, 1) := by decide +kernel
theorem dX2_applyLambda_111 : decode cX2_applyLambda 111 = .ok (.getfield 37, 3) := by decide +kernel
theorem dX2_applyLambda_114 : decode cX2_applyLambda 114 = .ok (.invokevirtual 108, 3) := by decide +kernel
theorem dX2_applyLambda_117 : decode cX2_applyLambda 117 = .ok (.invokevirtual 108, 3) := by decide +kernel
theorem dX2_applyLambda_120 : decode cX2_applyLambda 120 = .ok (.invokevirtual 104, 3) := by decide +kernel
theorem dX2_applyLambda_123 : decode cX2_applyLambda 123 = .ok (.lstore_n 3, 1) := by decide +kernel
theorem dX2_applyLambda_124 : decode cX2_applyLambda 124 = .ok (.aload_n 0, 1) := by decide +kernel
theorem dX2_applyLambda_125 : decode cX2_applyLambda 125 = .ok (.lload_n 3, 1) := by decide +kernel
theorem dX2_applyLambda_126 : decode cX2_applyLambda 126 = .ok (.aload_n 0, 1) := by decide +kernel
theorem dX2_applyLambda_127 : decode cX2_applyLambda 127 = .ok (.lload_n 1, 1) := by decide +kernel
theorem dX2_applyLambda_128 : decode cX2_applyLambda 128 = .ok (.invokevirtual 222, 3) := by decide +kernel
theorem dX2_applyLambda_131 : decode cX2_applyLambda 131 = .ok (.invokevirtual 65, 3) := by decide +kernel
theorem dX2_applyLambda_134 : decode cX2_applyLambda 134 = .ok (.return_, 1) := by decide +kernel
theorem dX2_bindAll_0 : decode cX2_bindAll 0 = .ok (.aload_n 0, 1) := by decide +kernel
theorem dX2_bindAll_1 : decode cX2_bindAll 1 = .ok (.getfield 40, 3) := by decide +kernel
theorem dX2_bindAll_4 : decode cX2_bindAll 4 = .ok (.lstore_n 3, 1) := by decide +kernel
theorem dX2_bindAll_5 : decode cX2_bindAll 5 = .ok (.ldc2_w 28, 3) := by decide +kernel
theorem dX2_bindAll_8 : decode cX2_bindAll 8 = .ok (.lstore 5, 2) := by decide +kernel
theorem dX2_bindAll_10 : decode cX2_bindAll 10 = .ok (.lload_n 1, 1) := by decide +kernel
theorem dX2_bindAll_11 : decode cX2_bindAll 11 = .ok (.lstore 7, 2) := by decide +kernel
theorem dX2_bindAll_13 : decode cX2_bindAll 13 = .ok (.iconst 0, 1) := by decide +kernel
theorem dX2_bindAll_14 : decode cX2_bindAll 14 = .ok (.istore 9, 2) := by decide +kernel
theorem dX2_bindAll_16 : decode cX2_bindAll 16 = .ok (.iload 9, 2) := by decide +kernel
theorem dX2_bindAll_18 : decode cX2_bindAll 18 = .ok (.aload_n 0, 1) := by decide +kernel
theorem dX2_bindAll_19 : decode cX2_bindAll 19 = .ok (.getfield 15, 3) := by decide +kernel
theorem dX2_bindAll_22 : decode cX2_bindAll 22 = .ok (.if_icmp .ge 82, 3) := by decide +kernel
theorem dX2_bindAll_25 : decode cX2_bindAll 25 = .ok (.aload_n 0, 1) := by decide +kernel
theorem dX2_bindAll_26 : decode cX2_bindAll 26 = .ok (.getfield 46, 3) := by decide +kernel
theorem dX2_bindAll_29 : decode cX2_bindAll 29 = .ok (.aload_n 0, 1) := by decide +kernel
theorem dX2_bindAll_30 : decode cX2_bindAll 30 = .ok (.getfield 46, 3) := by decide +kernel
theorem dX2_bindAll_33 : decode cX2_bindAll 33 = .ok (.aload_n 0, 1) := by decide +kernel
theorem dX2_bindAll_34 : decode cX2_bindAll 34 = .ok (.getfield 46, 3) := by decide +kernel
theorem dX2_bindAll_37 : decode cX2_bindAll 37 = .ok (.lload 7, 2) := by decide +kernel
theorem dX2_bindAll_39 : decode cX2_bindAll 39 = .ok (.invokevirtual 104, 3) := by decide +kernel
theorem dX2_bindAll_42 : decode cX2_bindAll 42 = .ok (.aload_n 0, 1) := by decide +kernel
theorem dX2_bindAll_43 : decode cX2_bindAll 43 = .ok (.getfield 9, 3) := by decide +kernel
theorem dX2_bindAll_46 : decode cX2_bindAll 46 = .ok (.iload 9, 2) := by decide +kernel
theorem dX2_bindAll_48 : decode cX2_bindAll 48 = .ok (.laload, 1) := by decide +kernel
theorem dX2_bindAll_49 : decode cX2_bindAll 49 = .ok (.invokevirtual 225, 3) := by decide +kernel
theorem dX2_bindAll_52 : decode cX2_bindAll 52 = .ok (.aload_n 0, 1) := by decide +kernel
theorem dX2_bindAll_53 : decode cX2_bindAll 53 = .ok (.getfield 40, 3) := by decide +kernel
theorem dX2_bindAll_56 : decode cX2_bindAll 56 = .ok (.invokevirtual 225, 3) := by decide +kernel
theorem dX2_bindAll_59 : decode cX2_bindAll 59 = .ok (.lstore 10, 2) := by decide +kernel
theorem dX2_bindAll_61 : decode cX2_bindAll 61 = .ok (.iload 9, 2) := by decide +kernel
theorem dX2_bindAll_63 : decode cX2_bindAll 63 = .ok (.ifCond .ne 9, 3) := by decide +kernel
theorem dX2_bindAll_66 : decode cX2_bindAll 66 = .ok (.lload 10, 2) := by decide +kernel
theorem dX2_bindAll_68 : decode cX2_bindAll 68 = .ok (.lstore_n 3, 1) := by decide +kernel
theorem dX2_bindAll_69 : decode cX2_bindAll 69 = .ok (.goto 14, 3) := by decide +kernel
theorem dX2_bindAll_72 : decode cX2_bindAll 72 = .ok (.aload_n 0, 1) := by decide +kernel
theorem dX2_bindAll_73 : decode cX2_bindAll 73 = .ok (.getfield 46, 3) := by decide +kernel
theorem dX2_bindAll_76 : decode cX2_bindAll 76 = .ok (.lload 5, 2) := by decide +kernel
theorem dX2_bindAll_78 : decode cX2_bindAll 78 = .ok (.lload 10, 2) := by decide +kernel
theorem dX2_bindAll_80 : decode cX2_bindAll 80 = .ok (.invokevirtual 229, 3) := by decide +kernel
theorem dX2_bindAll_83 : decode cX2_bindAll 83 = .ok (.lload 10, 2) := by decide +kernel
theorem dX2_bindAll_85 : decode cX2_bindAll 85 = .ok (.lstore 5, 2) := by decide +kernel
theorem dX2_bindAll_87 : decode cX2_bindAll 87 = .ok (.aload_n 0, 1) := by decide +kernel
theorem dX2_bindAll_88 : decode cX2_bindAll 88 = .ok (.getfield 46, 3) := by decide +kernel
theorem dX2_bindAll_91 : decode cX2_bindAll 91 = .ok (.lload 7, 2) := by decide +kernel
theorem dX2_bindAll_93 : decode cX2_bindAll 93 = .ok (.invokevirtual 108, 3) := by decide +kernel
theorem dX2_bindAll_96 : decode cX2_bindAll 96 = .ok (.lstore 7, 2) := by decide +kernel
theorem dX2_bindAll_98 : decode cX2_bindAll 98 = .ok (.iinc 9 1, 3) := by decide +kernel
theorem dX2_bindAll_101 : decode cX2_bindAll 101 = .ok (.goto (-85), 3) := by decide +kernel
theorem dX2_bindAll_104 : decode cX2_bindAll 104 = .ok (.lload_n 3, 1) := by decide +kernel
theorem dX2_bindAll_105 : decode cX2_bindAll 105 = .ok (.lreturn, 1) := by decide +kernel
theorem dX2_applyLabel_0 : decode cX2_applyLabel 0 = .ok (.aload_n 0, 1) := by decide +kernel
theorem dX2_applyLabel_1 : decode cX2_applyLabel 1 = .ok (.getfield 46, 3) := by decide +kernel
theorem dX2_applyLabel_4 : decode cX2_applyLabel 4 = .ok (.aload_n 0, 1) := by decide +kernel
theorem dX2_applyLabel_5 : decode cX2_applyLabel 5 = .ok (.getfield 46, 3) := by decide +kernel
theorem dX2_applyLabel_8 : decode cX2_applyLabel 8 = .ok (.aload_n 0, 1) := by decide +kernel
theorem dX2_applyLabel_9 : decode cX2_applyLabel 9 = .ok (.getfield 37, 3) := by decide +kernel
theorem dX2_applyLabel_12 : decode cX2_applyLabel 12 = .ok (.invokevirtual 108, 3) := by decide +kernel
theorem dX2_applyLabel_15 : decode cX2_applyLabel 15 = .ok (.invokevirtual 104, 3) := by decide +kernel
theorem dX2_applyLabel_18 : decode cX2_applyLabel 18 = .ok (.lstore_n 1, 1) := by decide +kernel
theorem dX2_applyLabel_19 : decode cX2_applyLabel 19 = .ok (.aload_n 0, 1) := by decide +kernel
theorem dX2_applyLabel_20 : decode cX2_applyLabel 20 = .ok (.getfield 46, 3) := by decide +kernel
theorem dX2_applyLabel_23 : decode cX2_applyLabel 23 = .ok (.aload_n 0, 1) := by decide +kernel
theorem dX2_applyLabel_24 : decode cX2_applyLabel 24 = .ok (.getfield 37, 3) := by decide +kernel
theorem dX2_applyLabel_27 : decode cX2_applyLabel 27 = .ok (.iconst 3, 1) := by decide +kernel
theorem dX2_applyLabel_28 : decode cX2_applyLabel 28 = .ok (.invokevirtual 139, 3) := by decide +kernel
theorem dX2_applyLabel_31 : decode cX2_applyLabel 31 = .ok (.ifCond .eq 10, 3) := by decide +kernel
theorem dX2_applyLabel_34 : decode cX2_applyLabel 34 = .ok (.lload_n 1, 1) := by decide +kernel
theorem dX2_applyLabel_35 : decode cX2_applyLabel 35 = .ok (.invokestatic 143, 3) := by decide +kernel
theorem dX2_applyLabel_38 : decode cX2_applyLabel 38 = .ok (.ifCond .ne 11, 3) := by decide +kernel
theorem dX2_applyLabel_41 : decode cX2_applyLabel 41 = .ok (.aload_n 0, 1) := by decide +kernel
theorem dX2_applyLabel_42 : decode cX2_applyLabel 42 = .ok (.iconst 3, 1) := by decide +kernel
theorem dX2_applyLabel_43 : decode cX2_applyLabel 43 = .ok (.putfield 25, 3) := by decide +kernel
theorem dX2_applyLabel_46 : decode cX2_applyLabel 46 = .ok (.goto 94, 3) := by decide +kernel
theorem dX2_applyLabel_49 : decode cX2_applyLabel 49 = .ok (.aload_n 0, 1) := by decide +kernel
theorem dX2_applyLabel_50 : decode cX2_applyLabel 50 = .ok (.getfield 58, 3) := by decide +kernel
theorem dX2_applyLabel_53 : decode cX2_applyLabel 53 = .ok (.iconst 2, 1) := by decide +kernel
theorem dX2_applyLabel_54 : decode cX2_applyLabel 54 = .ok (.aload_n 0, 1) := by decide +kernel
theorem dX2_applyLabel_55 : decode cX2_applyLabel 55 = .ok (.getfield 9, 3) := by decide +kernel
theorem dX2_applyLabel_58 : decode cX2_applyLabel 58 = .ok (.aload_n 0, 1) := by decide +kernel
theorem dX2_applyLabel_59 : decode cX2_applyLabel 59 = .ok (.getfield 15, 3) := by decide +kernel
theorem dX2_applyLabel_62 : decode cX2_applyLabel 62 = .ok (.aload_n 0, 1) := by decide +kernel
theorem dX2_applyLabel_63 : decode cX2_applyLabel 63 = .ok (.getfield 37, 3) := by decide +kernel
theorem dX2_applyLabel_66 : decode cX2_applyLabel 66 = .ok (.aload_n 0, 1) := by decide +kernel
theorem dX2_applyLabel_67 : decode cX2_applyLabel 67 = .ok (.getfield 40, 3) := by decide +kernel
theorem dX2_applyLabel_70 : decode cX2_applyLabel 70 = .ok (.invokevirtual 216, 3) := by decide +kernel
theorem dX2_applyLabel_73 : decode cX2_applyLabel 73 = .ok (.ifCond .ne 12, 3) := by decide +kernel
theorem dX2_applyLabel_76 : decode cX2_applyLabel 76 = .ok (.aload_n 0, 1) := by decide +kernel
theorem dX2_applyLabel_77 : decode cX2_applyLabel 77 = .ok (.bipush 6, 2) := by decide +kernel
theorem dX2_applyLabel_79 : decode cX2_applyLabel 79 = .ok (.putfield 25, 3) := by decide +kernel
theorem dX2_applyLabel_82 : decode cX2_applyLabel 82 = .ok (.goto 58, 3) := by decide +kernel
theorem dX2_applyLabel_85 : decode cX2_applyLabel 85 = .ok (.aload_n 0, 1) := by decide +kernel
theorem dX2_applyLabel_86 : decode cX2_applyLabel 86 = .ok (.getfield 46, 3) := by decide +kernel
theorem dX2_applyLabel_89 : decode cX2_applyLabel 89 = .ok (.aload_n 0, 1) := by decide +kernel
theorem dX2_applyLabel_90 : decode cX2_applyLabel 90 = .ok (.getfield 46, 3) := by decide +kernel
theorem dX2_applyLabel_93 : decode cX2_applyLabel 93 = .ok (.aload_n 0, 1) := by decide +kernel
theorem dX2_applyLabel_94 : decode cX2_applyLabel 94 = .ok (.getfield 46, 3) := by decide +kernel
theorem dX2_applyLabel_97 : decode cX2_applyLabel 97 = .ok (.aload_n 0, 1) := by decide +kernel
theorem dX2_applyLabel_98 : decode cX2_applyLabel 98 = .ok (.getfield 37, 3) := by decide +kernel
theorem dX2_applyLabel_101 : decode cX2_applyLabel 101 = .ok (.invokevirtual 108, 3) := by decide +kernel
theorem dX2_applyLabel_104 : decode cX2_applyLabel 104 = .ok (.invokevirtual 108, 3) := by decide +kernel
theorem dX2_applyLabel_107 : decode cX2_applyLabel 107 = .ok (.invokevirtual 104, 3) := by decide +kernel
theorem dX2_applyLabel_110 : decode cX2_applyLabel 110 = .ok (.lstore_n 3, 1) := by decide +kernel
theorem dX2_applyLabel_111 : decode cX2_applyLabel 111 = .ok (.aload_n 0, 1) := by decide +kernel
theorem dX2_applyLabel_112 : decode cX2_applyLabel 112 = .ok (.aload_n 0, 1) := by decide +kernel
theorem dX2_applyLabel_113 : decode cX2_applyLabel 113 = .ok (.getfield 46, 3) := by decide +kernel
theorem dX2_applyLabel_116 : decode cX2_applyLabel 116 = .ok (.aload_n 0, 1) := by decide +kernel
theorem dX2_applyLabel_117 : decode cX2_applyLabel 117 = .ok (.getfield 46, 3) := by decide +kernel
theorem dX2_applyLabel_120 : decode cX2_applyLabel 120 = .ok (.lload_n 1, 1) := by decide +kernel
theorem dX2_applyLabel_121 : decode cX2_applyLabel 121 = .ok (.lload_n 3, 1) := by decide +kernel
theorem dX2_applyLabel_122 : decode cX2_applyLabel 122 = .ok (.invokevirtual 225, 3) := by decide +kernel
theorem dX2_applyLabel_125 : decode cX2_applyLabel 125 = .ok (.aload_n 0, 1) := by decide +kernel
theorem dX2_applyLabel_126 : decode cX2_applyLabel 126 = .ok (.getfield 40, 3) := by decide +kernel
theorem dX2_applyLabel_129 : decode cX2_applyLabel 129 = .ok (.invokevirtual 225, 3) := by decide +kernel
theorem dX2_applyLabel_132 : decode cX2_applyLabel 132 = .ok (.putfield 40, 3) := by decide +kernel
theorem dX2_applyLabel_135 : decode cX2_applyLabel 135 = .ok (.aload_n 0, 1) := by decide +kernel
theorem dX2_applyLabel_136 : decode cX2_applyLabel 136 = .ok (.lload_n 3, 1) := by decide +kernel
theorem dX2_applyLabel_137 : decode cX2_applyLabel 137 = .ok (.invokevirtual 155, 3) := by decide +kernel
theorem dX2_applyLabel_140 : decode cX2_applyLabel 140 = .ok (.return_, 1) := by decide +kernel
theorem dX2_valuesOf_0 : decode cX2_valuesOf 0 = .ok (.iload_n 0, 1) := by decide +kernel
theorem dX2_valuesOf_1 : decode cX2_valuesOf 1 = .ok (.tableswitch 45 7 13 #[43, 43, 45, 43, 45, 43, 43], 43) := by decide +kernel
theorem dX2_valuesOf_44 : decode cX2_valuesOf 44 = .ok (.iconst 1, 1) := by decide +kernel
theorem dX2_valuesOf_45 : decode cX2_valuesOf 45 = .ok (.ireturn, 1) := by decide +kernel
theorem dX2_valuesOf_46 : decode cX2_valuesOf 46 = .ok (.iconst 2, 1) := by decide +kernel
theorem dX2_valuesOf_47 : decode cX2_valuesOf 47 = .ok (.ireturn, 1) := by decide +kernel
theorem dX2_applyBuiltIn_0 : decode cX2_applyBuiltIn 0 = .ok (.aload_n 0, 1) := by decide +kernel
theorem dX2_applyBuiltIn_1 : decode cX2_applyBuiltIn 1 = .ok (.getfield 15, 3) := by decide +kernel
theorem dX2_applyBuiltIn_4 : decode cX2_applyBuiltIn 4 = .ok (.iload_n 1, 1) := by decide +kernel
theorem dX2_applyBuiltIn_5 : decode cX2_applyBuiltIn 5 = .ok (.invokestatic 232, 3) := by decide +kernel
theorem dX2_applyBuiltIn_8 : decode cX2_applyBuiltIn 8 = .ok (.if_icmp .eq 9, 3) := by decide +kernel
theorem dX2_applyBuiltIn_11 : decode cX2_applyBuiltIn 11 = .ok (.aload_n 0, 1) := by decide +kernel
theorem dX2_applyBuiltIn_12 : decode cX2_applyBuiltIn 12 = .ok (.iconst 3, 1) := by decide +kernel
theorem dX2_applyBuiltIn_13 : decode cX2_applyBuiltIn 13 = .ok (.putfield 25, 3) := by decide +kernel
theorem dX2_applyBuiltIn_16 : decode cX2_applyBuiltIn 16 = .ok (.return_, 1) := by decide +kernel
theorem dX2_applyBuiltIn_17 : decode cX2_applyBuiltIn 17 = .ok (.iload_n 1, 1) := by decide +kernel
theorem dX2_applyBuiltIn_18 : decode cX2_applyBuiltIn 18 = .ok (.tableswitch 147 7 13 #[42, 42, 56, 63, 87, 106, 131], 42) := by decide +kernel
theorem dX2_applyBuiltIn_60 : decode cX2_applyBuiltIn 60 = .ok (.aload_n 0, 1) := by decide +kernel
theorem dX2_applyBuiltIn_61 : decode cX2_applyBuiltIn 61 = .ok (.iload_n 1, 1) := by decide +kernel
theorem dX2_applyBuiltIn_62 : decode cX2_applyBuiltIn 62 = .ok (.aload_n 0, 1) := by decide +kernel
theorem dX2_applyBuiltIn_63 : decode cX2_applyBuiltIn 63 = .ok (.getfield 9, 3) := by decide +kernel
theorem dX2_applyBuiltIn_66 : decode cX2_applyBuiltIn 66 = .ok (.iconst 0, 1) := by decide +kernel
theorem dX2_applyBuiltIn_67 : decode cX2_applyBuiltIn 67 = .ok (.laload, 1) := by decide +kernel
theorem dX2_applyBuiltIn_68 : decode cX2_applyBuiltIn 68 = .ok (.invokevirtual 236, 3) := by decide +kernel
theorem dX2_applyBuiltIn_71 : decode cX2_applyBuiltIn 71 = .ok (.goto 111, 3) := by decide +kernel
theorem dX2_applyBuiltIn_74 : decode cX2_applyBuiltIn 74 = .ok (.aload_n 0, 1) := by decide +kernel
theorem dX2_applyBuiltIn_75 : decode cX2_applyBuiltIn 75 = .ok (.invokevirtual 240, 3) := by decide +kernel
theorem dX2_applyBuiltIn_78 : decode cX2_applyBuiltIn 78 = .ok (.goto 104, 3) := by decide +kernel
theorem dX2_applyBuiltIn_81 : decode cX2_applyBuiltIn 81 = .ok (.aload_n 0, 1) := by decide +kernel
theorem dX2_applyBuiltIn_82 : decode cX2_applyBuiltIn 82 = .ok (.aload_n 0, 1) := by decide +kernel
theorem dX2_applyBuiltIn_83 : decode cX2_applyBuiltIn 83 = .ok (.getfield 9, 3) := by decide +kernel
theorem dX2_applyBuiltIn_86 : decode cX2_applyBuiltIn 86 = .ok (.iconst 0, 1) := by decide +kernel
theorem dX2_applyBuiltIn_87 : decode cX2_applyBuiltIn 87 = .ok (.laload, 1) := by decide +kernel
theorem dX2_applyBuiltIn_88 : decode cX2_applyBuiltIn 88 = .ok (.invokestatic 75, 3) := by decide +kernel
theorem dX2_applyBuiltIn_91 : decode cX2_applyBuiltIn 91 = .ok (.ifCond .ne 7, 3) := by decide +kernel
theorem dX2_applyBuiltIn_94 : decode cX2_applyBuiltIn 94 = .ok (.iconst 1, 1) := by decide +kernel
theorem dX2_applyBuiltIn_95 : decode cX2_applyBuiltIn 95 = .ok (.goto 4, 3) := by decide +kernel
theorem dX2_applyBuiltIn_98 : decode cX2_applyBuiltIn 98 = .ok (.iconst 0, 1) := by decide +kernel
theorem dX2_applyBuiltIn_99 : decode cX2_applyBuiltIn 99 = .ok (.invokevirtual 243, 3) := by decide +kernel
theorem dX2_applyBuiltIn_102 : decode cX2_applyBuiltIn 102 = .ok (.goto 80, 3) := by decide +kernel
theorem dX2_applyBuiltIn_105 : decode cX2_applyBuiltIn 105 = .ok (.aload_n 0, 1) := by decide +kernel
theorem dX2_applyBuiltIn_106 : decode cX2_applyBuiltIn 106 = .ok (.aload_n 0, 1) := by decide +kernel
theorem dX2_applyBuiltIn_107 : decode cX2_applyBuiltIn 107 = .ok (.getfield 9, 3) := by decide +kernel
theorem dX2_applyBuiltIn_110 : decode cX2_applyBuiltIn 110 = .ok (.iconst 0, 1) := by decide +kernel
theorem dX2_applyBuiltIn_111 : decode cX2_applyBuiltIn 111 = .ok (.laload, 1) := by decide +kernel
theorem dX2_applyBuiltIn_112 : decode cX2_applyBuiltIn 112 = .ok (.aload_n 0, 1) := by decide +kernel
theorem dX2_applyBuiltIn_113 : decode cX2_applyBuiltIn 113 = .ok (.getfield 9, 3) := by decide +kernel
theorem dX2_applyBuiltIn_116 : decode cX2_applyBuiltIn 116 = .ok (.iconst 1, 1) := by decide +kernel
theorem dX2_applyBuiltIn_117 : decode cX2_applyBuiltIn 117 = .ok (.laload, 1) := by decide +kernel
theorem dX2_applyBuiltIn_118 : decode cX2_applyBuiltIn 118 = .ok (.invokevirtual 247, 3) := by decide +kernel
theorem dX2_applyBuiltIn_121 : decode cX2_applyBuiltIn 121 = .ok (.goto 61, 3) := by decide +kernel
theorem dX2_applyBuiltIn_124 : decode cX2_applyBuiltIn 124 = .ok (.aload_n 0, 1) := by decide +kernel
theorem dX2_applyBuiltIn_125 : decode cX2_applyBuiltIn 125 = .ok (.aload_n 0, 1) := by decide +kernel
theorem dX2_applyBuiltIn_126 : decode cX2_applyBuiltIn 126 = .ok (.getfield 9, 3) := by decide +kernel
theorem dX2_applyBuiltIn_129 : decode cX2_applyBuiltIn 129 = .ok (.iconst 0, 1) := by decide +kernel
theorem dX2_applyBuiltIn_130 : decode cX2_applyBuiltIn 130 = .ok (.laload, 1) := by decide +kernel
theorem dX2_applyBuiltIn_131 : decode cX2_applyBuiltIn 131 = .ok (.ldc2_w 28, 3) := by decide +kernel
theorem dX2_applyBuiltIn_134 : decode cX2_applyBuiltIn 134 = .ok (.lcmp, 1) := by decide +kernel
theorem dX2_applyBuiltIn_135 : decode cX2_applyBuiltIn 135 = .ok (.ifCond .ne 7, 3) := by decide +kernel
theorem dX2_applyBuiltIn_138 : decode cX2_applyBuiltIn 138 = .ok (.iconst 1, 1) := by decide +kernel
theorem dX2_applyBuiltIn_139 : decode cX2_applyBuiltIn 139 = .ok (.goto 4, 3) := by decide +kernel
theorem dX2_applyBuiltIn_142 : decode cX2_applyBuiltIn 142 = .ok (.iconst 0, 1) := by decide +kernel
theorem dX2_applyBuiltIn_143 : decode cX2_applyBuiltIn 143 = .ok (.invokevirtual 243, 3) := by decide +kernel
theorem dX2_applyBuiltIn_146 : decode cX2_applyBuiltIn 146 = .ok (.goto 36, 3) := by decide +kernel
theorem dX2_applyBuiltIn_149 : decode cX2_applyBuiltIn 149 = .ok (.aload_n 0, 1) := by decide +kernel
theorem dX2_applyBuiltIn_150 : decode cX2_applyBuiltIn 150 = .ok (.aload_n 0, 1) := by decide +kernel
theorem dX2_applyBuiltIn_151 : decode cX2_applyBuiltIn 151 = .ok (.getfield 9, 3) := by decide +kernel
theorem dX2_applyBuiltIn_154 : decode cX2_applyBuiltIn 154 = .ok (.iconst 0, 1) := by decide +kernel
theorem dX2_applyBuiltIn_155 : decode cX2_applyBuiltIn 155 = .ok (.laload, 1) := by decide +kernel
theorem dX2_applyBuiltIn_156 : decode cX2_applyBuiltIn 156 = .ok (.invokestatic 250, 3) := by decide +kernel
theorem dX2_applyBuiltIn_159 : decode cX2_applyBuiltIn 159 = .ok (.invokevirtual 243, 3) := by decide +kernel
theorem dX2_applyBuiltIn_162 : decode cX2_applyBuiltIn 162 = .ok (.goto 20, 3) := by decide +kernel
theorem dX2_applyBuiltIn_165 : decode cX2_applyBuiltIn 165 = .ok (.aload_n 0, 1) := by decide +kernel
theorem dX2_applyBuiltIn_166 : decode cX2_applyBuiltIn 166 = .ok (.iload_n 1, 1) := by decide +kernel
theorem dX2_applyBuiltIn_167 : decode cX2_applyBuiltIn 167 = .ok (.aload_n 0, 1) := by decide +kernel
theorem dX2_applyBuiltIn_168 : decode cX2_applyBuiltIn 168 = .ok (.getfield 9, 3) := by decide +kernel
theorem dX2_applyBuiltIn_171 : decode cX2_applyBuiltIn 171 = .ok (.iconst 0, 1) := by decide +kernel
theorem dX2_applyBuiltIn_172 : decode cX2_applyBuiltIn 172 = .ok (.laload, 1) := by decide +kernel
theorem dX2_applyBuiltIn_173 : decode cX2_applyBuiltIn 173 = .ok (.aload_n 0, 1) := by decide +kernel
theorem dX2_applyBuiltIn_174 : decode cX2_applyBuiltIn 174 = .ok (.getfield 9, 3) := by decide +kernel
theorem dX2_applyBuiltIn_177 : decode cX2_applyBuiltIn 177 = .ok (.iconst 1, 1) := by decide +kernel
theorem dX2_applyBuiltIn_178 : decode cX2_applyBuiltIn 178 = .ok (.laload, 1) := by decide +kernel
theorem dX2_applyBuiltIn_179 : decode cX2_applyBuiltIn 179 = .ok (.invokevirtual 253, 3) := by decide +kernel
theorem dX2_applyBuiltIn_182 : decode cX2_applyBuiltIn 182 = .ok (.return_, 1) := by decide +kernel
theorem dX2_takePart_0 : decode cX2_takePart 0 = .ok (.lload_n 2, 1) := by decide +kernel
theorem dX2_takePart_1 : decode cX2_takePart 1 = .ok (.invokestatic 75, 3) := by decide +kernel
theorem dX2_takePart_4 : decode cX2_takePart 4 = .ok (.ifCond .eq 35, 3) := by decide +kernel
theorem dX2_takePart_7 : decode cX2_takePart 7 = .ok (.aload_n 0, 1) := by decide +kernel
theorem dX2_takePart_8 : decode cX2_takePart 8 = .ok (.iload_n 1, 1) := by decide +kernel
theorem dX2_takePart_9 : decode cX2_takePart 9 = .ok (.bipush 7, 2) := by decide +kernel
theorem dX2_takePart_11 : decode cX2_takePart 11 = .ok (.if_icmp .ne 14, 3) := by decide +kernel
theorem dX2_takePart_14 : decode cX2_takePart 14 = .ok (.aload_n 0, 1) := by decide +kernel
theorem dX2_takePart_15 : decode cX2_takePart 15 = .ok (.getfield 46, 3) := by decide +kernel
theorem dX2_takePart_18 : decode cX2_takePart 18 = .ok (.lload_n 2, 1) := by decide +kernel
theorem dX2_takePart_19 : decode cX2_takePart 19 = .ok (.invokevirtual 104, 3) := by decide +kernel
theorem dX2_takePart_22 : decode cX2_takePart 22 = .ok (.goto 11, 3) := by decide +kernel
theorem dX2_takePart_25 : decode cX2_takePart 25 = .ok (.aload_n 0, 1) := by decide +kernel
theorem dX2_takePart_26 : decode cX2_takePart 26 = .ok (.getfield 46, 3) := by decide +kernel
theorem dX2_takePart_29 : decode cX2_takePart 29 = .ok (.lload_n 2, 1) := by decide +kernel
theorem dX2_takePart_30 : decode cX2_takePart 30 = .ok (.invokevirtual 108, 3) := by decide +kernel
theorem dX2_takePart_33 : decode cX2_takePart 33 = .ok (.invokevirtual 95, 3) := by decide +kernel
theorem dX2_takePart_36 : decode cX2_takePart 36 = .ok (.goto 8, 3) := by decide +kernel
theorem dX2_takePart_39 : decode cX2_takePart 39 = .ok (.aload_n 0, 1) := by decide +kernel
theorem dX2_takePart_40 : decode cX2_takePart 40 = .ok (.iconst 2, 1) := by decide +kernel
theorem dX2_takePart_41 : decode cX2_takePart 41 = .ok (.putfield 25, 3) := by decide +kernel
theorem dX2_takePart_44 : decode cX2_takePart 44 = .ok (.return_, 1) := by decide +kernel
theorem dX2_makePair_0 : decode cX2_makePair 0 = .ok (.aload_n 0, 1) := by decide +kernel
theorem dX2_makePair_1 : decode cX2_makePair 1 = .ok (.getfield 58, 3) := by decide +kernel
theorem dX2_makePair_4 : decode cX2_makePair 4 = .ok (.iconst 1, 1) := by decide +kernel
theorem dX2_makePair_5 : decode cX2_makePair 5 = .ok (.aload_n 0, 1) := by decide +kernel
theorem dX2_makePair_6 : decode cX2_makePair 6 = .ok (.getfield 9, 3) := by decide +kernel
theorem dX2_makePair_9 : decode cX2_makePair 9 = .ok (.iconst 2, 1) := by decide +kernel
theorem dX2_makePair_10 : decode cX2_makePair 10 = .ok (.ldc2_w 28, 3) := by decide +kernel
theorem dX2_makePair_13 : decode cX2_makePair 13 = .ok (.ldc2_w 28, 3) := by decide +kernel
theorem dX2_makePair_16 : decode cX2_makePair 16 = .ok (.invokevirtual 216, 3) := by decide +kernel
theorem dX2_makePair_19 : decode cX2_makePair 19 = .ok (.ifCond .eq 29, 3) := by decide +kernel
theorem dX2_makePair_22 : decode cX2_makePair 22 = .ok (.aload_n 0, 1) := by decide +kernel
theorem dX2_makePair_23 : decode cX2_makePair 23 = .ok (.aload_n 0, 1) := by decide +kernel
theorem dX2_makePair_24 : decode cX2_makePair 24 = .ok (.getfield 46, 3) := by decide +kernel
theorem dX2_makePair_27 : decode cX2_makePair 27 = .ok (.aload_n 0, 1) := by decide +kernel
theorem dX2_makePair_28 : decode cX2_makePair 28 = .ok (.getfield 9, 3) := by decide +kernel
theorem dX2_makePair_31 : decode cX2_makePair 31 = .ok (.iconst 0, 1) := by decide +kernel
theorem dX2_makePair_32 : decode cX2_makePair 32 = .ok (.laload, 1) := by decide +kernel
theorem dX2_makePair_33 : decode cX2_makePair 33 = .ok (.aload_n 0, 1) := by decide +kernel
theorem dX2_makePair_34 : decode cX2_makePair 34 = .ok (.getfield 9, 3) := by decide +kernel
theorem dX2_makePair_37 : decode cX2_makePair 37 = .ok (.iconst 1, 1) := by decide +kernel
theorem dX2_makePair_38 : decode cX2_makePair 38 = .ok (.laload, 1) := by decide +kernel
theorem dX2_makePair_39 : decode cX2_makePair 39 = .ok (.invokevirtual 225, 3) := by decide +kernel
theorem dX2_makePair_42 : decode cX2_makePair 42 = .ok (.invokevirtual 95, 3) := by decide +kernel
theorem dX2_makePair_45 : decode cX2_makePair 45 = .ok (.goto 9, 3) := by decide +kernel
theorem dX2_makePair_48 : decode cX2_makePair 48 = .ok (.aload_n 0, 1) := by decide +kernel
theorem dX2_makePair_49 : decode cX2_makePair 49 = .ok (.bipush 6, 2) := by decide +kernel
theorem dX2_makePair_51 : decode cX2_makePair 51 = .ok (.putfield 25, 3) := by decide +kernel
theorem dX2_makePair_54 : decode cX2_makePair 54 = .ok (.return_, 1) := by decide +kernel
theorem dX2_compareAtoms_0 : decode cX2_compareAtoms 0 = .ok (.lload_n 1, 1) := by decide +kernel
theorem dX2_compareAtoms_1 : decode cX2_compareAtoms 1 = .ok (.invokestatic 75, 3) := by decide +kernel
theorem dX2_compareAtoms_4 : decode cX2_compareAtoms 4 = .ok (.ifCond .ne 10, 3) := by decide +kernel
theorem dX2_compareAtoms_7 : decode cX2_compareAtoms 7 = .ok (.lload_n 3, 1) := by decide +kernel
theorem dX2_compareAtoms_8 : decode cX2_compareAtoms 8 = .ok (.invokestatic 75, 3) := by decide +kernel
theorem dX2_compareAtoms_11 : decode cX2_compareAtoms 11 = .ok (.ifCond .eq 11, 3) := by decide +kernel
theorem dX2_compareAtoms_14 : decode cX2_compareAtoms 14 = .ok (.aload_n 0, 1) := by decide +kernel
theorem dX2_compareAtoms_15 : decode cX2_compareAtoms 15 = .ok (.iconst 2, 1) := by decide +kernel
theorem dX2_compareAtoms_16 : decode cX2_compareAtoms 16 = .ok (.putfield 25, 3) := by decide +kernel
theorem dX2_compareAtoms_19 : decode cX2_compareAtoms 19 = .ok (.goto 18, 3) := by decide +kernel
theorem dX2_compareAtoms_22 : decode cX2_compareAtoms 22 = .ok (.aload_n 0, 1) := by decide +kernel
theorem dX2_compareAtoms_23 : decode cX2_compareAtoms 23 = .ok (.lload_n 1, 1) := by decide +kernel
theorem dX2_compareAtoms_24 : decode cX2_compareAtoms 24 = .ok (.lload_n 3, 1) := by decide +kernel
theorem dX2_compareAtoms_25 : decode cX2_compareAtoms 25 = .ok (.lcmp, 1) := by decide +kernel
theorem dX2_compareAtoms_26 : decode cX2_compareAtoms 26 = .ok (.ifCond .ne 7, 3) := by decide +kernel
theorem dX2_compareAtoms_29 : decode cX2_compareAtoms 29 = .ok (.iconst 1, 1) := by decide +kernel
theorem dX2_compareAtoms_30 : decode cX2_compareAtoms 30 = .ok (.goto 4, 3) := by decide +kernel
theorem dX2_compareAtoms_33 : decode cX2_compareAtoms 33 = .ok (.iconst 0, 1) := by decide +kernel
theorem dX2_compareAtoms_34 : decode cX2_compareAtoms 34 = .ok (.invokevirtual 243, 3) := by decide +kernel
theorem dX2_compareAtoms_37 : decode cX2_compareAtoms 37 = .ok (.return_, 1) := by decide +kernel
theorem dX2_reckon_0 : decode cX2_reckon 0 = .ok (.lload_n 2, 1) := by decide +kernel
theorem dX2_reckon_1 : decode cX2_reckon 1 = .ok (.invokestatic 250, 3) := by decide +kernel
theorem dX2_reckon_4 : decode cX2_reckon 4 = .ok (.ifCond .eq 11, 3) := by decide +kernel
theorem dX2_reckon_7 : decode cX2_reckon 7 = .ok (.lload 4, 2) := by decide +kernel
theorem dX2_reckon_9 : decode cX2_reckon 9 = .ok (.invokestatic 250, 3) := by decide +kernel
theorem dX2_reckon_12 : decode cX2_reckon 12 = .ok (.ifCond .ne 9, 3) := by decide +kernel
theorem dX2_reckon_15 : decode cX2_reckon 15 = .ok (.aload_n 0, 1) := by decide +kernel
theorem dX2_reckon_16 : decode cX2_reckon 16 = .ok (.iconst 2, 1) := by decide +kernel
theorem dX2_reckon_17 : decode cX2_reckon 17 = .ok (.putfield 25, 3) := by decide +kernel
theorem dX2_reckon_20 : decode cX2_reckon 20 = .ok (.return_, 1) := by decide +kernel
theorem dX2_reckon_21 : decode cX2_reckon 21 = .ok (.lload_n 2, 1) := by decide +kernel
theorem dX2_reckon_22 : decode cX2_reckon 22 = .ok (.l2i, 1) := by decide +kernel
theorem dX2_reckon_23 : decode cX2_reckon 23 = .ok (.istore 6, 2) := by decide +kernel
theorem dX2_reckon_25 : decode cX2_reckon 25 = .ok (.lload 4, 2) := by decide +kernel
theorem dX2_reckon_27 : decode cX2_reckon 27 = .ok (.l2i, 1) := by decide +kernel
theorem dX2_reckon_28 : decode cX2_reckon 28 = .ok (.istore 7, 2) := by decide +kernel
theorem dX2_reckon_30 : decode cX2_reckon 30 = .ok (.iload_n 1, 1) := by decide +kernel
theorem dX2_reckon_31 : decode cX2_reckon 31 = .ok (.tableswitch 64 14 16 #[25, 38, 51], 25) := by decide +kernel
theorem dX2_reckon_56 : decode cX2_reckon 56 = .ok (.aload_n 0, 1) := by decide +kernel
theorem dX2_reckon_57 : decode cX2_reckon 57 = .ok (.iload 6, 2) := by decide +kernel
theorem dX2_reckon_59 : decode cX2_reckon 59 = .ok (.iload 7, 2) := by decide +kernel
theorem dX2_reckon_61 : decode cX2_reckon 61 = .ok (.iadd, 1) := by decide +kernel
theorem dX2_reckon_62 : decode cX2_reckon 62 = .ok (.i2l, 1) := by decide +kernel
theorem dX2_reckon_63 : decode cX2_reckon 63 = .ok (.invokevirtual 95, 3) := by decide +kernel
theorem dX2_reckon_66 : decode cX2_reckon 66 = .ok (.goto 45, 3) := by decide +kernel
theorem dX2_reckon_69 : decode cX2_reckon 69 = .ok (.aload_n 0, 1) := by decide +kernel
theorem dX2_reckon_70 : decode cX2_reckon 70 = .ok (.iload 6, 2) := by decide +kernel
theorem dX2_reckon_72 : decode cX2_reckon 72 = .ok (.iload 7, 2) := by decide +kernel
theorem dX2_reckon_74 : decode cX2_reckon 74 = .ok (.isub, 1) := by decide +kernel
theorem dX2_reckon_75 : decode cX2_reckon 75 = .ok (.i2l, 1) := by decide +kernel
theorem dX2_reckon_76 : decode cX2_reckon 76 = .ok (.invokevirtual 95, 3) := by decide +kernel
theorem dX2_reckon_79 : decode cX2_reckon 79 = .ok (.goto 32, 3) := by decide +kernel
theorem dX2_reckon_82 : decode cX2_reckon 82 = .ok (.aload_n 0, 1) := by decide +kernel
theorem dX2_reckon_83 : decode cX2_reckon 83 = .ok (.iload 6, 2) := by decide +kernel
theorem dX2_reckon_85 : decode cX2_reckon 85 = .ok (.iload 7, 2) := by decide +kernel
theorem dX2_reckon_87 : decode cX2_reckon 87 = .ok (.imul, 1) := by decide +kernel
theorem dX2_reckon_88 : decode cX2_reckon 88 = .ok (.i2l, 1) := by decide +kernel
theorem dX2_reckon_89 : decode cX2_reckon 89 = .ok (.invokevirtual 95, 3) := by decide +kernel
theorem dX2_reckon_92 : decode cX2_reckon 92 = .ok (.goto 19, 3) := by decide +kernel
theorem dX2_reckon_95 : decode cX2_reckon 95 = .ok (.aload_n 0, 1) := by decide +kernel
theorem dX2_reckon_96 : decode cX2_reckon 96 = .ok (.iload 6, 2) := by decide +kernel
theorem dX2_reckon_98 : decode cX2_reckon 98 = .ok (.iload 7, 2) := by decide +kernel
theorem dX2_reckon_100 : decode cX2_reckon 100 = .ok (.if_icmp .ge 7, 3) := by decide +kernel
theorem dX2_reckon_103 : decode cX2_reckon 103 = .ok (.iconst 1, 1) := by decide +kernel
theorem dX2_reckon_104 : decode cX2_reckon 104 = .ok (.goto 4, 3) := by decide +kernel
theorem dX2_reckon_107 : decode cX2_reckon 107 = .ok (.iconst 0, 1) := by decide +kernel
theorem dX2_reckon_108 : decode cX2_reckon 108 = .ok (.invokevirtual 243, 3) := by decide +kernel
theorem dX2_reckon_111 : decode cX2_reckon 111 = .ok (.return_, 1) := by decide +kernel
theorem dX3_init_0 : decode cX3_init 0 = .ok (.aload_n 0, 1) := by decide +kernel
theorem dX3_init_1 : decode cX3_init 1 = .ok (.invokespecial 3, 3) := by decide +kernel
theorem dX3_init_4 : decode cX3_init 4 = .ok (.aload_n 0, 1) := by decide +kernel
theorem dX3_init_5 : decode cX3_init 5 = .ok (.sipush 150, 3) := by decide +kernel
theorem dX3_init_8 : decode cX3_init 8 = .ok (.newarray .long, 2) := by decide +kernel
theorem dX3_init_10 : decode cX3_init 10 = .ok (.putfield 9, 3) := by decide +kernel
theorem dX3_init_13 : decode cX3_init 13 = .ok (.aload_n 0, 1) := by decide +kernel
theorem dX3_init_14 : decode cX3_init 14 = .ok (.sipush 150, 3) := by decide +kernel
theorem dX3_init_17 : decode cX3_init 17 = .ok (.newarray .long, 2) := by decide +kernel
theorem dX3_init_19 : decode cX3_init 19 = .ok (.putfield 15, 3) := by decide +kernel
theorem dX3_init_22 : decode cX3_init 22 = .ok (.aload_n 0, 1) := by decide +kernel
theorem dX3_init_23 : decode cX3_init 23 = .ok (.iconst 0, 1) := by decide +kernel
theorem dX3_init_24 : decode cX3_init 24 = .ok (.putfield 18, 3) := by decide +kernel
theorem dX3_init_27 : decode cX3_init 27 = .ok (.aload_n 0, 1) := by decide +kernel
theorem dX3_init_28 : decode cX3_init 28 = .ok (.iconst 0, 1) := by decide +kernel
theorem dX3_init_29 : decode cX3_init 29 = .ok (.putfield 22, 3) := by decide +kernel
theorem dX3_init_32 : decode cX3_init 32 = .ok (.iconst 0, 1) := by decide +kernel
theorem dX3_init_33 : decode cX3_init 33 = .ok (.istore_n 1, 1) := by decide +kernel
theorem dX3_init_34 : decode cX3_init 34 = .ok (.iload_n 1, 1) := by decide +kernel
theorem dX3_init_35 : decode cX3_init 35 = .ok (.sipush 150, 3) := by decide +kernel
theorem dX3_init_38 : decode cX3_init 38 = .ok (.if_icmp .ge 18, 3) := by decide +kernel
theorem dX3_init_41 : decode cX3_init 41 = .ok (.aload_n 0, 1) := by decide +kernel
theorem dX3_init_42 : decode cX3_init 42 = .ok (.getfield 15, 3) := by decide +kernel
theorem dX3_init_45 : decode cX3_init 45 = .ok (.iload_n 1, 1) := by decide +kernel
theorem dX3_init_46 : decode cX3_init 46 = .ok (.ldc2_w 26, 3) := by decide +kernel
theorem dX3_init_49 : decode cX3_init 49 = .ok (.lastore, 1) := by decide +kernel
theorem dX3_init_50 : decode cX3_init 50 = .ok (.iinc 1 1, 3) := by decide +kernel
theorem dX3_init_53 : decode cX3_init 53 = .ok (.goto (-19), 3) := by decide +kernel
theorem dX3_init_56 : decode cX3_init 56 = .ok (.lconst 0, 1) := by decide +kernel
theorem dX3_init_57 : decode cX3_init 57 = .ok (.lstore_n 1, 1) := by decide +kernel
theorem dX3_init_58 : decode cX3_init 58 = .ok (.iconst 0, 1) := by decide +kernel
theorem dX3_init_59 : decode cX3_init 59 = .ok (.istore_n 3, 1) := by decide +kernel
theorem dX3_init_60 : decode cX3_init 60 = .ok (.iload_n 3, 1) := by decide +kernel
theorem dX3_init_61 : decode cX3_init 61 = .ok (.ldc 28, 2) := by decide +kernel
theorem dX3_init_63 : decode cX3_init 63 = .ok (.invokevirtual 30, 3) := by decide +kernel
theorem dX3_init_66 : decode cX3_init 66 = .ok (.if_icmp .ge 46, 3) := by decide +kernel
theorem dX3_init_69 : decode cX3_init 69 = .ok (.ldc 28, 2) := by decide +kernel
theorem dX3_init_71 : decode cX3_init 71 = .ok (.iload_n 3, 1) := by decide +kernel
theorem dX3_init_72 : decode cX3_init 72 = .ok (.invokevirtual 36, 3) := by decide +kernel
theorem dX3_init_75 : decode cX3_init 75 = .ok (.invokestatic 40, 3) := by decide +kernel
theorem dX3_init_78 : decode cX3_init 78 = .ok (.istore 4, 2) := by decide +kernel
theorem dX3_init_80 : decode cX3_init 80 = .ok (.iload 4, 2) := by decide +kernel
theorem dX3_init_82 : decode cX3_init 82 = .ok (.ifCond .ne 14, 3) := by decide +kernel
theorem dX3_init_85 : decode cX3_init 85 = .ok (.aload_n 0, 1) := by decide +kernel
theorem dX3_init_86 : decode cX3_init 86 = .ok (.lload_n 1, 1) := by decide +kernel
theorem dX3_init_87 : decode cX3_init 87 = .ok (.invokevirtual 44, 3) := by decide +kernel
theorem dX3_init_90 : decode cX3_init 90 = .ok (.pop2, 1) := by decide +kernel
theorem dX3_init_91 : decode cX3_init 91 = .ok (.lconst 0, 1) := by decide +kernel
theorem dX3_init_92 : decode cX3_init 92 = .ok (.lstore_n 1, 1) := by decide +kernel
theorem dX3_init_93 : decode cX3_init 93 = .ok (.goto 13, 3) := by decide +kernel
theorem dX3_init_96 : decode cX3_init 96 = .ok (.lload_n 1, 1) := by decide +kernel
theorem dX3_init_97 : decode cX3_init 97 = .ok (.ldc2_w 48, 3) := by decide +kernel
theorem dX3_init_100 : decode cX3_init 100 = .ok (.lmul, 1) := by decide +kernel
theorem dX3_init_101 : decode cX3_init 101 = .ok (.iload 4, 2) := by decide +kernel
theorem dX3_init_103 : decode cX3_init 103 = .ok (.i2l, 1) := by decide +kernel
theorem dX3_init_104 : decode cX3_init 104 = .ok (.ladd, 1) := by decide +kernel
theorem dX3_init_105 : decode cX3_init 105 = .ok (.lstore_n 1, 1) := by decide +kernel
theorem dX3_init_106 : decode cX3_init 106 = .ok (.iinc 3 1, 3) := by decide +kernel
theorem dX3_init_109 : decode cX3_init 109 = .ok (.goto (-49), 3) := by decide +kernel
theorem dX3_init_112 : decode cX3_init 112 = .ok (.return_, 1) := by decide +kernel
theorem dX3_digitOf_0 : decode cX3_digitOf 0 = .ok (.iload_n 0, 1) := by decide +kernel
theorem dX3_digitOf_1 : decode cX3_digitOf 1 = .ok (.bipush 65, 2) := by decide +kernel
theorem dX3_digitOf_3 : decode cX3_digitOf 3 = .ok (.if_icmp .lt 16, 3) := by decide +kernel
theorem dX3_digitOf_6 : decode cX3_digitOf 6 = .ok (.iload_n 0, 1) := by decide +kernel
theorem dX3_digitOf_7 : decode cX3_digitOf 7 = .ok (.bipush 90, 2) := by decide +kernel
theorem dX3_digitOf_9 : decode cX3_digitOf 9 = .ok (.if_icmp .gt 10, 3) := by decide +kernel
theorem dX3_digitOf_12 : decode cX3_digitOf 12 = .ok (.iload_n 0, 1) := by decide +kernel
theorem dX3_digitOf_13 : decode cX3_digitOf 13 = .ok (.bipush 65, 2) := by decide +kernel
theorem dX3_digitOf_15 : decode cX3_digitOf 15 = .ok (.isub, 1) := by decide +kernel
theorem dX3_digitOf_16 : decode cX3_digitOf 16 = .ok (.iconst 1, 1) := by decide +kernel
theorem dX3_digitOf_17 : decode cX3_digitOf 17 = .ok (.iadd, 1) := by decide +kernel
theorem dX3_digitOf_18 : decode cX3_digitOf 18 = .ok (.ireturn, 1) := by decide +kernel
theorem dX3_digitOf_19 : decode cX3_digitOf 19 = .ok (.iload_n 0, 1) := by decide +kernel
theorem dX3_digitOf_20 : decode cX3_digitOf 20 = .ok (.bipush 48, 2) := by decide +kernel
theorem dX3_digitOf_22 : decode cX3_digitOf 22 = .ok (.if_icmp .lt 19, 3) := by decide +kernel
theorem dX3_digitOf_25 : decode cX3_digitOf 25 = .ok (.iload_n 0, 1) := by decide +kernel
theorem dX3_digitOf_26 : decode cX3_digitOf 26 = .ok (.bipush 57, 2) := by decide +kernel
theorem dX3_digitOf_28 : decode cX3_digitOf 28 = .ok (.if_icmp .gt 13, 3) := by decide +kernel
theorem dX3_digitOf_31 : decode cX3_digitOf 31 = .ok (.iload_n 0, 1) := by decide +kernel
theorem dX3_digitOf_32 : decode cX3_digitOf 32 = .ok (.bipush 48, 2) := by decide +kernel
theorem dX3_digitOf_34 : decode cX3_digitOf 34 = .ok (.isub, 1) := by decide +kernel
theorem dX3_digitOf_35 : decode cX3_digitOf 35 = .ok (.bipush 27, 2) := by decide +kernel
theorem dX3_digitOf_37 : decode cX3_digitOf 37 = .ok (.iadd, 1) := by decide +kernel
theorem dX3_digitOf_38 : decode cX3_digitOf 38 = .ok (.goto 4, 3) := by decide +kernel
theorem dX3_digitOf_41 : decode cX3_digitOf 41 = .ok (.iconst 0, 1) := by decide +kernel
theorem dX3_digitOf_42 : decode cX3_digitOf 42 = .ok (.ireturn, 1) := by decide +kernel
theorem dX3_characterOf_0 : decode cX3_characterOf 0 = .ok (.iload_n 0, 1) := by decide +kernel
theorem dX3_characterOf_1 : decode cX3_characterOf 1 = .ok (.bipush 27, 2) := by decide +kernel
theorem dX3_characterOf_3 : decode cX3_characterOf 3 = .ok (.if_icmp .ge 12, 3) := by decide +kernel
theorem dX3_characterOf_6 : decode cX3_characterOf 6 = .ok (.bipush 65, 2) := by decide +kernel
theorem dX3_characterOf_8 : decode cX3_characterOf 8 = .ok (.iload_n 0, 1) := by decide +kernel
theorem dX3_characterOf_9 : decode cX3_characterOf 9 = .ok (.iadd, 1) := by decide +kernel
theorem dX3_characterOf_10 : decode cX3_characterOf 10 = .ok (.iconst 1, 1) := by decide +kernel
theorem dX3_characterOf_11 : decode cX3_characterOf 11 = .ok (.isub, 1) := by decide +kernel
theorem dX3_characterOf_12 : decode cX3_characterOf 12 = .ok (.goto 10, 3) := by decide +kernel
theorem dX3_characterOf_15 : decode cX3_characterOf 15 = .ok (.bipush 48, 2) := by decide +kernel
theorem dX3_characterOf_17 : decode cX3_characterOf 17 = .ok (.iload_n 0, 1) := by decide +kernel
theorem dX3_characterOf_18 : decode cX3_characterOf 18 = .ok (.iadd, 1) := by decide +kernel
theorem dX3_characterOf_19 : decode cX3_characterOf 19 = .ok (.bipush 27, 2) := by decide +kernel
theorem dX3_characterOf_21 : decode cX3_characterOf 21 = .ok (.isub, 1) := by decide +kernel
theorem dX3_characterOf_22 : decode cX3_characterOf 22 = .ok (.i2c, 1) := by decide +kernel
theorem dX3_characterOf_23 : decode cX3_characterOf 23 = .ok (.ireturn, 1) := by decide +kernel
theorem dX3_wordOf_0 : decode cX3_wordOf 0 = .ok (.iconst 0, 1) := by decide +kernel
theorem dX3_wordOf_1 : decode cX3_wordOf 1 = .ok (.istore_n 3, 1) := by decide +kernel
theorem dX3_wordOf_2 : decode cX3_wordOf 2 = .ok (.iload_n 3, 1) := by decide +kernel
theorem dX3_wordOf_3 : decode cX3_wordOf 3 = .ok (.aload_n 0, 1) := by decide +kernel
theorem dX3_wordOf_4 : decode cX3_wordOf 4 = .ok (.getfield 18, 3) := by decide +kernel
theorem dX3_wordOf_7 : decode cX3_wordOf 7 = .ok (.if_icmp .ge 27, 3) := by decide +kernel
theorem dX3_wordOf_10 : decode cX3_wordOf 10 = .ok (.aload_n 0, 1) := by decide +kernel
theorem dX3_wordOf_11 : decode cX3_wordOf 11 = .ok (.getfield 9, 3) := by decide +kernel
theorem dX3_wordOf_14 : decode cX3_wordOf 14 = .ok (.iload_n 3, 1) := by decide +kernel
theorem dX3_wordOf_15 : decode cX3_wordOf 15 = .ok (.laload, 1) := by decide +kernel
theorem dX3_wordOf_16 : decode cX3_wordOf 16 = .ok (.lload_n 1, 1) := by decide +kernel
theorem dX3_wordOf_17 : decode cX3_wordOf 17 = .ok (.lcmp, 1) := by decide +kernel
theorem dX3_wordOf_18 : decode cX3_wordOf 18 = .ok (.ifCond .ne 10, 3) := by decide +kernel
theorem dX3_wordOf_21 : decode cX3_wordOf 21 = .ok (.ldc2_w 50, 3) := by decide +kernel
theorem dX3_wordOf_24 : decode cX3_wordOf 24 = .ok (.iload_n 3, 1) := by decide +kernel
theorem dX3_wordOf_25 : decode cX3_wordOf 25 = .ok (.i2l, 1) := by decide +kernel
theorem dX3_wordOf_26 : decode cX3_wordOf 26 = .ok (.ladd, 1) := by decide +kernel
theorem dX3_wordOf_27 : decode cX3_wordOf 27 = .ok (.lreturn, 1) := by decide +kernel
theorem dX3_wordOf_28 : decode cX3_wordOf 28 = .ok (.iinc 3 1, 3) := by decide +kernel
theorem dX3_wordOf_31 : decode cX3_wordOf 31 = .ok (.goto (-29), 3) := by decide +kernel
theorem dX3_wordOf_34 : decode cX3_wordOf 34 = .ok (.aload_n 0, 1) := by decide +kernel
theorem dX3_wordOf_35 : decode cX3_wordOf 35 = .ok (.getfield 18, 3) := by decide +kernel
theorem dX3_wordOf_38 : decode cX3_wordOf 38 = .ok (.sipush 150, 3) := by decide +kernel
theorem dX3_wordOf_41 : decode cX3_wordOf 41 = .ok (.if_icmp .lt 12, 3) := by decide +kernel
theorem dX3_wordOf_44 : decode cX3_wordOf 44 = .ok (.aload_n 0, 1) := by decide +kernel
theorem dX3_wordOf_45 : decode cX3_wordOf 45 = .ok (.iconst 1, 1) := by decide +kernel
theorem dX3_wordOf_46 : decode cX3_wordOf 46 = .ok (.putfield 22, 3) := by decide +kernel
theorem dX3_wordOf_49 : decode cX3_wordOf 49 = .ok (.ldc2_w 50, 3) := by decide +kernel
theorem dX3_wordOf_52 : decode cX3_wordOf 52 = .ok (.lreturn, 1) := by decide +kernel
theorem dX3_wordOf_53 : decode cX3_wordOf 53 = .ok (.aload_n 0, 1) := by decide +kernel
theorem dX3_wordOf_54 : decode cX3_wordOf 54 = .ok (.getfield 9, 3) := by decide +kernel
theorem dX3_wordOf_57 : decode cX3_wordOf 57 = .ok (.aload_n 0, 1) := by decide +kernel
theorem dX3_wordOf_58 : decode cX3_wordOf 58 = .ok (.getfield 18, 3) := by decide +kernel
theorem dX3_wordOf_61 : decode cX3_wordOf 61 = .ok (.lload_n 1, 1) := by decide +kernel
theorem dX3_wordOf_62 : decode cX3_wordOf 62 = .ok (.lastore, 1) := by decide +kernel
theorem dX3_wordOf_63 : decode cX3_wordOf 63 = .ok (.aload_n 0, 1) := by decide +kernel
theorem dX3_wordOf_64 : decode cX3_wordOf 64 = .ok (.dup, 1) := by decide +kernel
theorem dX3_wordOf_65 : decode cX3_wordOf 65 = .ok (.getfield 18, 3) := by decide +kernel
theorem dX3_wordOf_68 : decode cX3_wordOf 68 = .ok (.iconst 1, 1) := by decide +kernel
theorem dX3_wordOf_69 : decode cX3_wordOf 69 = .ok (.iadd, 1) := by decide +kernel
theorem dX3_wordOf_70 : decode cX3_wordOf 70 = .ok (.putfield 18, 3) := by decide +kernel
theorem dX3_wordOf_73 : decode cX3_wordOf 73 = .ok (.ldc2_w 50, 3) := by decide +kernel
theorem dX3_wordOf_76 : decode cX3_wordOf 76 = .ok (.aload_n 0, 1) := by decide +kernel
theorem dX3_wordOf_77 : decode cX3_wordOf 77 = .ok (.getfield 18, 3) := by decide +kernel
theorem dX3_wordOf_80 : decode cX3_wordOf 80 = .ok (.i2l, 1) := by decide +kernel
theorem dX3_wordOf_81 : decode cX3_wordOf 81 = .ok (.ladd, 1) := by decide +kernel
theorem dX3_wordOf_82 : decode cX3_wordOf 82 = .ok (.lconst 1, 1) := by decide +kernel
theorem dX3_wordOf_83 : decode cX3_wordOf 83 = .ok (.lsub, 1) := by decide +kernel
theorem dX3_wordOf_84 : decode cX3_wordOf 84 = .ok (.lreturn, 1) := by decide +kernel
theorem dX3_spellingOf_0 : decode cX3_spellingOf 0 = .ok (.aload_n 0, 1) := by decide +kernel
theorem dX3_spellingOf_1 : decode cX3_spellingOf 1 = .ok (.lload_n 1, 1) := by decide +kernel
theorem dX3_spellingOf_2 : decode cX3_spellingOf 2 = .ok (.invokevirtual 52, 3) := by decide +kernel
theorem dX3_spellingOf_5 : decode cX3_spellingOf 5 = .ok (.ifCond .eq 17, 3) := by decide +kernel
theorem dX3_spellingOf_8 : decode cX3_spellingOf 8 = .ok (.aload_n 0, 1) := by decide +kernel
theorem dX3_spellingOf_9 : decode cX3_spellingOf 9 = .ok (.getfield 9, 3) := by decide +kernel
theorem dX3_spellingOf_12 : decode cX3_spellingOf 12 = .ok (.lload_n 1, 1) := by decide +kernel
theorem dX3_spellingOf_13 : decode cX3_spellingOf 13 = .ok (.ldc2_w 50, 3) := by decide +kernel
theorem dX3_spellingOf_16 : decode cX3_spellingOf 16 = .ok (.lsub, 1) := by decide +kernel
theorem dX3_spellingOf_17 : decode cX3_spellingOf 17 = .ok (.l2i, 1) := by decide +kernel
theorem dX3_spellingOf_18 : decode cX3_spellingOf 18 = .ok (.laload, 1) := by decide +kernel
theorem dX3_spellingOf_19 : decode cX3_spellingOf 19 = .ok (.goto 4, 3) := by decide +kernel
theorem dX3_spellingOf_22 : decode cX3_spellingOf 22 = .ok (.lconst 0, 1) := by decide +kernel
theorem dX3_spellingOf_23 : decode cX3_spellingOf 23 = .ok (.lreturn, 1) := by decide +kernel
theorem dX3_globalOf_0 : decode cX3_globalOf 0 = .ok (.aload_n 0, 1) := by decide +kernel
theorem dX3_globalOf_1 : decode cX3_globalOf 1 = .ok (.lload_n 1, 1) := by decide +kernel
theorem dX3_globalOf_2 : decode cX3_globalOf 2 = .ok (.invokevirtual 52, 3) := by decide +kernel
theorem dX3_globalOf_5 : decode cX3_globalOf 5 = .ok (.ifCond .eq 17, 3) := by decide +kernel
theorem dX3_globalOf_8 : decode cX3_globalOf 8 = .ok (.aload_n 0, 1) := by decide +kernel
theorem dX3_globalOf_9 : decode cX3_globalOf 9 = .ok (.getfield 15, 3) := by decide +kernel
theorem dX3_globalOf_12 : decode cX3_globalOf 12 = .ok (.lload_n 1, 1) := by decide +kernel
theorem dX3_globalOf_13 : decode cX3_globalOf 13 = .ok (.ldc2_w 50, 3) := by decide +kernel
theorem dX3_globalOf_16 : decode cX3_globalOf 16 = .ok (.lsub, 1) := by decide +kernel
theorem dX3_globalOf_17 : decode cX3_globalOf 17 = .ok (.l2i, 1) := by decide +kernel
theorem dX3_globalOf_18 : decode cX3_globalOf 18 = .ok (.laload, 1) := by decide +kernel
theorem dX3_globalOf_19 : decode cX3_globalOf 19 = .ok (.goto 6, 3) := by decide +kernel
theorem dX3_globalOf_22 : decode cX3_globalOf 22 = .ok (.ldc2_w 26, 3) := by decide +kernel
theorem dX3_globalOf_25 : decode cX3_globalOf 25 = .ok (.lreturn, 1) := by decide +kernel
theorem dX3_makeGlobal_0 : decode cX3_makeGlobal 0 = .ok (.aload_n 0, 1) := by decide +kernel
theorem dX3_makeGlobal_1 : decode cX3_makeGlobal 1 = .ok (.lload_n 1, 1) := by decide +kernel
theorem dX3_makeGlobal_2 : decode cX3_makeGlobal 2 = .ok (.invokevirtual 52, 3) := by decide +kernel
theorem dX3_makeGlobal_5 : decode cX3_makeGlobal 5 = .ok (.ifCond .eq 15, 3) := by decide +kernel
theorem dX3_makeGlobal_8 : decode cX3_makeGlobal 8 = .ok (.aload_n 0, 1) := by decide +kernel
theorem dX3_makeGlobal_9 : decode cX3_makeGlobal 9 = .ok (.getfield 15, 3) := by decide +kernel
theorem dX3_makeGlobal_12 : decode cX3_makeGlobal 12 = .ok (.lload_n 1, 1) := by decide +kernel
theorem dX3_makeGlobal_13 : decode cX3_makeGlobal 13 = .ok (.ldc2_w 50, 3) := by decide +kernel
theorem dX3_makeGlobal_16 : decode cX3_makeGlobal 16 = .ok (.lsub, 1) := by decide +kernel
theorem dX3_makeGlobal_17 : decode cX3_makeGlobal 17 = .ok (.l2i, 1) := by decide +kernel
theorem dX3_makeGlobal_18 : decode cX3_makeGlobal 18 = .ok (.lload_n 3, 1) := by decide +kernel
theorem dX3_makeGlobal_19 : decode cX3_makeGlobal 19 = .ok (.lastore, 1) := by decide +kernel
theorem dX3_makeGlobal_20 : decode cX3_makeGlobal 20 = .ok (.return_, 1) := by decide +kernel
theorem dX3_isKnown_0 : decode cX3_isKnown 0 = .ok (.lload_n 1, 1) := by decide +kernel
theorem dX3_isKnown_1 : decode cX3_isKnown 1 = .ok (.ldc2_w 50, 3) := by decide +kernel
theorem dX3_isKnown_4 : decode cX3_isKnown 4 = .ok (.lcmp, 1) := by decide +kernel
theorem dX3_isKnown_5 : decode cX3_isKnown 5 = .ok (.ifCond .lt 21, 3) := by decide +kernel
theorem dX3_isKnown_8 : decode cX3_isKnown 8 = .ok (.lload_n 1, 1) := by decide +kernel
theorem dX3_isKnown_9 : decode cX3_isKnown 9 = .ok (.ldc2_w 50, 3) := by decide +kernel
theorem dX3_isKnown_12 : decode cX3_isKnown 12 = .ok (.aload_n 0, 1) := by decide +kernel
theorem dX3_isKnown_13 : decode cX3_isKnown 13 = .ok (.getfield 18, 3) := by decide +kernel
theorem dX3_isKnown_16 : decode cX3_isKnown 16 = .ok (.i2l, 1) := by decide +kernel
theorem dX3_isKnown_17 : decode cX3_isKnown 17 = .ok (.ladd, 1) := by decide +kernel
theorem dX3_isKnown_18 : decode cX3_isKnown 18 = .ok (.lcmp, 1) := by decide +kernel
theorem dX3_isKnown_19 : decode cX3_isKnown 19 = .ok (.ifCond .ge 7, 3) := by decide +kernel
theorem dX3_isKnown_22 : decode cX3_isKnown 22 = .ok (.iconst 1, 1) := by decide +kernel
theorem dX3_isKnown_23 : decode cX3_isKnown 23 = .ok (.goto 4, 3) := by decide +kernel
theorem dX3_isKnown_26 : decode cX3_isKnown 26 = .ok (.iconst 0, 1) := by decide +kernel
theorem dX3_isKnown_27 : decode cX3_isKnown 27 = .ok (.ireturn, 1) := by decide +kernel
theorem dX4_init_0 : decode cX4_init 0 = .ok (.aload_n 0, 1) := by decide +kernel
theorem dX4_init_1 : decode cX4_init 1 = .ok (.invokespecial 3, 3) := by decide +kernel
theorem dX4_init_4 : decode cX4_init 4 = .ok (.aload_n 0, 1) := by decide +kernel
theorem dX4_init_5 : decode cX4_init 5 = .ok (.sipush 400, 3) := by decide +kernel
theorem dX4_init_8 : decode cX4_init 8 = .ok (.newarray .char, 2) := by decide +kernel
theorem dX4_init_10 : decode cX4_init 10 = .ok (.putfield 9, 3) := by decide +kernel
theorem dX4_init_13 : decode cX4_init 13 = .ok (.aload_n 0, 1) := by decide +kernel
theorem dX4_init_14 : decode cX4_init 14 = .ok (.sipush 400, 3) := by decide +kernel
theorem dX4_init_17 : decode cX4_init 17 = .ok (.newarray .long, 2) := by decide +kernel
theorem dX4_init_19 : decode cX4_init 19 = .ok (.putfield 15, 3) := by decide +kernel
theorem dX4_init_22 : decode cX4_init 22 = .ok (.aload_n 0, 1) := by decide +kernel
theorem dX4_init_23 : decode cX4_init 23 = .ok (.bipush 12, 2) := by decide +kernel
theorem dX4_init_25 : decode cX4_init 25 = .ok (.newarray .char, 2) := by decide +kernel
theorem dX4_init_27 : decode cX4_init 27 = .ok (.putfield 19, 3) := by decide +kernel
theorem dX4_init_30 : decode cX4_init 30 = .ok (.aload_n 0, 1) := by decide +kernel
theorem dX4_init_31 : decode cX4_init 31 = .ok (.iconst 0, 1) := by decide +kernel
theorem dX4_init_32 : decode cX4_init 32 = .ok (.putfield 22, 3) := by decide +kernel
theorem dX4_init_35 : decode cX4_init 35 = .ok (.aload_n 0, 1) := by decide +kernel
theorem dX4_init_36 : decode cX4_init 36 = .ok (.iconst 0, 1) := by decide +kernel
theorem dX4_init_37 : decode cX4_init 37 = .ok (.putfield 26, 3) := by decide +kernel
theorem dX4_init_40 : decode cX4_init 40 = .ok (.aload_n 0, 1) := by decide +kernel
theorem dX4_init_41 : decode cX4_init 41 = .ok (.aload_n 1, 1) := by decide +kernel
theorem dX4_init_42 : decode cX4_init 42 = .ok (.putfield 29, 3) := by decide +kernel
theorem dX4_init_45 : decode cX4_init 45 = .ok (.aload_n 0, 1) := by decide +kernel
theorem dX4_init_46 : decode cX4_init 46 = .ok (.aload_n 2, 1) := by decide +kernel
theorem dX4_init_47 : decode cX4_init 47 = .ok (.putfield 33, 3) := by decide +kernel
theorem dX4_init_50 : decode cX4_init 50 = .ok (.return_, 1) := by decide +kernel
theorem dX4_print_0 : decode cX4_print 0 = .ok (.aload_n 0, 1) := by decide +kernel
theorem dX4_print_1 : decode cX4_print 1 = .ok (.iconst 0, 1) := by decide +kernel
theorem dX4_print_2 : decode cX4_print 2 = .ok (.putfield 26, 3) := by decide +kernel
theorem dX4_print_5 : decode cX4_print 5 = .ok (.aload_n 0, 1) := by decide +kernel
theorem dX4_print_6 : decode cX4_print 6 = .ok (.iconst 0, 1) := by decide +kernel
theorem dX4_print_7 : decode cX4_print 7 = .ok (.putfield 22, 3) := by decide +kernel
theorem dX4_print_10 : decode cX4_print 10 = .ok (.aload_n 0, 1) := by decide +kernel
theorem dX4_print_11 : decode cX4_print 11 = .ok (.lload_n 1, 1) := by decide +kernel
theorem dX4_print_12 : decode cX4_print 12 = .ok (.invokevirtual 37, 3) := by decide +kernel
theorem dX4_print_15 : decode cX4_print 15 = .ok (.iconst 0, 1) := by decide +kernel
theorem dX4_print_16 : decode cX4_print 16 = .ok (.istore_n 3, 1) := by decide +kernel
theorem dX4_print_17 : decode cX4_print 17 = .ok (.iload_n 3, 1) := by decide +kernel
theorem dX4_print_18 : decode cX4_print 18 = .ok (.sipush 400, 3) := by decide +kernel
theorem dX4_print_21 : decode cX4_print 21 = .ok (.if_icmp .ge 128, 3) := by decide +kernel
theorem dX4_print_24 : decode cX4_print 24 = .ok (.aload_n 0, 1) := by decide +kernel
theorem dX4_print_25 : decode cX4_print 25 = .ok (.getfield 22, 3) := by decide +kernel
theorem dX4_print_28 : decode cX4_print 28 = .ok (.ifCond .le 121, 3) := by decide +kernel
theorem dX4_print_31 : decode cX4_print 31 = .ok (.aload_n 0, 1) := by decide +kernel
theorem dX4_print_32 : decode cX4_print 32 = .ok (.getfield 26, 3) := by decide +kernel
theorem dX4_print_35 : decode cX4_print 35 = .ok (.sipush 400, 3) := by decide +kernel
theorem dX4_print_38 : decode cX4_print 38 = .ok (.if_icmp .ge 111, 3) := by decide +kernel
theorem dX4_print_41 : decode cX4_print 41 = .ok (.aload_n 0, 1) := by decide +kernel
theorem dX4_print_42 : decode cX4_print 42 = .ok (.getfield 15, 3) := by decide +kernel
theorem dX4_print_45 : decode cX4_print 45 = .ok (.aload_n 0, 1) := by decide +kernel
theorem dX4_print_46 : decode cX4_print 46 = .ok (.getfield 22, 3) := by decide +kernel
theorem dX4_print_49 : decode cX4_print 49 = .ok (.iconst 1, 1) := by decide +kernel
theorem dX4_print_50 : decode cX4_print 50 = .ok (.isub, 1) := by decide +kernel
theorem dX4_print_51 : decode cX4_print 51 = .ok (.laload, 1) := by decide +kernel
theorem dX4_print_52 : decode cX4_print 52 = .ok (.lstore 4, 2) := by decide +kernel
theorem dX4_print_54 : decode cX4_print 54 = .ok (.lload 4, 2) := by decide +kernel
theorem dX4_print_56 : decode cX4_print 56 = .ok (.invokestatic 41, 3) := by decide +kernel
theorem dX4_print_59 : decode cX4_print 59 = .ok (.ifCond .eq 68, 3) := by decide +kernel
theorem dX4_print_62 : decode cX4_print 62 = .ok (.aload_n 0, 1) := by decide +kernel
theorem dX4_print_63 : decode cX4_print 63 = .ok (.getfield 15, 3) := by decide +kernel
theorem dX4_print_66 : decode cX4_print 66 = .ok (.aload_n 0, 1) := by decide +kernel
theorem dX4_print_67 : decode cX4_print 67 = .ok (.getfield 22, 3) := by decide +kernel
theorem dX4_print_70 : decode cX4_print 70 = .ok (.iconst 1, 1) := by decide +kernel
theorem dX4_print_71 : decode cX4_print 71 = .ok (.isub, 1) := by decide +kernel
theorem dX4_print_72 : decode cX4_print 72 = .ok (.aload_n 0, 1) := by decide +kernel
theorem dX4_print_73 : decode cX4_print 73 = .ok (.getfield 29, 3) := by decide +kernel
theorem dX4_print_76 : decode cX4_print 76 = .ok (.lload 4, 2) := by decide +kernel
theorem dX4_print_78 : decode cX4_print 78 = .ok (.invokevirtual 47, 3) := by decide +kernel
theorem dX4_print_81 : decode cX4_print 81 = .ok (.lastore, 1) := by decide +kernel
theorem dX4_print_82 : decode cX4_print 82 = .ok (.aload_n 0, 1) := by decide +kernel
theorem dX4_print_83 : decode cX4_print 83 = .ok (.getfield 26, 3) := by decide +kernel
theorem dX4_print_86 : decode cX4_print 86 = .ok (.ifCond .le 25, 3) := by decide +kernel
theorem dX4_print_89 : decode cX4_print 89 = .ok (.aload_n 0, 1) := by decide +kernel
theorem dX4_print_90 : decode cX4_print 90 = .ok (.getfield 9, 3) := by decide +kernel
theorem dX4_print_93 : decode cX4_print 93 = .ok (.aload_n 0, 1) := by decide +kernel
theorem dX4_print_94 : decode cX4_print 94 = .ok (.getfield 26, 3) := by decide +kernel
theorem dX4_print_97 : decode cX4_print 97 = .ok (.iconst 1, 1) := by decide +kernel
theorem dX4_print_98 : decode cX4_print 98 = .ok (.isub, 1) := by decide +kernel
theorem dX4_print_99 : decode cX4_print 99 = .ok (.caload, 1) := by decide +kernel
theorem dX4_print_100 : decode cX4_print 100 = .ok (.bipush 40, 2) := by decide +kernel
theorem dX4_print_102 : decode cX4_print 102 = .ok (.if_icmp .eq 9, 3) := by decide +kernel
theorem dX4_print_105 : decode cX4_print 105 = .ok (.aload_n 0, 1) := by decide +kernel
theorem dX4_print_106 : decode cX4_print 106 = .ok (.bipush 32, 2) := by decide +kernel
theorem dX4_print_108 : decode cX4_print 108 = .ok (.invokevirtual 53, 3) := by decide +kernel
theorem dX4_print_111 : decode cX4_print 111 = .ok (.aload_n 0, 1) := by decide +kernel
theorem dX4_print_112 : decode cX4_print 112 = .ok (.aload_n 0, 1) := by decide +kernel
theorem dX4_print_113 : decode cX4_print 113 = .ok (.getfield 29, 3) := by decide +kernel
theorem dX4_print_116 : decode cX4_print 116 = .ok (.lload 4, 2) := by decide +kernel
theorem dX4_print_118 : decode cX4_print 118 = .ok (.invokevirtual 57, 3) := by decide +kernel
theorem dX4_print_121 : decode cX4_print 121 = .ok (.invokevirtual 37, 3) := by decide +kernel
theorem dX4_print_124 : decode cX4_print 124 = .ok (.goto 19, 3) := by decide +kernel
theorem dX4_print_127 : decode cX4_print 127 = .ok (.aload_n 0, 1) := by decide +kernel
theorem dX4_print_128 : decode cX4_print 128 = .ok (.dup, 1) := by decide +kernel
theorem dX4_print_129 : decode cX4_print 129 = .ok (.getfield 22, 3) := by decide +kernel
theorem dX4_print_132 : decode cX4_print 132 = .ok (.iconst 1, 1) := by decide +kernel
theorem dX4_print_133 : decode cX4_print 133 = .ok (.isub, 1) := by decide +kernel
theorem dX4_print_134 : decode cX4_print 134 = .ok (.putfield 22, 3) := by decide +kernel
theorem dX4_print_137 : decode cX4_print 137 = .ok (.aload_n 0, 1) := by decide +kernel
theorem dX4_print_138 : decode cX4_print 138 = .ok (.lload 4, 2) := by decide +kernel
theorem dX4_print_140 : decode cX4_print 140 = .ok (.invokevirtual 60, 3) := by decide +kernel
theorem dX4_print_143 : decode cX4_print 143 = .ok (.iinc 3 1, 3) := by decide +kernel
theorem dX4_print_146 : decode cX4_print 146 = .ok (.goto (-129), 3) := by decide +kernel
theorem dX4_print_149 : decode cX4_print 149 = .ok (.return_, 1) := by decide +kernel
theorem dX4_printBeginning_0 : decode cX4_printBeginning 0 = .ok (.lload_n 1, 1) := by decide +kernel
theorem dX4_printBeginning_1 : decode cX4_printBeginning 1 = .ok (.invokestatic 41, 3) := by decide +kernel
theorem dX4_printBeginning_4 : decode cX4_printBeginning 4 = .ok (.ifCond .ne 11, 3) := by decide +kernel
theorem dX4_printBeginning_7 : decode cX4_printBeginning 7 = .ok (.aload_n 0, 1) := by decide +kernel
theorem dX4_printBeginning_8 : decode cX4_printBeginning 8 = .ok (.lload_n 1, 1) := by decide +kernel
theorem dX4_printBeginning_9 : decode cX4_printBeginning 9 = .ok (.invokevirtual 63, 3) := by decide +kernel
theorem dX4_printBeginning_12 : decode cX4_printBeginning 12 = .ok (.goto 39, 3) := by decide +kernel
theorem dX4_printBeginning_15 : decode cX4_printBeginning 15 = .ok (.aload_n 0, 1) := by decide +kernel
theorem dX4_printBeginning_16 : decode cX4_printBeginning 16 = .ok (.getfield 22, 3) := by decide +kernel
theorem dX4_printBeginning_19 : decode cX4_printBeginning 19 = .ok (.sipush 400, 3) := by decide +kernel
theorem dX4_printBeginning_22 : decode cX4_printBeginning 22 = .ok (.if_icmp .ge 29, 3) := by decide +kernel
theorem dX4_printBeginning_25 : decode cX4_printBeginning 25 = .ok (.aload_n 0, 1) := by decide +kernel
theorem dX4_printBeginning_26 : decode cX4_printBeginning 26 = .ok (.bipush 40, 2) := by decide +kernel
theorem dX4_printBeginning_28 : decode cX4_printBeginning 28 = .ok (.invokevirtual 53, 3) := by decide +kernel
theorem dX4_printBeginning_31 : decode cX4_printBeginning 31 = .ok (.aload_n 0, 1) := by decide +kernel
theorem dX4_printBeginning_32 : decode cX4_printBeginning 32 = .ok (.getfield 15, 3) := by decide +kernel
theorem dX4_printBeginning_35 : decode cX4_printBeginning 35 = .ok (.aload_n 0, 1) := by decide +kernel
theorem dX4_printBeginning_36 : decode cX4_printBeginning 36 = .ok (.getfield 22, 3) := by decide +kernel
theorem dX4_printBeginning_39 : decode cX4_printBeginning 39 = .ok (.lload_n 1, 1) := by decide +kernel
theorem dX4_printBeginning_40 : decode cX4_printBeginning 40 = .ok (.lastore, 1) := by decide +kernel
theorem dX4_printBeginning_41 : decode cX4_printBeginning 41 = .ok (.aload_n 0, 1) := by decide +kernel
theorem dX4_printBeginning_42 : decode cX4_printBeginning 42 = .ok (.dup, 1) := by decide +kernel
theorem dX4_printBeginning_43 : decode cX4_printBeginning 43 = .ok (.getfield 22, 3) := by decide +kernel
theorem dX4_printBeginning_46 : decode cX4_printBeginning 46 = .ok (.iconst 1, 1) := by decide +kernel
theorem dX4_printBeginning_47 : decode cX4_printBeginning 47 = .ok (.iadd, 1) := by decide +kernel
theorem dX4_printBeginning_48 : decode cX4_printBeginning 48 = .ok (.putfield 22, 3) := by decide +kernel
theorem dX4_printBeginning_51 : decode cX4_printBeginning 51 = .ok (.return_, 1) := by decide +kernel
theorem dX4_printEnd_0 : decode cX4_printEnd 0 = .ok (.lload_n 1, 1) := by decide +kernel
theorem dX4_printEnd_1 : decode cX4_printEnd 1 = .ok (.ldc2_w 66, 3) := by decide +kernel
theorem dX4_printEnd_4 : decode cX4_printEnd 4 = .ok (.lcmp, 1) := by decide +kernel
theorem dX4_printEnd_5 : decode cX4_printEnd 5 = .ok (.ifCond .eq 26, 3) := by decide +kernel
theorem dX4_printEnd_8 : decode cX4_printEnd 8 = .ok (.aload_n 0, 1) := by decide +kernel
theorem dX4_printEnd_9 : decode cX4_printEnd 9 = .ok (.bipush 32, 2) := by decide +kernel
theorem dX4_printEnd_11 : decode cX4_printEnd 11 = .ok (.invokevirtual 53, 3) := by decide +kernel
theorem dX4_printEnd_14 : decode cX4_printEnd 14 = .ok (.aload_n 0, 1) := by decide +kernel
theorem dX4_printEnd_15 : decode cX4_printEnd 15 = .ok (.bipush 46, 2) := by decide +kernel
theorem dX4_printEnd_17 : decode cX4_printEnd 17 = .ok (.invokevirtual 53, 3) := by decide +kernel
theorem dX4_printEnd_20 : decode cX4_printEnd 20 = .ok (.aload_n 0, 1) := by decide +kernel
theorem dX4_printEnd_21 : decode cX4_printEnd 21 = .ok (.bipush 32, 2) := by decide +kernel
theorem dX4_printEnd_23 : decode cX4_printEnd 23 = .ok (.invokevirtual 53, 3) := by decide +kernel
theorem dX4_printEnd_26 : decode cX4_printEnd 26 = .ok (.aload_n 0, 1) := by decide +kernel
theorem dX4_printEnd_27 : decode cX4_printEnd 27 = .ok (.lload_n 1, 1) := by decide +kernel
theorem dX4_printEnd_28 : decode cX4_printEnd 28 = .ok (.invokevirtual 63, 3) := by decide +kernel
theorem dX4_printEnd_31 : decode cX4_printEnd 31 = .ok (.aload_n 0, 1) := by decide +kernel
theorem dX4_printEnd_32 : decode cX4_printEnd 32 = .ok (.bipush 41, 2) := by decide +kernel
theorem dX4_printEnd_34 : decode cX4_printEnd 34 = .ok (.invokevirtual 53, 3) := by decide +kernel
theorem dX4_printEnd_37 : decode cX4_printEnd 37 = .ok (.return_, 1) := by decide +kernel
theorem dX4_printAtom_0 : decode cX4_printAtom 0 = .ok (.lload_n 1, 1) := by decide +kernel
theorem dX4_printAtom_1 : decode cX4_printAtom 1 = .ok (.invokestatic 68, 3) := by decide +kernel
theorem dX4_printAtom_4 : decode cX4_printAtom 4 = .ok (.ifCond .eq 11, 3) := by decide +kernel
theorem dX4_printAtom_7 : decode cX4_printAtom 7 = .ok (.aload_n 0, 1) := by decide +kernel
theorem dX4_printAtom_8 : decode cX4_printAtom 8 = .ok (.lload_n 1, 1) := by decide +kernel
theorem dX4_printAtom_9 : decode cX4_printAtom 9 = .ok (.invokevirtual 71, 3) := by decide +kernel
theorem dX4_printAtom_12 : decode cX4_printAtom 12 = .ok (.goto 15, 3) := by decide +kernel
theorem dX4_printAtom_15 : decode cX4_printAtom 15 = .ok (.aload_n 0, 1) := by decide +kernel
theorem dX4_printAtom_16 : decode cX4_printAtom 16 = .ok (.aload_n 0, 1) := by decide +kernel
theorem dX4_printAtom_17 : decode cX4_printAtom 17 = .ok (.getfield 33, 3) := by decide +kernel
theorem dX4_printAtom_20 : decode cX4_printAtom 20 = .ok (.lload_n 1, 1) := by decide +kernel
theorem dX4_printAtom_21 : decode cX4_printAtom 21 = .ok (.invokevirtual 74, 3) := by decide +kernel
theorem dX4_printAtom_24 : decode cX4_printAtom 24 = .ok (.invokevirtual 79, 3) := by decide +kernel
theorem dX4_printAtom_27 : decode cX4_printAtom 27 = .ok (.return_, 1) := by decide +kernel
theorem dX4_printNumber_0 : decode cX4_printNumber 0 = .ok (.lload_n 1, 1) := by decide +kernel
theorem dX4_printNumber_1 : decode cX4_printNumber 1 = .ok (.lconst 0, 1) := by decide +kernel
theorem dX4_printNumber_2 : decode cX4_printNumber 2 = .ok (.lcmp, 1) := by decide +kernel
theorem dX4_printNumber_3 : decode cX4_printNumber 3 = .ok (.ifCond .ge 9, 3) := by decide +kernel
theorem dX4_printNumber_6 : decode cX4_printNumber 6 = .ok (.aload_n 0, 1) := by decide +kernel
theorem dX4_printNumber_7 : decode cX4_printNumber 7 = .ok (.bipush 45, 2) := by decide +kernel
theorem dX4_printNumber_9 : decode cX4_printNumber 9 = .ok (.invokevirtual 53, 3) := by decide +kernel
theorem dX4_printNumber_12 : decode cX4_printNumber 12 = .ok (.lload_n 1, 1) := by decide +kernel
theorem dX4_printNumber_13 : decode cX4_printNumber 13 = .ok (.invokestatic 82, 3) := by decide +kernel
theorem dX4_printNumber_16 : decode cX4_printNumber 16 = .ok (.lstore_n 3, 1) := by decide +kernel
theorem dX4_printNumber_17 : decode cX4_printNumber 17 = .ok (.iconst 0, 1) := by decide +kernel
theorem dX4_printNumber_18 : decode cX4_printNumber 18 = .ok (.istore 5, 2) := by decide +kernel
theorem dX4_printNumber_20 : decode cX4_printNumber 20 = .ok (.aload_n 0, 1) := by decide +kernel
theorem dX4_printNumber_21 : decode cX4_printNumber 21 = .ok (.getfield 19, 3) := by decide +kernel
theorem dX4_printNumber_24 : decode cX4_printNumber 24 = .ok (.iload 5, 2) := by decide +kernel
theorem dX4_printNumber_26 : decode cX4_printNumber 26 = .ok (.ldc2_w 87, 3) := by decide +kernel
theorem dX4_printNumber_29 : decode cX4_printNumber 29 = .ok (.lload_n 3, 1) := by decide +kernel
theorem dX4_printNumber_30 : decode cX4_printNumber 30 = .ok (.ldc2_w 89, 3) := by decide +kernel
theorem dX4_printNumber_33 : decode cX4_printNumber 33 = .ok (.lrem, 1) := by decide +kernel
theorem dX4_printNumber_34 : decode cX4_printNumber 34 = .ok (.ladd, 1) := by decide +kernel
theorem dX4_printNumber_35 : decode cX4_printNumber 35 = .ok (.l2i, 1) := by decide +kernel
theorem dX4_printNumber_36 : decode cX4_printNumber 36 = .ok (.i2c, 1) := by decide +kernel
theorem dX4_printNumber_37 : decode cX4_printNumber 37 = .ok (.castore, 1) := by decide +kernel
theorem dX4_printNumber_38 : decode cX4_printNumber 38 = .ok (.iinc 5 1, 3) := by decide +kernel
theorem dX4_printNumber_41 : decode cX4_printNumber 41 = .ok (.lload_n 3, 1) := by decide +kernel
theorem dX4_printNumber_42 : decode cX4_printNumber 42 = .ok (.ldc2_w 89, 3) := by decide +kernel
theorem dX4_printNumber_45 : decode cX4_printNumber 45 = .ok (.ldiv, 1) := by decide +kernel
theorem dX4_printNumber_46 : decode cX4_printNumber 46 = .ok (.lstore_n 3, 1) := by decide +kernel
theorem dX4_printNumber_47 : decode cX4_printNumber 47 = .ok (.lload_n 3, 1) := by decide +kernel
theorem dX4_printNumber_48 : decode cX4_printNumber 48 = .ok (.lconst 0, 1) := by decide +kernel
theorem dX4_printNumber_49 : decode cX4_printNumber 49 = .ok (.lcmp, 1) := by decide +kernel
theorem dX4_printNumber_50 : decode cX4_printNumber 50 = .ok (.ifCond .le 10, 3) := by decide +kernel
theorem dX4_printNumber_53 : decode cX4_printNumber 53 = .ok (.iload 5, 2) := by decide +kernel
theorem dX4_printNumber_55 : decode cX4_printNumber 55 = .ok (.bipush 12, 2) := by decide +kernel
theorem dX4_printNumber_57 : decode cX4_printNumber 57 = .ok (.if_icmp .lt (-37), 3) := by decide +kernel
theorem dX4_printNumber_60 : decode cX4_printNumber 60 = .ok (.aload_n 0, 1) := by decide +kernel
theorem dX4_printNumber_61 : decode cX4_printNumber 61 = .ok (.iload 5, 2) := by decide +kernel
theorem dX4_printNumber_63 : decode cX4_printNumber 63 = .ok (.invokevirtual 91, 3) := by decide +kernel
theorem dX4_printNumber_66 : decode cX4_printNumber 66 = .ok (.return_, 1) := by decide +kernel
theorem dX4_printName_0 : decode cX4_printName 0 = .ok (.lload_n 1, 1) := by decide +kernel
theorem dX4_printName_1 : decode cX4_printName 1 = .ok (.lstore_n 3, 1) := by decide +kernel
theorem dX4_printName_2 : decode cX4_printName 2 = .ok (.iconst 0, 1) := by decide +kernel
theorem dX4_printName_3 : decode cX4_printName 3 = .ok (.istore 5, 2) := by decide +kernel
theorem dX4_printName_5 : decode cX4_printName 5 = .ok (.lload_n 3, 1) := by decide +kernel
theorem dX4_printName_6 : decode cX4_printName 6 = .ok (.lconst 0, 1) := by decide +kernel
theorem dX4_printName_7 : decode cX4_printName 7 = .ok (.lcmp, 1) := by decide +kernel
theorem dX4_printName_8 : decode cX4_printName 8 = .ok (.ifCond .le 38, 3) := by decide +kernel
theorem dX4_printName_11 : decode cX4_printName 11 = .ok (.iload 5, 2) := by decide +kernel
theorem dX4_printName_13 : decode cX4_printName 13 = .ok (.bipush 12, 2) := by decide +kernel
theorem dX4_printName_15 : decode cX4_printName 15 = .ok (.if_icmp .ge 31, 3) := by decide +kernel
theorem dX4_printName_18 : decode cX4_printName 18 = .ok (.aload_n 0, 1) := by decide +kernel
theorem dX4_printName_19 : decode cX4_printName 19 = .ok (.getfield 19, 3) := by decide +kernel
theorem dX4_printName_22 : decode cX4_printName 22 = .ok (.iload 5, 2) := by decide +kernel
theorem dX4_printName_24 : decode cX4_printName 24 = .ok (.lload_n 3, 1) := by decide +kernel
theorem dX4_printName_25 : decode cX4_printName 25 = .ok (.ldc2_w 95, 3) := by decide +kernel
theorem dX4_printName_28 : decode cX4_printName 28 = .ok (.lrem, 1) := by decide +kernel
theorem dX4_printName_29 : decode cX4_printName 29 = .ok (.l2i, 1) := by decide +kernel
theorem dX4_printName_30 : decode cX4_printName 30 = .ok (.invokestatic 97, 3) := by decide +kernel
theorem dX4_printName_33 : decode cX4_printName 33 = .ok (.castore, 1) := by decide +kernel
theorem dX4_printName_34 : decode cX4_printName 34 = .ok (.iinc 5 1, 3) := by decide +kernel
theorem dX4_printName_37 : decode cX4_printName 37 = .ok (.lload_n 3, 1) := by decide +kernel
theorem dX4_printName_38 : decode cX4_printName 38 = .ok (.ldc2_w 95, 3) := by decide +kernel
theorem dX4_printName_41 : decode cX4_printName 41 = .ok (.ldiv, 1) := by decide +kernel
theorem dX4_printName_42 : decode cX4_printName 42 = .ok (.lstore_n 3, 1) := by decide +kernel
theorem dX4_printName_43 : decode cX4_printName 43 = .ok (.goto (-38), 3) := by decide +kernel
theorem dX4_printName_46 : decode cX4_printName 46 = .ok (.aload_n 0, 1) := by decide +kernel
theorem dX4_printName_47 : decode cX4_printName 47 = .ok (.iload 5, 2) := by decide +kernel
theorem dX4_printName_49 : decode cX4_printName 49 = .ok (.invokevirtual 91, 3) := by decide +kernel
theorem dX4_printName_52 : decode cX4_printName 52 = .ok (.return_, 1) := by decide +kernel
theorem dX4_putBackwards_0 : decode cX4_putBackwards 0 = .ok (.iload_n 1, 1) := by decide +kernel
theorem dX4_putBackwards_1 : decode cX4_putBackwards 1 = .ok (.iconst 1, 1) := by decide +kernel
theorem dX4_putBackwards_2 : decode cX4_putBackwards 2 = .ok (.isub, 1) := by decide +kernel
theorem dX4_putBackwards_3 : decode cX4_putBackwards 3 = .ok (.istore_n 2, 1) := by decide +kernel
theorem dX4_putBackwards_4 : decode cX4_putBackwards 4 = .ok (.iload_n 2, 1) := by decide +kernel
theorem dX4_putBackwards_5 : decode cX4_putBackwards 5 = .ok (.ifCond .lt 19, 3) := by decide +kernel
theorem dX4_putBackwards_8 : decode cX4_putBackwards 8 = .ok (.aload_n 0, 1) := by decide +kernel
theorem dX4_putBackwards_9 : decode cX4_putBackwards 9 = .ok (.aload_n 0, 1) := by decide +kernel
theorem dX4_putBackwards_10 : decode cX4_putBackwards 10 = .ok (.getfield 19, 3) := by decide +kernel
theorem dX4_putBackwards_13 : decode cX4_putBackwards 13 = .ok (.iload_n 2, 1) := by decide +kernel
theorem dX4_putBackwards_14 : decode cX4_putBackwards 14 = .ok (.caload, 1) := by decide +kernel
theorem dX4_putBackwards_15 : decode cX4_putBackwards 15 = .ok (.invokevirtual 53, 3) := by decide +kernel
theorem dX4_putBackwards_18 : decode cX4_putBackwards 18 = .ok (.iinc 2 (-1), 3) := by decide +kernel
theorem dX4_putBackwards_21 : decode cX4_putBackwards 21 = .ok (.goto (-17), 3) := by decide +kernel
theorem dX4_putBackwards_24 : decode cX4_putBackwards 24 = .ok (.return_, 1) := by decide +kernel
theorem dX4_put_0 : decode cX4_put 0 = .ok (.aload_n 0, 1) := by decide +kernel
theorem dX4_put_1 : decode cX4_put 1 = .ok (.getfield 26, 3) := by decide +kernel
theorem dX4_put_4 : decode cX4_put 4 = .ok (.sipush 400, 3) := by decide +kernel
theorem dX4_put_7 : decode cX4_put 7 = .ok (.if_icmp .ge 23, 3) := by decide +kernel
theorem dX4_put_10 : decode cX4_put 10 = .ok (.aload_n 0, 1) := by decide +kernel
theorem dX4_put_11 : decode cX4_put 11 = .ok (.getfield 9, 3) := by decide +kernel
theorem dX4_put_14 : decode cX4_put 14 = .ok (.aload_n 0, 1) := by decide +kernel
theorem dX4_put_15 : decode cX4_put 15 = .ok (.getfield 26, 3) := by decide +kernel
theorem dX4_put_18 : decode cX4_put 18 = .ok (.iload_n 1, 1) := by decide +kernel
theorem dX4_put_19 : decode cX4_put 19 = .ok (.castore, 1) := by decide +kernel
theorem dX4_put_20 : decode cX4_put 20 = .ok (.aload_n 0, 1) := by decide +kernel
theorem dX4_put_21 : decode cX4_put 21 = .ok (.dup, 1) := by decide +kernel
theorem dX4_put_22 : decode cX4_put 22 = .ok (.getfield 26, 3) := by decide +kernel
theorem dX4_put_25 : decode cX4_put 25 = .ok (.iconst 1, 1) := by decide +kernel
theorem dX4_put_26 : decode cX4_put 26 = .ok (.iadd, 1) := by decide +kernel
theorem dX4_put_27 : decode cX4_put 27 = .ok (.putfield 26, 3) := by decide +kernel
theorem dX4_put_30 : decode cX4_put 30 = .ok (.return_, 1) := by decide +kernel
theorem dX5_init_0 : decode cX5_init 0 = .ok (.aload_n 0, 1) := by decide +kernel
theorem dX5_init_1 : decode cX5_init 1 = .ok (.invokespecial 3, 3) := by decide +kernel
theorem dX5_init_4 : decode cX5_init 4 = .ok (.aload_n 0, 1) := by decide +kernel
theorem dX5_init_5 : decode cX5_init 5 = .ok (.sipush 2000, 3) := by decide +kernel
theorem dX5_init_8 : decode cX5_init 8 = .ok (.newarray .long, 2) := by decide +kernel
theorem dX5_init_10 : decode cX5_init 10 = .ok (.putfield 9, 3) := by decide +kernel
theorem dX5_init_13 : decode cX5_init 13 = .ok (.aload_n 0, 1) := by decide +kernel
theorem dX5_init_14 : decode cX5_init 14 = .ok (.bipush 60, 2) := by decide +kernel
theorem dX5_init_16 : decode cX5_init 16 = .ok (.newarray .int, 2) := by decide +kernel
theorem dX5_init_18 : decode cX5_init 18 = .ok (.putfield 15, 3) := by decide +kernel
theorem dX5_init_21 : decode cX5_init 21 = .ok (.aload_n 0, 1) := by decide +kernel
theorem dX5_init_22 : decode cX5_init 22 = .ok (.bipush 60, 2) := by decide +kernel
theorem dX5_init_24 : decode cX5_init 24 = .ok (.newarray .long, 2) := by decide +kernel
theorem dX5_init_26 : decode cX5_init 26 = .ok (.putfield 19, 3) := by decide +kernel
theorem dX5_init_29 : decode cX5_init 29 = .ok (.aload_n 0, 1) := by decide +kernel
theorem dX5_init_30 : decode cX5_init 30 = .ok (.bipush 60, 2) := by decide +kernel
theorem dX5_init_32 : decode cX5_init 32 = .ok (.newarray .long, 2) := by decide +kernel
theorem dX5_init_34 : decode cX5_init 34 = .ok (.putfield 22, 3) := by decide +kernel
theorem dX5_init_37 : decode cX5_init 37 = .ok (.aload_n 0, 1) := by decide +kernel
theorem dX5_init_38 : decode cX5_init 38 = .ok (.iconst 0, 1) := by decide +kernel
theorem dX5_init_39 : decode cX5_init 39 = .ok (.newarray .long, 2) := by decide +kernel
theorem dX5_init_41 : decode cX5_init 41 = .ok (.putfield 25, 3) := by decide +kernel
theorem dX5_init_44 : decode cX5_init 44 = .ok (.aload_n 0, 1) := by decide +kernel
theorem dX5_init_45 : decode cX5_init 45 = .ok (.iconst 0, 1) := by decide +kernel
theorem dX5_init_46 : decode cX5_init 46 = .ok (.putfield 28, 3) := by decide +kernel
theorem dX5_init_49 : decode cX5_init 49 = .ok (.aload_n 0, 1) := by decide +kernel
theorem dX5_init_50 : decode cX5_init 50 = .ok (.iconst 0, 1) := by decide +kernel
theorem dX5_init_51 : decode cX5_init 51 = .ok (.putfield 32, 3) := by decide +kernel
theorem dX5_init_54 : decode cX5_init 54 = .ok (.aload_n 0, 1) := by decide +kernel
theorem dX5_init_55 : decode cX5_init 55 = .ok (.iconst 0, 1) := by decide +kernel
theorem dX5_init_56 : decode cX5_init 56 = .ok (.putfield 35, 3) := by decide +kernel
theorem dX5_init_59 : decode cX5_init 59 = .ok (.aload_n 0, 1) := by decide +kernel
theorem dX5_init_60 : decode cX5_init 60 = .ok (.iconst 0, 1) := by decide +kernel
theorem dX5_init_61 : decode cX5_init 61 = .ok (.putfield 38, 3) := by decide +kernel
theorem dX5_init_64 : decode cX5_init 64 = .ok (.aload_n 0, 1) := by decide +kernel
theorem dX5_init_65 : decode cX5_init 65 = .ok (.ldc2_w 41, 3) := by decide +kernel
theorem dX5_init_68 : decode cX5_init 68 = .ok (.putfield 43, 3) := by decide +kernel
theorem dX5_init_71 : decode cX5_init 71 = .ok (.aload_n 0, 1) := by decide +kernel
theorem dX5_init_72 : decode cX5_init 72 = .ok (.aload_n 1, 1) := by decide +kernel
theorem dX5_init_73 : decode cX5_init 73 = .ok (.putfield 47, 3) := by decide +kernel
theorem dX5_init_76 : decode cX5_init 76 = .ok (.aload_n 0, 1) := by decide +kernel
theorem dX5_init_77 : decode cX5_init 77 = .ok (.aload_n 2, 1) := by decide +kernel
theorem dX5_init_78 : decode cX5_init 78 = .ok (.putfield 51, 3) := by decide +kernel
theorem dX5_init_81 : decode cX5_init 81 = .ok (.aload_n 0, 1) := by decide +kernel
theorem dX5_init_82 : decode cX5_init 82 = .ok (.aload_n 3, 1) := by decide +kernel
theorem dX5_init_83 : decode cX5_init 83 = .ok (.putfield 55, 3) := by decide +kernel
theorem dX5_init_86 : decode cX5_init 86 = .ok (.aload_n 0, 1) := by decide +kernel
theorem dX5_init_87 : decode cX5_init 87 = .ok (.aload 4, 2) := by decide +kernel
theorem dX5_init_89 : decode cX5_init 89 = .ok (.putfield 59, 3) := by decide +kernel
theorem dX5_init_92 : decode cX5_init 92 = .ok (.return_, 1) := by decide +kernel
theorem dX5_read_0 : decode cX5_read 0 = .ok (.aload_n 0, 1) := by decide +kernel
theorem dX5_read_1 : decode cX5_read 1 = .ok (.getfield 51, 3) := by decide +kernel
theorem dX5_read_4 : decode cX5_read 4 = .ok (.getfield 63, 3) := by decide +kernel
theorem dX5_read_7 : decode cX5_read 7 = .ok (.istore_n 1, 1) := by decide +kernel
theorem dX5_read_8 : decode cX5_read 8 = .ok (.aload_n 0, 1) := by decide +kernel
theorem dX5_read_9 : decode cX5_read 9 = .ok (.getfield 51, 3) := by decide +kernel
theorem dX5_read_12 : decode cX5_read 12 = .ok (.iconst 0, 1) := by decide +kernel
theorem dX5_read_13 : decode cX5_read 13 = .ok (.putfield 68, 3) := by decide +kernel
theorem dX5_read_16 : decode cX5_read 16 = .ok (.aload_n 0, 1) := by decide +kernel
theorem dX5_read_17 : decode cX5_read 17 = .ok (.invokevirtual 72, 3) := by decide +kernel
theorem dX5_read_20 : decode cX5_read 20 = .ok (.ifCond .ne 39, 3) := by decide +kernel
theorem dX5_read_23 : decode cX5_read 23 = .ok (.aload_n 0, 1) := by decide +kernel
theorem dX5_read_24 : decode cX5_read 24 = .ok (.getfield 51, 3) := by decide +kernel
theorem dX5_read_27 : decode cX5_read 27 = .ok (.iload_n 1, 1) := by decide +kernel
theorem dX5_read_28 : decode cX5_read 28 = .ok (.putfield 63, 3) := by decide +kernel
theorem dX5_read_31 : decode cX5_read 31 = .ok (.aload_n 0, 1) := by decide +kernel
theorem dX5_read_32 : decode cX5_read 32 = .ok (.getfield 47, 3) := by decide +kernel
theorem dX5_read_35 : decode cX5_read 35 = .ok (.aload_n 0, 1) := by decide +kernel
theorem dX5_read_36 : decode cX5_read 36 = .ok (.getfield 38, 3) := by decide +kernel
theorem dX5_read_39 : decode cX5_read 39 = .ok (.putfield 76, 3) := by decide +kernel
theorem dX5_read_42 : decode cX5_read 42 = .ok (.aload_n 0, 1) := by decide +kernel
theorem dX5_read_43 : decode cX5_read 43 = .ok (.getfield 47, 3) := by decide +kernel
theorem dX5_read_46 : decode cX5_read 46 = .ok (.aload_n 0, 1) := by decide +kernel
theorem dX5_read_47 : decode cX5_read 47 = .ok (.getfield 47, 3) := by decide +kernel
theorem dX5_read_50 : decode cX5_read 50 = .ok (.getfield 81, 3) := by decide +kernel
theorem dX5_read_53 : decode cX5_read 53 = .ok (.putfield 84, 3) := by decide +kernel
theorem dX5_read_56 : decode cX5_read 56 = .ok (.bipush 10, 2) := by decide +kernel
theorem dX5_read_58 : decode cX5_read 58 = .ok (.ireturn, 1) := by decide +kernel
theorem dX5_read_59 : decode cX5_read 59 = .ok (.aload_n 0, 1) := by decide +kernel
theorem dX5_read_60 : decode cX5_read 60 = .ok (.getfield 47, 3) := by decide +kernel
theorem dX5_read_63 : decode cX5_read 63 = .ok (.aload_n 0, 1) := by decide +kernel
theorem dX5_read_64 : decode cX5_read 64 = .ok (.getfield 38, 3) := by decide +kernel
theorem dX5_read_67 : decode cX5_read 67 = .ok (.putfield 84, 3) := by decide +kernel
theorem dX5_read_70 : decode cX5_read 70 = .ok (.aload_n 0, 1) := by decide +kernel
theorem dX5_read_71 : decode cX5_read 71 = .ok (.getfield 51, 3) := by decide +kernel
theorem dX5_read_74 : decode cX5_read 74 = .ok (.getfield 68, 3) := by decide +kernel
theorem dX5_read_77 : decode cX5_read 77 = .ok (.ifCond .eq 14, 3) := by decide +kernel
theorem dX5_read_80 : decode cX5_read 80 = .ok (.aload_n 0, 1) := by decide +kernel
theorem dX5_read_81 : decode cX5_read 81 = .ok (.getfield 51, 3) := by decide +kernel
theorem dX5_read_84 : decode cX5_read 84 = .ok (.iload_n 1, 1) := by decide +kernel
theorem dX5_read_85 : decode cX5_read 85 = .ok (.putfield 63, 3) := by decide +kernel
theorem dX5_read_88 : decode cX5_read 88 = .ok (.bipush 9, 2) := by decide +kernel
theorem dX5_read_90 : decode cX5_read 90 = .ok (.ireturn, 1) := by decide +kernel
theorem dX5_read_91 : decode cX5_read 91 = .ok (.aload_n 0, 1) := by decide +kernel
theorem dX5_read_92 : decode cX5_read 92 = .ok (.getfield 59, 3) := by decide +kernel
theorem dX5_read_95 : decode cX5_read 95 = .ok (.aload_n 0, 1) := by decide +kernel
theorem dX5_read_96 : decode cX5_read 96 = .ok (.getfield 35, 3) := by decide +kernel
theorem dX5_read_99 : decode cX5_read 99 = .ok (.aload_n 0, 1) := by decide +kernel
theorem dX5_read_100 : decode cX5_read 100 = .ok (.getfield 25, 3) := by decide +kernel
theorem dX5_read_103 : decode cX5_read 103 = .ok (.iconst 0, 1) := by decide +kernel
theorem dX5_read_104 : decode cX5_read 104 = .ok (.ldc2_w 41, 3) := by decide +kernel
theorem dX5_read_107 : decode cX5_read 107 = .ok (.ldc2_w 41, 3) := by decide +kernel
theorem dX5_read_110 : decode cX5_read 110 = .ok (.invokevirtual 87, 3) := by decide +kernel
theorem dX5_read_113 : decode cX5_read 113 = .ok (.ifCond .ne 6, 3) := by decide +kernel
theorem dX5_read_116 : decode cX5_read 116 = .ok (.bipush 6, 2) := by decide +kernel
theorem dX5_read_118 : decode cX5_read 118 = .ok (.ireturn, 1) := by decide +kernel
theorem dX5_read_119 : decode cX5_read 119 = .ok (.aload_n 0, 1) := by decide +kernel
theorem dX5_read_120 : decode cX5_read 120 = .ok (.invokevirtual 93, 3) := by decide +kernel
theorem dX5_read_123 : decode cX5_read 123 = .ok (.iconst 0, 1) := by decide +kernel
theorem dX5_read_124 : decode cX5_read 124 = .ok (.ireturn, 1) := by decide +kernel
theorem dX5_scan_0 : decode cX5_scan 0 = .ok (.aload_n 0, 1) := by decide +kernel
theorem dX5_scan_1 : decode cX5_scan 1 = .ok (.iconst 0, 1) := by decide +kernel
theorem dX5_scan_2 : decode cX5_scan 2 = .ok (.putfield 28, 3) := by decide +kernel
theorem dX5_scan_5 : decode cX5_scan 5 = .ok (.aload_n 0, 1) := by decide +kernel
theorem dX5_scan_6 : decode cX5_scan 6 = .ok (.iconst 0, 1) := by decide +kernel
theorem dX5_scan_7 : decode cX5_scan 7 = .ok (.putfield 32, 3) := by decide +kernel
theorem dX5_scan_10 : decode cX5_scan 10 = .ok (.aload_n 0, 1) := by decide +kernel
theorem dX5_scan_11 : decode cX5_scan 11 = .ok (.iconst 0, 1) := by decide +kernel
theorem dX5_scan_12 : decode cX5_scan 12 = .ok (.putfield 35, 3) := by decide +kernel
theorem dX5_scan_15 : decode cX5_scan 15 = .ok (.aload_n 0, 1) := by decide +kernel
theorem dX5_scan_16 : decode cX5_scan 16 = .ok (.aload_n 0, 1) := by decide +kernel
theorem dX5_scan_17 : decode cX5_scan 17 = .ok (.getfield 47, 3) := by decide +kernel
theorem dX5_scan_20 : decode cX5_scan 20 = .ok (.getfield 84, 3) := by decide +kernel
theorem dX5_scan_23 : decode cX5_scan 23 = .ok (.putfield 38, 3) := by decide +kernel
theorem dX5_scan_26 : decode cX5_scan 26 = .ok (.iconst 0, 1) := by decide +kernel
theorem dX5_scan_27 : decode cX5_scan 27 = .ok (.istore_n 1, 1) := by decide +kernel
theorem dX5_scan_28 : decode cX5_scan 28 = .ok (.iload_n 1, 1) := by decide +kernel
theorem dX5_scan_29 : decode cX5_scan 29 = .ok (.sipush 2000, 3) := by decide +kernel
theorem dX5_scan_32 : decode cX5_scan 32 = .ok (.if_icmp .ge 53, 3) := by decide +kernel
theorem dX5_scan_35 : decode cX5_scan 35 = .ok (.aload_n 0, 1) := by decide +kernel
theorem dX5_scan_36 : decode cX5_scan 36 = .ok (.aload_n 0, 1) := by decide +kernel
theorem dX5_scan_37 : decode cX5_scan 37 = .ok (.getfield 47, 3) := by decide +kernel
theorem dX5_scan_40 : decode cX5_scan 40 = .ok (.aload_n 0, 1) := by decide +kernel
theorem dX5_scan_41 : decode cX5_scan 41 = .ok (.getfield 38, 3) := by decide +kernel
theorem dX5_scan_44 : decode cX5_scan 44 = .ok (.invokevirtual 96, 3) := by decide +kernel
theorem dX5_scan_47 : decode cX5_scan 47 = .ok (.putfield 38, 3) := by decide +kernel
theorem dX5_scan_50 : decode cX5_scan 50 = .ok (.aload_n 0, 1) := by decide +kernel
theorem dX5_scan_51 : decode cX5_scan 51 = .ok (.aload_n 0, 1) := by decide +kernel
theorem dX5_scan_52 : decode cX5_scan 52 = .ok (.getfield 47, 3) := by decide +kernel
theorem dX5_scan_55 : decode cX5_scan 55 = .ok (.aload_n 0, 1) := by decide +kernel
theorem dX5_scan_56 : decode cX5_scan 56 = .ok (.getfield 38, 3) := by decide +kernel
theorem dX5_scan_59 : decode cX5_scan 59 = .ok (.invokevirtual 100, 3) := by decide +kernel
theorem dX5_scan_62 : decode cX5_scan 62 = .ok (.invokevirtual 102, 3) := by decide +kernel
theorem dX5_scan_65 : decode cX5_scan 65 = .ok (.ifCond .ne 5, 3) := by decide +kernel
theorem dX5_scan_68 : decode cX5_scan 68 = .ok (.iconst 0, 1) := by decide +kernel
theorem dX5_scan_69 : decode cX5_scan 69 = .ok (.ireturn, 1) := by decide +kernel
theorem dX5_scan_70 : decode cX5_scan 70 = .ok (.aload_n 0, 1) := by decide +kernel
theorem dX5_scan_71 : decode cX5_scan 71 = .ok (.getfield 32, 3) := by decide +kernel
theorem dX5_scan_74 : decode cX5_scan 74 = .ok (.ifCond .ne 5, 3) := by decide +kernel
theorem dX5_scan_77 : decode cX5_scan 77 = .ok (.iconst 1, 1) := by decide +kernel
theorem dX5_scan_78 : decode cX5_scan 78 = .ok (.ireturn, 1) := by decide +kernel
theorem dX5_scan_79 : decode cX5_scan 79 = .ok (.iinc 1 1, 3) := by decide +kernel
theorem dX5_scan_82 : decode cX5_scan 82 = .ok (.goto (-54), 3) := by decide +kernel
theorem dX5_scan_85 : decode cX5_scan 85 = .ok (.iconst 0, 1) := by decide +kernel
theorem dX5_scan_86 : decode cX5_scan 86 = .ok (.ireturn, 1) := by decide +kernel
theorem dX5_takeToken_0 : decode cX5_takeToken 0 = .ok (.iload_n 1, 1) := by decide +kernel
theorem dX5_takeToken_1 : decode cX5_takeToken 1 = .ok (.bipush 41, 2) := by decide +kernel
theorem dX5_takeToken_3 : decode cX5_takeToken 3 = .ok (.if_icmp .ne 8, 3) := by decide +kernel
theorem dX5_takeToken_6 : decode cX5_takeToken 6 = .ok (.aload_n 0, 1) := by decide +kernel
theorem dX5_takeToken_7 : decode cX5_takeToken 7 = .ok (.invokevirtual 106, 3) := by decide +kernel
theorem dX5_takeToken_10 : decode cX5_takeToken 10 = .ok (.ireturn, 1) := by decide +kernel
theorem dX5_takeToken_11 : decode cX5_takeToken 11 = .ok (.iload_n 1, 1) := by decide +kernel
theorem dX5_takeToken_12 : decode cX5_takeToken 12 = .ok (.bipush 46, 2) := by decide +kernel
theorem dX5_takeToken_14 : decode cX5_takeToken 14 = .ok (.if_icmp .ne 8, 3) := by decide +kernel
theorem dX5_takeToken_17 : decode cX5_takeToken 17 = .ok (.aload_n 0, 1) := by decide +kernel
theorem dX5_takeToken_18 : decode cX5_takeToken 18 = .ok (.invokevirtual 109, 3) := by decide +kernel
theorem dX5_takeToken_21 : decode cX5_takeToken 21 = .ok (.ireturn, 1) := by decide +kernel
theorem dX5_takeToken_22 : decode cX5_takeToken 22 = .ok (.aload_n 0, 1) := by decide +kernel
theorem dX5_takeToken_23 : decode cX5_takeToken 23 = .ok (.invokevirtual 112, 3) := by decide +kernel
theorem dX5_takeToken_26 : decode cX5_takeToken 26 = .ok (.iconst 3, 1) := by decide +kernel
theorem dX5_takeToken_27 : decode cX5_takeToken 27 = .ok (.if_icmp .ne 5, 3) := by decide +kernel
theorem dX5_takeToken_30 : decode cX5_takeToken 30 = .ok (.iconst 0, 1) := by decide +kernel
theorem dX5_takeToken_31 : decode cX5_takeToken 31 = .ok (.ireturn, 1) := by decide +kernel
theorem dX5_takeToken_32 : decode cX5_takeToken 32 = .ok (.iload_n 1, 1) := by decide +kernel
theorem dX5_takeToken_33 : decode cX5_takeToken 33 = .ok (.bipush 40, 2) := by decide +kernel
theorem dX5_takeToken_35 : decode cX5_takeToken 35 = .ok (.if_icmp .ne 8, 3) := by decide +kernel
theorem dX5_takeToken_38 : decode cX5_takeToken 38 = .ok (.aload_n 0, 1) := by decide +kernel
theorem dX5_takeToken_39 : decode cX5_takeToken 39 = .ok (.invokevirtual 116, 3) := by decide +kernel
theorem dX5_takeToken_42 : decode cX5_takeToken 42 = .ok (.ireturn, 1) := by decide +kernel
theorem dX5_takeToken_43 : decode cX5_takeToken 43 = .ok (.iload_n 1, 1) := by decide +kernel
theorem dX5_takeToken_44 : decode cX5_takeToken 44 = .ok (.bipush 45, 2) := by decide +kernel
theorem dX5_takeToken_46 : decode cX5_takeToken 46 = .ok (.if_icmp .eq 10, 3) := by decide +kernel
theorem dX5_takeToken_49 : decode cX5_takeToken 49 = .ok (.iload_n 1, 1) := by decide +kernel
theorem dX5_takeToken_50 : decode cX5_takeToken 50 = .ok (.invokestatic 119, 3) := by decide +kernel
theorem dX5_takeToken_53 : decode cX5_takeToken 53 = .ok (.ifCond .eq 19, 3) := by decide +kernel
theorem dX5_takeToken_56 : decode cX5_takeToken 56 = .ok (.aload_n 0, 1) := by decide +kernel
theorem dX5_takeToken_57 : decode cX5_takeToken 57 = .ok (.iload_n 1, 1) := by decide +kernel
theorem dX5_takeToken_58 : decode cX5_takeToken 58 = .ok (.bipush 45, 2) := by decide +kernel
theorem dX5_takeToken_60 : decode cX5_takeToken 60 = .ok (.if_icmp .ne 7, 3) := by decide +kernel
theorem dX5_takeToken_63 : decode cX5_takeToken 63 = .ok (.iconst 1, 1) := by decide +kernel
theorem dX5_takeToken_64 : decode cX5_takeToken 64 = .ok (.goto 4, 3) := by decide +kernel
theorem dX5_takeToken_67 : decode cX5_takeToken 67 = .ok (.iconst 0, 1) := by decide +kernel
theorem dX5_takeToken_68 : decode cX5_takeToken 68 = .ok (.invokevirtual 122, 3) := by decide +kernel
theorem dX5_takeToken_71 : decode cX5_takeToken 71 = .ok (.ireturn, 1) := by decide +kernel
theorem dX5_takeToken_72 : decode cX5_takeToken 72 = .ok (.iload_n 1, 1) := by decide +kernel
theorem dX5_takeToken_73 : decode cX5_takeToken 73 = .ok (.invokestatic 126, 3) := by decide +kernel
theorem dX5_takeToken_76 : decode cX5_takeToken 76 = .ok (.ifCond .le 14, 3) := by decide +kernel
theorem dX5_takeToken_79 : decode cX5_takeToken 79 = .ok (.aload_n 0, 1) := by decide +kernel
theorem dX5_takeToken_80 : decode cX5_takeToken 80 = .ok (.invokevirtual 129, 3) := by decide +kernel
theorem dX5_takeToken_83 : decode cX5_takeToken 83 = .ok (.ifCond .eq 7, 3) := by decide +kernel
theorem dX5_takeToken_86 : decode cX5_takeToken 86 = .ok (.iconst 1, 1) := by decide +kernel
theorem dX5_takeToken_87 : decode cX5_takeToken 87 = .ok (.goto 4, 3) := by decide +kernel
theorem dX5_takeToken_90 : decode cX5_takeToken 90 = .ok (.iconst 0, 1) := by decide +kernel
theorem dX5_takeToken_91 : decode cX5_takeToken 91 = .ok (.ireturn, 1) := by decide +kernel
theorem dX5_isDigit_0 : decode cX5_isDigit 0 = .ok (.iload_n 0, 1) := by decide +kernel
theorem dX5_isDigit_1 : decode cX5_isDigit 1 = .ok (.bipush 48, 2) := by decide +kernel
theorem dX5_isDigit_3 : decode cX5_isDigit 3 = .ok (.if_icmp .lt 13, 3) := by decide +kernel
theorem dX5_isDigit_6 : decode cX5_isDigit 6 = .ok (.iload_n 0, 1) := by decide +kernel
theorem dX5_isDigit_7 : decode cX5_isDigit 7 = .ok (.bipush 57, 2) := by decide +kernel
theorem dX5_isDigit_9 : decode cX5_isDigit 9 = .ok (.if_icmp .gt 7, 3) := by decide +kernel
theorem dX5_isDigit_12 : decode cX5_isDigit 12 = .ok (.iconst 1, 1) := by decide +kernel
theorem dX5_isDigit_13 : decode cX5_isDigit 13 = .ok (.goto 4, 3) := by decide +kernel
theorem dX5_isDigit_16 : decode cX5_isDigit 16 = .ok (.iconst 0, 1) := by decide +kernel
theorem dX5_isDigit_17 : decode cX5_isDigit 17 = .ok (.ireturn, 1) := by decide +kernel
theorem dX5_state_0 : decode cX5_state 0 = .ok (.aload_n 0, 1) := by decide +kernel
theorem dX5_state_1 : decode cX5_state 1 = .ok (.getfield 32, 3) := by decide +kernel
theorem dX5_state_4 : decode cX5_state 4 = .ok (.ifCond .le 17, 3) := by decide +kernel
theorem dX5_state_7 : decode cX5_state 7 = .ok (.aload_n 0, 1) := by decide +kernel
theorem dX5_state_8 : decode cX5_state 8 = .ok (.getfield 15, 3) := by decide +kernel
theorem dX5_state_11 : decode cX5_state 11 = .ok (.aload_n 0, 1) := by decide +kernel
theorem dX5_state_12 : decode cX5_state 12 = .ok (.getfield 32, 3) := by decide +kernel
theorem dX5_state_15 : decode cX5_state 15 = .ok (.iconst 1, 1) := by decide +kernel
theorem dX5_state_16 : decode cX5_state 16 = .ok (.isub, 1) := by decide +kernel
theorem dX5_state_17 : decode cX5_state 17 = .ok (.iaload, 1) := by decide +kernel
theorem dX5_state_18 : decode cX5_state 18 = .ok (.goto 4, 3) := by decide +kernel
theorem dX5_state_21 : decode cX5_state 21 = .ok (.iconst 0, 1) := by decide +kernel
theorem dX5_state_22 : decode cX5_state 22 = .ok (.ireturn, 1) := by decide +kernel
theorem dX5_takeOpen_0 : decode cX5_takeOpen 0 = .ok (.aload_n 0, 1) := by decide +kernel
theorem dX5_takeOpen_1 : decode cX5_takeOpen 1 = .ok (.getfield 32, 3) := by decide +kernel
theorem dX5_takeOpen_4 : decode cX5_takeOpen 4 = .ok (.bipush 60, 2) := by decide +kernel
theorem dX5_takeOpen_6 : decode cX5_takeOpen 6 = .ok (.if_icmp .lt 5, 3) := by decide +kernel
theorem dX5_takeOpen_9 : decode cX5_takeOpen 9 = .ok (.iconst 0, 1) := by decide +kernel
theorem dX5_takeOpen_10 : decode cX5_takeOpen 10 = .ok (.ireturn, 1) := by decide +kernel
theorem dX5_takeOpen_11 : decode cX5_takeOpen 11 = .ok (.aload_n 0, 1) := by decide +kernel
theorem dX5_takeOpen_12 : decode cX5_takeOpen 12 = .ok (.getfield 15, 3) := by decide +kernel
theorem dX5_takeOpen_15 : decode cX5_takeOpen 15 = .ok (.aload_n 0, 1) := by decide +kernel
theorem dX5_takeOpen_16 : decode cX5_takeOpen 16 = .ok (.getfield 32, 3) := by decide +kernel
theorem dX5_takeOpen_19 : decode cX5_takeOpen 19 = .ok (.iconst 0, 1) := by decide +kernel
theorem dX5_takeOpen_20 : decode cX5_takeOpen 20 = .ok (.iastore, 1) := by decide +kernel
theorem dX5_takeOpen_21 : decode cX5_takeOpen 21 = .ok (.aload_n 0, 1) := by decide +kernel
theorem dX5_takeOpen_22 : decode cX5_takeOpen 22 = .ok (.dup, 1) := by decide +kernel
theorem dX5_takeOpen_23 : decode cX5_takeOpen 23 = .ok (.getfield 32, 3) := by decide +kernel
theorem dX5_takeOpen_26 : decode cX5_takeOpen 26 = .ok (.iconst 1, 1) := by decide +kernel
theorem dX5_takeOpen_27 : decode cX5_takeOpen 27 = .ok (.iadd, 1) := by decide +kernel
theorem dX5_takeOpen_28 : decode cX5_takeOpen 28 = .ok (.putfield 32, 3) := by decide +kernel
theorem dX5_takeOpen_31 : decode cX5_takeOpen 31 = .ok (.aload_n 0, 1) := by decide +kernel
theorem dX5_takeOpen_32 : decode cX5_takeOpen 32 = .ok (.dup, 1) := by decide +kernel
theorem dX5_takeOpen_33 : decode cX5_takeOpen 33 = .ok (.getfield 38, 3) := by decide +kernel
theorem dX5_takeOpen_36 : decode cX5_takeOpen 36 = .ok (.iconst 1, 1) := by decide +kernel
theorem dX5_takeOpen_37 : decode cX5_takeOpen 37 = .ok (.iadd, 1) := by decide +kernel
theorem dX5_takeOpen_38 : decode cX5_takeOpen 38 = .ok (.putfield 38, 3) := by decide +kernel
theorem dX5_takeOpen_41 : decode cX5_takeOpen 41 = .ok (.aload_n 0, 1) := by decide +kernel
theorem dX5_takeOpen_42 : decode cX5_takeOpen 42 = .ok (.ldc2_w 132, 3) := by decide +kernel
theorem dX5_takeOpen_45 : decode cX5_takeOpen 45 = .ok (.invokevirtual 134, 3) := by decide +kernel
theorem dX5_takeOpen_48 : decode cX5_takeOpen 48 = .ok (.ireturn, 1) := by decide +kernel
theorem dX5_takeClose_0 : decode cX5_takeClose 0 = .ok (.aload_n 0, 1) := by decide +kernel
theorem dX5_takeClose_1 : decode cX5_takeClose 1 = .ok (.getfield 32, 3) := by decide +kernel
theorem dX5_takeClose_4 : decode cX5_takeClose 4 = .ok (.ifCond .eq 11, 3) := by decide +kernel
theorem dX5_takeClose_7 : decode cX5_takeClose 7 = .ok (.aload_n 0, 1) := by decide +kernel
theorem dX5_takeClose_8 : decode cX5_takeClose 8 = .ok (.invokevirtual 112, 3) := by decide +kernel
theorem dX5_takeClose_11 : decode cX5_takeClose 11 = .ok (.iconst 2, 1) := by decide +kernel
theorem dX5_takeClose_12 : decode cX5_takeClose 12 = .ok (.if_icmp .ne 5, 3) := by decide +kernel
theorem dX5_takeClose_15 : decode cX5_takeClose 15 = .ok (.iconst 0, 1) := by decide +kernel
theorem dX5_takeClose_16 : decode cX5_takeClose 16 = .ok (.ireturn, 1) := by decide +kernel
theorem dX5_takeClose_17 : decode cX5_takeClose 17 = .ok (.aload_n 0, 1) := by decide +kernel
theorem dX5_takeClose_18 : decode cX5_takeClose 18 = .ok (.dup, 1) := by decide +kernel
theorem dX5_takeClose_19 : decode cX5_takeClose 19 = .ok (.getfield 32, 3) := by decide +kernel
theorem dX5_takeClose_22 : decode cX5_takeClose 22 = .ok (.iconst 1, 1) := by decide +kernel
theorem dX5_takeClose_23 : decode cX5_takeClose 23 = .ok (.isub, 1) := by decide +kernel
theorem dX5_takeClose_24 : decode cX5_takeClose 24 = .ok (.putfield 32, 3) := by decide +kernel
theorem dX5_takeClose_27 : decode cX5_takeClose 27 = .ok (.aload_n 0, 1) := by decide +kernel
theorem dX5_takeClose_28 : decode cX5_takeClose 28 = .ok (.dup, 1) := by decide +kernel
theorem dX5_takeClose_29 : decode cX5_takeClose 29 = .ok (.getfield 38, 3) := by decide +kernel
theorem dX5_takeClose_32 : decode cX5_takeClose 32 = .ok (.iconst 1, 1) := by decide +kernel
theorem dX5_takeClose_33 : decode cX5_takeClose 33 = .ok (.iadd, 1) := by decide +kernel
theorem dX5_takeClose_34 : decode cX5_takeClose 34 = .ok (.putfield 38, 3) := by decide +kernel
theorem dX5_takeClose_37 : decode cX5_takeClose 37 = .ok (.aload_n 0, 1) := by decide +kernel
theorem dX5_takeClose_38 : decode cX5_takeClose 38 = .ok (.invokevirtual 138, 3) := by decide +kernel
theorem dX5_takeClose_41 : decode cX5_takeClose 41 = .ok (.aload_n 0, 1) := by decide +kernel
theorem dX5_takeClose_42 : decode cX5_takeClose 42 = .ok (.ldc2_w 141, 3) := by decide +kernel
theorem dX5_takeClose_45 : decode cX5_takeClose 45 = .ok (.invokevirtual 134, 3) := by decide +kernel
theorem dX5_takeClose_48 : decode cX5_takeClose 48 = .ok (.ireturn, 1) := by decide +kernel
theorem dX5_takeDot_0 : decode cX5_takeDot 0 = .ok (.aload_n 0, 1) := by decide +kernel
theorem dX5_takeDot_1 : decode cX5_takeDot 1 = .ok (.getfield 32, 3) := by decide +kernel
theorem dX5_takeDot_4 : decode cX5_takeDot 4 = .ok (.ifCond .eq 11, 3) := by decide +kernel
theorem dX5_takeDot_7 : decode cX5_takeDot 7 = .ok (.aload_n 0, 1) := by decide +kernel
theorem dX5_takeDot_8 : decode cX5_takeDot 8 = .ok (.invokevirtual 112, 3) := by decide +kernel
theorem dX5_takeDot_11 : decode cX5_takeDot 11 = .ok (.iconst 1, 1) := by decide +kernel
theorem dX5_takeDot_12 : decode cX5_takeDot 12 = .ok (.if_icmp .eq 5, 3) := by decide +kernel
theorem dX5_takeDot_15 : decode cX5_takeDot 15 = .ok (.iconst 0, 1) := by decide +kernel
theorem dX5_takeDot_16 : decode cX5_takeDot 16 = .ok (.ireturn, 1) := by decide +kernel
theorem dX5_takeDot_17 : decode cX5_takeDot 17 = .ok (.aload_n 0, 1) := by decide +kernel
theorem dX5_takeDot_18 : decode cX5_takeDot 18 = .ok (.getfield 15, 3) := by decide +kernel
theorem dX5_takeDot_21 : decode cX5_takeDot 21 = .ok (.aload_n 0, 1) := by decide +kernel
theorem dX5_takeDot_22 : decode cX5_takeDot 22 = .ok (.getfield 32, 3) := by decide +kernel
theorem dX5_takeDot_25 : decode cX5_takeDot 25 = .ok (.iconst 1, 1) := by decide +kernel
theorem dX5_takeDot_26 : decode cX5_takeDot 26 = .ok (.isub, 1) := by decide +kernel
theorem dX5_takeDot_27 : decode cX5_takeDot 27 = .ok (.iconst 2, 1) := by decide +kernel
theorem dX5_takeDot_28 : decode cX5_takeDot 28 = .ok (.iastore, 1) := by decide +kernel
theorem dX5_takeDot_29 : decode cX5_takeDot 29 = .ok (.aload_n 0, 1) := by decide +kernel
theorem dX5_takeDot_30 : decode cX5_takeDot 30 = .ok (.dup, 1) := by decide +kernel
theorem dX5_takeDot_31 : decode cX5_takeDot 31 = .ok (.getfield 38, 3) := by decide +kernel
theorem dX5_takeDot_34 : decode cX5_takeDot 34 = .ok (.iconst 1, 1) := by decide +kernel
theorem dX5_takeDot_35 : decode cX5_takeDot 35 = .ok (.iadd, 1) := by decide +kernel
theorem dX5_takeDot_36 : decode cX5_takeDot 36 = .ok (.putfield 38, 3) := by decide +kernel
theorem dX5_takeDot_39 : decode cX5_takeDot 39 = .ok (.aload_n 0, 1) := by decide +kernel
theorem dX5_takeDot_40 : decode cX5_takeDot 40 = .ok (.ldc2_w 143, 3) := by decide +kernel
theorem dX5_takeDot_43 : decode cX5_takeDot 43 = .ok (.invokevirtual 134, 3) := by decide +kernel
theorem dX5_takeDot_46 : decode cX5_takeDot 46 = .ok (.ireturn, 1) := by decide +kernel
theorem dX5_takeNumber_0 : decode cX5_takeNumber 0 = .ok (.iload_n 1, 1) := by decide +kernel
theorem dX5_takeNumber_1 : decode cX5_takeNumber 1 = .ok (.ifCond .eq 13, 3) := by decide +kernel
theorem dX5_takeNumber_4 : decode cX5_takeNumber 4 = .ok (.aload_n 0, 1) := by decide +kernel
theorem dX5_takeNumber_5 : decode cX5_takeNumber 5 = .ok (.dup, 1) := by decide +kernel
theorem dX5_takeNumber_6 : decode cX5_takeNumber 6 = .ok (.getfield 38, 3) := by decide +kernel
theorem dX5_takeNumber_9 : decode cX5_takeNumber 9 = .ok (.iconst 1, 1) := by decide +kernel
theorem dX5_takeNumber_10 : decode cX5_takeNumber 10 = .ok (.iadd, 1) := by decide +kernel
theorem dX5_takeNumber_11 : decode cX5_takeNumber 11 = .ok (.putfield 38, 3) := by decide +kernel
theorem dX5_takeNumber_14 : decode cX5_takeNumber 14 = .ok (.iconst 0, 1) := by decide +kernel
theorem dX5_takeNumber_15 : decode cX5_takeNumber 15 = .ok (.istore_n 2, 1) := by decide +kernel
theorem dX5_takeNumber_16 : decode cX5_takeNumber 16 = .ok (.iconst 0, 1) := by decide +kernel
theorem dX5_takeNumber_17 : decode cX5_takeNumber 17 = .ok (.istore_n 3, 1) := by decide +kernel
theorem dX5_takeNumber_18 : decode cX5_takeNumber 18 = .ok (.iload_n 2, 1) := by decide +kernel
theorem dX5_takeNumber_19 : decode cX5_takeNumber 19 = .ok (.bipush 9, 2) := by decide +kernel
theorem dX5_takeNumber_21 : decode cX5_takeNumber 21 = .ok (.if_icmp .ge 56, 3) := by decide +kernel
theorem dX5_takeNumber_24 : decode cX5_takeNumber 24 = .ok (.aload_n 0, 1) := by decide +kernel
theorem dX5_takeNumber_25 : decode cX5_takeNumber 25 = .ok (.getfield 47, 3) := by decide +kernel
theorem dX5_takeNumber_28 : decode cX5_takeNumber 28 = .ok (.aload_n 0, 1) := by decide +kernel
theorem dX5_takeNumber_29 : decode cX5_takeNumber 29 = .ok (.getfield 38, 3) := by decide +kernel
theorem dX5_takeNumber_32 : decode cX5_takeNumber 32 = .ok (.invokevirtual 100, 3) := by decide +kernel
theorem dX5_takeNumber_35 : decode cX5_takeNumber 35 = .ok (.invokestatic 119, 3) := by decide +kernel
theorem dX5_takeNumber_38 : decode cX5_takeNumber 38 = .ok (.ifCond .eq 39, 3) := by decide +kernel
theorem dX5_takeNumber_41 : decode cX5_takeNumber 41 = .ok (.iload_n 3, 1) := by decide +kernel
theorem dX5_takeNumber_42 : decode cX5_takeNumber 42 = .ok (.bipush 10, 2) := by decide +kernel
theorem dX5_takeNumber_44 : decode cX5_takeNumber 44 = .ok (.imul, 1) := by decide +kernel
theorem dX5_takeNumber_45 : decode cX5_takeNumber 45 = .ok (.aload_n 0, 1) := by decide +kernel
theorem dX5_takeNumber_46 : decode cX5_takeNumber 46 = .ok (.getfield 47, 3) := by decide +kernel
theorem dX5_takeNumber_49 : decode cX5_takeNumber 49 = .ok (.aload_n 0, 1) := by decide +kernel
theorem dX5_takeNumber_50 : decode cX5_takeNumber 50 = .ok (.getfield 38, 3) := by decide +kernel
theorem dX5_takeNumber_53 : decode cX5_takeNumber 53 = .ok (.invokevirtual 100, 3) := by decide +kernel
theorem dX5_takeNumber_56 : decode cX5_takeNumber 56 = .ok (.iadd, 1) := by decide +kernel
theorem dX5_takeNumber_57 : decode cX5_takeNumber 57 = .ok (.bipush 48, 2) := by decide +kernel
theorem dX5_takeNumber_59 : decode cX5_takeNumber 59 = .ok (.isub, 1) := by decide +kernel
theorem dX5_takeNumber_60 : decode cX5_takeNumber 60 = .ok (.istore_n 3, 1) := by decide +kernel
theorem dX5_takeNumber_61 : decode cX5_takeNumber 61 = .ok (.iinc 2 1, 3) := by decide +kernel
theorem dX5_takeNumber_64 : decode cX5_takeNumber 64 = .ok (.aload_n 0, 1) := by decide +kernel
theorem dX5_takeNumber_65 : decode cX5_takeNumber 65 = .ok (.dup, 1) := by decide +kernel
theorem dX5_takeNumber_66 : decode cX5_takeNumber 66 = .ok (.getfield 38, 3) := by decide +kernel
theorem dX5_takeNumber_69 : decode cX5_takeNumber 69 = .ok (.iconst 1, 1) := by decide +kernel
theorem dX5_takeNumber_70 : decode cX5_takeNumber 70 = .ok (.iadd, 1) := by decide +kernel
theorem dX5_takeNumber_71 : decode cX5_takeNumber 71 = .ok (.putfield 38, 3) := by decide +kernel
theorem dX5_takeNumber_74 : decode cX5_takeNumber 74 = .ok (.goto (-56), 3) := by decide +kernel
theorem dX5_takeNumber_77 : decode cX5_takeNumber 77 = .ok (.iload_n 2, 1) := by decide +kernel
theorem dX5_takeNumber_78 : decode cX5_takeNumber 78 = .ok (.ifCond .eq 20, 3) := by decide +kernel
theorem dX5_takeNumber_81 : decode cX5_takeNumber 81 = .ok (.aload_n 0, 1) := by decide +kernel
theorem dX5_takeNumber_82 : decode cX5_takeNumber 82 = .ok (.getfield 47, 3) := by decide +kernel
theorem dX5_takeNumber_85 : decode cX5_takeNumber 85 = .ok (.aload_n 0, 1) := by decide +kernel
theorem dX5_takeNumber_86 : decode cX5_takeNumber 86 = .ok (.getfield 38, 3) := by decide +kernel
theorem dX5_takeNumber_89 : decode cX5_takeNumber 89 = .ok (.invokevirtual 100, 3) := by decide +kernel
theorem dX5_takeNumber_92 : decode cX5_takeNumber 92 = .ok (.invokestatic 119, 3) := by decide +kernel
theorem dX5_takeNumber_95 : decode cX5_takeNumber 95 = .ok (.ifCond .eq 5, 3) := by decide +kernel
theorem dX5_takeNumber_98 : decode cX5_takeNumber 98 = .ok (.iconst 0, 1) := by decide +kernel
theorem dX5_takeNumber_99 : decode cX5_takeNumber 99 = .ok (.ireturn, 1) := by decide +kernel
theorem dX5_takeNumber_100 : decode cX5_takeNumber 100 = .ok (.aload_n 0, 1) := by decide +kernel
theorem dX5_takeNumber_101 : decode cX5_takeNumber 101 = .ok (.invokevirtual 138, 3) := by decide +kernel
theorem dX5_takeNumber_104 : decode cX5_takeNumber 104 = .ok (.aload_n 0, 1) := by decide +kernel
theorem dX5_takeNumber_105 : decode cX5_takeNumber 105 = .ok (.iload_n 1, 1) := by decide +kernel
theorem dX5_takeNumber_106 : decode cX5_takeNumber 106 = .ok (.ifCond .eq 9, 3) := by decide +kernel
theorem dX5_takeNumber_109 : decode cX5_takeNumber 109 = .ok (.iload_n 3, 1) := by decide +kernel
theorem dX5_takeNumber_110 : decode cX5_takeNumber 110 = .ok (.ineg, 1) := by decide +kernel
theorem dX5_takeNumber_111 : decode cX5_takeNumber 111 = .ok (.i2l, 1) := by decide +kernel
theorem dX5_takeNumber_112 : decode cX5_takeNumber 112 = .ok (.goto 5, 3) := by decide +kernel
theorem dX5_takeNumber_115 : decode cX5_takeNumber 115 = .ok (.iload_n 3, 1) := by decide +kernel
theorem dX5_takeNumber_116 : decode cX5_takeNumber 116 = .ok (.i2l, 1) := by decide +kernel
theorem dX5_takeNumber_117 : decode cX5_takeNumber 117 = .ok (.invokevirtual 134, 3) := by decide +kernel
theorem dX5_takeNumber_120 : decode cX5_takeNumber 120 = .ok (.ireturn, 1) := by decide +kernel
theorem dX5_takeName_0 : decode cX5_takeName 0 = .ok (.iconst 0, 1) := by decide +kernel
theorem dX5_takeName_1 : decode cX5_takeName 1 = .ok (.istore_n 1, 1) := by decide +kernel
theorem dX5_takeName_2 : decode cX5_takeName 2 = .ok (.lconst 0, 1) := by decide +kernel
theorem dX5_takeName_3 : decode cX5_takeName 3 = .ok (.lstore_n 2, 1) := by decide +kernel
theorem dX5_takeName_4 : decode cX5_takeName 4 = .ok (.iload_n 1, 1) := by decide +kernel
theorem dX5_takeName_5 : decode cX5_takeName 5 = .ok (.bipush 12, 2) := by decide +kernel
theorem dX5_takeName_7 : decode cX5_takeName 7 = .ok (.if_icmp .ge 58, 3) := by decide +kernel
theorem dX5_takeName_10 : decode cX5_takeName 10 = .ok (.aload_n 0, 1) := by decide +kernel
theorem dX5_takeName_11 : decode cX5_takeName 11 = .ok (.getfield 47, 3) := by decide +kernel
theorem dX5_takeName_14 : decode cX5_takeName 14 = .ok (.aload_n 0, 1) := by decide +kernel
theorem dX5_takeName_15 : decode cX5_takeName 15 = .ok (.getfield 38, 3) := by decide +kernel
theorem dX5_takeName_18 : decode cX5_takeName 18 = .ok (.invokevirtual 100, 3) := by decide +kernel
theorem dX5_takeName_21 : decode cX5_takeName 21 = .ok (.invokestatic 126, 3) := by decide +kernel
theorem dX5_takeName_24 : decode cX5_takeName 24 = .ok (.ifCond .le 41, 3) := by decide +kernel
theorem dX5_takeName_27 : decode cX5_takeName 27 = .ok (.lload_n 2, 1) := by decide +kernel
theorem dX5_takeName_28 : decode cX5_takeName 28 = .ok (.ldc2_w 145, 3) := by decide +kernel
theorem dX5_takeName_31 : decode cX5_takeName 31 = .ok (.lmul, 1) := by decide +kernel
theorem dX5_takeName_32 : decode cX5_takeName 32 = .ok (.aload_n 0, 1) := by decide +kernel
theorem dX5_takeName_33 : decode cX5_takeName 33 = .ok (.getfield 47, 3) := by decide +kernel
theorem dX5_takeName_36 : decode cX5_takeName 36 = .ok (.aload_n 0, 1) := by decide +kernel
theorem dX5_takeName_37 : decode cX5_takeName 37 = .ok (.getfield 38, 3) := by decide +kernel
theorem dX5_takeName_40 : decode cX5_takeName 40 = .ok (.invokevirtual 100, 3) := by decide +kernel
theorem dX5_takeName_43 : decode cX5_takeName 43 = .ok (.invokestatic 126, 3) := by decide +kernel
theorem dX5_takeName_46 : decode cX5_takeName 46 = .ok (.i2l, 1) := by decide +kernel
theorem dX5_takeName_47 : decode cX5_takeName 47 = .ok (.ladd, 1) := by decide +kernel
theorem dX5_takeName_48 : decode cX5_takeName 48 = .ok (.lstore_n 2, 1) := by decide +kernel
theorem dX5_takeName_49 : decode cX5_takeName 49 = .ok (.iinc 1 1, 3) := by decide +kernel
theorem dX5_takeName_52 : decode cX5_takeName 52 = .ok (.aload_n 0, 1) := by decide +kernel
theorem dX5_takeName_53 : decode cX5_takeName 53 = .ok (.dup, 1) := by decide +kernel
theorem dX5_takeName_54 : decode cX5_takeName 54 = .ok (.getfield 38, 3) := by decide +kernel
theorem dX5_takeName_57 : decode cX5_takeName 57 = .ok (.iconst 1, 1) := by decide +kernel
theorem dX5_takeName_58 : decode cX5_takeName 58 = .ok (.iadd, 1) := by decide +kernel
theorem dX5_takeName_59 : decode cX5_takeName 59 = .ok (.putfield 38, 3) := by decide +kernel
theorem dX5_takeName_62 : decode cX5_takeName 62 = .ok (.goto (-58), 3) := by decide +kernel
theorem dX5_takeName_65 : decode cX5_takeName 65 = .ok (.aload_n 0, 1) := by decide +kernel
theorem dX5_takeName_66 : decode cX5_takeName 66 = .ok (.getfield 47, 3) := by decide +kernel
theorem dX5_takeName_69 : decode cX5_takeName 69 = .ok (.aload_n 0, 1) := by decide +kernel
theorem dX5_takeName_70 : decode cX5_takeName 70 = .ok (.getfield 38, 3) := by decide +kernel
theorem dX5_takeName_73 : decode cX5_takeName 73 = .ok (.invokevirtual 100, 3) := by decide +kernel
theorem dX5_takeName_76 : decode cX5_takeName 76 = .ok (.invokestatic 126, 3) := by decide +kernel
theorem dX5_takeName_79 : decode cX5_takeName 79 = .ok (.ifCond .le 5, 3) := by decide +kernel
theorem dX5_takeName_82 : decode cX5_takeName 82 = .ok (.iconst 0, 1) := by decide +kernel
theorem dX5_takeName_83 : decode cX5_takeName 83 = .ok (.ireturn, 1) := by decide +kernel
theorem dX5_takeName_84 : decode cX5_takeName 84 = .ok (.aload_n 0, 1) := by decide +kernel
theorem dX5_takeName_85 : decode cX5_takeName 85 = .ok (.invokevirtual 138, 3) := by decide +kernel
theorem dX5_takeName_88 : decode cX5_takeName 88 = .ok (.aload_n 0, 1) := by decide +kernel
theorem dX5_takeName_89 : decode cX5_takeName 89 = .ok (.aload_n 0, 1) := by decide +kernel
theorem dX5_takeName_90 : decode cX5_takeName 90 = .ok (.getfield 51, 3) := by decide +kernel
theorem dX5_takeName_93 : decode cX5_takeName 93 = .ok (.lload_n 2, 1) := by decide +kernel
theorem dX5_takeName_94 : decode cX5_takeName 94 = .ok (.invokevirtual 147, 3) := by decide +kernel
theorem dX5_takeName_97 : decode cX5_takeName 97 = .ok (.invokevirtual 134, 3) := by decide +kernel
theorem dX5_takeName_100 : decode cX5_takeName 100 = .ok (.ireturn, 1) := by decide +kernel
theorem dX5_noteExpression_0 : decode cX5_noteExpression 0 = .ok (.aload_n 0, 1) := by decide +kernel
theorem dX5_noteExpression_1 : decode cX5_noteExpression 1 = .ok (.getfield 32, 3) := by decide +kernel
theorem dX5_noteExpression_4 : decode cX5_noteExpression 4 = .ok (.ifCond .ne 4, 3) := by decide +kernel
theorem dX5_noteExpression_7 : decode cX5_noteExpression 7 = .ok (.return_, 1) := by decide +kernel
theorem dX5_noteExpression_8 : decode cX5_noteExpression 8 = .ok (.aload_n 0, 1) := by decide +kernel
theorem dX5_noteExpression_9 : decode cX5_noteExpression 9 = .ok (.invokevirtual 112, 3) := by decide +kernel
theorem dX5_noteExpression_12 : decode cX5_noteExpression 12 = .ok (.iconst 2, 1) := by decide +kernel
theorem dX5_noteExpression_13 : decode cX5_noteExpression 13 = .ok (.if_icmp .ne 18, 3) := by decide +kernel
theorem dX5_noteExpression_16 : decode cX5_noteExpression 16 = .ok (.aload_n 0, 1) := by decide +kernel
theorem dX5_noteExpression_17 : decode cX5_noteExpression 17 = .ok (.getfield 15, 3) := by decide +kernel
theorem dX5_noteExpression_20 : decode cX5_noteExpression 20 = .ok (.aload_n 0, 1) := by decide +kernel
theorem dX5_noteExpression_21 : decode cX5_noteExpression 21 = .ok (.getfield 32, 3) := by decide +kernel
theorem dX5_noteExpression_24 : decode cX5_noteExpression 24 = .ok (.iconst 1, 1) := by decide +kernel
theorem dX5_noteExpression_25 : decode cX5_noteExpression 25 = .ok (.isub, 1) := by decide +kernel
theorem dX5_noteExpression_26 : decode cX5_noteExpression 26 = .ok (.iconst 3, 1) := by decide +kernel
theorem dX5_noteExpression_27 : decode cX5_noteExpression 27 = .ok (.iastore, 1) := by decide +kernel
theorem dX5_noteExpression_28 : decode cX5_noteExpression 28 = .ok (.goto 25, 3) := by decide +kernel
theorem dX5_noteExpression_31 : decode cX5_noteExpression 31 = .ok (.aload_n 0, 1) := by decide +kernel
theorem dX5_noteExpression_32 : decode cX5_noteExpression 32 = .ok (.getfield 15, 3) := by decide +kernel
theorem dX5_noteExpression_35 : decode cX5_noteExpression 35 = .ok (.aload_n 0, 1) := by decide +kernel
theorem dX5_noteExpression_36 : decode cX5_noteExpression 36 = .ok (.getfield 32, 3) := by decide +kernel
theorem dX5_noteExpression_39 : decode cX5_noteExpression 39 = .ok (.iconst 1, 1) := by decide +kernel
theorem dX5_noteExpression_40 : decode cX5_noteExpression 40 = .ok (.isub, 1) := by decide +kernel
theorem dX5_noteExpression_41 : decode cX5_noteExpression 41 = .ok (.iconst 1, 1) := by decide +kernel
theorem dX5_noteExpression_42 : decode cX5_noteExpression 42 = .ok (.iastore, 1) := by decide +kernel
theorem dX5_noteExpression_43 : decode cX5_noteExpression 43 = .ok (.aload_n 0, 1) := by decide +kernel
theorem dX5_noteExpression_44 : decode cX5_noteExpression 44 = .ok (.dup, 1) := by decide +kernel
theorem dX5_noteExpression_45 : decode cX5_noteExpression 45 = .ok (.getfield 35, 3) := by decide +kernel
theorem dX5_noteExpression_48 : decode cX5_noteExpression 48 = .ok (.iconst 1, 1) := by decide +kernel
theorem dX5_noteExpression_49 : decode cX5_noteExpression 49 = .ok (.iadd, 1) := by decide +kernel
theorem dX5_noteExpression_50 : decode cX5_noteExpression 50 = .ok (.putfield 35, 3) := by decide +kernel
theorem dX5_noteExpression_53 : decode cX5_noteExpression 53 = .ok (.return_, 1) := by decide +kernel
theorem dX5_keep_0 : decode cX5_keep 0 = .ok (.aload_n 0, 1) := by decide +kernel
theorem dX5_keep_1 : decode cX5_keep 1 = .ok (.getfield 28, 3) := by decide +kernel
theorem dX5_keep_4 : decode cX5_keep 4 = .ok (.sipush 2000, 3) := by decide +kernel
theorem dX5_keep_7 : decode cX5_keep 7 = .ok (.if_icmp .lt 5, 3) := by decide +kernel
theorem dX5_keep_10 : decode cX5_keep 10 = .ok (.iconst 0, 1) := by decide +kernel
theorem dX5_keep_11 : decode cX5_keep 11 = .ok (.ireturn, 1) := by decide +kernel
theorem dX5_keep_12 : decode cX5_keep 12 = .ok (.aload_n 0, 1) := by decide +kernel
theorem dX5_keep_13 : decode cX5_keep 13 = .ok (.getfield 9, 3) := by decide +kernel
theorem dX5_keep_16 : decode cX5_keep 16 = .ok (.aload_n 0, 1) := by decide +kernel
theorem dX5_keep_17 : decode cX5_keep 17 = .ok (.getfield 28, 3) := by decide +kernel
theorem dX5_keep_20 : decode cX5_keep 20 = .ok (.lload_n 1, 1) := by decide +kernel
theorem dX5_keep_21 : decode cX5_keep 21 = .ok (.lastore, 1) := by decide +kernel
theorem dX5_keep_22 : decode cX5_keep 22 = .ok (.aload_n 0, 1) := by decide +kernel
theorem dX5_keep_23 : decode cX5_keep 23 = .ok (.dup, 1) := by decide +kernel
theorem dX5_keep_24 : decode cX5_keep 24 = .ok (.getfield 28, 3) := by decide +kernel
theorem dX5_keep_27 : decode cX5_keep 27 = .ok (.iconst 1, 1) := by decide +kernel
theorem dX5_keep_28 : decode cX5_keep 28 = .ok (.iadd, 1) := by decide +kernel
theorem dX5_keep_29 : decode cX5_keep 29 = .ok (.putfield 28, 3) := by decide +kernel
theorem dX5_keep_32 : decode cX5_keep 32 = .ok (.iconst 1, 1) := by decide +kernel
theorem dX5_keep_33 : decode cX5_keep 33 = .ok (.ireturn, 1) := by decide +kernel
theorem dX5_build_0 : decode cX5_build 0 = .ok (.aload_n 0, 1) := by decide +kernel
theorem dX5_build_1 : decode cX5_build 1 = .ok (.iconst 0, 1) := by decide +kernel
theorem dX5_build_2 : decode cX5_build 2 = .ok (.putfield 32, 3) := by decide +kernel
theorem dX5_build_5 : decode cX5_build 5 = .ok (.iconst 0, 1) := by decide +kernel
theorem dX5_build_6 : decode cX5_build 6 = .ok (.istore_n 1, 1) := by decide +kernel
theorem dX5_build_7 : decode cX5_build 7 = .ok (.iload_n 1, 1) := by decide +kernel
theorem dX5_build_8 : decode cX5_build 8 = .ok (.aload_n 0, 1) := by decide +kernel
theorem dX5_build_9 : decode cX5_build 9 = .ok (.getfield 28, 3) := by decide +kernel
theorem dX5_build_12 : decode cX5_build 12 = .ok (.if_icmp .ge 66, 3) := by decide +kernel
theorem dX5_build_15 : decode cX5_build 15 = .ok (.aload_n 0, 1) := by decide +kernel
theorem dX5_build_16 : decode cX5_build 16 = .ok (.getfield 9, 3) := by decide +kernel
theorem dX5_build_19 : decode cX5_build 19 = .ok (.iload_n 1, 1) := by decide +kernel
theorem dX5_build_20 : decode cX5_build 20 = .ok (.laload, 1) := by decide +kernel
theorem dX5_build_21 : decode cX5_build 21 = .ok (.lstore_n 2, 1) := by decide +kernel
theorem dX5_build_22 : decode cX5_build 22 = .ok (.lload_n 2, 1) := by decide +kernel
theorem dX5_build_23 : decode cX5_build 23 = .ok (.ldc2_w 132, 3) := by decide +kernel
theorem dX5_build_26 : decode cX5_build 26 = .ok (.lcmp, 1) := by decide +kernel
theorem dX5_build_27 : decode cX5_build 27 = .ok (.ifCond .ne 10, 3) := by decide +kernel
theorem dX5_build_30 : decode cX5_build 30 = .ok (.aload_n 0, 1) := by decide +kernel
theorem dX5_build_31 : decode cX5_build 31 = .ok (.invokevirtual 151, 3) := by decide +kernel
theorem dX5_build_34 : decode cX5_build 34 = .ok (.goto 38, 3) := by decide +kernel
theorem dX5_build_37 : decode cX5_build 37 = .ok (.lload_n 2, 1) := by decide +kernel
theorem dX5_build_38 : decode cX5_build 38 = .ok (.ldc2_w 143, 3) := by decide +kernel
theorem dX5_build_41 : decode cX5_build 41 = .ok (.lcmp, 1) := by decide +kernel
theorem dX5_build_42 : decode cX5_build 42 = .ok (.ifCond .ne 10, 3) := by decide +kernel
theorem dX5_build_45 : decode cX5_build 45 = .ok (.aload_n 0, 1) := by decide +kernel
theorem dX5_build_46 : decode cX5_build 46 = .ok (.invokevirtual 154, 3) := by decide +kernel
theorem dX5_build_49 : decode cX5_build 49 = .ok (.goto 23, 3) := by decide +kernel
theorem dX5_build_52 : decode cX5_build 52 = .ok (.lload_n 2, 1) := by decide +kernel
theorem dX5_build_53 : decode cX5_build 53 = .ok (.ldc2_w 141, 3) := by decide +kernel
theorem dX5_build_56 : decode cX5_build 56 = .ok (.lcmp, 1) := by decide +kernel
theorem dX5_build_57 : decode cX5_build 57 = .ok (.ifCond .ne 10, 3) := by decide +kernel
theorem dX5_build_60 : decode cX5_build 60 = .ok (.aload_n 0, 1) := by decide +kernel
theorem dX5_build_61 : decode cX5_build 61 = .ok (.invokevirtual 157, 3) := by decide +kernel
theorem dX5_build_64 : decode cX5_build 64 = .ok (.goto 8, 3) := by decide +kernel
theorem dX5_build_67 : decode cX5_build 67 = .ok (.aload_n 0, 1) := by decide +kernel
theorem dX5_build_68 : decode cX5_build 68 = .ok (.lload_n 2, 1) := by decide +kernel
theorem dX5_build_69 : decode cX5_build 69 = .ok (.invokevirtual 160, 3) := by decide +kernel
theorem dX5_build_72 : decode cX5_build 72 = .ok (.iinc 1 1, 3) := by decide +kernel
theorem dX5_build_75 : decode cX5_build 75 = .ok (.goto (-68), 3) := by decide +kernel
theorem dX5_build_78 : decode cX5_build 78 = .ok (.return_, 1) := by decide +kernel
theorem dX5_openList_0 : decode cX5_openList 0 = .ok (.aload_n 0, 1) := by decide +kernel
theorem dX5_openList_1 : decode cX5_openList 1 = .ok (.getfield 32, 3) := by decide +kernel
theorem dX5_openList_4 : decode cX5_openList 4 = .ok (.bipush 60, 2) := by decide +kernel
theorem dX5_openList_6 : decode cX5_openList 6 = .ok (.if_icmp .ge 47, 3) := by decide +kernel
theorem dX5_openList_9 : decode cX5_openList 9 = .ok (.aload_n 0, 1) := by decide +kernel
theorem dX5_openList_10 : decode cX5_openList 10 = .ok (.getfield 19, 3) := by decide +kernel
theorem dX5_openList_13 : decode cX5_openList 13 = .ok (.aload_n 0, 1) := by decide +kernel
theorem dX5_openList_14 : decode cX5_openList 14 = .ok (.getfield 32, 3) := by decide +kernel
theorem dX5_openList_17 : decode cX5_openList 17 = .ok (.ldc2_w 41, 3) := by decide +kernel
theorem dX5_openList_20 : decode cX5_openList 20 = .ok (.lastore, 1) := by decide +kernel
theorem dX5_openList_21 : decode cX5_openList 21 = .ok (.aload_n 0, 1) := by decide +kernel
theorem dX5_openList_22 : decode cX5_openList 22 = .ok (.getfield 22, 3) := by decide +kernel
theorem dX5_openList_25 : decode cX5_openList 25 = .ok (.aload_n 0, 1) := by decide +kernel
theorem dX5_openList_26 : decode cX5_openList 26 = .ok (.getfield 32, 3) := by decide +kernel
theorem dX5_openList_29 : decode cX5_openList 29 = .ok (.ldc2_w 41, 3) := by decide +kernel
theorem dX5_openList_32 : decode cX5_openList 32 = .ok (.lastore, 1) := by decide +kernel
theorem dX5_openList_33 : decode cX5_openList 33 = .ok (.aload_n 0, 1) := by decide +kernel
theorem dX5_openList_34 : decode cX5_openList 34 = .ok (.getfield 15, 3) := by decide +kernel
theorem dX5_openList_37 : decode cX5_openList 37 = .ok (.aload_n 0, 1) := by decide +kernel
theorem dX5_openList_38 : decode cX5_openList 38 = .ok (.getfield 32, 3) := by decide +kernel
theorem dX5_openList_41 : decode cX5_openList 41 = .ok (.iconst 0, 1) := by decide +kernel
theorem dX5_openList_42 : decode cX5_openList 42 = .ok (.iastore, 1) := by decide +kernel
theorem dX5_openList_43 : decode cX5_openList 43 = .ok (.aload_n 0, 1) := by decide +kernel
theorem dX5_openList_44 : decode cX5_openList 44 = .ok (.dup, 1) := by decide +kernel
theorem dX5_openList_45 : decode cX5_openList 45 = .ok (.getfield 32, 3) := by decide +kernel
theorem dX5_openList_48 : decode cX5_openList 48 = .ok (.iconst 1, 1) := by decide +kernel
theorem dX5_openList_49 : decode cX5_openList 49 = .ok (.iadd, 1) := by decide +kernel
theorem dX5_openList_50 : decode cX5_openList 50 = .ok (.putfield 32, 3) := by decide +kernel
theorem dX5_openList_53 : decode cX5_openList 53 = .ok (.return_, 1) := by decide +kernel
theorem dX5_markDot_0 : decode cX5_markDot 0 = .ok (.aload_n 0, 1) := by decide +kernel
theorem dX5_markDot_1 : decode cX5_markDot 1 = .ok (.getfield 32, 3) := by decide +kernel
theorem dX5_markDot_4 : decode cX5_markDot 4 = .ok (.ifCond .le 15, 3) := by decide +kernel
theorem dX5_markDot_7 : decode cX5_markDot 7 = .ok (.aload_n 0, 1) := by decide +kernel
theorem dX5_markDot_8 : decode cX5_markDot 8 = .ok (.getfield 15, 3) := by decide +kernel
theorem dX5_markDot_11 : decode cX5_markDot 11 = .ok (.aload_n 0, 1) := by decide +kernel
theorem dX5_markDot_12 : decode cX5_markDot 12 = .ok (.getfield 32, 3) := by decide +kernel
theorem dX5_markDot_15 : decode cX5_markDot 15 = .ok (.iconst 1, 1) := by decide +kernel
theorem dX5_markDot_16 : decode cX5_markDot 16 = .ok (.isub, 1) := by decide +kernel
theorem dX5_markDot_17 : decode cX5_markDot 17 = .ok (.iconst 2, 1) := by decide +kernel
theorem dX5_markDot_18 : decode cX5_markDot 18 = .ok (.iastore, 1) := by decide +kernel
theorem dX5_markDot_19 : decode cX5_markDot 19 = .ok (.return_, 1) := by decide +kernel
theorem dX5_closeList_0 : decode cX5_closeList 0 = .ok (.aload_n 0, 1) := by decide +kernel
theorem dX5_closeList_1 : decode cX5_closeList 1 = .ok (.getfield 32, 3) := by decide +kernel
theorem dX5_closeList_4 : decode cX5_closeList 4 = .ok (.ifCond .le 26, 3) := by decide +kernel
theorem dX5_closeList_7 : decode cX5_closeList 7 = .ok (.aload_n 0, 1) := by decide +kernel
theorem dX5_closeList_8 : decode cX5_closeList 8 = .ok (.dup, 1) := by decide +kernel
theorem dX5_closeList_9 : decode cX5_closeList 9 = .ok (.getfield 32, 3) := by decide +kernel
theorem dX5_closeList_12 : decode cX5_closeList 12 = .ok (.iconst 1, 1) := by decide +kernel
theorem dX5_closeList_13 : decode cX5_closeList 13 = .ok (.isub, 1) := by decide +kernel
theorem dX5_closeList_14 : decode cX5_closeList 14 = .ok (.putfield 32, 3) := by decide +kernel
theorem dX5_closeList_17 : decode cX5_closeList 17 = .ok (.aload_n 0, 1) := by decide +kernel
theorem dX5_closeList_18 : decode cX5_closeList 18 = .ok (.aload_n 0, 1) := by decide +kernel
theorem dX5_closeList_19 : decode cX5_closeList 19 = .ok (.getfield 19, 3) := by decide +kernel
theorem dX5_closeList_22 : decode cX5_closeList 22 = .ok (.aload_n 0, 1) := by decide +kernel
theorem dX5_closeList_23 : decode cX5_closeList 23 = .ok (.getfield 32, 3) := by decide +kernel
theorem dX5_closeList_26 : decode cX5_closeList 26 = .ok (.laload, 1) := by decide +kernel
theorem dX5_closeList_27 : decode cX5_closeList 27 = .ok (.invokevirtual 160, 3) := by decide +kernel
theorem dX5_closeList_30 : decode cX5_closeList 30 = .ok (.return_, 1) := by decide +kernel
theorem dX5_attach_0 : decode cX5_attach 0 = .ok (.aload_n 0, 1) := by decide +kernel
theorem dX5_attach_1 : decode cX5_attach 1 = .ok (.getfield 32, 3) := by decide +kernel
theorem dX5_attach_4 : decode cX5_attach 4 = .ok (.ifCond .ne 9, 3) := by decide +kernel
theorem dX5_attach_7 : decode cX5_attach 7 = .ok (.aload_n 0, 1) := by decide +kernel
theorem dX5_attach_8 : decode cX5_attach 8 = .ok (.lload_n 1, 1) := by decide +kernel
theorem dX5_attach_9 : decode cX5_attach 9 = .ok (.putfield 43, 3) := by decide +kernel
theorem dX5_attach_12 : decode cX5_attach 12 = .ok (.return_, 1) := by decide +kernel
theorem dX5_attach_13 : decode cX5_attach 13 = .ok (.aload_n 0, 1) := by decide +kernel
theorem dX5_attach_14 : decode cX5_attach 14 = .ok (.getfield 32, 3) := by decide +kernel
theorem dX5_attach_17 : decode cX5_attach 17 = .ok (.iconst 1, 1) := by decide +kernel
theorem dX5_attach_18 : decode cX5_attach 18 = .ok (.isub, 1) := by decide +kernel
theorem dX5_attach_19 : decode cX5_attach 19 = .ok (.istore_n 3, 1) := by decide +kernel
theorem dX5_attach_20 : decode cX5_attach 20 = .ok (.aload_n 0, 1) := by decide +kernel
theorem dX5_attach_21 : decode cX5_attach 21 = .ok (.getfield 15, 3) := by decide +kernel
theorem dX5_attach_24 : decode cX5_attach 24 = .ok (.iload_n 3, 1) := by decide +kernel
theorem dX5_attach_25 : decode cX5_attach 25 = .ok (.iaload, 1) := by decide +kernel
theorem dX5_attach_26 : decode cX5_attach 26 = .ok (.iconst 2, 1) := by decide +kernel
theorem dX5_attach_27 : decode cX5_attach 27 = .ok (.if_icmp .ne 18, 3) := by decide +kernel
theorem dX5_attach_30 : decode cX5_attach 30 = .ok (.aload_n 0, 1) := by decide +kernel
theorem dX5_attach_31 : decode cX5_attach 31 = .ok (.getfield 55, 3) := by decide +kernel
theorem dX5_attach_34 : decode cX5_attach 34 = .ok (.aload_n 0, 1) := by decide +kernel
theorem dX5_attach_35 : decode cX5_attach 35 = .ok (.getfield 22, 3) := by decide +kernel
theorem dX5_attach_38 : decode cX5_attach 38 = .ok (.iload_n 3, 1) := by decide +kernel
theorem dX5_attach_39 : decode cX5_attach 39 = .ok (.laload, 1) := by decide +kernel
theorem dX5_attach_40 : decode cX5_attach 40 = .ok (.lload_n 1, 1) := by decide +kernel
theorem dX5_attach_41 : decode cX5_attach 41 = .ok (.invokevirtual 164, 3) := by decide +kernel
theorem dX5_attach_44 : decode cX5_attach 44 = .ok (.return_, 1) := by decide +kernel
theorem dX5_attach_45 : decode cX5_attach 45 = .ok (.aload_n 0, 1) := by decide +kernel
theorem dX5_attach_46 : decode cX5_attach 46 = .ok (.getfield 55, 3) := by decide +kernel
theorem dX5_attach_49 : decode cX5_attach 49 = .ok (.lload_n 1, 1) := by decide +kernel
theorem dX5_attach_50 : decode cX5_attach 50 = .ok (.ldc2_w 41, 3) := by decide +kernel
theorem dX5_attach_53 : decode cX5_attach 53 = .ok (.invokevirtual 170, 3) := by decide +kernel
theorem dX5_attach_56 : decode cX5_attach 56 = .ok (.lstore 4, 2) := by decide +kernel
theorem dX5_attach_58 : decode cX5_attach 58 = .ok (.aload_n 0, 1) := by decide +kernel
theorem dX5_attach_59 : decode cX5_attach 59 = .ok (.getfield 15, 3) := by decide +kernel
theorem dX5_attach_62 : decode cX5_attach 62 = .ok (.iload_n 3, 1) := by decide +kernel
theorem dX5_attach_63 : decode cX5_attach 63 = .ok (.iaload, 1) := by decide +kernel
theorem dX5_attach_64 : decode cX5_attach 64 = .ok (.ifCond .ne 21, 3) := by decide +kernel
theorem dX5_attach_67 : decode cX5_attach 67 = .ok (.aload_n 0, 1) := by decide +kernel
theorem dX5_attach_68 : decode cX5_attach 68 = .ok (.getfield 19, 3) := by decide +kernel
theorem dX5_attach_71 : decode cX5_attach 71 = .ok (.iload_n 3, 1) := by decide +kernel
theorem dX5_attach_72 : decode cX5_attach 72 = .ok (.lload 4, 2) := by decide +kernel
theorem dX5_attach_74 : decode cX5_attach 74 = .ok (.lastore, 1) := by decide +kernel
theorem dX5_attach_75 : decode cX5_attach 75 = .ok (.aload_n 0, 1) := by decide +kernel
theorem dX5_attach_76 : decode cX5_attach 76 = .ok (.getfield 15, 3) := by decide +kernel
theorem dX5_attach_79 : decode cX5_attach 79 = .ok (.iload_n 3, 1) := by decide +kernel
theorem dX5_attach_80 : decode cX5_attach 80 = .ok (.iconst 1, 1) := by decide +kernel
theorem dX5_attach_81 : decode cX5_attach 81 = .ok (.iastore, 1) := by decide +kernel
theorem dX5_attach_82 : decode cX5_attach 82 = .ok (.goto 18, 3) := by decide +kernel
theorem dX5_attach_85 : decode cX5_attach 85 = .ok (.aload_n 0, 1) := by decide +kernel
theorem dX5_attach_86 : decode cX5_attach 86 = .ok (.getfield 55, 3) := by decide +kernel
theorem dX5_attach_89 : decode cX5_attach 89 = .ok (.aload_n 0, 1) := by decide +kernel
theorem dX5_attach_90 : decode cX5_attach 90 = .ok (.getfield 22, 3) := by decide +kernel
theorem dX5_attach_93 : decode cX5_attach 93 = .ok (.iload_n 3, 1) := by decide +kernel
theorem dX5_attach_94 : decode cX5_attach 94 = .ok (.laload, 1) := by decide +kernel
theorem dX5_attach_95 : decode cX5_attach 95 = .ok (.lload 4, 2) := by decide +kernel
theorem dX5_attach_97 : decode cX5_attach 97 = .ok (.invokevirtual 164, 3) := by decide +kernel
theorem dX5_attach_100 : decode cX5_attach 100 = .ok (.aload_n 0, 1) := by decide +kernel
theorem dX5_attach_101 : decode cX5_attach 101 = .ok (.getfield 22, 3) := by decide +kernel
theorem dX5_attach_104 : decode cX5_attach 104 = .ok (.iload_n 3, 1) := by decide +kernel
theorem dX5_attach_105 : decode cX5_attach 105 = .ok (.lload 4, 2) := by decide +kernel
theorem dX5_attach_107 : decode cX5_attach 107 = .ok (.lastore, 1) := by decide +kernel
theorem dX5_attach_108 : decode cX5_attach 108 = .ok (.return_, 1) := by decide +kernel
theorem dX6_init_0 : decode cX6_init 0 = .ok (.aload_n 0, 1) := by decide +kernel
theorem dX6_init_1 : decode cX6_init 1 = .ok (.invokespecial 3, 3) := by decide +kernel
theorem dX6_init_4 : decode cX6_init 4 = .ok (.aload_n 0, 1) := by decide +kernel
theorem dX6_init_5 : decode cX6_init 5 = .ok (.sipush 2000, 3) := by decide +kernel
theorem dX6_init_8 : decode cX6_init 8 = .ok (.newarray .char, 2) := by decide +kernel
theorem dX6_init_10 : decode cX6_init 10 = .ok (.putfield 9, 3) := by decide +kernel
theorem dX6_init_13 : decode cX6_init 13 = .ok (.aload_n 0, 1) := by decide +kernel
theorem dX6_init_14 : decode cX6_init 14 = .ok (.iconst 0, 1) := by decide +kernel
theorem dX6_init_15 : decode cX6_init 15 = .ok (.putfield 15, 3) := by decide +kernel
theorem dX6_init_18 : decode cX6_init 18 = .ok (.aload_n 0, 1) := by decide +kernel
theorem dX6_init_19 : decode cX6_init 19 = .ok (.iconst 0, 1) := by decide +kernel
theorem dX6_init_20 : decode cX6_init 20 = .ok (.putfield 19, 3) := by decide +kernel
theorem dX6_init_23 : decode cX6_init 23 = .ok (.aload_n 0, 1) := by decide +kernel
theorem dX6_init_24 : decode cX6_init 24 = .ok (.iconst (-1), 1) := by decide +kernel
theorem dX6_init_25 : decode cX6_init 25 = .ok (.putfield 22, 3) := by decide +kernel
theorem dX6_init_28 : decode cX6_init 28 = .ok (.return_, 1) := by decide +kernel
theorem dX6_append_0 : decode cX6_append 0 = .ok (.aload_n 0, 1) := by decide +kernel
theorem dX6_append_1 : decode cX6_append 1 = .ok (.getfield 15, 3) := by decide +kernel
theorem dX6_append_4 : decode cX6_append 4 = .ok (.istore_n 3, 1) := by decide +kernel
theorem dX6_append_5 : decode cX6_append 5 = .ok (.bipush 56, 2) := by decide +kernel
theorem dX6_append_7 : decode cX6_append 7 = .ok (.istore 4, 2) := by decide +kernel
theorem dX6_append_9 : decode cX6_append 9 = .ok (.iload 4, 2) := by decide +kernel
theorem dX6_append_11 : decode cX6_append 11 = .ok (.ifCond .lt 57, 3) := by decide +kernel
theorem dX6_append_14 : decode cX6_append 14 = .ok (.lload_n 1, 1) := by decide +kernel
theorem dX6_append_15 : decode cX6_append 15 = .ok (.iload 4, 2) := by decide +kernel
theorem dX6_append_17 : decode cX6_append 17 = .ok (.lushr, 1) := by decide +kernel
theorem dX6_append_18 : decode cX6_append 18 = .ok (.l2i, 1) := by decide +kernel
theorem dX6_append_19 : decode cX6_append 19 = .ok (.sipush 255, 3) := by decide +kernel
theorem dX6_append_22 : decode cX6_append 22 = .ok (.iand, 1) := by decide +kernel
theorem dX6_append_23 : decode cX6_append 23 = .ok (.istore 5, 2) := by decide +kernel
theorem dX6_append_25 : decode cX6_append 25 = .ok (.iload 5, 2) := by decide +kernel
theorem dX6_append_27 : decode cX6_append 27 = .ok (.ifCond .ne 6, 3) := by decide +kernel
theorem dX6_append_30 : decode cX6_append 30 = .ok (.goto 32, 3) := by decide +kernel
theorem dX6_append_33 : decode cX6_append 33 = .ok (.iload 5, 2) := by decide +kernel
theorem dX6_append_35 : decode cX6_append 35 = .ok (.invokestatic 25, 3) := by decide +kernel
theorem dX6_append_38 : decode cX6_append 38 = .ok (.ifCond .eq 10, 3) := by decide +kernel
theorem dX6_append_41 : decode cX6_append 41 = .ok (.iload_n 3, 1) := by decide +kernel
theorem dX6_append_42 : decode cX6_append 42 = .ok (.sipush 2000, 3) := by decide +kernel
theorem dX6_append_45 : decode cX6_append 45 = .ok (.if_icmp .lt 5, 3) := by decide +kernel
theorem dX6_append_48 : decode cX6_append 48 = .ok (.iconst 0, 1) := by decide +kernel
theorem dX6_append_49 : decode cX6_append 49 = .ok (.ireturn, 1) := by decide +kernel
theorem dX6_append_50 : decode cX6_append 50 = .ok (.aload_n 0, 1) := by decide +kernel
theorem dX6_append_51 : decode cX6_append 51 = .ok (.getfield 9, 3) := by decide +kernel
theorem dX6_append_54 : decode cX6_append 54 = .ok (.iload_n 3, 1) := by decide +kernel
theorem dX6_append_55 : decode cX6_append 55 = .ok (.iload 5, 2) := by decide +kernel
theorem dX6_append_57 : decode cX6_append 57 = .ok (.i2c, 1) := by decide +kernel
theorem dX6_append_58 : decode cX6_append 58 = .ok (.castore, 1) := by decide +kernel
theorem dX6_append_59 : decode cX6_append 59 = .ok (.iinc 3 1, 3) := by decide +kernel
theorem dX6_append_62 : decode cX6_append 62 = .ok (.iinc 4 (-8), 3) := by decide +kernel
theorem dX6_append_65 : decode cX6_append 65 = .ok (.goto (-56), 3) := by decide +kernel
theorem dX6_append_68 : decode cX6_append 68 = .ok (.aload_n 0, 1) := by decide +kernel
theorem dX6_append_69 : decode cX6_append 69 = .ok (.iload_n 3, 1) := by decide +kernel
theorem dX6_append_70 : decode cX6_append 70 = .ok (.putfield 15, 3) := by decide +kernel
theorem dX6_append_73 : decode cX6_append 73 = .ok (.iconst 1, 1) := by decide +kernel
theorem dX6_append_74 : decode cX6_append 74 = .ok (.ireturn, 1) := by decide +kernel
theorem dX6_isCharacter_0 : decode cX6_isCharacter 0 = .ok (.iload_n 0, 1) := by decide +kernel
theorem dX6_isCharacter_1 : decode cX6_isCharacter 1 = .ok (.bipush 10, 2) := by decide +kernel
theorem dX6_isCharacter_3 : decode cX6_isCharacter 3 = .ok (.if_icmp .eq 15, 3) := by decide +kernel
theorem dX6_isCharacter_6 : decode cX6_isCharacter 6 = .ok (.iload_n 0, 1) := by decide +kernel
theorem dX6_isCharacter_7 : decode cX6_isCharacter 7 = .ok (.bipush 32, 2) := by decide +kernel
theorem dX6_isCharacter_9 : decode cX6_isCharacter 9 = .ok (.if_icmp .lt 13, 3) := by decide +kernel
theorem dX6_isCharacter_12 : decode cX6_isCharacter 12 = .ok (.iload_n 0, 1) := by decide +kernel
theorem dX6_isCharacter_13 : decode cX6_isCharacter 13 = .ok (.bipush 126, 2) := by decide +kernel
theorem dX6_isCharacter_15 : decode cX6_isCharacter 15 = .ok (.if_icmp .gt 7, 3) := by decide +kernel
theorem dX6_isCharacter_18 : decode cX6_isCharacter 18 = .ok (.iconst 1, 1) := by decide +kernel
theorem dX6_isCharacter_19 : decode cX6_isCharacter 19 = .ok (.goto 4, 3) := by decide +kernel
theorem dX6_isCharacter_22 : decode cX6_isCharacter 22 = .ok (.iconst 0, 1) := by decide +kernel
theorem dX6_isCharacter_23 : decode cX6_isCharacter 23 = .ok (.ireturn, 1) := by decide +kernel
theorem dX6_at_0 : decode cX6_at 0 = .ok (.iload_n 1, 1) := by decide +kernel
theorem dX6_at_1 : decode cX6_at 1 = .ok (.ifCond .lt 11, 3) := by decide +kernel
theorem dX6_at_4 : decode cX6_at 4 = .ok (.iload_n 1, 1) := by decide +kernel
theorem dX6_at_5 : decode cX6_at 5 = .ok (.aload_n 0, 1) := by decide +kernel
theorem dX6_at_6 : decode cX6_at 6 = .ok (.getfield 15, 3) := by decide +kernel
theorem dX6_at_9 : decode cX6_at 9 = .ok (.if_icmp .lt 7, 3) := by decide +kernel
theorem dX6_at_12 : decode cX6_at 12 = .ok (.iconst (-1), 1) := by decide +kernel
theorem dX6_at_13 : decode cX6_at 13 = .ok (.goto 9, 3) := by decide +kernel
theorem dX6_at_16 : decode cX6_at 16 = .ok (.aload_n 0, 1) := by decide +kernel
theorem dX6_at_17 : decode cX6_at 17 = .ok (.getfield 9, 3) := by decide +kernel
theorem dX6_at_20 : decode cX6_at 20 = .ok (.iload_n 1, 1) := by decide +kernel
theorem dX6_at_21 : decode cX6_at 21 = .ok (.caload, 1) := by decide +kernel
theorem dX6_at_22 : decode cX6_at 22 = .ok (.ireturn, 1) := by decide +kernel
theorem dX6_behindBlanks_0 : decode cX6_behindBlanks 0 = .ok (.iload_n 1, 1) := by decide +kernel
theorem dX6_behindBlanks_1 : decode cX6_behindBlanks 1 = .ok (.istore_n 2, 1) := by decide +kernel
theorem dX6_behindBlanks_2 : decode cX6_behindBlanks 2 = .ok (.iload_n 2, 1) := by decide +kernel
theorem dX6_behindBlanks_3 : decode cX6_behindBlanks 3 = .ok (.aload_n 0, 1) := by decide +kernel
theorem dX6_behindBlanks_4 : decode cX6_behindBlanks 4 = .ok (.getfield 15, 3) := by decide +kernel
theorem dX6_behindBlanks_7 : decode cX6_behindBlanks 7 = .ok (.if_icmp .ge 29, 3) := by decide +kernel
theorem dX6_behindBlanks_10 : decode cX6_behindBlanks 10 = .ok (.aload_n 0, 1) := by decide +kernel
theorem dX6_behindBlanks_11 : decode cX6_behindBlanks 11 = .ok (.iload_n 2, 1) := by decide +kernel
theorem dX6_behindBlanks_12 : decode cX6_behindBlanks 12 = .ok (.invokevirtual 29, 3) := by decide +kernel
theorem dX6_behindBlanks_15 : decode cX6_behindBlanks 15 = .ok (.bipush 32, 2) := by decide +kernel
theorem dX6_behindBlanks_17 : decode cX6_behindBlanks 17 = .ok (.if_icmp .eq 13, 3) := by decide +kernel
theorem dX6_behindBlanks_20 : decode cX6_behindBlanks 20 = .ok (.aload_n 0, 1) := by decide +kernel
theorem dX6_behindBlanks_21 : decode cX6_behindBlanks 21 = .ok (.iload_n 2, 1) := by decide +kernel
theorem dX6_behindBlanks_22 : decode cX6_behindBlanks 22 = .ok (.invokevirtual 29, 3) := by decide +kernel
theorem dX6_behindBlanks_25 : decode cX6_behindBlanks 25 = .ok (.bipush 10, 2) := by decide +kernel
theorem dX6_behindBlanks_27 : decode cX6_behindBlanks 27 = .ok (.if_icmp .ne 9, 3) := by decide +kernel
theorem dX6_behindBlanks_30 : decode cX6_behindBlanks 30 = .ok (.iinc 2 1, 3) := by decide +kernel
theorem dX6_behindBlanks_33 : decode cX6_behindBlanks 33 = .ok (.goto (-31), 3) := by decide +kernel
theorem dX6_behindBlanks_36 : decode cX6_behindBlanks 36 = .ok (.iload_n 2, 1) := by decide +kernel
theorem dX6_behindBlanks_37 : decode cX6_behindBlanks 37 = .ok (.ireturn, 1) := by decide +kernel
theorem dX7_init_0 : decode cX7_init 0 = .ok (.aload_n 0, 1) := by decide +kernel
theorem dX7_init_1 : decode cX7_init 1 = .ok (.invokespecial 5, 3) := by decide +kernel
theorem dX7_init_4 : decode cX7_init 4 = .ok (.aload_n 0, 1) := by decide +kernel
theorem dX7_init_5 : decode cX7_init 5 = .ok (.iconst 0, 1) := by decide +kernel
theorem dX7_init_6 : decode cX7_init 6 = .ok (.putfield 11, 3) := by decide +kernel
theorem dX7_init_9 : decode cX7_init 9 = .ok (.aload_n 0, 1) := by decide +kernel
theorem dX7_init_10 : decode cX7_init 10 = .ok (.iconst 0, 1) := by decide +kernel
theorem dX7_init_11 : decode cX7_init 11 = .ok (.putfield 15, 3) := by decide +kernel
theorem dX7_init_14 : decode cX7_init 14 = .ok (.aload_n 0, 1) := by decide +kernel
theorem dX7_init_15 : decode cX7_init 15 = .ok (.iload_n 1, 1) := by decide +kernel
theorem dX7_init_16 : decode cX7_init 16 = .ok (.newarray .int, 2) := by decide +kernel
theorem dX7_init_18 : decode cX7_init 18 = .ok (.putfield 18, 3) := by decide +kernel
theorem dX7_init_21 : decode cX7_init 21 = .ok (.aload_n 0, 1) := by decide +kernel
theorem dX7_init_22 : decode cX7_init 22 = .ok (.iload_n 1, 1) := by decide +kernel
theorem dX7_init_23 : decode cX7_init 23 = .ok (.newarray .int, 2) := by decide +kernel
theorem dX7_init_25 : decode cX7_init 25 = .ok (.putfield 22, 3) := by decide +kernel
theorem dX7_init_28 : decode cX7_init 28 = .ok (.aload_n 0, 1) := by decide +kernel
theorem dX7_init_29 : decode cX7_init 29 = .ok (.iload_n 1, 1) := by decide +kernel
theorem dX7_init_30 : decode cX7_init 30 = .ok (.bipush 11, 2) := by decide +kernel
theorem dX7_init_32 : decode cX7_init 32 = .ok (.imul, 1) := by decide +kernel
theorem dX7_init_33 : decode cX7_init 33 = .ok (.newarray .long, 2) := by decide +kernel
theorem dX7_init_35 : decode cX7_init 35 = .ok (.putfield 25, 3) := by decide +kernel
theorem dX7_init_38 : decode cX7_init 38 = .ok (.return_, 1) := by decide +kernel
theorem dX7_push_0 : decode cX7_push 0 = .ok (.aload_n 0, 1) := by decide +kernel
theorem dX7_push_1 : decode cX7_push 1 = .ok (.getfield 11, 3) := by decide +kernel
theorem dX7_push_4 : decode cX7_push 4 = .ok (.aload_n 0, 1) := by decide +kernel
theorem dX7_push_5 : decode cX7_push 5 = .ok (.getfield 18, 3) := by decide +kernel
theorem dX7_push_8 : decode cX7_push 8 = .ok (.arraylength, 1) := by decide +kernel
theorem dX7_push_9 : decode cX7_push 9 = .ok (.if_icmp .lt 5, 3) := by decide +kernel
theorem dX7_push_12 : decode cX7_push 12 = .ok (.iconst 0, 1) := by decide +kernel
theorem dX7_push_13 : decode cX7_push 13 = .ok (.ireturn, 1) := by decide +kernel
theorem dX7_push_14 : decode cX7_push 14 = .ok (.aload_n 0, 1) := by decide +kernel
theorem dX7_push_15 : decode cX7_push 15 = .ok (.getfield 11, 3) := by decide +kernel
theorem dX7_push_18 : decode cX7_push 18 = .ok (.bipush 11, 2) := by decide +kernel
theorem dX7_push_20 : decode cX7_push 20 = .ok (.imul, 1) := by decide +kernel
theorem dX7_push_21 : decode cX7_push 21 = .ok (.istore 8, 2) := by decide +kernel
theorem dX7_push_23 : decode cX7_push 23 = .ok (.iload 8, 2) := by decide +kernel
theorem dX7_push_25 : decode cX7_push 25 = .ok (.iconst 3, 1) := by decide +kernel
theorem dX7_push_26 : decode cX7_push 26 = .ok (.iadd, 1) := by decide +kernel
theorem dX7_push_27 : decode cX7_push 27 = .ok (.istore 9, 2) := by decide +kernel
theorem dX7_push_29 : decode cX7_push 29 = .ok (.iload 9, 2) := by decide +kernel
theorem dX7_push_31 : decode cX7_push 31 = .ok (.iload 8, 2) := by decide +kernel
theorem dX7_push_33 : decode cX7_push 33 = .ok (.bipush 11, 2) := by decide +kernel
theorem dX7_push_35 : decode cX7_push 35 = .ok (.iadd, 1) := by decide +kernel
theorem dX7_push_36 : decode cX7_push 36 = .ok (.if_icmp .ge 19, 3) := by decide +kernel
theorem dX7_push_39 : decode cX7_push 39 = .ok (.aload_n 0, 1) := by decide +kernel
theorem dX7_push_40 : decode cX7_push 40 = .ok (.getfield 25, 3) := by decide +kernel
theorem dX7_push_43 : decode cX7_push 43 = .ok (.iload 9, 2) := by decide +kernel
theorem dX7_push_45 : decode cX7_push 45 = .ok (.ldc2_w 29, 3) := by decide +kernel
theorem dX7_push_48 : decode cX7_push 48 = .ok (.lastore, 1) := by decide +kernel
theorem dX7_push_49 : decode cX7_push 49 = .ok (.iinc 9 1, 3) := by decide +kernel
theorem dX7_push_52 : decode cX7_push 52 = .ok (.goto (-23), 3) := by decide +kernel
theorem dX7_push_55 : decode cX7_push 55 = .ok (.aload_n 0, 1) := by decide +kernel
theorem dX7_push_56 : decode cX7_push 56 = .ok (.getfield 25, 3) := by decide +kernel
theorem dX7_push_59 : decode cX7_push 59 = .ok (.iload 8, 2) := by decide +kernel
theorem dX7_push_61 : decode cX7_push 61 = .ok (.iconst 0, 1) := by decide +kernel
theorem dX7_push_62 : decode cX7_push 62 = .ok (.iadd, 1) := by decide +kernel
theorem dX7_push_63 : decode cX7_push 63 = .ok (.lload_n 2, 1) := by decide +kernel
theorem dX7_push_64 : decode cX7_push 64 = .ok (.lastore, 1) := by decide +kernel
theorem dX7_push_65 : decode cX7_push 65 = .ok (.aload_n 0, 1) := by decide +kernel
theorem dX7_push_66 : decode cX7_push 66 = .ok (.getfield 25, 3) := by decide +kernel
theorem dX7_push_69 : decode cX7_push 69 = .ok (.iload 8, 2) := by decide +kernel
theorem dX7_push_71 : decode cX7_push 71 = .ok (.iconst 1, 1) := by decide +kernel
theorem dX7_push_72 : decode cX7_push 72 = .ok (.iadd, 1) := by decide +kernel
theorem dX7_push_73 : decode cX7_push 73 = .ok (.lload 4, 2) := by decide +kernel
theorem dX7_push_75 : decode cX7_push 75 = .ok (.lastore, 1) := by decide +kernel
theorem dX7_push_76 : decode cX7_push 76 = .ok (.aload_n 0, 1) := by decide +kernel
theorem dX7_push_77 : decode cX7_push 77 = .ok (.getfield 25, 3) := by decide +kernel
theorem dX7_push_80 : decode cX7_push 80 = .ok (.iload 8, 2) := by decide +kernel
theorem dX7_push_82 : decode cX7_push 82 = .ok (.iconst 2, 1) := by decide +kernel
theorem dX7_push_83 : decode cX7_push 83 = .ok (.iadd, 1) := by decide +kernel
theorem dX7_push_84 : decode cX7_push 84 = .ok (.lload 6, 2) := by decide +kernel
theorem dX7_push_86 : decode cX7_push 86 = .ok (.lastore, 1) := by decide +kernel
theorem dX7_push_87 : decode cX7_push 87 = .ok (.aload_n 0, 1) := by decide +kernel
theorem dX7_push_88 : decode cX7_push 88 = .ok (.getfield 18, 3) := by decide +kernel
theorem dX7_push_91 : decode cX7_push 91 = .ok (.aload_n 0, 1) := by decide +kernel
theorem dX7_push_92 : decode cX7_push 92 = .ok (.getfield 11, 3) := by decide +kernel
theorem dX7_push_95 : decode cX7_push 95 = .ok (.iload_n 1, 1) := by decide +kernel
theorem dX7_push_96 : decode cX7_push 96 = .ok (.iastore, 1) := by decide +kernel
theorem dX7_push_97 : decode cX7_push 97 = .ok (.aload_n 0, 1) := by decide +kernel
theorem dX7_push_98 : decode cX7_push 98 = .ok (.getfield 22, 3) := by decide +kernel
theorem dX7_push_101 : decode cX7_push 101 = .ok (.aload_n 0, 1) := by decide +kernel
theorem dX7_push_102 : decode cX7_push 102 = .ok (.getfield 11, 3) := by decide +kernel
theorem dX7_push_105 : decode cX7_push 105 = .ok (.iconst 0, 1) := by decide +kernel
theorem dX7_push_106 : decode cX7_push 106 = .ok (.iastore, 1) := by decide +kernel
theorem dX7_push_107 : decode cX7_push 107 = .ok (.aload_n 0, 1) := by decide +kernel
theorem dX7_push_108 : decode cX7_push 108 = .ok (.dup, 1) := by decide +kernel
theorem dX7_push_109 : decode cX7_push 109 = .ok (.getfield 11, 3) := by decide +kernel
theorem dX7_push_112 : decode cX7_push 112 = .ok (.iconst 1, 1) := by decide +kernel
theorem dX7_push_113 : decode cX7_push 113 = .ok (.iadd, 1) := by decide +kernel
theorem dX7_push_114 : decode cX7_push 114 = .ok (.putfield 11, 3) := by decide +kernel
theorem dX7_push_117 : decode cX7_push 117 = .ok (.aload_n 0, 1) := by decide +kernel
theorem dX7_push_118 : decode cX7_push 118 = .ok (.aload_n 0, 1) := by decide +kernel
theorem dX7_push_119 : decode cX7_push 119 = .ok (.getfield 15, 3) := by decide +kernel
theorem dX7_push_122 : decode cX7_push 122 = .ok (.aload_n 0, 1) := by decide +kernel
theorem dX7_push_123 : decode cX7_push 123 = .ok (.getfield 11, 3) := by decide +kernel
theorem dX7_push_126 : decode cX7_push 126 = .ok (.invokestatic 31, 3) := by decide +kernel
theorem dX7_push_129 : decode cX7_push 129 = .ok (.putfield 15, 3) := by decide +kernel
theorem dX7_push_132 : decode cX7_push 132 = .ok (.iconst 1, 1) := by decide +kernel
theorem dX7_push_133 : decode cX7_push 133 = .ok (.ireturn, 1) := by decide +kernel
theorem dX7_pop_0 : decode cX7_pop 0 = .ok (.aload_n 0, 1) := by decide +kernel
theorem dX7_pop_1 : decode cX7_pop 1 = .ok (.getfield 11, 3) := by decide +kernel
theorem dX7_pop_4 : decode cX7_pop 4 = .ok (.ifCond .le 13, 3) := by decide +kernel
theorem dX7_pop_7 : decode cX7_pop 7 = .ok (.aload_n 0, 1) := by decide +kernel
theorem dX7_pop_8 : decode cX7_pop 8 = .ok (.dup, 1) := by decide +kernel
theorem dX7_pop_9 : decode cX7_pop 9 = .ok (.getfield 11, 3) := by decide +kernel
theorem dX7_pop_12 : decode cX7_pop 12 = .ok (.iconst 1, 1) := by decide +kernel
theorem dX7_pop_13 : decode cX7_pop 13 = .ok (.isub, 1) := by decide +kernel
theorem dX7_pop_14 : decode cX7_pop 14 = .ok (.putfield 11, 3) := by decide +kernel
theorem dX7_pop_17 : decode cX7_pop 17 = .ok (.return_, 1) := by decide +kernel
theorem dX7_kindOnTop_0 : decode cX7_kindOnTop 0 = .ok (.aload_n 0, 1) := by decide +kernel
theorem dX7_kindOnTop_1 : decode cX7_kindOnTop 1 = .ok (.getfield 11, 3) := by decide +kernel
theorem dX7_kindOnTop_4 : decode cX7_kindOnTop 4 = .ok (.ifCond .le 17, 3) := by decide +kernel
theorem dX7_kindOnTop_7 : decode cX7_kindOnTop 7 = .ok (.aload_n 0, 1) := by decide +kernel
theorem dX7_kindOnTop_8 : decode cX7_kindOnTop 8 = .ok (.getfield 18, 3) := by decide +kernel
theorem dX7_kindOnTop_11 : decode cX7_kindOnTop 11 = .ok (.aload_n 0, 1) := by decide +kernel
theorem dX7_kindOnTop_12 : decode cX7_kindOnTop 12 = .ok (.getfield 11, 3) := by decide +kernel
theorem dX7_kindOnTop_15 : decode cX7_kindOnTop 15 = .ok (.iconst 1, 1) := by decide +kernel
theorem dX7_kindOnTop_16 : decode cX7_kindOnTop 16 = .ok (.isub, 1) := by decide +kernel
theorem dX7_kindOnTop_17 : decode cX7_kindOnTop 17 = .ok (.iaload, 1) := by decide +kernel
theorem dX7_kindOnTop_18 : decode cX7_kindOnTop 18 = .ok (.goto 4, 3) := by decide +kernel
theorem dX7_kindOnTop_21 : decode cX7_kindOnTop 21 = .ok (.iconst 0, 1) := by decide +kernel
theorem dX7_kindOnTop_22 : decode cX7_kindOnTop 22 = .ok (.ireturn, 1) := by decide +kernel
theorem dX7_valuesOnTop_0 : decode cX7_valuesOnTop 0 = .ok (.aload_n 0, 1) := by decide +kernel
theorem dX7_valuesOnTop_1 : decode cX7_valuesOnTop 1 = .ok (.getfield 11, 3) := by decide +kernel
theorem dX7_valuesOnTop_4 : decode cX7_valuesOnTop 4 = .ok (.ifCond .le 17, 3) := by decide +kernel
theorem dX7_valuesOnTop_7 : decode cX7_valuesOnTop 7 = .ok (.aload_n 0, 1) := by decide +kernel
theorem dX7_valuesOnTop_8 : decode cX7_valuesOnTop 8 = .ok (.getfield 22, 3) := by decide +kernel
theorem dX7_valuesOnTop_11 : decode cX7_valuesOnTop 11 = .ok (.aload_n 0, 1) := by decide +kernel
theorem dX7_valuesOnTop_12 : decode cX7_valuesOnTop 12 = .ok (.getfield 11, 3) := by decide +kernel
theorem dX7_valuesOnTop_15 : decode cX7_valuesOnTop 15 = .ok (.iconst 1, 1) := by decide +kernel
theorem dX7_valuesOnTop_16 : decode cX7_valuesOnTop 16 = .ok (.isub, 1) := by decide +kernel
theorem dX7_valuesOnTop_17 : decode cX7_valuesOnTop 17 = .ok (.iaload, 1) := by decide +kernel
theorem dX7_valuesOnTop_18 : decode cX7_valuesOnTop 18 = .ok (.goto 4, 3) := by decide +kernel
theorem dX7_valuesOnTop_21 : decode cX7_valuesOnTop 21 = .ok (.iconst 0, 1) := by decide +kernel
theorem dX7_valuesOnTop_22 : decode cX7_valuesOnTop 22 = .ok (.ireturn, 1) := by decide +kernel
theorem dX7_part_0 : decode cX7_part 0 = .ok (.aload_n 0, 1) := by decide +kernel
theorem dX7_part_1 : decode cX7_part 1 = .ok (.getfield 11, 3) := by decide +kernel
theorem dX7_part_4 : decode cX7_part 4 = .ok (.ifCond .le 22, 3) := by decide +kernel
theorem dX7_part_7 : decode cX7_part 7 = .ok (.aload_n 0, 1) := by decide +kernel
theorem dX7_part_8 : decode cX7_part 8 = .ok (.getfield 25, 3) := by decide +kernel
theorem dX7_part_11 : decode cX7_part 11 = .ok (.aload_n 0, 1) := by decide +kernel
theorem dX7_part_12 : decode cX7_part 12 = .ok (.getfield 11, 3) := by decide +kernel
theorem dX7_part_15 : decode cX7_part 15 = .ok (.iconst 1, 1) := by decide +kernel
theorem dX7_part_16 : decode cX7_part 16 = .ok (.isub, 1) := by decide +kernel
theorem dX7_part_17 : decode cX7_part 17 = .ok (.bipush 11, 2) := by decide +kernel
theorem dX7_part_19 : decode cX7_part 19 = .ok (.imul, 1) := by decide +kernel
theorem dX7_part_20 : decode cX7_part 20 = .ok (.iload_n 1, 1) := by decide +kernel
theorem dX7_part_21 : decode cX7_part 21 = .ok (.iadd, 1) := by decide +kernel
theorem dX7_part_22 : decode cX7_part 22 = .ok (.laload, 1) := by decide +kernel
theorem dX7_part_23 : decode cX7_part 23 = .ok (.goto 6, 3) := by decide +kernel
theorem dX7_part_26 : decode cX7_part 26 = .ok (.ldc2_w 29, 3) := by decide +kernel
theorem dX7_part_29 : decode cX7_part 29 = .ok (.lreturn, 1) := by decide +kernel
theorem dX7_setRest_0 : decode cX7_setRest 0 = .ok (.aload_n 0, 1) := by decide +kernel
theorem dX7_setRest_1 : decode cX7_setRest 1 = .ok (.getfield 11, 3) := by decide +kernel
theorem dX7_setRest_4 : decode cX7_setRest 4 = .ok (.ifCond .le 20, 3) := by decide +kernel
theorem dX7_setRest_7 : decode cX7_setRest 7 = .ok (.aload_n 0, 1) := by decide +kernel
theorem dX7_setRest_8 : decode cX7_setRest 8 = .ok (.getfield 25, 3) := by decide +kernel
theorem dX7_setRest_11 : decode cX7_setRest 11 = .ok (.aload_n 0, 1) := by decide +kernel
theorem dX7_setRest_12 : decode cX7_setRest 12 = .ok (.getfield 11, 3) := by decide +kernel
theorem dX7_setRest_15 : decode cX7_setRest 15 = .ok (.iconst 1, 1) := by decide +kernel
theorem dX7_setRest_16 : decode cX7_setRest 16 = .ok (.isub, 1) := by decide +kernel
theorem dX7_setRest_17 : decode cX7_setRest 17 = .ok (.bipush 11, 2) := by decide +kernel
theorem dX7_setRest_19 : decode cX7_setRest 19 = .ok (.imul, 1) := by decide +kernel
theorem dX7_setRest_20 : decode cX7_setRest 20 = .ok (.iconst 1, 1) := by decide +kernel
theorem dX7_setRest_21 : decode cX7_setRest 21 = .ok (.iadd, 1) := by decide +kernel
theorem dX7_setRest_22 : decode cX7_setRest 22 = .ok (.lload_n 1, 1) := by decide +kernel
theorem dX7_setRest_23 : decode cX7_setRest 23 = .ok (.lastore, 1) := by decide +kernel
theorem dX7_setRest_24 : decode cX7_setRest 24 = .ok (.return_, 1) := by decide +kernel
theorem dX7_addValue_0 : decode cX7_addValue 0 = .ok (.aload_n 0, 1) := by decide +kernel
theorem dX7_addValue_1 : decode cX7_addValue 1 = .ok (.invokevirtual 37, 3) := by decide +kernel
theorem dX7_addValue_4 : decode cX7_addValue 4 = .ok (.istore_n 3, 1) := by decide +kernel
theorem dX7_addValue_5 : decode cX7_addValue 5 = .ok (.aload_n 0, 1) := by decide +kernel
theorem dX7_addValue_6 : decode cX7_addValue 6 = .ok (.getfield 11, 3) := by decide +kernel
theorem dX7_addValue_9 : decode cX7_addValue 9 = .ok (.ifCond .le 42, 3) := by decide +kernel
theorem dX7_addValue_12 : decode cX7_addValue 12 = .ok (.iload_n 3, 1) := by decide +kernel
theorem dX7_addValue_13 : decode cX7_addValue 13 = .ok (.bipush 8, 2) := by decide +kernel
theorem dX7_addValue_15 : decode cX7_addValue 15 = .ok (.if_icmp .ge 36, 3) := by decide +kernel
theorem dX7_addValue_18 : decode cX7_addValue 18 = .ok (.aload_n 0, 1) := by decide +kernel
theorem dX7_addValue_19 : decode cX7_addValue 19 = .ok (.getfield 25, 3) := by decide +kernel
theorem dX7_addValue_22 : decode cX7_addValue 22 = .ok (.aload_n 0, 1) := by decide +kernel
theorem dX7_addValue_23 : decode cX7_addValue 23 = .ok (.getfield 11, 3) := by decide +kernel
theorem dX7_addValue_26 : decode cX7_addValue 26 = .ok (.iconst 1, 1) := by decide +kernel
theorem dX7_addValue_27 : decode cX7_addValue 27 = .ok (.isub, 1) := by decide +kernel
theorem dX7_addValue_28 : decode cX7_addValue 28 = .ok (.bipush 11, 2) := by decide +kernel
theorem dX7_addValue_30 : decode cX7_addValue 30 = .ok (.imul, 1) := by decide +kernel
theorem dX7_addValue_31 : decode cX7_addValue 31 = .ok (.iconst 3, 1) := by decide +kernel
theorem dX7_addValue_32 : decode cX7_addValue 32 = .ok (.iadd, 1) := by decide +kernel
theorem dX7_addValue_33 : decode cX7_addValue 33 = .ok (.iload_n 3, 1) := by decide +kernel
theorem dX7_addValue_34 : decode cX7_addValue 34 = .ok (.iadd, 1) := by decide +kernel
theorem dX7_addValue_35 : decode cX7_addValue 35 = .ok (.lload_n 1, 1) := by decide +kernel
theorem dX7_addValue_36 : decode cX7_addValue 36 = .ok (.lastore, 1) := by decide +kernel
theorem dX7_addValue_37 : decode cX7_addValue 37 = .ok (.aload_n 0, 1) := by decide +kernel
theorem dX7_addValue_38 : decode cX7_addValue 38 = .ok (.getfield 22, 3) := by decide +kernel
theorem dX7_addValue_41 : decode cX7_addValue 41 = .ok (.aload_n 0, 1) := by decide +kernel
theorem dX7_addValue_42 : decode cX7_addValue 42 = .ok (.getfield 11, 3) := by decide +kernel
theorem dX7_addValue_45 : decode cX7_addValue 45 = .ok (.iconst 1, 1) := by decide +kernel
theorem dX7_addValue_46 : decode cX7_addValue 46 = .ok (.isub, 1) := by decide +kernel
theorem dX7_addValue_47 : decode cX7_addValue 47 = .ok (.iload_n 3, 1) := by decide +kernel
theorem dX7_addValue_48 : decode cX7_addValue 48 = .ok (.iconst 1, 1) := by decide +kernel
theorem dX7_addValue_49 : decode cX7_addValue 49 = .ok (.iadd, 1) := by decide +kernel
theorem dX7_addValue_50 : decode cX7_addValue 50 = .ok (.iastore, 1) := by decide +kernel
theorem dX7_addValue_51 : decode cX7_addValue 51 = .ok (.return_, 1) := by decide +kernel
theorem dX7_putValues_0 : decode cX7_putValues 0 = .ok (.iconst 0, 1) := by decide +kernel
theorem dX7_putValues_1 : decode cX7_putValues 1 = .ok (.istore_n 3, 1) := by decide +kernel
theorem dX7_putValues_2 : decode cX7_putValues 2 = .ok (.iload_n 3, 1) := by decide +kernel
theorem dX7_putValues_3 : decode cX7_putValues 3 = .ok (.iload_n 2, 1) := by decide +kernel
theorem dX7_putValues_4 : decode cX7_putValues 4 = .ok (.if_icmp .ge 22, 3) := by decide +kernel
theorem dX7_putValues_7 : decode cX7_putValues 7 = .ok (.iload_n 3, 1) := by decide +kernel
theorem dX7_putValues_8 : decode cX7_putValues 8 = .ok (.bipush 8, 2) := by decide +kernel
theorem dX7_putValues_10 : decode cX7_putValues 10 = .ok (.if_icmp .ge 16, 3) := by decide +kernel
theorem dX7_putValues_13 : decode cX7_putValues 13 = .ok (.aload_n 0, 1) := by decide +kernel
theorem dX7_putValues_14 : decode cX7_putValues 14 = .ok (.aload_n 1, 1) := by decide +kernel
theorem dX7_putValues_15 : decode cX7_putValues 15 = .ok (.iload_n 3, 1) := by decide +kernel
theorem dX7_putValues_16 : decode cX7_putValues 16 = .ok (.laload, 1) := by decide +kernel
theorem dX7_putValues_17 : decode cX7_putValues 17 = .ok (.invokevirtual 41, 3) := by decide +kernel
theorem dX7_putValues_20 : decode cX7_putValues 20 = .ok (.iinc 3 1, 3) := by decide +kernel
theorem dX7_putValues_23 : decode cX7_putValues 23 = .ok (.goto (-21), 3) := by decide +kernel
theorem dX7_putValues_26 : decode cX7_putValues 26 = .ok (.return_, 1) := by decide +kernel
theorem dX7_takeValues_0 : decode cX7_takeValues 0 = .ok (.aload_n 0, 1) := by decide +kernel
theorem dX7_takeValues_1 : decode cX7_takeValues 1 = .ok (.invokevirtual 37, 3) := by decide +kernel
theorem dX7_takeValues_4 : decode cX7_takeValues 4 = .ok (.istore_n 2, 1) := by decide +kernel
theorem dX7_takeValues_5 : decode cX7_takeValues 5 = .ok (.aload_n 0, 1) := by decide +kernel
theorem dX7_takeValues_6 : decode cX7_takeValues 6 = .ok (.getfield 11, 3) := by decide +kernel
theorem dX7_takeValues_9 : decode cX7_takeValues 9 = .ok (.ifCond .le 24, 3) := by decide +kernel
theorem dX7_takeValues_12 : decode cX7_takeValues 12 = .ok (.aload_n 0, 1) := by decide +kernel
theorem dX7_takeValues_13 : decode cX7_takeValues 13 = .ok (.getfield 25, 3) := by decide +kernel
theorem dX7_takeValues_16 : decode cX7_takeValues 16 = .ok (.aload_n 0, 1) := by decide +kernel
theorem dX7_takeValues_17 : decode cX7_takeValues 17 = .ok (.getfield 11, 3) := by decide +kernel
theorem dX7_takeValues_20 : decode cX7_takeValues 20 = .ok (.iconst 1, 1) := by decide +kernel
theorem dX7_takeValues_21 : decode cX7_takeValues 21 = .ok (.isub, 1) := by decide +kernel
theorem dX7_takeValues_22 : decode cX7_takeValues 22 = .ok (.bipush 11, 2) := by decide +kernel
theorem dX7_takeValues_24 : decode cX7_takeValues 24 = .ok (.imul, 1) := by decide +kernel
theorem dX7_takeValues_25 : decode cX7_takeValues 25 = .ok (.iconst 3, 1) := by decide +kernel
theorem dX7_takeValues_26 : decode cX7_takeValues 26 = .ok (.iadd, 1) := by decide +kernel
theorem dX7_takeValues_27 : decode cX7_takeValues 27 = .ok (.aload_n 1, 1) := by decide +kernel
theorem dX7_takeValues_28 : decode cX7_takeValues 28 = .ok (.iconst 0, 1) := by decide +kernel
theorem dX7_takeValues_29 : decode cX7_takeValues 29 = .ok (.iload_n 2, 1) := by decide +kernel
theorem dX7_takeValues_30 : decode cX7_takeValues 30 = .ok (.invokestatic 45, 3) := by decide +kernel
theorem dX7_takeValues_33 : decode cX7_takeValues 33 = .ok (.iload_n 2, 1) := by decide +kernel
theorem dX7_takeValues_34 : decode cX7_takeValues 34 = .ok (.ireturn, 1) := by decide +kernel
theorem dX8_isNumber_0 : decode cX8_isNumber 0 = .ok (.lload_n 0, 1) := by decide +kernel
theorem dX8_isNumber_1 : decode cX8_isNumber 1 = .ok (.ldc2_w 9, 3) := by decide +kernel
theorem dX8_isNumber_4 : decode cX8_isNumber 4 = .ok (.lcmp, 1) := by decide +kernel
theorem dX8_isNumber_5 : decode cX8_isNumber 5 = .ok (.ifCond .ge 7, 3) := by decide +kernel
theorem dX8_isNumber_8 : decode cX8_isNumber 8 = .ok (.iconst 1, 1) := by decide +kernel
theorem dX8_isNumber_9 : decode cX8_isNumber 9 = .ok (.goto 4, 3) := by decide +kernel
theorem dX8_isNumber_12 : decode cX8_isNumber 12 = .ok (.iconst 0, 1) := by decide +kernel
theorem dX8_isNumber_13 : decode cX8_isNumber 13 = .ok (.ireturn, 1) := by decide +kernel
theorem dX8_isName_0 : decode cX8_isName 0 = .ok (.lload_n 0, 1) := by decide +kernel
theorem dX8_isName_1 : decode cX8_isName 1 = .ok (.ldc2_w 9, 3) := by decide +kernel
theorem dX8_isName_4 : decode cX8_isName 4 = .ok (.lcmp, 1) := by decide +kernel
theorem dX8_isName_5 : decode cX8_isName 5 = .ok (.ifCond .lt 15, 3) := by decide +kernel
theorem dX8_isName_8 : decode cX8_isName 8 = .ok (.lload_n 0, 1) := by decide +kernel
theorem dX8_isName_9 : decode cX8_isName 9 = .ok (.ldc2_w 11, 3) := by decide +kernel
theorem dX8_isName_12 : decode cX8_isName 12 = .ok (.lcmp, 1) := by decide +kernel
theorem dX8_isName_13 : decode cX8_isName 13 = .ok (.ifCond .ge 7, 3) := by decide +kernel
theorem dX8_isName_16 : decode cX8_isName 16 = .ok (.iconst 1, 1) := by decide +kernel
theorem dX8_isName_17 : decode cX8_isName 17 = .ok (.goto 4, 3) := by decide +kernel
theorem dX8_isName_20 : decode cX8_isName 20 = .ok (.iconst 0, 1) := by decide +kernel
theorem dX8_isName_21 : decode cX8_isName 21 = .ok (.ireturn, 1) := by decide +kernel
theorem dX8_isPair_0 : decode cX8_isPair 0 = .ok (.lload_n 0, 1) := by decide +kernel
theorem dX8_isPair_1 : decode cX8_isPair 1 = .ok (.ldc2_w 11, 3) := by decide +kernel
theorem dX8_isPair_4 : decode cX8_isPair 4 = .ok (.lcmp, 1) := by decide +kernel
theorem dX8_isPair_5 : decode cX8_isPair 5 = .ok (.ifCond .lt 15, 3) := by decide +kernel
theorem dX8_isPair_8 : decode cX8_isPair 8 = .ok (.lload_n 0, 1) := by decide +kernel
theorem dX8_isPair_9 : decode cX8_isPair 9 = .ok (.ldc2_w 13, 3) := by decide +kernel
theorem dX8_isPair_12 : decode cX8_isPair 12 = .ok (.lcmp, 1) := by decide +kernel
theorem dX8_isPair_13 : decode cX8_isPair 13 = .ok (.ifCond .ge 7, 3) := by decide +kernel
theorem dX8_isPair_16 : decode cX8_isPair 16 = .ok (.iconst 1, 1) := by decide +kernel
theorem dX8_isPair_17 : decode cX8_isPair 17 = .ok (.goto 4, 3) := by decide +kernel
theorem dX8_isPair_20 : decode cX8_isPair 20 = .ok (.iconst 0, 1) := by decide +kernel
theorem dX8_isPair_21 : decode cX8_isPair 21 = .ok (.ireturn, 1) := by decide +kernel
theorem dX8_isFixed_0 : decode cX8_isFixed 0 = .ok (.lload_n 0, 1) := by decide +kernel
theorem dX8_isFixed_1 : decode cX8_isFixed 1 = .ok (.invokestatic 15, 3) := by decide +kernel
theorem dX8_isFixed_4 : decode cX8_isFixed 4 = .ok (.ifCond .ne 19, 3) := by decide +kernel
theorem dX8_isFixed_7 : decode cX8_isFixed 7 = .ok (.lload_n 0, 1) := by decide +kernel
theorem dX8_isFixed_8 : decode cX8_isFixed 8 = .ok (.ldc2_w 9, 3) := by decide +kernel
theorem dX8_isFixed_11 : decode cX8_isFixed 11 = .ok (.lcmp, 1) := by decide +kernel
theorem dX8_isFixed_12 : decode cX8_isFixed 12 = .ok (.ifCond .eq 11, 3) := by decide +kernel
theorem dX8_isFixed_15 : decode cX8_isFixed 15 = .ok (.lload_n 0, 1) := by decide +kernel
theorem dX8_isFixed_16 : decode cX8_isFixed 16 = .ok (.ldc2_w 21, 3) := by decide +kernel
theorem dX8_isFixed_19 : decode cX8_isFixed 19 = .ok (.lcmp, 1) := by decide +kernel
theorem dX8_isFixed_20 : decode cX8_isFixed 20 = .ok (.ifCond .ne 7, 3) := by decide +kernel
theorem dX8_isFixed_23 : decode cX8_isFixed 23 = .ok (.iconst 1, 1) := by decide +kernel
theorem dX8_isFixed_24 : decode cX8_isFixed 24 = .ok (.goto 4, 3) := by decide +kernel
theorem dX8_isFixed_27 : decode cX8_isFixed 27 = .ok (.iconst 0, 1) := by decide +kernel
theorem dX8_isFixed_28 : decode cX8_isFixed 28 = .ok (.ireturn, 1) := by decide +kernel
theorem dX9_init_0 : decode cX9_init 0 = .ok (.aload_n 0, 1) := by decide +kernel
theorem dX9_init_1 : decode cX9_init 1 = .ok (.invokespecial 3, 3) := by decide +kernel
theorem dX9_init_4 : decode cX9_init 4 = .ok (.new 9, 3) := by decide +kernel
theorem dX9_init_7 : decode cX9_init 7 = .ok (.dup, 1) := by decide +kernel
theorem dX9_init_8 : decode cX9_init 8 = .ok (.iload_n 1, 1) := by decide +kernel
theorem dX9_init_9 : decode cX9_init 9 = .ok (.bipush 16, 2) := by decide +kernel
theorem dX9_init_11 : decode cX9_init 11 = .ok (.sipush 1000, 3) := by decide +kernel
theorem dX9_init_14 : decode cX9_init 14 = .ok (.sipush 300, 3) := by decide +kernel
theorem dX9_init_17 : decode cX9_init 17 = .ok (.invokestatic 11, 3) := by decide +kernel
theorem dX9_init_20 : decode cX9_init 20 = .ok (.invokespecial 15, 3) := by decide +kernel
theorem dX9_init_23 : decode cX9_init 23 = .ok (.astore 4, 2) := by decide +kernel
theorem dX9_init_25 : decode cX9_init 25 = .ok (.aload_n 0, 1) := by decide +kernel
theorem dX9_init_26 : decode cX9_init 26 = .ok (.new 18, 3) := by decide +kernel
theorem dX9_init_29 : decode cX9_init 29 = .ok (.dup, 1) := by decide +kernel
theorem dX9_init_30 : decode cX9_init 30 = .ok (.invokespecial 20, 3) := by decide +kernel
theorem dX9_init_33 : decode cX9_init 33 = .ok (.putfield 21, 3) := by decide +kernel
theorem dX9_init_36 : decode cX9_init 36 = .ok (.aload_n 0, 1) := by decide +kernel
theorem dX9_init_37 : decode cX9_init 37 = .ok (.new 25, 3) := by decide +kernel
theorem dX9_init_40 : decode cX9_init 40 = .ok (.dup, 1) := by decide +kernel
theorem dX9_init_41 : decode cX9_init 41 = .ok (.invokespecial 27, 3) := by decide +kernel
theorem dX9_init_44 : decode cX9_init 44 = .ok (.putfield 28, 3) := by decide +kernel
theorem dX9_init_47 : decode cX9_init 47 = .ok (.aload_n 0, 1) := by decide +kernel
theorem dX9_init_48 : decode cX9_init 48 = .ok (.new 32, 3) := by decide +kernel
theorem dX9_init_51 : decode cX9_init 51 = .ok (.dup, 1) := by decide +kernel
theorem dX9_init_52 : decode cX9_init 52 = .ok (.iload_n 2, 1) := by decide +kernel
theorem dX9_init_53 : decode cX9_init 53 = .ok (.iconst 4, 1) := by decide +kernel
theorem dX9_init_54 : decode cX9_init 54 = .ok (.sipush 200, 3) := by decide +kernel
theorem dX9_init_57 : decode cX9_init 57 = .ok (.bipush 100, 2) := by decide +kernel
theorem dX9_init_59 : decode cX9_init 59 = .ok (.invokestatic 11, 3) := by decide +kernel
theorem dX9_init_62 : decode cX9_init 62 = .ok (.invokespecial 34, 3) := by decide +kernel
theorem dX9_init_65 : decode cX9_init 65 = .ok (.putfield 35, 3) := by decide +kernel
theorem dX9_init_68 : decode cX9_init 68 = .ok (.aload_n 0, 1) := by decide +kernel
theorem dX9_init_69 : decode cX9_init 69 = .ok (.new 39, 3) := by decide +kernel
theorem dX9_init_72 : decode cX9_init 72 = .ok (.dup, 1) := by decide +kernel
theorem dX9_init_73 : decode cX9_init 73 = .ok (.aload 4, 2) := by decide +kernel
theorem dX9_init_75 : decode cX9_init 75 = .ok (.aload_n 0, 1) := by decide +kernel
theorem dX9_init_76 : decode cX9_init 76 = .ok (.getfield 28, 3) := by decide +kernel
theorem dX9_init_79 : decode cX9_init 79 = .ok (.aload_n 0, 1) := by decide +kernel
theorem dX9_init_80 : decode cX9_init 80 = .ok (.getfield 35, 3) := by decide +kernel
theorem dX9_init_83 : decode cX9_init 83 = .ok (.invokespecial 41, 3) := by decide +kernel
theorem dX9_init_86 : decode cX9_init 86 = .ok (.putfield 44, 3) := by decide +kernel
theorem dX9_init_89 : decode cX9_init 89 = .ok (.aload_n 0, 1) := by decide +kernel
theorem dX9_init_90 : decode cX9_init 90 = .ok (.new 48, 3) := by decide +kernel
theorem dX9_init_93 : decode cX9_init 93 = .ok (.dup, 1) := by decide +kernel
theorem dX9_init_94 : decode cX9_init 94 = .ok (.aload_n 0, 1) := by decide +kernel
theorem dX9_init_95 : decode cX9_init 95 = .ok (.getfield 21, 3) := by decide +kernel
theorem dX9_init_98 : decode cX9_init 98 = .ok (.aload_n 0, 1) := by decide +kernel
theorem dX9_init_99 : decode cX9_init 99 = .ok (.getfield 28, 3) := by decide +kernel
theorem dX9_init_102 : decode cX9_init 102 = .ok (.aload 4, 2) := by decide +kernel
theorem dX9_init_104 : decode cX9_init 104 = .ok (.aload_n 0, 1) := by decide +kernel
theorem dX9_init_105 : decode cX9_init 105 = .ok (.getfield 44, 3) := by decide +kernel
theorem dX9_init_108 : decode cX9_init 108 = .ok (.invokespecial 50, 3) := by decide +kernel
theorem dX9_init_111 : decode cX9_init 111 = .ok (.putfield 53, 3) := by decide +kernel
theorem dX9_init_114 : decode cX9_init 114 = .ok (.aload_n 0, 1) := by decide +kernel
theorem dX9_init_115 : decode cX9_init 115 = .ok (.new 57, 3) := by decide +kernel
theorem dX9_init_118 : decode cX9_init 118 = .ok (.dup, 1) := by decide +kernel
theorem dX9_init_119 : decode cX9_init 119 = .ok (.aload 4, 2) := by decide +kernel
theorem dX9_init_121 : decode cX9_init 121 = .ok (.aload_n 0, 1) := by decide +kernel
theorem dX9_init_122 : decode cX9_init 122 = .ok (.getfield 28, 3) := by decide +kernel
theorem dX9_init_125 : decode cX9_init 125 = .ok (.aload_n 0, 1) := by decide +kernel
theorem dX9_init_126 : decode cX9_init 126 = .ok (.getfield 35, 3) := by decide +kernel
theorem dX9_init_129 : decode cX9_init 129 = .ok (.aload_n 0, 1) := by decide +kernel
theorem dX9_init_130 : decode cX9_init 130 = .ok (.getfield 44, 3) := by decide +kernel
theorem dX9_init_133 : decode cX9_init 133 = .ok (.iload_n 3, 1) := by decide +kernel
theorem dX9_init_134 : decode cX9_init 134 = .ok (.bipush 10, 2) := by decide +kernel
theorem dX9_init_136 : decode cX9_init 136 = .ok (.sipush 20000, 3) := by decide +kernel
theorem dX9_init_139 : decode cX9_init 139 = .ok (.sipush 5000, 3) := by decide +kernel
theorem dX9_init_142 : decode cX9_init 142 = .ok (.invokestatic 11, 3) := by decide +kernel
theorem dX9_init_145 : decode cX9_init 145 = .ok (.invokespecial 59, 3) := by decide +kernel
theorem dX9_init_148 : decode cX9_init 148 = .ok (.putfield 62, 3) := by decide +kernel
theorem dX9_init_151 : decode cX9_init 151 = .ok (.aload_n 0, 1) := by decide +kernel
theorem dX9_init_152 : decode cX9_init 152 = .ok (.new 66, 3) := by decide +kernel
theorem dX9_init_155 : decode cX9_init 155 = .ok (.dup, 1) := by decide +kernel
theorem dX9_init_156 : decode cX9_init 156 = .ok (.aload 4, 2) := by decide +kernel
theorem dX9_init_158 : decode cX9_init 158 = .ok (.aload_n 0, 1) := by decide +kernel
theorem dX9_init_159 : decode cX9_init 159 = .ok (.getfield 28, 3) := by decide +kernel
theorem dX9_init_162 : decode cX9_init 162 = .ok (.invokespecial 68, 3) := by decide +kernel
theorem dX9_init_165 : decode cX9_init 165 = .ok (.putfield 71, 3) := by decide +kernel
theorem dX9_init_168 : decode cX9_init 168 = .ok (.aload_n 0, 1) := by decide +kernel
theorem dX9_init_169 : decode cX9_init 169 = .ok (.iconst 0, 1) := by decide +kernel
theorem dX9_init_170 : decode cX9_init 170 = .ok (.putfield 75, 3) := by decide +kernel
theorem dX9_init_173 : decode cX9_init 173 = .ok (.return_, 1) := by decide +kernel
theorem dX9_within_0 : decode cX9_within 0 = .ok (.iload_n 0, 1) := by decide +kernel
theorem dX9_within_1 : decode cX9_within 1 = .ok (.iload_n 1, 1) := by decide +kernel
theorem dX9_within_2 : decode cX9_within 2 = .ok (.if_icmp .lt 8, 3) := by decide +kernel
theorem dX9_within_5 : decode cX9_within 5 = .ok (.iload_n 0, 1) := by decide +kernel
theorem dX9_within_6 : decode cX9_within 6 = .ok (.iload_n 2, 1) := by decide +kernel
theorem dX9_within_7 : decode cX9_within 7 = .ok (.if_icmp .le 7, 3) := by decide +kernel
theorem dX9_within_10 : decode cX9_within 10 = .ok (.iload_n 3, 1) := by decide +kernel
theorem dX9_within_11 : decode cX9_within 11 = .ok (.goto 4, 3) := by decide +kernel
theorem dX9_within_14 : decode cX9_within 14 = .ok (.iload_n 0, 1) := by decide +kernel
theorem dX9_within_15 : decode cX9_within 15 = .ok (.ireturn, 1) := by decide +kernel
theorem dX9_write_0 : decode cX9_write 0 = .ok (.aload_n 0, 1) := by decide +kernel
theorem dX9_write_1 : decode cX9_write 1 = .ok (.getfield 21, 3) := by decide +kernel
theorem dX9_write_4 : decode cX9_write 4 = .ok (.lload_n 1, 1) := by decide +kernel
theorem dX9_write_5 : decode cX9_write 5 = .ok (.invokevirtual 79, 3) := by decide +kernel
theorem dX9_write_8 : decode cX9_write 8 = .ok (.ireturn, 1) := by decide +kernel
theorem dX9_clear_0 : decode cX9_clear 0 = .ok (.aload_n 0, 1) := by decide +kernel
theorem dX9_clear_1 : decode cX9_clear 1 = .ok (.getfield 21, 3) := by decide +kernel
theorem dX9_clear_4 : decode cX9_clear 4 = .ok (.iconst 0, 1) := by decide +kernel
theorem dX9_clear_5 : decode cX9_clear 5 = .ok (.putfield 83, 3) := by decide +kernel
theorem dX9_clear_8 : decode cX9_clear 8 = .ok (.aload_n 0, 1) := by decide +kernel
theorem dX9_clear_9 : decode cX9_clear 9 = .ok (.getfield 21, 3) := by decide +kernel
theorem dX9_clear_12 : decode cX9_clear 12 = .ok (.iconst 0, 1) := by decide +kernel
theorem dX9_clear_13 : decode cX9_clear 13 = .ok (.putfield 86, 3) := by decide +kernel
theorem dX9_clear_16 : decode cX9_clear 16 = .ok (.aload_n 0, 1) := by decide +kernel
theorem dX9_clear_17 : decode cX9_clear 17 = .ok (.getfield 21, 3) := by decide +kernel
theorem dX9_clear_20 : decode cX9_clear 20 = .ok (.iconst (-1), 1) := by decide +kernel
theorem dX9_clear_21 : decode cX9_clear 21 = .ok (.putfield 89, 3) := by decide +kernel
theorem dX9_clear_24 : decode cX9_clear 24 = .ok (.return_, 1) := by decide +kernel
theorem dX9_next_0 : decode cX9_next 0 = .ok (.aload_n 0, 1) := by decide +kernel
theorem dX9_next_1 : decode cX9_next 1 = .ok (.getfield 71, 3) := by decide +kernel
theorem dX9_next_4 : decode cX9_next 4 = .ok (.iconst 0, 1) := by decide +kernel
theorem dX9_next_5 : decode cX9_next 5 = .ok (.putfield 92, 3) := by decide +kernel
theorem dX9_next_8 : decode cX9_next 8 = .ok (.aload_n 0, 1) := by decide +kernel
theorem dX9_next_9 : decode cX9_next 9 = .ok (.getfield 62, 3) := by decide +kernel
theorem dX9_next_12 : decode cX9_next 12 = .ok (.iconst 0, 1) := by decide +kernel
theorem dX9_next_13 : decode cX9_next 13 = .ok (.putfield 93, 3) := by decide +kernel
theorem dX9_next_16 : decode cX9_next 16 = .ok (.aload_n 0, 1) := by decide +kernel
theorem dX9_next_17 : decode cX9_next 17 = .ok (.getfield 35, 3) := by decide +kernel
theorem dX9_next_20 : decode cX9_next 20 = .ok (.iconst 0, 1) := by decide +kernel
theorem dX9_next_21 : decode cX9_next 21 = .ok (.putfield 96, 3) := by decide +kernel
theorem dX9_next_24 : decode cX9_next 24 = .ok (.aload_n 0, 1) := by decide +kernel
theorem dX9_next_25 : decode cX9_next 25 = .ok (.getfield 35, 3) := by decide +kernel
theorem dX9_next_28 : decode cX9_next 28 = .ok (.iconst 0, 1) := by decide +kernel
theorem dX9_next_29 : decode cX9_next 29 = .ok (.putfield 99, 3) := by decide +kernel
theorem dX9_next_32 : decode cX9_next 32 = .ok (.aload_n 0, 1) := by decide +kernel
theorem dX9_next_33 : decode cX9_next 33 = .ok (.iconst 0, 1) := by decide +kernel
theorem dX9_next_34 : decode cX9_next 34 = .ok (.putfield 75, 3) := by decide +kernel
theorem dX9_next_37 : decode cX9_next 37 = .ok (.aload_n 0, 1) := by decide +kernel
theorem dX9_next_38 : decode cX9_next 38 = .ok (.getfield 21, 3) := by decide +kernel
theorem dX9_next_41 : decode cX9_next 41 = .ok (.iconst (-1), 1) := by decide +kernel
theorem dX9_next_42 : decode cX9_next 42 = .ok (.putfield 89, 3) := by decide +kernel
theorem dX9_next_45 : decode cX9_next 45 = .ok (.aload_n 0, 1) := by decide +kernel
theorem dX9_next_46 : decode cX9_next 46 = .ok (.getfield 21, 3) := by decide +kernel
theorem dX9_next_49 : decode cX9_next 49 = .ok (.aload_n 0, 1) := by decide +kernel
theorem dX9_next_50 : decode cX9_next 50 = .ok (.getfield 21, 3) := by decide +kernel
theorem dX9_next_53 : decode cX9_next 53 = .ok (.aload_n 0, 1) := by decide +kernel
theorem dX9_next_54 : decode cX9_next 54 = .ok (.getfield 21, 3) := by decide +kernel
theorem dX9_next_57 : decode cX9_next 57 = .ok (.getfield 86, 3) := by decide +kernel
theorem dX9_next_60 : decode cX9_next 60 = .ok (.invokevirtual 102, 3) := by decide +kernel
theorem dX9_next_63 : decode cX9_next 63 = .ok (.putfield 86, 3) := by decide +kernel
theorem dX9_next_66 : decode cX9_next 66 = .ok (.aload_n 0, 1) := by decide +kernel
theorem dX9_next_67 : decode cX9_next 67 = .ok (.getfield 21, 3) := by decide +kernel
theorem dX9_next_70 : decode cX9_next 70 = .ok (.getfield 86, 3) := by decide +kernel
theorem dX9_next_73 : decode cX9_next 73 = .ok (.aload_n 0, 1) := by decide +kernel
theorem dX9_next_74 : decode cX9_next 74 = .ok (.getfield 21, 3) := by decide +kernel
theorem dX9_next_77 : decode cX9_next 77 = .ok (.getfield 83, 3) := by decide +kernel
theorem dX9_next_80 : decode cX9_next 80 = .ok (.if_icmp .lt 5, 3) := by decide +kernel
theorem dX9_next_83 : decode cX9_next 83 = .ok (.iconst 0, 1) := by decide +kernel
theorem dX9_next_84 : decode cX9_next 84 = .ok (.ireturn, 1) := by decide +kernel
theorem dX9_next_85 : decode cX9_next 85 = .ok (.aload_n 0, 1) := by decide +kernel
theorem dX9_next_86 : decode cX9_next 86 = .ok (.aload_n 0, 1) := by decide +kernel
theorem dX9_next_87 : decode cX9_next 87 = .ok (.getfield 53, 3) := by decide +kernel
theorem dX9_next_90 : decode cX9_next 90 = .ok (.invokevirtual 106, 3) := by decide +kernel
theorem dX9_next_93 : decode cX9_next 93 = .ok (.putfield 75, 3) := by decide +kernel
theorem dX9_next_96 : decode cX9_next 96 = .ok (.aload_n 0, 1) := by decide +kernel
theorem dX9_next_97 : decode cX9_next 97 = .ok (.getfield 75, 3) := by decide +kernel
theorem dX9_next_100 : decode cX9_next 100 = .ok (.bipush 10, 2) := by decide +kernel
theorem dX9_next_102 : decode cX9_next 102 = .ok (.if_icmp .ne 13, 3) := by decide +kernel
theorem dX9_next_105 : decode cX9_next 105 = .ok (.new 110, 3) := by decide +kernel
theorem dX9_next_108 : decode cX9_next 108 = .ok (.dup, 1) := by decide +kernel
theorem dX9_next_109 : decode cX9_next 109 = .ok (.ldc 112, 2) := by decide +kernel
theorem dX9_next_111 : decode cX9_next 111 = .ok (.invokespecial 114, 3) := by decide +kernel
theorem dX9_next_114 : decode cX9_next 114 = .ok (.athrow, 1) := by decide +kernel
theorem dX9_next_115 : decode cX9_next 115 = .ok (.aload_n 0, 1) := by decide +kernel
theorem dX9_next_116 : decode cX9_next 116 = .ok (.getfield 75, 3) := by decide +kernel
theorem dX9_next_119 : decode cX9_next 119 = .ok (.ifCond .ne 21, 3) := by decide +kernel
theorem dX9_next_122 : decode cX9_next 122 = .ok (.aload_n 0, 1) := by decide +kernel
theorem dX9_next_123 : decode cX9_next 123 = .ok (.aload_n 0, 1) := by decide +kernel
theorem dX9_next_124 : decode cX9_next 124 = .ok (.getfield 62, 3) := by decide +kernel
theorem dX9_next_127 : decode cX9_next 127 = .ok (.aload_n 0, 1) := by decide +kernel
theorem dX9_next_128 : decode cX9_next 128 = .ok (.getfield 53, 3) := by decide +kernel
theorem dX9_next_131 : decode cX9_next 131 = .ok (.getfield 117, 3) := by decide +kernel
theorem dX9_next_134 : decode cX9_next 134 = .ok (.invokevirtual 121, 3) := by decide +kernel
theorem dX9_next_137 : decode cX9_next 137 = .ok (.putfield 75, 3) := by decide +kernel
theorem dX9_next_140 : decode cX9_next 140 = .ok (.aload_n 0, 1) := by decide +kernel
theorem dX9_next_141 : decode cX9_next 141 = .ok (.getfield 75, 3) := by decide +kernel
theorem dX9_next_144 : decode cX9_next 144 = .ok (.ifCond .eq 13, 3) := by decide +kernel
theorem dX9_next_147 : decode cX9_next 147 = .ok (.new 125, 3) := by decide +kernel
theorem dX9_next_150 : decode cX9_next 150 = .ok (.dup, 1) := by decide +kernel
theorem dX9_next_151 : decode cX9_next 151 = .ok (.ldc 127, 2) := by decide +kernel
theorem dX9_next_153 : decode cX9_next 153 = .ok (.invokespecial 129, 3) := by decide +kernel
theorem dX9_next_156 : decode cX9_next 156 = .ok (.athrow, 1) := by decide +kernel
theorem dX9_next_157 : decode cX9_next 157 = .ok (.aload_n 0, 1) := by decide +kernel
theorem dX9_next_158 : decode cX9_next 158 = .ok (.getfield 71, 3) := by decide +kernel
theorem dX9_next_161 : decode cX9_next 161 = .ok (.aload_n 0, 1) := by decide +kernel
theorem dX9_next_162 : decode cX9_next 162 = .ok (.getfield 62, 3) := by decide +kernel
theorem dX9_next_165 : decode cX9_next 165 = .ok (.getfield 130, 3) := by decide +kernel
theorem dX9_next_168 : decode cX9_next 168 = .ok (.invokevirtual 133, 3) := by decide +kernel
theorem dX9_next_171 : decode cX9_next 171 = .ok (.iconst 1, 1) := by decide +kernel
theorem dX9_next_172 : decode cX9_next 172 = .ok (.ireturn, 1) := by decide +kernel
theorem dX9_fault_0 : decode cX9_fault 0 = .ok (.aload_n 0, 1) := by decide +kernel
theorem dX9_fault_1 : decode cX9_fault 1 = .ok (.getfield 75, 3) := by decide +kernel
theorem dX9_fault_4 : decode cX9_fault 4 = .ok (.ireturn, 1) := by decide +kernel
theorem dX9_place_0 : decode cX9_place 0 = .ok (.aload_n 0, 1) := by decide +kernel
theorem dX9_place_1 : decode cX9_place 1 = .ok (.getfield 21, 3) := by decide +kernel
theorem dX9_place_4 : decode cX9_place 4 = .ok (.getfield 89, 3) := by decide +kernel
theorem dX9_place_7 : decode cX9_place 7 = .ok (.iconst (-1), 1) := by decide +kernel
theorem dX9_place_8 : decode cX9_place 8 = .ok (.if_icmp .ne 13, 3) := by decide +kernel
theorem dX9_place_11 : decode cX9_place 11 = .ok (.aload_n 0, 1) := by decide +kernel
theorem dX9_place_12 : decode cX9_place 12 = .ok (.getfield 21, 3) := by decide +kernel
theorem dX9_place_15 : decode cX9_place 15 = .ok (.getfield 86, 3) := by decide +kernel
theorem dX9_place_18 : decode cX9_place 18 = .ok (.goto 10, 3) := by decide +kernel
theorem dX9_place_21 : decode cX9_place 21 = .ok (.aload_n 0, 1) := by decide +kernel
theorem dX9_place_22 : decode cX9_place 22 = .ok (.getfield 21, 3) := by decide +kernel
theorem dX9_place_25 : decode cX9_place 25 = .ok (.getfield 89, 3) := by decide +kernel
theorem dX9_place_28 : decode cX9_place 28 = .ok (.ireturn, 1) := by decide +kernel
theorem dX9_size_0 : decode cX9_size 0 = .ok (.aload_n 0, 1) := by decide +kernel
theorem dX9_size_1 : decode cX9_size 1 = .ok (.getfield 71, 3) := by decide +kernel
theorem dX9_size_4 : decode cX9_size 4 = .ok (.getfield 92, 3) := by decide +kernel
theorem dX9_size_7 : decode cX9_size 7 = .ok (.ireturn, 1) := by decide +kernel
theorem dX9_out_0 : decode cX9_out 0 = .ok (.iload_n 1, 1) := by decide +kernel
theorem dX9_out_1 : decode cX9_out 1 = .ok (.ifCond .lt 14, 3) := by decide +kernel
theorem dX9_out_4 : decode cX9_out 4 = .ok (.iload_n 1, 1) := by decide +kernel
theorem dX9_out_5 : decode cX9_out 5 = .ok (.aload_n 0, 1) := by decide +kernel
theorem dX9_out_6 : decode cX9_out 6 = .ok (.getfield 71, 3) := by decide +kernel
theorem dX9_out_9 : decode cX9_out 9 = .ok (.getfield 92, 3) := by decide +kernel
theorem dX9_out_12 : decode cX9_out 12 = .ok (.if_icmp .lt 7, 3) := by decide +kernel
theorem dX9_out_15 : decode cX9_out 15 = .ok (.iconst (-1), 1) := by decide +kernel
theorem dX9_out_16 : decode cX9_out 16 = .ok (.goto 12, 3) := by decide +kernel
theorem dX9_out_19 : decode cX9_out 19 = .ok (.aload_n 0, 1) := by decide +kernel
theorem dX9_out_20 : decode cX9_out 20 = .ok (.getfield 71, 3) := by decide +kernel
theorem dX9_out_23 : decode cX9_out 23 = .ok (.getfield 137, 3) := by decide +kernel
theorem dX9_out_26 : decode cX9_out 26 = .ok (.iload_n 1, 1) := by decide +kernel
theorem dX9_out_27 : decode cX9_out 27 = .ok (.caload, 1) := by decide +kernel
theorem dX9_out_28 : decode cX9_out 28 = .ok (.ireturn, 1) := by decide +kernel
theorem dX9_count_0 : decode cX9_count 0 = .ok (.iload_n 1, 1) := by decide +kernel
theorem dX9_count_1 : decode cX9_count 1 = .ok (.tableswitch 63 0 3 #[31, 39, 47, 55], 31) := by decide +kernel
theorem dX9_count_32 : decode cX9_count 32 = .ok (.aload_n 0, 1) := by decide +kernel
theorem dX9_count_33 : decode cX9_count 33 = .ok (.getfield 62, 3) := by decide +kernel
theorem dX9_count_36 : decode cX9_count 36 = .ok (.getfield 93, 3) := by decide +kernel
theorem dX9_count_39 : decode cX9_count 39 = .ok (.ireturn, 1) := by decide +kernel
theorem dX9_count_40 : decode cX9_count 40 = .ok (.aload_n 0, 1) := by decide +kernel
theorem dX9_count_41 : decode cX9_count 41 = .ok (.getfield 44, 3) := by decide +kernel
theorem dX9_count_44 : decode cX9_count 44 = .ok (.invokevirtual 141, 3) := by decide +kernel
theorem dX9_count_47 : decode cX9_count 47 = .ok (.ireturn, 1) := by decide +kernel
theorem dX9_count_48 : decode cX9_count 48 = .ok (.aload_n 0, 1) := by decide +kernel
theorem dX9_count_49 : decode cX9_count 49 = .ok (.getfield 28, 3) := by decide +kernel
theorem dX9_count_52 : decode cX9_count 52 = .ok (.getfield 144, 3) := by decide +kernel
theorem dX9_count_55 : decode cX9_count 55 = .ok (.ireturn, 1) := by decide +kernel
theorem dX9_count_56 : decode cX9_count 56 = .ok (.aload_n 0, 1) := by decide +kernel
theorem dX9_count_57 : decode cX9_count 57 = .ok (.getfield 35, 3) := by decide +kernel
theorem dX9_count_60 : decode cX9_count 60 = .ok (.getfield 99, 3) := by decide +kernel
theorem dX9_count_63 : decode cX9_count 63 = .ok (.ireturn, 1) := by decide +kernel
theorem dX9_count_64 : decode cX9_count 64 = .ok (.iconst (-1), 1) := by decide +kernel
theorem dX9_count_65 : decode cX9_count 65 = .ok (.ireturn, 1) := by decide +kernel
end
section
theorem dX10_init_0 : decode cX10_init 0 = .ok (.aload_n 0, 1) := by decide +kernel
theorem dX10_init_1 : decode cX10_init 1 = .ok (.invokespecial 1, 3) := by decide +kernel
theorem dX10_init_4 : decode cX10_init 4 = .ok (.aload_n 0, 1) := by decide +kernel
theorem dX10_init_5 : decode cX10_init 5 = .ok (.iconst 0, 1) := by decide +kernel
theorem dX10_init_6 : decode cX10_init 6 = .ok (.putfield 7, 3) := by decide +kernel
theorem dX10_init_9 : decode cX10_init 9 = .ok (.aload_n 0, 1) := by decide +kernel
theorem dX10_init_10 : decode cX10_init 10 = .ok (.sipush 300, 3) := by decide +kernel
theorem dX10_init_13 : decode cX10_init 13 = .ok (.putfield 13, 3) := by decide +kernel
theorem dX10_init_16 : decode cX10_init 16 = .ok (.aload_n 0, 1) := by decide +kernel
theorem dX10_init_17 : decode cX10_init 17 = .ok (.bipush 100, 2) := by decide +kernel
theorem dX10_init_19 : decode cX10_init 19 = .ok (.putfield 16, 3) := by decide +kernel
theorem dX10_init_22 : decode cX10_init 22 = .ok (.aload_n 0, 1) := by decide +kernel
theorem dX10_init_23 : decode cX10_init 23 = .ok (.sipush 5000, 3) := by decide +kernel
theorem dX10_init_26 : decode cX10_init 26 = .ok (.putfield 19, 3) := by decide +kernel
theorem dX10_init_29 : decode cX10_init 29 = .ok (.aload_n 0, 1) := by decide +kernel
theorem dX10_init_30 : decode cX10_init 30 = .ok (.sipush 2000, 3) := by decide +kernel
theorem dX10_init_33 : decode cX10_init 33 = .ok (.newarray .int, 2) := by decide +kernel
theorem dX10_init_35 : decode cX10_init 35 = .ok (.putfield 22, 3) := by decide +kernel
theorem dX10_init_38 : decode cX10_init 38 = .ok (.aload_n 0, 1) := by decide +kernel
theorem dX10_init_39 : decode cX10_init 39 = .ok (.iconst 0, 1) := by decide +kernel
theorem dX10_init_40 : decode cX10_init 40 = .ok (.putfield 26, 3) := by decide +kernel
theorem dX10_init_43 : decode cX10_init 43 = .ok (.aload_n 0, 1) := by decide +kernel
theorem dX10_init_44 : decode cX10_init 44 = .ok (.iconst 0, 1) := by decide +kernel
theorem dX10_init_45 : decode cX10_init 45 = .ok (.putfield 29, 3) := by decide +kernel
theorem dX10_init_48 : decode cX10_init 48 = .ok (.aload_n 0, 1) := by decide +kernel
theorem dX10_init_49 : decode cX10_init 49 = .ok (.iconst 0, 1) := by decide +kernel
theorem dX10_init_50 : decode cX10_init 50 = .ok (.putfield 32, 3) := by decide +kernel
theorem dX10_init_53 : decode cX10_init 53 = .ok (.aload_n 0, 1) := by decide +kernel
theorem dX10_init_54 : decode cX10_init 54 = .ok (.iconst 0, 1) := by decide +kernel
theorem dX10_init_55 : decode cX10_init 55 = .ok (.putfield 35, 3) := by decide +kernel
theorem dX10_init_58 : decode cX10_init 58 = .ok (.aload_n 0, 1) := by decide +kernel
theorem dX10_init_59 : decode cX10_init 59 = .ok (.iconst 0, 1) := by decide +kernel
theorem dX10_init_60 : decode cX10_init 60 = .ok (.putfield 38, 3) := by decide +kernel
theorem dX10_init_63 : decode cX10_init 63 = .ok (.aload_n 0, 1) := by decide +kernel
theorem dX10_init_64 : decode cX10_init 64 = .ok (.iconst 0, 1) := by decide +kernel
theorem dX10_init_65 : decode cX10_init 65 = .ok (.putfield 41, 3) := by decide +kernel
theorem dX10_init_68 : decode cX10_init 68 = .ok (.aload_n 0, 1) := by decide +kernel
theorem dX10_init_69 : decode cX10_init 69 = .ok (.sipush 400, 3) := by decide +kernel
theorem dX10_init_72 : decode cX10_init 72 = .ok (.newarray .int, 2) := by decide +kernel
theorem dX10_init_74 : decode cX10_init 74 = .ok (.putfield 44, 3) := by decide +kernel
theorem dX10_init_77 : decode cX10_init 77 = .ok (.aload_n 0, 1) := by decide +kernel
theorem dX10_init_78 : decode cX10_init 78 = .ok (.iconst 0, 1) := by decide +kernel
theorem dX10_init_79 : decode cX10_init 79 = .ok (.putfield 47, 3) := by decide +kernel
theorem dX10_init_82 : decode cX10_init 82 = .ok (.aload_n 0, 1) := by decide +kernel
theorem dX10_init_83 : decode cX10_init 83 = .ok (.sipush 1000, 3) := by decide +kernel
theorem dX10_init_86 : decode cX10_init 86 = .ok (.newarray .long, 2) := by decide +kernel
theorem dX10_init_88 : decode cX10_init 88 = .ok (.putfield 50, 3) := by decide +kernel
theorem dX10_init_91 : decode cX10_init 91 = .ok (.aload_n 0, 1) := by decide +kernel
theorem dX10_init_92 : decode cX10_init 92 = .ok (.sipush 1000, 3) := by decide +kernel
theorem dX10_init_95 : decode cX10_init 95 = .ok (.newarray .long, 2) := by decide +kernel
theorem dX10_init_97 : decode cX10_init 97 = .ok (.putfield 54, 3) := by decide +kernel
theorem dX10_init_100 : decode cX10_init 100 = .ok (.aload_n 0, 1) := by decide +kernel
theorem dX10_init_101 : decode cX10_init 101 = .ok (.sipush 1000, 3) := by decide +kernel
theorem dX10_init_104 : decode cX10_init 104 = .ok (.newarray .boolean, 2) := by decide +kernel
theorem dX10_init_106 : decode cX10_init 106 = .ok (.putfield 57, 3) := by decide +kernel
theorem dX10_init_109 : decode cX10_init 109 = .ok (.aload_n 0, 1) := by decide +kernel
theorem dX10_init_110 : decode cX10_init 110 = .ok (.iconst 0, 1) := by decide +kernel
theorem dX10_init_111 : decode cX10_init 111 = .ok (.putfield 61, 3) := by decide +kernel
theorem dX10_init_114 : decode cX10_init 114 = .ok (.aload_n 0, 1) := by decide +kernel
theorem dX10_init_115 : decode cX10_init 115 = .ok (.sipush 1000, 3) := by decide +kernel
theorem dX10_init_118 : decode cX10_init 118 = .ok (.newarray .long, 2) := by decide +kernel
theorem dX10_init_120 : decode cX10_init 120 = .ok (.putfield 64, 3) := by decide +kernel
theorem dX10_init_123 : decode cX10_init 123 = .ok (.aload_n 0, 1) := by decide +kernel
theorem dX10_init_124 : decode cX10_init 124 = .ok (.iconst 0, 1) := by decide +kernel
theorem dX10_init_125 : decode cX10_init 125 = .ok (.putfield 67, 3) := by decide +kernel
theorem dX10_init_128 : decode cX10_init 128 = .ok (.aload_n 0, 1) := by decide +kernel
theorem dX10_init_129 : decode cX10_init 129 = .ok (.sipush 150, 3) := by decide +kernel
theorem dX10_init_132 : decode cX10_init 132 = .ok (.newarray .long, 2) := by decide +kernel
theorem dX10_init_134 : decode cX10_init 134 = .ok (.putfield 70, 3) := by decide +kernel
theorem dX10_init_137 : decode cX10_init 137 = .ok (.aload_n 0, 1) := by decide +kernel
theorem dX10_init_138 : decode cX10_init 138 = .ok (.sipush 150, 3) := by decide +kernel
theorem dX10_init_141 : decode cX10_init 141 = .ok (.newarray .long, 2) := by decide +kernel
theorem dX10_init_143 : decode cX10_init 143 = .ok (.putfield 73, 3) := by decide +kernel
theorem dX10_init_146 : decode cX10_init 146 = .ok (.aload_n 0, 1) := by decide +kernel
theorem dX10_init_147 : decode cX10_init 147 = .ok (.iconst 0, 1) := by decide +kernel
theorem dX10_init_148 : decode cX10_init 148 = .ok (.putfield 76, 3) := by decide +kernel
theorem dX10_init_151 : decode cX10_init 151 = .ok (.aload_n 0, 1) := by decide +kernel
theorem dX10_init_152 : decode cX10_init 152 = .ok (.sipush 150, 3) := by decide +kernel
theorem dX10_init_155 : decode cX10_init 155 = .ok (.newarray .long, 2) := by decide +kernel
theorem dX10_init_157 : decode cX10_init 157 = .ok (.putfield 79, 3) := by decide +kernel
theorem dX10_init_160 : decode cX10_init 160 = .ok (.aload_n 0, 1) := by decide +kernel
theorem dX10_init_161 : decode cX10_init 161 = .ok (.iconst 0, 1) := by decide +kernel
theorem dX10_init_162 : decode cX10_init 162 = .ok (.putfield 82, 3) := by decide +kernel
theorem dX10_init_165 : decode cX10_init 165 = .ok (.aload_n 0, 1) := by decide +kernel
theorem dX10_init_166 : decode cX10_init 166 = .ok (.iconst 0, 1) := by decide +kernel
theorem dX10_init_167 : decode cX10_init 167 = .ok (.putfield 85, 3) := by decide +kernel
theorem dX10_init_170 : decode cX10_init 170 = .ok (.aload_n 0, 1) := by decide +kernel
theorem dX10_init_171 : decode cX10_init 171 = .ok (.iconst 0, 1) := by decide +kernel
theorem dX10_init_172 : decode cX10_init 172 = .ok (.putfield 89, 3) := by decide +kernel
theorem dX10_init_175 : decode cX10_init 175 = .ok (.aload_n 0, 1) := by decide +kernel
theorem dX10_init_176 : decode cX10_init 176 = .ok (.bipush 61, 2) := by decide +kernel
theorem dX10_init_178 : decode cX10_init 178 = .ok (.newarray .int, 2) := by decide +kernel
theorem dX10_init_180 : decode cX10_init 180 = .ok (.putfield 92, 3) := by decide +kernel
theorem dX10_init_183 : decode cX10_init 183 = .ok (.aload_n 0, 1) := by decide +kernel
theorem dX10_init_184 : decode cX10_init 184 = .ok (.bipush 61, 2) := by decide +kernel
theorem dX10_init_186 : decode cX10_init 186 = .ok (.newarray .long, 2) := by decide +kernel
theorem dX10_init_188 : decode cX10_init 188 = .ok (.putfield 95, 3) := by decide +kernel
theorem dX10_init_191 : decode cX10_init 191 = .ok (.aload_n 0, 1) := by decide +kernel
theorem dX10_init_192 : decode cX10_init 192 = .ok (.bipush 61, 2) := by decide +kernel
theorem dX10_init_194 : decode cX10_init 194 = .ok (.newarray .int, 2) := by decide +kernel
theorem dX10_init_196 : decode cX10_init 196 = .ok (.putfield 98, 3) := by decide +kernel
theorem dX10_init_199 : decode cX10_init 199 = .ok (.aload_n 0, 1) := by decide +kernel
theorem dX10_init_200 : decode cX10_init 200 = .ok (.iconst 0, 1) := by decide +kernel
theorem dX10_init_201 : decode cX10_init 201 = .ok (.putfield 101, 3) := by decide +kernel
theorem dX10_init_204 : decode cX10_init 204 = .ok (.aload_n 0, 1) := by decide +kernel
theorem dX10_init_205 : decode cX10_init 205 = .ok (.iconst 0, 1) := by decide +kernel
theorem dX10_init_206 : decode cX10_init 206 = .ok (.putfield 104, 3) := by decide +kernel
theorem dX10_init_209 : decode cX10_init 209 = .ok (.aload_n 0, 1) := by decide +kernel
theorem dX10_init_210 : decode cX10_init 210 = .ok (.lconst 0, 1) := by decide +kernel
theorem dX10_init_211 : decode cX10_init 211 = .ok (.putfield 107, 3) := by decide +kernel
theorem dX10_init_214 : decode cX10_init 214 = .ok (.aload_n 0, 1) := by decide +kernel
theorem dX10_init_215 : decode cX10_init 215 = .ok (.iconst 0, 1) := by decide +kernel
theorem dX10_init_216 : decode cX10_init 216 = .ok (.putfield 111, 3) := by decide +kernel
theorem dX10_init_219 : decode cX10_init 219 = .ok (.aload_n 0, 1) := by decide +kernel
theorem dX10_init_220 : decode cX10_init 220 = .ok (.sipush 200, 3) := by decide +kernel
theorem dX10_init_223 : decode cX10_init 223 = .ok (.newarray .int, 2) := by decide +kernel
theorem dX10_init_225 : decode cX10_init 225 = .ok (.putfield 114, 3) := by decide +kernel
theorem dX10_init_228 : decode cX10_init 228 = .ok (.aload_n 0, 1) := by decide +kernel
theorem dX10_init_229 : decode cX10_init 229 = .ok (.sipush 200, 3) := by decide +kernel
theorem dX10_init_232 : decode cX10_init 232 = .ok (.newarray .long, 2) := by decide +kernel
theorem dX10_init_234 : decode cX10_init 234 = .ok (.putfield 117, 3) := by decide +kernel
theorem dX10_init_237 : decode cX10_init 237 = .ok (.aload_n 0, 1) := by decide +kernel
theorem dX10_init_238 : decode cX10_init 238 = .ok (.sipush 200, 3) := by decide +kernel
theorem dX10_init_241 : decode cX10_init 241 = .ok (.newarray .long, 2) := by decide +kernel
theorem dX10_init_243 : decode cX10_init 243 = .ok (.putfield 120, 3) := by decide +kernel
theorem dX10_init_246 : decode cX10_init 246 = .ok (.aload_n 0, 1) := by decide +kernel
theorem dX10_init_247 : decode cX10_init 247 = .ok (.sipush 200, 3) := by decide +kernel
theorem dX10_init_250 : decode cX10_init 250 = .ok (.newarray .long, 2) := by decide +kernel
theorem dX10_init_252 : decode cX10_init 252 = .ok (.putfield 123, 3) := by decide +kernel
theorem dX10_init_255 : decode cX10_init 255 = .ok (.aload_n 0, 1) := by decide +kernel
theorem dX10_init_256 : decode cX10_init 256 = .ok (.sipush 200, 3) := by decide +kernel
theorem dX10_init_259 : decode cX10_init 259 = .ok (.newarray .int, 2) := by decide +kernel
theorem dX10_init_261 : decode cX10_init 261 = .ok (.putfield 126, 3) := by decide +kernel
theorem dX10_init_264 : decode cX10_init 264 = .ok (.aload_n 0, 1) := by decide +kernel
theorem dX10_init_265 : decode cX10_init 265 = .ok (.sipush 1600, 3) := by decide +kernel
theorem dX10_init_268 : decode cX10_init 268 = .ok (.newarray .long, 2) := by decide +kernel
theorem dX10_init_270 : decode cX10_init 270 = .ok (.putfield 129, 3) := by decide +kernel
theorem dX10_init_273 : decode cX10_init 273 = .ok (.aload_n 0, 1) := by decide +kernel
theorem dX10_init_274 : decode cX10_init 274 = .ok (.iconst 0, 1) := by decide +kernel
theorem dX10_init_275 : decode cX10_init 275 = .ok (.putfield 132, 3) := by decide +kernel
theorem dX10_init_278 : decode cX10_init 278 = .ok (.aload_n 0, 1) := by decide +kernel
theorem dX10_init_279 : decode cX10_init 279 = .ok (.lconst 0, 1) := by decide +kernel
theorem dX10_init_280 : decode cX10_init 280 = .ok (.putfield 135, 3) := by decide +kernel
theorem dX10_init_283 : decode cX10_init 283 = .ok (.aload_n 0, 1) := by decide +kernel
theorem dX10_init_284 : decode cX10_init 284 = .ok (.lconst 0, 1) := by decide +kernel
theorem dX10_init_285 : decode cX10_init 285 = .ok (.putfield 138, 3) := by decide +kernel
theorem dX10_init_288 : decode cX10_init 288 = .ok (.aload_n 0, 1) := by decide +kernel
theorem dX10_init_289 : decode cX10_init 289 = .ok (.bipush 8, 2) := by decide +kernel
theorem dX10_init_291 : decode cX10_init 291 = .ok (.newarray .long, 2) := by decide +kernel
theorem dX10_init_293 : decode cX10_init 293 = .ok (.putfield 141, 3) := by decide +kernel
theorem dX10_init_296 : decode cX10_init 296 = .ok (.aload_n 0, 1) := by decide +kernel
theorem dX10_init_297 : decode cX10_init 297 = .ok (.iconst 0, 1) := by decide +kernel
theorem dX10_init_298 : decode cX10_init 298 = .ok (.putfield 144, 3) := by decide +kernel
theorem dX10_init_301 : decode cX10_init 301 = .ok (.iload_n 1, 1) := by decide +kernel
theorem dX10_init_302 : decode cX10_init 302 = .ok (.bipush 16, 2) := by decide +kernel
theorem dX10_init_304 : decode cX10_init 304 = .ok (.if_icmp .lt 15, 3) := by decide +kernel
theorem dX10_init_307 : decode cX10_init 307 = .ok (.iload_n 1, 1) := by decide +kernel
theorem dX10_init_308 : decode cX10_init 308 = .ok (.sipush 1000, 3) := by decide +kernel
theorem dX10_init_311 : decode cX10_init 311 = .ok (.if_icmp .gt 8, 3) := by decide +kernel
theorem dX10_init_314 : decode cX10_init 314 = .ok (.aload_n 0, 1) := by decide +kernel
theorem dX10_init_315 : decode cX10_init 315 = .ok (.iload_n 1, 1) := by decide +kernel
theorem dX10_init_316 : decode cX10_init 316 = .ok (.putfield 13, 3) := by decide +kernel
theorem dX10_init_319 : decode cX10_init 319 = .ok (.iload_n 2, 1) := by decide +kernel
theorem dX10_init_320 : decode cX10_init 320 = .ok (.iconst 4, 1) := by decide +kernel
theorem dX10_init_321 : decode cX10_init 321 = .ok (.if_icmp .lt 15, 3) := by decide +kernel
theorem dX10_init_324 : decode cX10_init 324 = .ok (.iload_n 2, 1) := by decide +kernel
theorem dX10_init_325 : decode cX10_init 325 = .ok (.sipush 200, 3) := by decide +kernel
theorem dX10_init_328 : decode cX10_init 328 = .ok (.if_icmp .gt 8, 3) := by decide +kernel
theorem dX10_init_331 : decode cX10_init 331 = .ok (.aload_n 0, 1) := by decide +kernel
theorem dX10_init_332 : decode cX10_init 332 = .ok (.iload_n 2, 1) := by decide +kernel
theorem dX10_init_333 : decode cX10_init 333 = .ok (.putfield 16, 3) := by decide +kernel
theorem dX10_init_336 : decode cX10_init 336 = .ok (.iload_n 3, 1) := by decide +kernel
theorem dX10_init_337 : decode cX10_init 337 = .ok (.bipush 10, 2) := by decide +kernel
theorem dX10_init_339 : decode cX10_init 339 = .ok (.if_icmp .lt 15, 3) := by decide +kernel
theorem dX10_init_342 : decode cX10_init 342 = .ok (.iload_n 3, 1) := by decide +kernel
theorem dX10_init_343 : decode cX10_init 343 = .ok (.sipush 20000, 3) := by decide +kernel
theorem dX10_init_346 : decode cX10_init 346 = .ok (.if_icmp .gt 8, 3) := by decide +kernel
theorem dX10_init_349 : decode cX10_init 349 = .ok (.aload_n 0, 1) := by decide +kernel
theorem dX10_init_350 : decode cX10_init 350 = .ok (.iload_n 3, 1) := by decide +kernel
theorem dX10_init_351 : decode cX10_init 351 = .ok (.putfield 19, 3) := by decide +kernel
theorem dX10_init_354 : decode cX10_init 354 = .ok (.aload_n 0, 1) := by decide +kernel
theorem dX10_init_355 : decode cX10_init 355 = .ok (.ldc2_w 147, 3) := by decide +kernel
theorem dX10_init_358 : decode cX10_init 358 = .ok (.invokevirtual 149, 3) := by decide +kernel
theorem dX10_init_361 : decode cX10_init 361 = .ok (.aload_n 0, 1) := by decide +kernel
theorem dX10_init_362 : decode cX10_init 362 = .ok (.ldc2_w 153, 3) := by decide +kernel
theorem dX10_init_365 : decode cX10_init 365 = .ok (.invokevirtual 149, 3) := by decide +kernel
theorem dX10_init_368 : decode cX10_init 368 = .ok (.aload_n 0, 1) := by decide +kernel
theorem dX10_init_369 : decode cX10_init 369 = .ok (.ldc2_w 155, 3) := by decide +kernel
theorem dX10_init_372 : decode cX10_init 372 = .ok (.invokevirtual 149, 3) := by decide +kernel
theorem dX10_init_375 : decode cX10_init 375 = .ok (.aload_n 0, 1) := by decide +kernel
theorem dX10_init_376 : decode cX10_init 376 = .ok (.ldc2_w 157, 3) := by decide +kernel
theorem dX10_init_379 : decode cX10_init 379 = .ok (.invokevirtual 149, 3) := by decide +kernel
theorem dX10_init_382 : decode cX10_init 382 = .ok (.aload_n 0, 1) := by decide +kernel
theorem dX10_init_383 : decode cX10_init 383 = .ok (.ldc2_w 159, 3) := by decide +kernel
theorem dX10_init_386 : decode cX10_init 386 = .ok (.invokevirtual 149, 3) := by decide +kernel
theorem dX10_init_389 : decode cX10_init 389 = .ok (.aload_n 0, 1) := by decide +kernel
theorem dX10_init_390 : decode cX10_init 390 = .ok (.ldc2_w 161, 3) := by decide +kernel
theorem dX10_init_393 : decode cX10_init 393 = .ok (.invokevirtual 149, 3) := by decide +kernel
theorem dX10_init_396 : decode cX10_init 396 = .ok (.aload_n 0, 1) := by decide +kernel
theorem dX10_init_397 : decode cX10_init 397 = .ok (.ldc2_w 163, 3) := by decide +kernel
theorem dX10_init_400 : decode cX10_init 400 = .ok (.invokevirtual 149, 3) := by decide +kernel
theorem dX10_init_403 : decode cX10_init 403 = .ok (.aload_n 0, 1) := by decide +kernel
theorem dX10_init_404 : decode cX10_init 404 = .ok (.ldc2_w 165, 3) := by decide +kernel
theorem dX10_init_407 : decode cX10_init 407 = .ok (.invokevirtual 149, 3) := by decide +kernel
theorem dX10_init_410 : decode cX10_init 410 = .ok (.aload_n 0, 1) := by decide +kernel
theorem dX10_init_411 : decode cX10_init 411 = .ok (.ldc2_w 167, 3) := by decide +kernel
theorem dX10_init_414 : decode cX10_init 414 = .ok (.invokevirtual 149, 3) := by decide +kernel
theorem dX10_init_417 : decode cX10_init 417 = .ok (.aload_n 0, 1) := by decide +kernel
theorem dX10_init_418 : decode cX10_init 418 = .ok (.ldc2_w 169, 3) := by decide +kernel
theorem dX10_init_421 : decode cX10_init 421 = .ok (.invokevirtual 149, 3) := by decide +kernel
theorem dX10_init_424 : decode cX10_init 424 = .ok (.aload_n 0, 1) := by decide +kernel
theorem dX10_init_425 : decode cX10_init 425 = .ok (.ldc2_w 171, 3) := by decide +kernel
theorem dX10_init_428 : decode cX10_init 428 = .ok (.invokevirtual 149, 3) := by decide +kernel
theorem dX10_init_431 : decode cX10_init 431 = .ok (.aload_n 0, 1) := by decide +kernel
theorem dX10_init_432 : decode cX10_init 432 = .ok (.ldc2_w 173, 3) := by decide +kernel
theorem dX10_init_435 : decode cX10_init 435 = .ok (.invokevirtual 149, 3) := by decide +kernel
theorem dX10_init_438 : decode cX10_init 438 = .ok (.aload_n 0, 1) := by decide +kernel
theorem dX10_init_439 : decode cX10_init 439 = .ok (.ldc2_w 175, 3) := by decide +kernel
theorem dX10_init_442 : decode cX10_init 442 = .ok (.invokevirtual 149, 3) := by decide +kernel
theorem dX10_init_445 : decode cX10_init 445 = .ok (.aload_n 0, 1) := by decide +kernel
theorem dX10_init_446 : decode cX10_init 446 = .ok (.ldc2_w 177, 3) := by decide +kernel
theorem dX10_init_449 : decode cX10_init 449 = .ok (.invokevirtual 149, 3) := by decide +kernel
theorem dX10_init_452 : decode cX10_init 452 = .ok (.aload_n 0, 1) := by decide +kernel
theorem dX10_init_453 : decode cX10_init 453 = .ok (.ldc2_w 179, 3) := by decide +kernel
theorem dX10_init_456 : decode cX10_init 456 = .ok (.invokevirtual 149, 3) := by decide +kernel
theorem dX10_init_459 : decode cX10_init 459 = .ok (.aload_n 0, 1) := by decide +kernel
theorem dX10_init_460 : decode cX10_init 460 = .ok (.ldc2_w 181, 3) := by decide +kernel
theorem dX10_init_463 : decode cX10_init 463 = .ok (.invokevirtual 149, 3) := by decide +kernel
theorem dX10_init_466 : decode cX10_init 466 = .ok (.aload_n 0, 1) := by decide +kernel
theorem dX10_init_467 : decode cX10_init 467 = .ok (.ldc2_w 183, 3) := by decide +kernel
theorem dX10_init_470 : decode cX10_init 470 = .ok (.invokevirtual 149, 3) := by decide +kernel
theorem dX10_init_473 : decode cX10_init 473 = .ok (.aload_n 0, 1) := by decide +kernel
theorem dX10_init_474 : decode cX10_init 474 = .ok (.ldc2_w 185, 3) := by decide +kernel
theorem dX10_init_477 : decode cX10_init 477 = .ok (.invokevirtual 149, 3) := by decide +kernel
theorem dX10_init_480 : decode cX10_init 480 = .ok (.aload_n 0, 1) := by decide +kernel
theorem dX10_init_481 : decode cX10_init 481 = .ok (.getfield 70, 3) := by decide +kernel
theorem dX10_init_484 : decode cX10_init 484 = .ok (.bipush 15, 2) := by decide +kernel
theorem dX10_init_486 : decode cX10_init 486 = .ok (.aload_n 0, 1) := by decide +kernel
theorem dX10_init_487 : decode cX10_init 487 = .ok (.getfield 70, 3) := by decide +kernel
theorem dX10_init_490 : decode cX10_init 490 = .ok (.bipush 15, 2) := by decide +kernel
theorem dX10_init_492 : decode cX10_init 492 = .ok (.laload, 1) := by decide +kernel
theorem dX10_init_493 : decode cX10_init 493 = .ok (.ldc2_w 187, 3) := by decide +kernel
theorem dX10_init_496 : decode cX10_init 496 = .ok (.lmul, 1) := by decide +kernel
theorem dX10_init_497 : decode cX10_init 497 = .ok (.ldc2_w 187, 3) := by decide +kernel
theorem dX10_init_500 : decode cX10_init 500 = .ok (.lmul, 1) := by decide +kernel
theorem dX10_init_501 : decode cX10_init 501 = .ok (.ldc2_w 189, 3) := by decide +kernel
theorem dX10_init_504 : decode cX10_init 504 = .ok (.ladd, 1) := by decide +kernel
theorem dX10_init_505 : decode cX10_init 505 = .ok (.ldc2_w 191, 3) := by decide +kernel
theorem dX10_init_508 : decode cX10_init 508 = .ok (.ladd, 1) := by decide +kernel
theorem dX10_init_509 : decode cX10_init 509 = .ok (.lastore, 1) := by decide +kernel
theorem dX10_init_510 : decode cX10_init 510 = .ok (.return_, 1) := by decide +kernel
theorem dX10_digitOf_0 : decode cX10_digitOf 0 = .ok (.iload_n 0, 1) := by decide +kernel
theorem dX10_digitOf_1 : decode cX10_digitOf 1 = .ok (.bipush 65, 2) := by decide +kernel
theorem dX10_digitOf_3 : decode cX10_digitOf 3 = .ok (.if_icmp .lt 16, 3) := by decide +kernel
theorem dX10_digitOf_6 : decode cX10_digitOf 6 = .ok (.iload_n 0, 1) := by decide +kernel
theorem dX10_digitOf_7 : decode cX10_digitOf 7 = .ok (.bipush 90, 2) := by decide +kernel
theorem dX10_digitOf_9 : decode cX10_digitOf 9 = .ok (.if_icmp .gt 10, 3) := by decide +kernel
theorem dX10_digitOf_12 : decode cX10_digitOf 12 = .ok (.iload_n 0, 1) := by decide +kernel
theorem dX10_digitOf_13 : decode cX10_digitOf 13 = .ok (.bipush 64, 2) := by decide +kernel
theorem dX10_digitOf_15 : decode cX10_digitOf 15 = .ok (.isub, 1) := by decide +kernel
theorem dX10_digitOf_16 : decode cX10_digitOf 16 = .ok (.goto 23, 3) := by decide +kernel
theorem dX10_digitOf_19 : decode cX10_digitOf 19 = .ok (.iload_n 0, 1) := by decide +kernel
theorem dX10_digitOf_20 : decode cX10_digitOf 20 = .ok (.bipush 48, 2) := by decide +kernel
theorem dX10_digitOf_22 : decode cX10_digitOf 22 = .ok (.if_icmp .lt 16, 3) := by decide +kernel
theorem dX10_digitOf_25 : decode cX10_digitOf 25 = .ok (.iload_n 0, 1) := by decide +kernel
theorem dX10_digitOf_26 : decode cX10_digitOf 26 = .ok (.bipush 57, 2) := by decide +kernel
theorem dX10_digitOf_28 : decode cX10_digitOf 28 = .ok (.if_icmp .gt 10, 3) := by decide +kernel
theorem dX10_digitOf_31 : decode cX10_digitOf 31 = .ok (.iload_n 0, 1) := by decide +kernel
theorem dX10_digitOf_32 : decode cX10_digitOf 32 = .ok (.bipush 21, 2) := by decide +kernel
theorem dX10_digitOf_34 : decode cX10_digitOf 34 = .ok (.isub, 1) := by decide +kernel
theorem dX10_digitOf_35 : decode cX10_digitOf 35 = .ok (.goto 4, 3) := by decide +kernel
theorem dX10_digitOf_38 : decode cX10_digitOf 38 = .ok (.iconst 0, 1) := by decide +kernel
theorem dX10_digitOf_39 : decode cX10_digitOf 39 = .ok (.ireturn, 1) := by decide +kernel
theorem dX10_known_0 : decode cX10_known 0 = .ok (.lconst 0, 1) := by decide +kernel
theorem dX10_known_1 : decode cX10_known 1 = .ok (.lstore_n 3, 1) := by decide +kernel
theorem dX10_known_2 : decode cX10_known 2 = .ok (.bipush 56, 2) := by decide +kernel
theorem dX10_known_4 : decode cX10_known 4 = .ok (.istore 5, 2) := by decide +kernel
theorem dX10_known_6 : decode cX10_known 6 = .ok (.iload 5, 2) := by decide +kernel
theorem dX10_known_8 : decode cX10_known 8 = .ok (.ifCond .lt 38, 3) := by decide +kernel
theorem dX10_known_11 : decode cX10_known 11 = .ok (.lload_n 1, 1) := by decide +kernel
theorem dX10_known_12 : decode cX10_known 12 = .ok (.iload 5, 2) := by decide +kernel
theorem dX10_known_14 : decode cX10_known 14 = .ok (.lshr, 1) := by decide +kernel
theorem dX10_known_15 : decode cX10_known 15 = .ok (.l2i, 1) := by decide +kernel
theorem dX10_known_16 : decode cX10_known 16 = .ok (.sipush 255, 3) := by decide +kernel
theorem dX10_known_19 : decode cX10_known 19 = .ok (.iand, 1) := by decide +kernel
theorem dX10_known_20 : decode cX10_known 20 = .ok (.istore 6, 2) := by decide +kernel
theorem dX10_known_22 : decode cX10_known 22 = .ok (.iload 6, 2) := by decide +kernel
theorem dX10_known_24 : decode cX10_known 24 = .ok (.ifCond .eq 16, 3) := by decide +kernel
theorem dX10_known_27 : decode cX10_known 27 = .ok (.lload_n 3, 1) := by decide +kernel
theorem dX10_known_28 : decode cX10_known 28 = .ok (.ldc2_w 187, 3) := by decide +kernel
theorem dX10_known_31 : decode cX10_known 31 = .ok (.lmul, 1) := by decide +kernel
theorem dX10_known_32 : decode cX10_known 32 = .ok (.iload 6, 2) := by decide +kernel
theorem dX10_known_34 : decode cX10_known 34 = .ok (.invokestatic 193, 3) := by decide +kernel
theorem dX10_known_37 : decode cX10_known 37 = .ok (.i2l, 1) := by decide +kernel
theorem dX10_known_38 : decode cX10_known 38 = .ok (.ladd, 1) := by decide +kernel
theorem dX10_known_39 : decode cX10_known 39 = .ok (.lstore_n 3, 1) := by decide +kernel
theorem dX10_known_40 : decode cX10_known 40 = .ok (.iinc 5 (-8), 3) := by decide +kernel
theorem dX10_known_43 : decode cX10_known 43 = .ok (.goto (-37), 3) := by decide +kernel
theorem dX10_known_46 : decode cX10_known 46 = .ok (.aload_n 0, 1) := by decide +kernel
theorem dX10_known_47 : decode cX10_known 47 = .ok (.getfield 70, 3) := by decide +kernel
theorem dX10_known_50 : decode cX10_known 50 = .ok (.aload_n 0, 1) := by decide +kernel
theorem dX10_known_51 : decode cX10_known 51 = .ok (.getfield 76, 3) := by decide +kernel
theorem dX10_known_54 : decode cX10_known 54 = .ok (.lload_n 3, 1) := by decide +kernel
theorem dX10_known_55 : decode cX10_known 55 = .ok (.lastore, 1) := by decide +kernel
theorem dX10_known_56 : decode cX10_known 56 = .ok (.aload_n 0, 1) := by decide +kernel
theorem dX10_known_57 : decode cX10_known 57 = .ok (.getfield 73, 3) := by decide +kernel
theorem dX10_known_60 : decode cX10_known 60 = .ok (.aload_n 0, 1) := by decide +kernel
theorem dX10_known_61 : decode cX10_known 61 = .ok (.getfield 76, 3) := by decide +kernel
theorem dX10_known_64 : decode cX10_known 64 = .ok (.ldc2_w 197, 3) := by decide +kernel
theorem dX10_known_67 : decode cX10_known 67 = .ok (.lastore, 1) := by decide +kernel
theorem dX10_known_68 : decode cX10_known 68 = .ok (.aload_n 0, 1) := by decide +kernel
theorem dX10_known_69 : decode cX10_known 69 = .ok (.dup, 1) := by decide +kernel
theorem dX10_known_70 : decode cX10_known 70 = .ok (.getfield 76, 3) := by decide +kernel
theorem dX10_known_73 : decode cX10_known 73 = .ok (.iconst 1, 1) := by decide +kernel
theorem dX10_known_74 : decode cX10_known 74 = .ok (.iadd, 1) := by decide +kernel
theorem dX10_known_75 : decode cX10_known 75 = .ok (.putfield 76, 3) := by decide +kernel
theorem dX10_known_78 : decode cX10_known 78 = .ok (.return_, 1) := by decide +kernel
theorem dX10_isName_0 : decode cX10_isName 0 = .ok (.lload_n 0, 1) := by decide +kernel
theorem dX10_isName_1 : decode cX10_isName 1 = .ok (.ldc2_w 199, 3) := by decide +kernel
theorem dX10_isName_4 : decode cX10_isName 4 = .ok (.lcmp, 1) := by decide +kernel
theorem dX10_isName_5 : decode cX10_isName 5 = .ok (.ifCond .lt 15, 3) := by decide +kernel
theorem dX10_isName_8 : decode cX10_isName 8 = .ok (.lload_n 0, 1) := by decide +kernel
theorem dX10_isName_9 : decode cX10_isName 9 = .ok (.ldc2_w 201, 3) := by decide +kernel
theorem dX10_isName_12 : decode cX10_isName 12 = .ok (.lcmp, 1) := by decide +kernel
theorem dX10_isName_13 : decode cX10_isName 13 = .ok (.ifCond .ge 7, 3) := by decide +kernel
theorem dX10_isName_16 : decode cX10_isName 16 = .ok (.iconst 1, 1) := by decide +kernel
theorem dX10_isName_17 : decode cX10_isName 17 = .ok (.goto 4, 3) := by decide +kernel
theorem dX10_isName_20 : decode cX10_isName 20 = .ok (.iconst 0, 1) := by decide +kernel
theorem dX10_isName_21 : decode cX10_isName 21 = .ok (.ireturn, 1) := by decide +kernel
theorem dX10_isPair_0 : decode cX10_isPair 0 = .ok (.lload_n 0, 1) := by decide +kernel
theorem dX10_isPair_1 : decode cX10_isPair 1 = .ok (.ldc2_w 201, 3) := by decide +kernel
theorem dX10_isPair_4 : decode cX10_isPair 4 = .ok (.lcmp, 1) := by decide +kernel
theorem dX10_isPair_5 : decode cX10_isPair 5 = .ok (.ifCond .lt 7, 3) := by decide +kernel
theorem dX10_isPair_8 : decode cX10_isPair 8 = .ok (.iconst 1, 1) := by decide +kernel
theorem dX10_isPair_9 : decode cX10_isPair 9 = .ok (.goto 4, 3) := by decide +kernel
theorem dX10_isPair_12 : decode cX10_isPair 12 = .ok (.iconst 0, 1) := by decide +kernel
theorem dX10_isPair_13 : decode cX10_isPair 13 = .ok (.ireturn, 1) := by decide +kernel
theorem dX10_isNumber_0 : decode cX10_isNumber 0 = .ok (.lload_n 0, 1) := by decide +kernel
theorem dX10_isNumber_1 : decode cX10_isNumber 1 = .ok (.lconst 0, 1) := by decide +kernel
theorem dX10_isNumber_2 : decode cX10_isNumber 2 = .ok (.lcmp, 1) := by decide +kernel
theorem dX10_isNumber_3 : decode cX10_isNumber 3 = .ok (.ifCond .lt 15, 3) := by decide +kernel
theorem dX10_isNumber_6 : decode cX10_isNumber 6 = .ok (.lload_n 0, 1) := by decide +kernel
theorem dX10_isNumber_7 : decode cX10_isNumber 7 = .ok (.ldc2_w 199, 3) := by decide +kernel
theorem dX10_isNumber_10 : decode cX10_isNumber 10 = .ok (.lcmp, 1) := by decide +kernel
theorem dX10_isNumber_11 : decode cX10_isNumber 11 = .ok (.ifCond .ge 7, 3) := by decide +kernel
theorem dX10_isNumber_14 : decode cX10_isNumber 14 = .ok (.iconst 1, 1) := by decide +kernel
theorem dX10_isNumber_15 : decode cX10_isNumber 15 = .ok (.goto 4, 3) := by decide +kernel
theorem dX10_isNumber_18 : decode cX10_isNumber 18 = .ok (.iconst 0, 1) := by decide +kernel
theorem dX10_isNumber_19 : decode cX10_isNumber 19 = .ok (.ireturn, 1) := by decide +kernel
theorem dX10_number_0 : decode cX10_number 0 = .ok (.iload_n 0, 1) := by decide +kernel
theorem dX10_number_1 : decode cX10_number 1 = .ok (.i2l, 1) := by decide +kernel
theorem dX10_number_2 : decode cX10_number 2 = .ok (.ldc2_w 203, 3) := by decide +kernel
theorem dX10_number_5 : decode cX10_number 5 = .ok (.land, 1) := by decide +kernel
theorem dX10_number_6 : decode cX10_number 6 = .ok (.lreturn, 1) := by decide +kernel
theorem dX10_first_0 : decode cX10_first 0 = .ok (.aload_n 0, 1) := by decide +kernel
theorem dX10_first_1 : decode cX10_first 1 = .ok (.getfield 50, 3) := by decide +kernel
theorem dX10_first_4 : decode cX10_first 4 = .ok (.lload_n 1, 1) := by decide +kernel
theorem dX10_first_5 : decode cX10_first 5 = .ok (.ldc2_w 201, 3) := by decide +kernel
theorem dX10_first_8 : decode cX10_first 8 = .ok (.lsub, 1) := by decide +kernel
theorem dX10_first_9 : decode cX10_first 9 = .ok (.l2i, 1) := by decide +kernel
theorem dX10_first_10 : decode cX10_first 10 = .ok (.laload, 1) := by decide +kernel
theorem dX10_first_11 : decode cX10_first 11 = .ok (.lreturn, 1) := by decide +kernel
theorem dX10_behind_0 : decode cX10_behind 0 = .ok (.aload_n 0, 1) := by decide +kernel
theorem dX10_behind_1 : decode cX10_behind 1 = .ok (.getfield 54, 3) := by decide +kernel
theorem dX10_behind_4 : decode cX10_behind 4 = .ok (.lload_n 1, 1) := by decide +kernel
theorem dX10_behind_5 : decode cX10_behind 5 = .ok (.ldc2_w 201, 3) := by decide +kernel
theorem dX10_behind_8 : decode cX10_behind 8 = .ok (.lsub, 1) := by decide +kernel
theorem dX10_behind_9 : decode cX10_behind 9 = .ok (.l2i, 1) := by decide +kernel
theorem dX10_behind_10 : decode cX10_behind 10 = .ok (.laload, 1) := by decide +kernel
theorem dX10_behind_11 : decode cX10_behind 11 = .ok (.lreturn, 1) := by decide +kernel
theorem dX10_hold_0 : decode cX10_hold 0 = .ok (.lload_n 1, 1) := by decide +kernel
theorem dX10_hold_1 : decode cX10_hold 1 = .ok (.invokestatic 205, 3) := by decide +kernel
theorem dX10_hold_4 : decode cX10_hold 4 = .ok (.ifCond .ne 4, 3) := by decide +kernel
theorem dX10_hold_7 : decode cX10_hold 7 = .ok (.return_, 1) := by decide +kernel
theorem dX10_hold_8 : decode cX10_hold 8 = .ok (.lload_n 1, 1) := by decide +kernel
theorem dX10_hold_9 : decode cX10_hold 9 = .ok (.ldc2_w 201, 3) := by decide +kernel
theorem dX10_hold_12 : decode cX10_hold 12 = .ok (.lsub, 1) := by decide +kernel
theorem dX10_hold_13 : decode cX10_hold 13 = .ok (.l2i, 1) := by decide +kernel
theorem dX10_hold_14 : decode cX10_hold 14 = .ok (.istore_n 3, 1) := by decide +kernel
theorem dX10_hold_15 : decode cX10_hold 15 = .ok (.aload_n 0, 1) := by decide +kernel
theorem dX10_hold_16 : decode cX10_hold 16 = .ok (.getfield 57, 3) := by decide +kernel
theorem dX10_hold_19 : decode cX10_hold 19 = .ok (.iload_n 3, 1) := by decide +kernel
theorem dX10_hold_20 : decode cX10_hold 20 = .ok (.baload, 1) := by decide +kernel
theorem dX10_hold_21 : decode cX10_hold 21 = .ok (.ifCond .eq 4, 3) := by decide +kernel
theorem dX10_hold_24 : decode cX10_hold 24 = .ok (.return_, 1) := by decide +kernel
theorem dX10_hold_25 : decode cX10_hold 25 = .ok (.aload_n 0, 1) := by decide +kernel
theorem dX10_hold_26 : decode cX10_hold 26 = .ok (.getfield 57, 3) := by decide +kernel
theorem dX10_hold_29 : decode cX10_hold 29 = .ok (.iload_n 3, 1) := by decide +kernel
theorem dX10_hold_30 : decode cX10_hold 30 = .ok (.iconst 1, 1) := by decide +kernel
theorem dX10_hold_31 : decode cX10_hold 31 = .ok (.bastore, 1) := by decide +kernel
theorem dX10_hold_32 : decode cX10_hold 32 = .ok (.aload_n 0, 1) := by decide +kernel
theorem dX10_hold_33 : decode cX10_hold 33 = .ok (.dup, 1) := by decide +kernel
theorem dX10_hold_34 : decode cX10_hold 34 = .ok (.getfield 61, 3) := by decide +kernel
theorem dX10_hold_37 : decode cX10_hold 37 = .ok (.iconst 1, 1) := by decide +kernel
theorem dX10_hold_38 : decode cX10_hold 38 = .ok (.iadd, 1) := by decide +kernel
theorem dX10_hold_39 : decode cX10_hold 39 = .ok (.putfield 61, 3) := by decide +kernel
theorem dX10_hold_42 : decode cX10_hold 42 = .ok (.aload_n 0, 1) := by decide +kernel
theorem dX10_hold_43 : decode cX10_hold 43 = .ok (.getfield 64, 3) := by decide +kernel
theorem dX10_hold_46 : decode cX10_hold 46 = .ok (.aload_n 0, 1) := by decide +kernel
theorem dX10_hold_47 : decode cX10_hold 47 = .ok (.getfield 67, 3) := by decide +kernel
theorem dX10_hold_50 : decode cX10_hold 50 = .ok (.lload_n 1, 1) := by decide +kernel
theorem dX10_hold_51 : decode cX10_hold 51 = .ok (.lastore, 1) := by decide +kernel
theorem dX10_hold_52 : decode cX10_hold 52 = .ok (.aload_n 0, 1) := by decide +kernel
theorem dX10_hold_53 : decode cX10_hold 53 = .ok (.dup, 1) := by decide +kernel
theorem dX10_hold_54 : decode cX10_hold 54 = .ok (.getfield 67, 3) := by decide +kernel
theorem dX10_hold_57 : decode cX10_hold 57 = .ok (.iconst 1, 1) := by decide +kernel
theorem dX10_hold_58 : decode cX10_hold 58 = .ok (.iadd, 1) := by decide +kernel
theorem dX10_hold_59 : decode cX10_hold 59 = .ok (.putfield 67, 3) := by decide +kernel
theorem dX10_hold_62 : decode cX10_hold 62 = .ok (.return_, 1) := by decide +kernel
theorem dX10_holdAll_0 : decode cX10_holdAll 0 = .ok (.aload_n 0, 1) := by decide +kernel
theorem dX10_holdAll_1 : decode cX10_holdAll 1 = .ok (.getfield 67, 3) := by decide +kernel
theorem dX10_holdAll_4 : decode cX10_holdAll 4 = .ok (.ifCond .le 44, 3) := by decide +kernel
theorem dX10_holdAll_7 : decode cX10_holdAll 7 = .ok (.aload_n 0, 1) := by decide +kernel
theorem dX10_holdAll_8 : decode cX10_holdAll 8 = .ok (.dup, 1) := by decide +kernel
theorem dX10_holdAll_9 : decode cX10_holdAll 9 = .ok (.getfield 67, 3) := by decide +kernel
theorem dX10_holdAll_12 : decode cX10_holdAll 12 = .ok (.iconst 1, 1) := by decide +kernel
theorem dX10_holdAll_13 : decode cX10_holdAll 13 = .ok (.isub, 1) := by decide +kernel
theorem dX10_holdAll_14 : decode cX10_holdAll 14 = .ok (.putfield 67, 3) := by decide +kernel
theorem dX10_holdAll_17 : decode cX10_holdAll 17 = .ok (.aload_n 0, 1) := by decide +kernel
theorem dX10_holdAll_18 : decode cX10_holdAll 18 = .ok (.getfield 64, 3) := by decide +kernel
theorem dX10_holdAll_21 : decode cX10_holdAll 21 = .ok (.aload_n 0, 1) := by decide +kernel
theorem dX10_holdAll_22 : decode cX10_holdAll 22 = .ok (.getfield 67, 3) := by decide +kernel
theorem dX10_holdAll_25 : decode cX10_holdAll 25 = .ok (.laload, 1) := by decide +kernel
theorem dX10_holdAll_26 : decode cX10_holdAll 26 = .ok (.lstore_n 1, 1) := by decide +kernel
theorem dX10_holdAll_27 : decode cX10_holdAll 27 = .ok (.aload_n 0, 1) := by decide +kernel
theorem dX10_holdAll_28 : decode cX10_holdAll 28 = .ok (.aload_n 0, 1) := by decide +kernel
theorem dX10_holdAll_29 : decode cX10_holdAll 29 = .ok (.lload_n 1, 1) := by decide +kernel
theorem dX10_holdAll_30 : decode cX10_holdAll 30 = .ok (.invokevirtual 209, 3) := by decide +kernel
theorem dX10_holdAll_33 : decode cX10_holdAll 33 = .ok (.invokevirtual 213, 3) := by decide +kernel
theorem dX10_holdAll_36 : decode cX10_holdAll 36 = .ok (.aload_n 0, 1) := by decide +kernel
theorem dX10_holdAll_37 : decode cX10_holdAll 37 = .ok (.aload_n 0, 1) := by decide +kernel
theorem dX10_holdAll_38 : decode cX10_holdAll 38 = .ok (.lload_n 1, 1) := by decide +kernel
theorem dX10_holdAll_39 : decode cX10_holdAll 39 = .ok (.invokevirtual 216, 3) := by decide +kernel
theorem dX10_holdAll_42 : decode cX10_holdAll 42 = .ok (.invokevirtual 213, 3) := by decide +kernel
theorem dX10_holdAll_45 : decode cX10_holdAll 45 = .ok (.goto (-45), 3) := by decide +kernel
theorem dX10_holdAll_48 : decode cX10_holdAll 48 = .ok (.return_, 1) := by decide +kernel
theorem dX10_holdGlobals_0 : decode cX10_holdGlobals 0 = .ok (.iconst 0, 1) := by decide +kernel
theorem dX10_holdGlobals_1 : decode cX10_holdGlobals 1 = .ok (.istore_n 1, 1) := by decide +kernel
theorem dX10_holdGlobals_2 : decode cX10_holdGlobals 2 = .ok (.iload_n 1, 1) := by decide +kernel
theorem dX10_holdGlobals_3 : decode cX10_holdGlobals 3 = .ok (.sipush 1000, 3) := by decide +kernel
theorem dX10_holdGlobals_6 : decode cX10_holdGlobals 6 = .ok (.if_icmp .ge 16, 3) := by decide +kernel
theorem dX10_holdGlobals_9 : decode cX10_holdGlobals 9 = .ok (.aload_n 0, 1) := by decide +kernel
theorem dX10_holdGlobals_10 : decode cX10_holdGlobals 10 = .ok (.getfield 57, 3) := by decide +kernel
theorem dX10_holdGlobals_13 : decode cX10_holdGlobals 13 = .ok (.iload_n 1, 1) := by decide +kernel
theorem dX10_holdGlobals_14 : decode cX10_holdGlobals 14 = .ok (.iconst 0, 1) := by decide +kernel
theorem dX10_holdGlobals_15 : decode cX10_holdGlobals 15 = .ok (.bastore, 1) := by decide +kernel
theorem dX10_holdGlobals_16 : decode cX10_holdGlobals 16 = .ok (.iinc 1 1, 3) := by decide +kernel
theorem dX10_holdGlobals_19 : decode cX10_holdGlobals 19 = .ok (.goto (-17), 3) := by decide +kernel
theorem dX10_holdGlobals_22 : decode cX10_holdGlobals 22 = .ok (.aload_n 0, 1) := by decide +kernel
theorem dX10_holdGlobals_23 : decode cX10_holdGlobals 23 = .ok (.iconst 0, 1) := by decide +kernel
theorem dX10_holdGlobals_24 : decode cX10_holdGlobals 24 = .ok (.putfield 61, 3) := by decide +kernel
theorem dX10_holdGlobals_27 : decode cX10_holdGlobals 27 = .ok (.aload_n 0, 1) := by decide +kernel
theorem dX10_holdGlobals_28 : decode cX10_holdGlobals 28 = .ok (.iconst 0, 1) := by decide +kernel
theorem dX10_holdGlobals_29 : decode cX10_holdGlobals 29 = .ok (.putfield 67, 3) := by decide +kernel
theorem dX10_holdGlobals_32 : decode cX10_holdGlobals 32 = .ok (.iconst 0, 1) := by decide +kernel
theorem dX10_holdGlobals_33 : decode cX10_holdGlobals 33 = .ok (.istore_n 1, 1) := by decide +kernel
theorem dX10_holdGlobals_34 : decode cX10_holdGlobals 34 = .ok (.iload_n 1, 1) := by decide +kernel
theorem dX10_holdGlobals_35 : decode cX10_holdGlobals 35 = .ok (.aload_n 0, 1) := by decide +kernel
theorem dX10_holdGlobals_36 : decode cX10_holdGlobals 36 = .ok (.getfield 76, 3) := by decide +kernel
theorem dX10_holdGlobals_39 : decode cX10_holdGlobals 39 = .ok (.if_icmp .ge 30, 3) := by decide +kernel
theorem dX10_holdGlobals_42 : decode cX10_holdGlobals 42 = .ok (.aload_n 0, 1) := by decide +kernel
theorem dX10_holdGlobals_43 : decode cX10_holdGlobals 43 = .ok (.getfield 73, 3) := by decide +kernel
theorem dX10_holdGlobals_46 : decode cX10_holdGlobals 46 = .ok (.iload_n 1, 1) := by decide +kernel
theorem dX10_holdGlobals_47 : decode cX10_holdGlobals 47 = .ok (.laload, 1) := by decide +kernel
theorem dX10_holdGlobals_48 : decode cX10_holdGlobals 48 = .ok (.lconst 0, 1) := by decide +kernel
theorem dX10_holdGlobals_49 : decode cX10_holdGlobals 49 = .ok (.lcmp, 1) := by decide +kernel
theorem dX10_holdGlobals_50 : decode cX10_holdGlobals 50 = .ok (.ifCond .lt 13, 3) := by decide +kernel
theorem dX10_holdGlobals_53 : decode cX10_holdGlobals 53 = .ok (.aload_n 0, 1) := by decide +kernel
theorem dX10_holdGlobals_54 : decode cX10_holdGlobals 54 = .ok (.aload_n 0, 1) := by decide +kernel
theorem dX10_holdGlobals_55 : decode cX10_holdGlobals 55 = .ok (.getfield 73, 3) := by decide +kernel
theorem dX10_holdGlobals_58 : decode cX10_holdGlobals 58 = .ok (.iload_n 1, 1) := by decide +kernel
theorem dX10_holdGlobals_59 : decode cX10_holdGlobals 59 = .ok (.laload, 1) := by decide +kernel
theorem dX10_holdGlobals_60 : decode cX10_holdGlobals 60 = .ok (.invokevirtual 213, 3) := by decide +kernel
theorem dX10_holdGlobals_63 : decode cX10_holdGlobals 63 = .ok (.iinc 1 1, 3) := by decide +kernel
theorem dX10_holdGlobals_66 : decode cX10_holdGlobals 66 = .ok (.goto (-32), 3) := by decide +kernel
theorem dX10_holdGlobals_69 : decode cX10_holdGlobals 69 = .ok (.aload_n 0, 1) := by decide +kernel
theorem dX10_holdGlobals_70 : decode cX10_holdGlobals 70 = .ok (.invokevirtual 219, 3) := by decide +kernel
theorem dX10_holdGlobals_73 : decode cX10_holdGlobals 73 = .ok (.return_, 1) := by decide +kernel
theorem dX10_holdWaiting_0 : decode cX10_holdWaiting 0 = .ok (.aload_n 0, 1) := by decide +kernel
theorem dX10_holdWaiting_1 : decode cX10_holdWaiting 1 = .ok (.invokevirtual 222, 3) := by decide +kernel
theorem dX10_holdWaiting_4 : decode cX10_holdWaiting 4 = .ok (.iconst 0, 1) := by decide +kernel
theorem dX10_holdWaiting_5 : decode cX10_holdWaiting 5 = .ok (.istore_n 1, 1) := by decide +kernel
theorem dX10_holdWaiting_6 : decode cX10_holdWaiting 6 = .ok (.iload_n 1, 1) := by decide +kernel
theorem dX10_holdWaiting_7 : decode cX10_holdWaiting 7 = .ok (.aload_n 0, 1) := by decide +kernel
theorem dX10_holdWaiting_8 : decode cX10_holdWaiting 8 = .ok (.getfield 111, 3) := by decide +kernel
theorem dX10_holdWaiting_11 : decode cX10_holdWaiting 11 = .ok (.if_icmp .ge 76, 3) := by decide +kernel
theorem dX10_holdWaiting_14 : decode cX10_holdWaiting 14 = .ok (.aload_n 0, 1) := by decide +kernel
theorem dX10_holdWaiting_15 : decode cX10_holdWaiting 15 = .ok (.aload_n 0, 1) := by decide +kernel
theorem dX10_holdWaiting_16 : decode cX10_holdWaiting 16 = .ok (.getfield 117, 3) := by decide +kernel
theorem dX10_holdWaiting_19 : decode cX10_holdWaiting 19 = .ok (.iload_n 1, 1) := by decide +kernel
theorem dX10_holdWaiting_20 : decode cX10_holdWaiting 20 = .ok (.laload, 1) := by decide +kernel
theorem dX10_holdWaiting_21 : decode cX10_holdWaiting 21 = .ok (.invokevirtual 213, 3) := by decide +kernel
theorem dX10_holdWaiting_24 : decode cX10_holdWaiting 24 = .ok (.aload_n 0, 1) := by decide +kernel
theorem dX10_holdWaiting_25 : decode cX10_holdWaiting 25 = .ok (.aload_n 0, 1) := by decide +kernel
theorem dX10_holdWaiting_26 : decode cX10_holdWaiting 26 = .ok (.getfield 120, 3) := by decide +kernel
theorem dX10_holdWaiting_29 : decode cX10_holdWaiting 29 = .ok (.iload_n 1, 1) := by decide +kernel
theorem dX10_holdWaiting_30 : decode cX10_holdWaiting 30 = .ok (.laload, 1) := by decide +kernel
theorem dX10_holdWaiting_31 : decode cX10_holdWaiting 31 = .ok (.invokevirtual 213, 3) := by decide +kernel
theorem dX10_holdWaiting_34 : decode cX10_holdWaiting 34 = .ok (.aload_n 0, 1) := by decide +kernel
theorem dX10_holdWaiting_35 : decode cX10_holdWaiting 35 = .ok (.aload_n 0, 1) := by decide +kernel
theorem dX10_holdWaiting_36 : decode cX10_holdWaiting 36 = .ok (.getfield 123, 3) := by decide +kernel
theorem dX10_holdWaiting_39 : decode cX10_holdWaiting 39 = .ok (.iload_n 1, 1) := by decide +kernel
theorem dX10_holdWaiting_40 : decode cX10_holdWaiting 40 = .ok (.laload, 1) := by decide +kernel
theorem dX10_holdWaiting_41 : decode cX10_holdWaiting 41 = .ok (.invokevirtual 213, 3) := by decide +kernel
theorem dX10_holdWaiting_44 : decode cX10_holdWaiting 44 = .ok (.iconst 0, 1) := by decide +kernel
theorem dX10_holdWaiting_45 : decode cX10_holdWaiting 45 = .ok (.istore_n 2, 1) := by decide +kernel
theorem dX10_holdWaiting_46 : decode cX10_holdWaiting 46 = .ok (.iload_n 2, 1) := by decide +kernel
theorem dX10_holdWaiting_47 : decode cX10_holdWaiting 47 = .ok (.aload_n 0, 1) := by decide +kernel
theorem dX10_holdWaiting_48 : decode cX10_holdWaiting 48 = .ok (.getfield 126, 3) := by decide +kernel
theorem dX10_holdWaiting_51 : decode cX10_holdWaiting 51 = .ok (.iload_n 1, 1) := by decide +kernel
theorem dX10_holdWaiting_52 : decode cX10_holdWaiting 52 = .ok (.iaload, 1) := by decide +kernel
theorem dX10_holdWaiting_53 : decode cX10_holdWaiting 53 = .ok (.if_icmp .ge 24, 3) := by decide +kernel
theorem dX10_holdWaiting_56 : decode cX10_holdWaiting 56 = .ok (.aload_n 0, 1) := by decide +kernel
theorem dX10_holdWaiting_57 : decode cX10_holdWaiting 57 = .ok (.aload_n 0, 1) := by decide +kernel
theorem dX10_holdWaiting_58 : decode cX10_holdWaiting 58 = .ok (.getfield 129, 3) := by decide +kernel
theorem dX10_holdWaiting_61 : decode cX10_holdWaiting 61 = .ok (.bipush 8, 2) := by decide +kernel
theorem dX10_holdWaiting_63 : decode cX10_holdWaiting 63 = .ok (.iload_n 1, 1) := by decide +kernel
theorem dX10_holdWaiting_64 : decode cX10_holdWaiting 64 = .ok (.imul, 1) := by decide +kernel
theorem dX10_holdWaiting_65 : decode cX10_holdWaiting 65 = .ok (.iload_n 2, 1) := by decide +kernel
theorem dX10_holdWaiting_66 : decode cX10_holdWaiting 66 = .ok (.iadd, 1) := by decide +kernel
theorem dX10_holdWaiting_67 : decode cX10_holdWaiting 67 = .ok (.laload, 1) := by decide +kernel
theorem dX10_holdWaiting_68 : decode cX10_holdWaiting 68 = .ok (.invokevirtual 213, 3) := by decide +kernel
theorem dX10_holdWaiting_71 : decode cX10_holdWaiting 71 = .ok (.iinc 2 1, 3) := by decide +kernel
theorem dX10_holdWaiting_74 : decode cX10_holdWaiting 74 = .ok (.goto (-28), 3) := by decide +kernel
theorem dX10_holdWaiting_77 : decode cX10_holdWaiting 77 = .ok (.aload_n 0, 1) := by decide +kernel
theorem dX10_holdWaiting_78 : decode cX10_holdWaiting 78 = .ok (.invokevirtual 219, 3) := by decide +kernel
theorem dX10_holdWaiting_81 : decode cX10_holdWaiting 81 = .ok (.iinc 1 1, 3) := by decide +kernel
theorem dX10_holdWaiting_84 : decode cX10_holdWaiting 84 = .ok (.goto (-78), 3) := by decide +kernel
theorem dX10_holdWaiting_87 : decode cX10_holdWaiting 87 = .ok (.return_, 1) := by decide +kernel
theorem dX10_room_0 : decode cX10_room 0 = .ok (.aload_n 0, 1) := by decide +kernel
theorem dX10_room_1 : decode cX10_room 1 = .ok (.invokevirtual 219, 3) := by decide +kernel
theorem dX10_room_4 : decode cX10_room 4 = .ok (.aload_n 0, 1) := by decide +kernel
theorem dX10_room_5 : decode cX10_room 5 = .ok (.getfield 61, 3) := by decide +kernel
theorem dX10_room_8 : decode cX10_room 8 = .ok (.iload_n 1, 1) := by decide +kernel
theorem dX10_room_9 : decode cX10_room 9 = .ok (.iadd, 1) := by decide +kernel
theorem dX10_room_10 : decode cX10_room 10 = .ok (.aload_n 0, 1) := by decide +kernel
theorem dX10_room_11 : decode cX10_room 11 = .ok (.getfield 13, 3) := by decide +kernel
theorem dX10_room_14 : decode cX10_room 14 = .ok (.if_icmp .le 9, 3) := by decide +kernel
theorem dX10_room_17 : decode cX10_room 17 = .ok (.aload_n 0, 1) := by decide +kernel
theorem dX10_room_18 : decode cX10_room 18 = .ok (.bipush 6, 2) := by decide +kernel
theorem dX10_room_20 : decode cX10_room 20 = .ok (.putfield 35, 3) := by decide +kernel
theorem dX10_room_23 : decode cX10_room 23 = .ok (.aload_n 0, 1) := by decide +kernel
theorem dX10_room_24 : decode cX10_room 24 = .ok (.getfield 35, 3) := by decide +kernel
theorem dX10_room_27 : decode cX10_room 27 = .ok (.ifCond .ne 7, 3) := by decide +kernel
theorem dX10_room_30 : decode cX10_room 30 = .ok (.iconst 1, 1) := by decide +kernel
theorem dX10_room_31 : decode cX10_room 31 = .ok (.goto 4, 3) := by decide +kernel
theorem dX10_room_34 : decode cX10_room 34 = .ok (.iconst 0, 1) := by decide +kernel
theorem dX10_room_35 : decode cX10_room 35 = .ok (.ireturn, 1) := by decide +kernel
theorem dX10_pair_0 : decode cX10_pair 0 = .ok (.iconst 0, 1) := by decide +kernel
theorem dX10_pair_1 : decode cX10_pair 1 = .ok (.istore 5, 2) := by decide +kernel
theorem dX10_pair_3 : decode cX10_pair 3 = .ok (.aload_n 0, 1) := by decide +kernel
theorem dX10_pair_4 : decode cX10_pair 4 = .ok (.getfield 57, 3) := by decide +kernel
theorem dX10_pair_7 : decode cX10_pair 7 = .ok (.iload 5, 2) := by decide +kernel
theorem dX10_pair_9 : decode cX10_pair 9 = .ok (.baload, 1) := by decide +kernel
theorem dX10_pair_10 : decode cX10_pair 10 = .ok (.ifCond .eq 9, 3) := by decide +kernel
theorem dX10_pair_13 : decode cX10_pair 13 = .ok (.iinc 5 1, 3) := by decide +kernel
theorem dX10_pair_16 : decode cX10_pair 16 = .ok (.goto (-13), 3) := by decide +kernel
theorem dX10_pair_19 : decode cX10_pair 19 = .ok (.aload_n 0, 1) := by decide +kernel
theorem dX10_pair_20 : decode cX10_pair 20 = .ok (.getfield 57, 3) := by decide +kernel
theorem dX10_pair_23 : decode cX10_pair 23 = .ok (.iload 5, 2) := by decide +kernel
theorem dX10_pair_25 : decode cX10_pair 25 = .ok (.iconst 1, 1) := by decide +kernel
theorem dX10_pair_26 : decode cX10_pair 26 = .ok (.bastore, 1) := by decide +kernel
theorem dX10_pair_27 : decode cX10_pair 27 = .ok (.aload_n 0, 1) := by decide +kernel
theorem dX10_pair_28 : decode cX10_pair 28 = .ok (.getfield 50, 3) := by decide +kernel
theorem dX10_pair_31 : decode cX10_pair 31 = .ok (.iload 5, 2) := by decide +kernel
theorem dX10_pair_33 : decode cX10_pair 33 = .ok (.lload_n 1, 1) := by decide +kernel
theorem dX10_pair_34 : decode cX10_pair 34 = .ok (.lastore, 1) := by decide +kernel
theorem dX10_pair_35 : decode cX10_pair 35 = .ok (.aload_n 0, 1) := by decide +kernel
theorem dX10_pair_36 : decode cX10_pair 36 = .ok (.getfield 54, 3) := by decide +kernel
theorem dX10_pair_39 : decode cX10_pair 39 = .ok (.iload 5, 2) := by decide +kernel
theorem dX10_pair_41 : decode cX10_pair 41 = .ok (.lload_n 3, 1) := by decide +kernel
theorem dX10_pair_42 : decode cX10_pair 42 = .ok (.lastore, 1) := by decide +kernel
theorem dX10_pair_43 : decode cX10_pair 43 = .ok (.ldc2_w 201, 3) := by decide +kernel
theorem dX10_pair_46 : decode cX10_pair 46 = .ok (.iload 5, 2) := by decide +kernel
theorem dX10_pair_48 : decode cX10_pair 48 = .ok (.i2l, 1) := by decide +kernel
theorem dX10_pair_49 : decode cX10_pair 49 = .ok (.ladd, 1) := by decide +kernel
theorem dX10_pair_50 : decode cX10_pair 50 = .ok (.lreturn, 1) := by decide +kernel
theorem dX10_charAt_0 : decode cX10_charAt 0 = .ok (.iload_n 1, 1) := by decide +kernel
theorem dX10_charAt_1 : decode cX10_charAt 1 = .ok (.aload_n 0, 1) := by decide +kernel
theorem dX10_charAt_2 : decode cX10_charAt 2 = .ok (.getfield 26, 3) := by decide +kernel
theorem dX10_charAt_5 : decode cX10_charAt 5 = .ok (.if_icmp .ge 12, 3) := by decide +kernel
theorem dX10_charAt_8 : decode cX10_charAt 8 = .ok (.aload_n 0, 1) := by decide +kernel
theorem dX10_charAt_9 : decode cX10_charAt 9 = .ok (.getfield 22, 3) := by decide +kernel
theorem dX10_charAt_12 : decode cX10_charAt 12 = .ok (.iload_n 1, 1) := by decide +kernel
theorem dX10_charAt_13 : decode cX10_charAt 13 = .ok (.iaload, 1) := by decide +kernel
theorem dX10_charAt_14 : decode cX10_charAt 14 = .ok (.goto 4, 3) := by decide +kernel
theorem dX10_charAt_17 : decode cX10_charAt 17 = .ok (.iconst (-1), 1) := by decide +kernel
theorem dX10_charAt_18 : decode cX10_charAt 18 = .ok (.ireturn, 1) := by decide +kernel
theorem dX10_blank_0 : decode cX10_blank 0 = .ok (.iload_n 0, 1) := by decide +kernel
theorem dX10_blank_1 : decode cX10_blank 1 = .ok (.bipush 32, 2) := by decide +kernel
theorem dX10_blank_3 : decode cX10_blank 3 = .ok (.if_icmp .eq 9, 3) := by decide +kernel
theorem dX10_blank_6 : decode cX10_blank 6 = .ok (.iload_n 0, 1) := by decide +kernel
theorem dX10_blank_7 : decode cX10_blank 7 = .ok (.bipush 10, 2) := by decide +kernel
theorem dX10_blank_9 : decode cX10_blank 9 = .ok (.if_icmp .ne 7, 3) := by decide +kernel
theorem dX10_blank_12 : decode cX10_blank 12 = .ok (.iconst 1, 1) := by decide +kernel
theorem dX10_blank_13 : decode cX10_blank 13 = .ok (.goto 4, 3) := by decide +kernel
theorem dX10_blank_16 : decode cX10_blank 16 = .ok (.iconst 0, 1) := by decide +kernel
theorem dX10_blank_17 : decode cX10_blank 17 = .ok (.ireturn, 1) := by decide +kernel
theorem dX10_digit_0 : decode cX10_digit 0 = .ok (.iload_n 0, 1) := by decide +kernel
theorem dX10_digit_1 : decode cX10_digit 1 = .ok (.bipush 48, 2) := by decide +kernel
theorem dX10_digit_3 : decode cX10_digit 3 = .ok (.if_icmp .lt 13, 3) := by decide +kernel
theorem dX10_digit_6 : decode cX10_digit 6 = .ok (.iload_n 0, 1) := by decide +kernel
theorem dX10_digit_7 : decode cX10_digit 7 = .ok (.bipush 57, 2) := by decide +kernel
theorem dX10_digit_9 : decode cX10_digit 9 = .ok (.if_icmp .gt 7, 3) := by decide +kernel
theorem dX10_digit_12 : decode cX10_digit 12 = .ok (.iconst 1, 1) := by decide +kernel
theorem dX10_digit_13 : decode cX10_digit 13 = .ok (.goto 4, 3) := by decide +kernel
theorem dX10_digit_16 : decode cX10_digit 16 = .ok (.iconst 0, 1) := by decide +kernel
theorem dX10_digit_17 : decode cX10_digit 17 = .ok (.ireturn, 1) := by decide +kernel
theorem dX10_atom_0 : decode cX10_atom 0 = .ok (.aload_n 0, 1) := by decide +kernel
theorem dX10_atom_1 : decode cX10_atom 1 = .ok (.iload_n 1, 1) := by decide +kernel
theorem dX10_atom_2 : decode cX10_atom 2 = .ok (.invokevirtual 225, 3) := by decide +kernel
theorem dX10_atom_5 : decode cX10_atom 5 = .ok (.istore_n 2, 1) := by decide +kernel
theorem dX10_atom_6 : decode cX10_atom 6 = .ok (.iload_n 1, 1) := by decide +kernel
theorem dX10_atom_7 : decode cX10_atom 7 = .ok (.istore_n 3, 1) := by decide +kernel
theorem dX10_atom_8 : decode cX10_atom 8 = .ok (.lconst 0, 1) := by decide +kernel
theorem dX10_atom_9 : decode cX10_atom 9 = .ok (.lstore 4, 2) := by decide +kernel
theorem dX10_atom_11 : decode cX10_atom 11 = .ok (.iload_n 2, 1) := by decide +kernel
theorem dX10_atom_12 : decode cX10_atom 12 = .ok (.bipush 65, 2) := by decide +kernel
theorem dX10_atom_14 : decode cX10_atom 14 = .ok (.if_icmp .lt 65, 3) := by decide +kernel
theorem dX10_atom_17 : decode cX10_atom 17 = .ok (.iload_n 2, 1) := by decide +kernel
theorem dX10_atom_18 : decode cX10_atom 18 = .ok (.bipush 90, 2) := by decide +kernel
theorem dX10_atom_20 : decode cX10_atom 20 = .ok (.if_icmp .gt 59, 3) := by decide +kernel
theorem dX10_atom_23 : decode cX10_atom 23 = .ok (.aload_n 0, 1) := by decide +kernel
theorem dX10_atom_24 : decode cX10_atom 24 = .ok (.iload_n 3, 1) := by decide +kernel
theorem dX10_atom_25 : decode cX10_atom 25 = .ok (.invokevirtual 225, 3) := by decide +kernel
theorem dX10_atom_28 : decode cX10_atom 28 = .ok (.invokestatic 193, 3) := by decide +kernel
theorem dX10_atom_31 : decode cX10_atom 31 = .ok (.ifCond .le 39, 3) := by decide +kernel
theorem dX10_atom_34 : decode cX10_atom 34 = .ok (.iload_n 3, 1) := by decide +kernel
theorem dX10_atom_35 : decode cX10_atom 35 = .ok (.iload_n 1, 1) := by decide +kernel
theorem dX10_atom_36 : decode cX10_atom 36 = .ok (.isub, 1) := by decide +kernel
theorem dX10_atom_37 : decode cX10_atom 37 = .ok (.bipush 12, 2) := by decide +kernel
theorem dX10_atom_39 : decode cX10_atom 39 = .ok (.if_icmp .ne 7, 3) := by decide +kernel
theorem dX10_atom_42 : decode cX10_atom 42 = .ok (.iconst (-1), 1) := by decide +kernel
theorem dX10_atom_43 : decode cX10_atom 43 = .ok (.iload_n 3, 1) := by decide +kernel
theorem dX10_atom_44 : decode cX10_atom 44 = .ok (.isub, 1) := by decide +kernel
theorem dX10_atom_45 : decode cX10_atom 45 = .ok (.ireturn, 1) := by decide +kernel
theorem dX10_atom_46 : decode cX10_atom 46 = .ok (.lload 4, 2) := by decide +kernel
theorem dX10_atom_48 : decode cX10_atom 48 = .ok (.ldc2_w 187, 3) := by decide +kernel
theorem dX10_atom_51 : decode cX10_atom 51 = .ok (.lmul, 1) := by decide +kernel
theorem dX10_atom_52 : decode cX10_atom 52 = .ok (.aload_n 0, 1) := by decide +kernel
theorem dX10_atom_53 : decode cX10_atom 53 = .ok (.iload_n 3, 1) := by decide +kernel
theorem dX10_atom_54 : decode cX10_atom 54 = .ok (.invokevirtual 225, 3) := by decide +kernel
theorem dX10_atom_57 : decode cX10_atom 57 = .ok (.invokestatic 193, 3) := by decide +kernel
theorem dX10_atom_60 : decode cX10_atom 60 = .ok (.i2l, 1) := by decide +kernel
theorem dX10_atom_61 : decode cX10_atom 61 = .ok (.ladd, 1) := by decide +kernel
theorem dX10_atom_62 : decode cX10_atom 62 = .ok (.lstore 4, 2) := by decide +kernel
theorem dX10_atom_64 : decode cX10_atom 64 = .ok (.iinc 3 1, 3) := by decide +kernel
theorem dX10_atom_67 : decode cX10_atom 67 = .ok (.goto (-44), 3) := by decide +kernel
theorem dX10_atom_70 : decode cX10_atom 70 = .ok (.aload_n 0, 1) := by decide +kernel
theorem dX10_atom_71 : decode cX10_atom 71 = .ok (.lload 4, 2) := by decide +kernel
theorem dX10_atom_73 : decode cX10_atom 73 = .ok (.lneg, 1) := by decide +kernel
theorem dX10_atom_74 : decode cX10_atom 74 = .ok (.putfield 107, 3) := by decide +kernel
theorem dX10_atom_77 : decode cX10_atom 77 = .ok (.iload_n 3, 1) := by decide +kernel
theorem dX10_atom_78 : decode cX10_atom 78 = .ok (.ireturn, 1) := by decide +kernel
theorem dX10_atom_79 : decode cX10_atom 79 = .ok (.iload_n 2, 1) := by decide +kernel
theorem dX10_atom_80 : decode cX10_atom 80 = .ok (.bipush 45, 2) := by decide +kernel
theorem dX10_atom_82 : decode cX10_atom 82 = .ok (.if_icmp .ne 6, 3) := by decide +kernel
theorem dX10_atom_85 : decode cX10_atom 85 = .ok (.iinc 3 1, 3) := by decide +kernel
theorem dX10_atom_88 : decode cX10_atom 88 = .ok (.iload_n 3, 1) := by decide +kernel
theorem dX10_atom_89 : decode cX10_atom 89 = .ok (.istore 6, 2) := by decide +kernel
theorem dX10_atom_91 : decode cX10_atom 91 = .ok (.aload_n 0, 1) := by decide +kernel
theorem dX10_atom_92 : decode cX10_atom 92 = .ok (.iload_n 3, 1) := by decide +kernel
theorem dX10_atom_93 : decode cX10_atom 93 = .ok (.invokevirtual 225, 3) := by decide +kernel
theorem dX10_atom_96 : decode cX10_atom 96 = .ok (.invokestatic 228, 3) := by decide +kernel
theorem dX10_atom_99 : decode cX10_atom 99 = .ok (.ifCond .eq 41, 3) := by decide +kernel
theorem dX10_atom_102 : decode cX10_atom 102 = .ok (.iload_n 3, 1) := by decide +kernel
theorem dX10_atom_103 : decode cX10_atom 103 = .ok (.iload 6, 2) := by decide +kernel
theorem dX10_atom_105 : decode cX10_atom 105 = .ok (.isub, 1) := by decide +kernel
theorem dX10_atom_106 : decode cX10_atom 106 = .ok (.bipush 9, 2) := by decide +kernel
theorem dX10_atom_108 : decode cX10_atom 108 = .ok (.if_icmp .ne 7, 3) := by decide +kernel
theorem dX10_atom_111 : decode cX10_atom 111 = .ok (.iconst (-1), 1) := by decide +kernel
theorem dX10_atom_112 : decode cX10_atom 112 = .ok (.iload_n 3, 1) := by decide +kernel
theorem dX10_atom_113 : decode cX10_atom 113 = .ok (.isub, 1) := by decide +kernel
theorem dX10_atom_114 : decode cX10_atom 114 = .ok (.ireturn, 1) := by decide +kernel
theorem dX10_atom_115 : decode cX10_atom 115 = .ok (.lload 4, 2) := by decide +kernel
theorem dX10_atom_117 : decode cX10_atom 117 = .ok (.ldc2_w 232, 3) := by decide +kernel
theorem dX10_atom_120 : decode cX10_atom 120 = .ok (.lmul, 1) := by decide +kernel
theorem dX10_atom_121 : decode cX10_atom 121 = .ok (.aload_n 0, 1) := by decide +kernel
theorem dX10_atom_122 : decode cX10_atom 122 = .ok (.iload_n 3, 1) := by decide +kernel
theorem dX10_atom_123 : decode cX10_atom 123 = .ok (.invokevirtual 225, 3) := by decide +kernel
theorem dX10_atom_126 : decode cX10_atom 126 = .ok (.i2l, 1) := by decide +kernel
theorem dX10_atom_127 : decode cX10_atom 127 = .ok (.ladd, 1) := by decide +kernel
theorem dX10_atom_128 : decode cX10_atom 128 = .ok (.ldc2_w 234, 3) := by decide +kernel
theorem dX10_atom_131 : decode cX10_atom 131 = .ok (.lsub, 1) := by decide +kernel
theorem dX10_atom_132 : decode cX10_atom 132 = .ok (.lstore 4, 2) := by decide +kernel
theorem dX10_atom_134 : decode cX10_atom 134 = .ok (.iinc 3 1, 3) := by decide +kernel
theorem dX10_atom_137 : decode cX10_atom 137 = .ok (.goto (-46), 3) := by decide +kernel
theorem dX10_atom_140 : decode cX10_atom 140 = .ok (.iload_n 3, 1) := by decide +kernel
theorem dX10_atom_141 : decode cX10_atom 141 = .ok (.iload 6, 2) := by decide +kernel
theorem dX10_atom_143 : decode cX10_atom 143 = .ok (.if_icmp .ne 7, 3) := by decide +kernel
theorem dX10_atom_146 : decode cX10_atom 146 = .ok (.iconst (-1), 1) := by decide +kernel
theorem dX10_atom_147 : decode cX10_atom 147 = .ok (.iload_n 3, 1) := by decide +kernel
theorem dX10_atom_148 : decode cX10_atom 148 = .ok (.isub, 1) := by decide +kernel
theorem dX10_atom_149 : decode cX10_atom 149 = .ok (.ireturn, 1) := by decide +kernel
theorem dX10_atom_150 : decode cX10_atom 150 = .ok (.aload_n 0, 1) := by decide +kernel
theorem dX10_atom_151 : decode cX10_atom 151 = .ok (.iload_n 2, 1) := by decide +kernel
theorem dX10_atom_152 : decode cX10_atom 152 = .ok (.bipush 45, 2) := by decide +kernel
theorem dX10_atom_154 : decode cX10_atom 154 = .ok (.if_icmp .ne 9, 3) := by decide +kernel
theorem dX10_atom_157 : decode cX10_atom 157 = .ok (.lload 4, 2) := by decide +kernel
theorem dX10_atom_159 : decode cX10_atom 159 = .ok (.lneg, 1) := by decide +kernel
theorem dX10_atom_160 : decode cX10_atom 160 = .ok (.goto 5, 3) := by decide +kernel
theorem dX10_atom_163 : decode cX10_atom 163 = .ok (.lload 4, 2) := by decide +kernel
theorem dX10_atom_165 : decode cX10_atom 165 = .ok (.l2i, 1) := by decide +kernel
theorem dX10_atom_166 : decode cX10_atom 166 = .ok (.invokestatic 236, 3) := by decide +kernel
theorem dX10_atom_169 : decode cX10_atom 169 = .ok (.putfield 107, 3) := by decide +kernel
theorem dX10_atom_172 : decode cX10_atom 172 = .ok (.iload_n 3, 1) := by decide +kernel
theorem dX10_atom_173 : decode cX10_atom 173 = .ok (.ireturn, 1) := by decide +kernel
theorem dX10_placeOf_0 : decode cX10_placeOf 0 = .ok (.iconst 0, 1) := by decide +kernel
theorem dX10_placeOf_1 : decode cX10_placeOf 1 = .ok (.istore_n 3, 1) := by decide +kernel
theorem dX10_placeOf_2 : decode cX10_placeOf 2 = .ok (.iload_n 3, 1) := by decide +kernel
theorem dX10_placeOf_3 : decode cX10_placeOf 3 = .ok (.aload_n 0, 1) := by decide +kernel
theorem dX10_placeOf_4 : decode cX10_placeOf 4 = .ok (.getfield 76, 3) := by decide +kernel
theorem dX10_placeOf_7 : decode cX10_placeOf 7 = .ok (.if_icmp .ge 22, 3) := by decide +kernel
theorem dX10_placeOf_10 : decode cX10_placeOf 10 = .ok (.aload_n 0, 1) := by decide +kernel
theorem dX10_placeOf_11 : decode cX10_placeOf 11 = .ok (.getfield 70, 3) := by decide +kernel
theorem dX10_placeOf_14 : decode cX10_placeOf 14 = .ok (.iload_n 3, 1) := by decide +kernel
theorem dX10_placeOf_15 : decode cX10_placeOf 15 = .ok (.laload, 1) := by decide +kernel
theorem dX10_placeOf_16 : decode cX10_placeOf 16 = .ok (.lload_n 1, 1) := by decide +kernel
theorem dX10_placeOf_17 : decode cX10_placeOf 17 = .ok (.lcmp, 1) := by decide +kernel
theorem dX10_placeOf_18 : decode cX10_placeOf 18 = .ok (.ifCond .ne 5, 3) := by decide +kernel
theorem dX10_placeOf_21 : decode cX10_placeOf 21 = .ok (.iload_n 3, 1) := by decide +kernel
theorem dX10_placeOf_22 : decode cX10_placeOf 22 = .ok (.ireturn, 1) := by decide +kernel
theorem dX10_placeOf_23 : decode cX10_placeOf 23 = .ok (.iinc 3 1, 3) := by decide +kernel
theorem dX10_placeOf_26 : decode cX10_placeOf 26 = .ok (.goto (-24), 3) := by decide +kernel
theorem dX10_placeOf_29 : decode cX10_placeOf 29 = .ok (.iconst (-1), 1) := by decide +kernel
theorem dX10_placeOf_30 : decode cX10_placeOf 30 = .ok (.ireturn, 1) := by decide +kernel
theorem dX10_meets_0 : decode cX10_meets 0 = .ok (.aload_n 0, 1) := by decide +kernel
theorem dX10_meets_1 : decode cX10_meets 1 = .ok (.lload_n 1, 1) := by decide +kernel
theorem dX10_meets_2 : decode cX10_meets 2 = .ok (.invokevirtual 240, 3) := by decide +kernel
theorem dX10_meets_5 : decode cX10_meets 5 = .ok (.ifCond .lt 4, 3) := by decide +kernel
theorem dX10_meets_8 : decode cX10_meets 8 = .ok (.return_, 1) := by decide +kernel
theorem dX10_meets_9 : decode cX10_meets 9 = .ok (.iconst 0, 1) := by decide +kernel
theorem dX10_meets_10 : decode cX10_meets 10 = .ok (.istore_n 3, 1) := by decide +kernel
theorem dX10_meets_11 : decode cX10_meets 11 = .ok (.iload_n 3, 1) := by decide +kernel
theorem dX10_meets_12 : decode cX10_meets 12 = .ok (.aload_n 0, 1) := by decide +kernel
theorem dX10_meets_13 : decode cX10_meets 13 = .ok (.getfield 82, 3) := by decide +kernel
theorem dX10_meets_16 : decode cX10_meets 16 = .ok (.if_icmp .ge 21, 3) := by decide +kernel
theorem dX10_meets_19 : decode cX10_meets 19 = .ok (.aload_n 0, 1) := by decide +kernel
theorem dX10_meets_20 : decode cX10_meets 20 = .ok (.getfield 79, 3) := by decide +kernel
theorem dX10_meets_23 : decode cX10_meets 23 = .ok (.iload_n 3, 1) := by decide +kernel
theorem dX10_meets_24 : decode cX10_meets 24 = .ok (.laload, 1) := by decide +kernel
theorem dX10_meets_25 : decode cX10_meets 25 = .ok (.lload_n 1, 1) := by decide +kernel
theorem dX10_meets_26 : decode cX10_meets 26 = .ok (.lcmp, 1) := by decide +kernel
theorem dX10_meets_27 : decode cX10_meets 27 = .ok (.ifCond .ne 4, 3) := by decide +kernel
theorem dX10_meets_30 : decode cX10_meets 30 = .ok (.return_, 1) := by decide +kernel
theorem dX10_meets_31 : decode cX10_meets 31 = .ok (.iinc 3 1, 3) := by decide +kernel
theorem dX10_meets_34 : decode cX10_meets 34 = .ok (.goto (-23), 3) := by decide +kernel
theorem dX10_meets_37 : decode cX10_meets 37 = .ok (.aload_n 0, 1) := by decide +kernel
theorem dX10_meets_38 : decode cX10_meets 38 = .ok (.getfield 76, 3) := by decide +kernel
theorem dX10_meets_41 : decode cX10_meets 41 = .ok (.aload_n 0, 1) := by decide +kernel
theorem dX10_meets_42 : decode cX10_meets 42 = .ok (.getfield 82, 3) := by decide +kernel
theorem dX10_meets_45 : decode cX10_meets 45 = .ok (.iadd, 1) := by decide +kernel
theorem dX10_meets_46 : decode cX10_meets 46 = .ok (.sipush 150, 3) := by decide +kernel
theorem dX10_meets_49 : decode cX10_meets 49 = .ok (.if_icmp .ne 11, 3) := by decide +kernel
theorem dX10_meets_52 : decode cX10_meets 52 = .ok (.aload_n 0, 1) := by decide +kernel
theorem dX10_meets_53 : decode cX10_meets 53 = .ok (.iconst 1, 1) := by decide +kernel
theorem dX10_meets_54 : decode cX10_meets 54 = .ok (.putfield 85, 3) := by decide +kernel
theorem dX10_meets_57 : decode cX10_meets 57 = .ok (.goto 23, 3) := by decide +kernel
theorem dX10_meets_60 : decode cX10_meets 60 = .ok (.aload_n 0, 1) := by decide +kernel
theorem dX10_meets_61 : decode cX10_meets 61 = .ok (.getfield 79, 3) := by decide +kernel
theorem dX10_meets_64 : decode cX10_meets 64 = .ok (.aload_n 0, 1) := by decide +kernel
theorem dX10_meets_65 : decode cX10_meets 65 = .ok (.getfield 82, 3) := by decide +kernel
theorem dX10_meets_68 : decode cX10_meets 68 = .ok (.lload_n 1, 1) := by decide +kernel
theorem dX10_meets_69 : decode cX10_meets 69 = .ok (.lastore, 1) := by decide +kernel
theorem dX10_meets_70 : decode cX10_meets 70 = .ok (.aload_n 0, 1) := by decide +kernel
theorem dX10_meets_71 : decode cX10_meets 71 = .ok (.dup, 1) := by decide +kernel
theorem dX10_meets_72 : decode cX10_meets 72 = .ok (.getfield 82, 3) := by decide +kernel
theorem dX10_meets_75 : decode cX10_meets 75 = .ok (.iconst 1, 1) := by decide +kernel
theorem dX10_meets_76 : decode cX10_meets 76 = .ok (.iadd, 1) := by decide +kernel
theorem dX10_meets_77 : decode cX10_meets 77 = .ok (.putfield 82, 3) := by decide +kernel
theorem dX10_meets_80 : decode cX10_meets 80 = .ok (.return_, 1) := by decide +kernel
theorem dX10_comes_0 : decode cX10_comes 0 = .ok (.aload_n 0, 1) := by decide +kernel
theorem dX10_comes_1 : decode cX10_comes 1 = .ok (.getfield 101, 3) := by decide +kernel
theorem dX10_comes_4 : decode cX10_comes 4 = .ok (.ifCond .ne 14, 3) := by decide +kernel
theorem dX10_comes_7 : decode cX10_comes 7 = .ok (.aload_n 0, 1) := by decide +kernel
theorem dX10_comes_8 : decode cX10_comes 8 = .ok (.iconst 4, 1) := by decide +kernel
theorem dX10_comes_9 : decode cX10_comes 9 = .ok (.putfield 89, 3) := by decide +kernel
theorem dX10_comes_12 : decode cX10_comes 12 = .ok (.aload_n 0, 1) := by decide +kernel
theorem dX10_comes_13 : decode cX10_comes 13 = .ok (.lload_n 2, 1) := by decide +kernel
theorem dX10_comes_14 : decode cX10_comes 14 = .ok (.putfield 107, 3) := by decide +kernel
theorem dX10_comes_17 : decode cX10_comes 17 = .ok (.return_, 1) := by decide +kernel
theorem dX10_comes_18 : decode cX10_comes 18 = .ok (.aload_n 0, 1) := by decide +kernel
theorem dX10_comes_19 : decode cX10_comes 19 = .ok (.getfield 101, 3) := by decide +kernel
theorem dX10_comes_22 : decode cX10_comes 22 = .ok (.iconst 1, 1) := by decide +kernel
theorem dX10_comes_23 : decode cX10_comes 23 = .ok (.isub, 1) := by decide +kernel
theorem dX10_comes_24 : decode cX10_comes 24 = .ok (.istore 4, 2) := by decide +kernel
theorem dX10_comes_26 : decode cX10_comes 26 = .ok (.aload_n 0, 1) := by decide +kernel
theorem dX10_comes_27 : decode cX10_comes 27 = .ok (.getfield 92, 3) := by decide +kernel
theorem dX10_comes_30 : decode cX10_comes 30 = .ok (.iload 4, 2) := by decide +kernel
theorem dX10_comes_32 : decode cX10_comes 32 = .ok (.iaload, 1) := by decide +kernel
theorem dX10_comes_33 : decode cX10_comes 33 = .ok (.iconst 2, 1) := by decide +kernel
theorem dX10_comes_34 : decode cX10_comes 34 = .ok (.if_icmp .ne 29, 3) := by decide +kernel
theorem dX10_comes_37 : decode cX10_comes 37 = .ok (.iload_n 1, 1) := by decide +kernel
theorem dX10_comes_38 : decode cX10_comes 38 = .ok (.ifCond .eq 16, 3) := by decide +kernel
theorem dX10_comes_41 : decode cX10_comes 41 = .ok (.aload_n 0, 1) := by decide +kernel
theorem dX10_comes_42 : decode cX10_comes 42 = .ok (.getfield 54, 3) := by decide +kernel
theorem dX10_comes_45 : decode cX10_comes 45 = .ok (.aload_n 0, 1) := by decide +kernel
theorem dX10_comes_46 : decode cX10_comes 46 = .ok (.getfield 98, 3) := by decide +kernel
theorem dX10_comes_49 : decode cX10_comes 49 = .ok (.iload 4, 2) := by decide +kernel
theorem dX10_comes_51 : decode cX10_comes 51 = .ok (.iaload, 1) := by decide +kernel
theorem dX10_comes_52 : decode cX10_comes 52 = .ok (.lload_n 2, 1) := by decide +kernel
theorem dX10_comes_53 : decode cX10_comes 53 = .ok (.lastore, 1) := by decide +kernel
theorem dX10_comes_54 : decode cX10_comes 54 = .ok (.aload_n 0, 1) := by decide +kernel
theorem dX10_comes_55 : decode cX10_comes 55 = .ok (.getfield 92, 3) := by decide +kernel
theorem dX10_comes_58 : decode cX10_comes 58 = .ok (.iload 4, 2) := by decide +kernel
theorem dX10_comes_60 : decode cX10_comes 60 = .ok (.iconst 3, 1) := by decide +kernel
theorem dX10_comes_61 : decode cX10_comes 61 = .ok (.iastore, 1) := by decide +kernel
theorem dX10_comes_62 : decode cX10_comes 62 = .ok (.return_, 1) := by decide +kernel
theorem dX10_comes_63 : decode cX10_comes 63 = .ok (.aload_n 0, 1) := by decide +kernel
theorem dX10_comes_64 : decode cX10_comes 64 = .ok (.dup, 1) := by decide +kernel
theorem dX10_comes_65 : decode cX10_comes 65 = .ok (.getfield 104, 3) := by decide +kernel
theorem dX10_comes_68 : decode cX10_comes 68 = .ok (.iconst 1, 1) := by decide +kernel
theorem dX10_comes_69 : decode cX10_comes 69 = .ok (.iadd, 1) := by decide +kernel
theorem dX10_comes_70 : decode cX10_comes 70 = .ok (.putfield 104, 3) := by decide +kernel
theorem dX10_comes_73 : decode cX10_comes 73 = .ok (.iload_n 1, 1) := by decide +kernel
theorem dX10_comes_74 : decode cX10_comes 74 = .ok (.ifCond .eq 63, 3) := by decide +kernel
theorem dX10_comes_77 : decode cX10_comes 77 = .ok (.aload_n 0, 1) := by decide +kernel
theorem dX10_comes_78 : decode cX10_comes 78 = .ok (.lload_n 2, 1) := by decide +kernel
theorem dX10_comes_79 : decode cX10_comes 79 = .ok (.ldc2_w 199, 3) := by decide +kernel
theorem dX10_comes_82 : decode cX10_comes 82 = .ok (.invokevirtual 244, 3) := by decide +kernel
theorem dX10_comes_85 : decode cX10_comes 85 = .ok (.lstore 5, 2) := by decide +kernel
theorem dX10_comes_87 : decode cX10_comes 87 = .ok (.aload_n 0, 1) := by decide +kernel
theorem dX10_comes_88 : decode cX10_comes 88 = .ok (.getfield 92, 3) := by decide +kernel
theorem dX10_comes_91 : decode cX10_comes 91 = .ok (.iload 4, 2) := by decide +kernel
theorem dX10_comes_93 : decode cX10_comes 93 = .ok (.iaload, 1) := by decide +kernel
theorem dX10_comes_94 : decode cX10_comes 94 = .ok (.ifCond .ne 15, 3) := by decide +kernel
theorem dX10_comes_97 : decode cX10_comes 97 = .ok (.aload_n 0, 1) := by decide +kernel
theorem dX10_comes_98 : decode cX10_comes 98 = .ok (.getfield 95, 3) := by decide +kernel
theorem dX10_comes_101 : decode cX10_comes 101 = .ok (.iload 4, 2) := by decide +kernel
theorem dX10_comes_103 : decode cX10_comes 103 = .ok (.lload 5, 2) := by decide +kernel
theorem dX10_comes_105 : decode cX10_comes 105 = .ok (.lastore, 1) := by decide +kernel
theorem dX10_comes_106 : decode cX10_comes 106 = .ok (.goto 17, 3) := by decide +kernel
theorem dX10_comes_109 : decode cX10_comes 109 = .ok (.aload_n 0, 1) := by decide +kernel
theorem dX10_comes_110 : decode cX10_comes 110 = .ok (.getfield 54, 3) := by decide +kernel
theorem dX10_comes_113 : decode cX10_comes 113 = .ok (.aload_n 0, 1) := by decide +kernel
theorem dX10_comes_114 : decode cX10_comes 114 = .ok (.getfield 98, 3) := by decide +kernel
theorem dX10_comes_117 : decode cX10_comes 117 = .ok (.iload 4, 2) := by decide +kernel
theorem dX10_comes_119 : decode cX10_comes 119 = .ok (.iaload, 1) := by decide +kernel
theorem dX10_comes_120 : decode cX10_comes 120 = .ok (.lload 5, 2) := by decide +kernel
theorem dX10_comes_122 : decode cX10_comes 122 = .ok (.lastore, 1) := by decide +kernel
theorem dX10_comes_123 : decode cX10_comes 123 = .ok (.aload_n 0, 1) := by decide +kernel
theorem dX10_comes_124 : decode cX10_comes 124 = .ok (.getfield 98, 3) := by decide +kernel
theorem dX10_comes_127 : decode cX10_comes 127 = .ok (.iload 4, 2) := by decide +kernel
theorem dX10_comes_129 : decode cX10_comes 129 = .ok (.lload 5, 2) := by decide +kernel
theorem dX10_comes_131 : decode cX10_comes 131 = .ok (.ldc2_w 201, 3) := by decide +kernel
theorem dX10_comes_134 : decode cX10_comes 134 = .ok (.lsub, 1) := by decide +kernel
theorem dX10_comes_135 : decode cX10_comes 135 = .ok (.l2i, 1) := by decide +kernel
theorem dX10_comes_136 : decode cX10_comes 136 = .ok (.iastore, 1) := by decide +kernel
theorem dX10_comes_137 : decode cX10_comes 137 = .ok (.aload_n 0, 1) := by decide +kernel
theorem dX10_comes_138 : decode cX10_comes 138 = .ok (.getfield 92, 3) := by decide +kernel
theorem dX10_comes_141 : decode cX10_comes 141 = .ok (.iload 4, 2) := by decide +kernel
theorem dX10_comes_143 : decode cX10_comes 143 = .ok (.iconst 1, 1) := by decide +kernel
theorem dX10_comes_144 : decode cX10_comes 144 = .ok (.iastore, 1) := by decide +kernel
theorem dX10_comes_145 : decode cX10_comes 145 = .ok (.return_, 1) := by decide +kernel
theorem dX10_reads_0 : decode cX10_reads 0 = .ok (.aload_n 0, 1) := by decide +kernel
theorem dX10_reads_1 : decode cX10_reads 1 = .ok (.iload_n 2, 1) := by decide +kernel
theorem dX10_reads_2 : decode cX10_reads 2 = .ok (.invokevirtual 225, 3) := by decide +kernel
theorem dX10_reads_5 : decode cX10_reads 5 = .ok (.istore_n 3, 1) := by decide +kernel
theorem dX10_reads_6 : decode cX10_reads 6 = .ok (.iload_n 3, 1) := by decide +kernel
theorem dX10_reads_7 : decode cX10_reads 7 = .ok (.invokestatic 248, 3) := by decide +kernel
theorem dX10_reads_10 : decode cX10_reads 10 = .ok (.ifCond .eq 7, 3) := by decide +kernel
theorem dX10_reads_13 : decode cX10_reads 13 = .ok (.iload_n 2, 1) := by decide +kernel
theorem dX10_reads_14 : decode cX10_reads 14 = .ok (.iconst 1, 1) := by decide +kernel
theorem dX10_reads_15 : decode cX10_reads 15 = .ok (.iadd, 1) := by decide +kernel
theorem dX10_reads_16 : decode cX10_reads 16 = .ok (.ireturn, 1) := by decide +kernel
theorem dX10_reads_17 : decode cX10_reads 17 = .ok (.aload_n 0, 1) := by decide +kernel
theorem dX10_reads_18 : decode cX10_reads 18 = .ok (.getfield 101, 3) := by decide +kernel
theorem dX10_reads_21 : decode cX10_reads 21 = .ok (.ifCond .ne 7, 3) := by decide +kernel
theorem dX10_reads_24 : decode cX10_reads 24 = .ok (.iconst 0, 1) := by decide +kernel
theorem dX10_reads_25 : decode cX10_reads 25 = .ok (.goto 14, 3) := by decide +kernel
theorem dX10_reads_28 : decode cX10_reads 28 = .ok (.aload_n 0, 1) := by decide +kernel
theorem dX10_reads_29 : decode cX10_reads 29 = .ok (.getfield 92, 3) := by decide +kernel
theorem dX10_reads_32 : decode cX10_reads 32 = .ok (.aload_n 0, 1) := by decide +kernel
theorem dX10_reads_33 : decode cX10_reads 33 = .ok (.getfield 101, 3) := by decide +kernel
theorem dX10_reads_36 : decode cX10_reads 36 = .ok (.iconst 1, 1) := by decide +kernel
theorem dX10_reads_37 : decode cX10_reads 37 = .ok (.isub, 1) := by decide +kernel
theorem dX10_reads_38 : decode cX10_reads 38 = .ok (.iaload, 1) := by decide +kernel
theorem dX10_reads_39 : decode cX10_reads 39 = .ok (.istore 4, 2) := by decide +kernel
theorem dX10_reads_41 : decode cX10_reads 41 = .ok (.iload_n 3, 1) := by decide +kernel
theorem dX10_reads_42 : decode cX10_reads 42 = .ok (.bipush 41, 2) := by decide +kernel
theorem dX10_reads_44 : decode cX10_reads 44 = .ok (.if_icmp .ne 55, 3) := by decide +kernel
theorem dX10_reads_47 : decode cX10_reads 47 = .ok (.aload_n 0, 1) := by decide +kernel
theorem dX10_reads_48 : decode cX10_reads 48 = .ok (.getfield 101, 3) := by decide +kernel
theorem dX10_reads_51 : decode cX10_reads 51 = .ok (.ifCond .le 48, 3) := by decide +kernel
theorem dX10_reads_54 : decode cX10_reads 54 = .ok (.iload 4, 2) := by decide +kernel
theorem dX10_reads_56 : decode cX10_reads 56 = .ok (.iconst 2, 1) := by decide +kernel
theorem dX10_reads_57 : decode cX10_reads 57 = .ok (.if_icmp .eq 42, 3) := by decide +kernel
theorem dX10_reads_60 : decode cX10_reads 60 = .ok (.aload_n 0, 1) := by decide +kernel
theorem dX10_reads_61 : decode cX10_reads 61 = .ok (.dup, 1) := by decide +kernel
theorem dX10_reads_62 : decode cX10_reads 62 = .ok (.getfield 101, 3) := by decide +kernel
theorem dX10_reads_65 : decode cX10_reads 65 = .ok (.iconst 1, 1) := by decide +kernel
theorem dX10_reads_66 : decode cX10_reads 66 = .ok (.isub, 1) := by decide +kernel
theorem dX10_reads_67 : decode cX10_reads 67 = .ok (.putfield 101, 3) := by decide +kernel
theorem dX10_reads_70 : decode cX10_reads 70 = .ok (.aload_n 0, 1) := by decide +kernel
theorem dX10_reads_71 : decode cX10_reads 71 = .ok (.iload_n 1, 1) := by decide +kernel
theorem dX10_reads_72 : decode cX10_reads 72 = .ok (.iload 4, 2) := by decide +kernel
theorem dX10_reads_74 : decode cX10_reads 74 = .ok (.ifCond .ne 9, 3) := by decide +kernel
theorem dX10_reads_77 : decode cX10_reads 77 = .ok (.ldc2_w 199, 3) := by decide +kernel
theorem dX10_reads_80 : decode cX10_reads 80 = .ok (.goto 12, 3) := by decide +kernel
theorem dX10_reads_83 : decode cX10_reads 83 = .ok (.aload_n 0, 1) := by decide +kernel
theorem dX10_reads_84 : decode cX10_reads 84 = .ok (.getfield 95, 3) := by decide +kernel
theorem dX10_reads_87 : decode cX10_reads 87 = .ok (.aload_n 0, 1) := by decide +kernel
theorem dX10_reads_88 : decode cX10_reads 88 = .ok (.getfield 101, 3) := by decide +kernel
theorem dX10_reads_91 : decode cX10_reads 91 = .ok (.laload, 1) := by decide +kernel
theorem dX10_reads_92 : decode cX10_reads 92 = .ok (.invokevirtual 251, 3) := by decide +kernel
theorem dX10_reads_95 : decode cX10_reads 95 = .ok (.iload_n 2, 1) := by decide +kernel
theorem dX10_reads_96 : decode cX10_reads 96 = .ok (.iconst 1, 1) := by decide +kernel
theorem dX10_reads_97 : decode cX10_reads 97 = .ok (.iadd, 1) := by decide +kernel
theorem dX10_reads_98 : decode cX10_reads 98 = .ok (.ireturn, 1) := by decide +kernel
theorem dX10_reads_99 : decode cX10_reads 99 = .ok (.iload_n 3, 1) := by decide +kernel
theorem dX10_reads_100 : decode cX10_reads 100 = .ok (.bipush 46, 2) := by decide +kernel
theorem dX10_reads_102 : decode cX10_reads 102 = .ok (.if_icmp .ne 29, 3) := by decide +kernel
theorem dX10_reads_105 : decode cX10_reads 105 = .ok (.iload 4, 2) := by decide +kernel
theorem dX10_reads_107 : decode cX10_reads 107 = .ok (.iconst 1, 1) := by decide +kernel
theorem dX10_reads_108 : decode cX10_reads 108 = .ok (.if_icmp .eq 7, 3) := by decide +kernel
theorem dX10_reads_111 : decode cX10_reads 111 = .ok (.iconst (-1), 1) := by decide +kernel
theorem dX10_reads_112 : decode cX10_reads 112 = .ok (.iload_n 2, 1) := by decide +kernel
theorem dX10_reads_113 : decode cX10_reads 113 = .ok (.isub, 1) := by decide +kernel
theorem dX10_reads_114 : decode cX10_reads 114 = .ok (.ireturn, 1) := by decide +kernel
theorem dX10_reads_115 : decode cX10_reads 115 = .ok (.aload_n 0, 1) := by decide +kernel
theorem dX10_reads_116 : decode cX10_reads 116 = .ok (.getfield 92, 3) := by decide +kernel
theorem dX10_reads_119 : decode cX10_reads 119 = .ok (.aload_n 0, 1) := by decide +kernel
theorem dX10_reads_120 : decode cX10_reads 120 = .ok (.getfield 101, 3) := by decide +kernel
theorem dX10_reads_123 : decode cX10_reads 123 = .ok (.iconst 1, 1) := by decide +kernel
theorem dX10_reads_124 : decode cX10_reads 124 = .ok (.isub, 1) := by decide +kernel
theorem dX10_reads_125 : decode cX10_reads 125 = .ok (.iconst 2, 1) := by decide +kernel
theorem dX10_reads_126 : decode cX10_reads 126 = .ok (.iastore, 1) := by decide +kernel
theorem dX10_reads_127 : decode cX10_reads 127 = .ok (.iload_n 2, 1) := by decide +kernel
theorem dX10_reads_128 : decode cX10_reads 128 = .ok (.iconst 1, 1) := by decide +kernel
theorem dX10_reads_129 : decode cX10_reads 129 = .ok (.iadd, 1) := by decide +kernel
theorem dX10_reads_130 : decode cX10_reads 130 = .ok (.ireturn, 1) := by decide +kernel
theorem dX10_reads_131 : decode cX10_reads 131 = .ok (.iload 4, 2) := by decide +kernel
theorem dX10_reads_133 : decode cX10_reads 133 = .ok (.iconst 3, 1) := by decide +kernel
theorem dX10_reads_134 : decode cX10_reads 134 = .ok (.if_icmp .ne 7, 3) := by decide +kernel
theorem dX10_reads_137 : decode cX10_reads 137 = .ok (.iconst (-1), 1) := by decide +kernel
theorem dX10_reads_138 : decode cX10_reads 138 = .ok (.iload_n 2, 1) := by decide +kernel
theorem dX10_reads_139 : decode cX10_reads 139 = .ok (.isub, 1) := by decide +kernel
theorem dX10_reads_140 : decode cX10_reads 140 = .ok (.ireturn, 1) := by decide +kernel
theorem dX10_reads_141 : decode cX10_reads 141 = .ok (.iload_n 3, 1) := by decide +kernel
theorem dX10_reads_142 : decode cX10_reads 142 = .ok (.bipush 40, 2) := by decide +kernel
theorem dX10_reads_144 : decode cX10_reads 144 = .ok (.if_icmp .ne 40, 3) := by decide +kernel
theorem dX10_reads_147 : decode cX10_reads 147 = .ok (.aload_n 0, 1) := by decide +kernel
theorem dX10_reads_148 : decode cX10_reads 148 = .ok (.getfield 101, 3) := by decide +kernel
theorem dX10_reads_151 : decode cX10_reads 151 = .ok (.bipush 60, 2) := by decide +kernel
theorem dX10_reads_153 : decode cX10_reads 153 = .ok (.if_icmp .ne 7, 3) := by decide +kernel
theorem dX10_reads_156 : decode cX10_reads 156 = .ok (.iconst (-1), 1) := by decide +kernel
theorem dX10_reads_157 : decode cX10_reads 157 = .ok (.iload_n 2, 1) := by decide +kernel
theorem dX10_reads_158 : decode cX10_reads 158 = .ok (.isub, 1) := by decide +kernel
theorem dX10_reads_159 : decode cX10_reads 159 = .ok (.ireturn, 1) := by decide +kernel
theorem dX10_reads_160 : decode cX10_reads 160 = .ok (.aload_n 0, 1) := by decide +kernel
theorem dX10_reads_161 : decode cX10_reads 161 = .ok (.getfield 92, 3) := by decide +kernel
theorem dX10_reads_164 : decode cX10_reads 164 = .ok (.aload_n 0, 1) := by decide +kernel
theorem dX10_reads_165 : decode cX10_reads 165 = .ok (.getfield 101, 3) := by decide +kernel
theorem dX10_reads_168 : decode cX10_reads 168 = .ok (.iconst 0, 1) := by decide +kernel
theorem dX10_reads_169 : decode cX10_reads 169 = .ok (.iastore, 1) := by decide +kernel
theorem dX10_reads_170 : decode cX10_reads 170 = .ok (.aload_n 0, 1) := by decide +kernel
theorem dX10_reads_171 : decode cX10_reads 171 = .ok (.dup, 1) := by decide +kernel
theorem dX10_reads_172 : decode cX10_reads 172 = .ok (.getfield 101, 3) := by decide +kernel
theorem dX10_reads_175 : decode cX10_reads 175 = .ok (.iconst 1, 1) := by decide +kernel
theorem dX10_reads_176 : decode cX10_reads 176 = .ok (.iadd, 1) := by decide +kernel
theorem dX10_reads_177 : decode cX10_reads 177 = .ok (.putfield 101, 3) := by decide +kernel
theorem dX10_reads_180 : decode cX10_reads 180 = .ok (.iload_n 2, 1) := by decide +kernel
theorem dX10_reads_181 : decode cX10_reads 181 = .ok (.iconst 1, 1) := by decide +kernel
theorem dX10_reads_182 : decode cX10_reads 182 = .ok (.iadd, 1) := by decide +kernel
theorem dX10_reads_183 : decode cX10_reads 183 = .ok (.ireturn, 1) := by decide +kernel
theorem dX10_reads_184 : decode cX10_reads 184 = .ok (.aload_n 0, 1) := by decide +kernel
theorem dX10_reads_185 : decode cX10_reads 185 = .ok (.iload_n 2, 1) := by decide +kernel
theorem dX10_reads_186 : decode cX10_reads 186 = .ok (.invokevirtual 255, 3) := by decide +kernel
theorem dX10_reads_189 : decode cX10_reads 189 = .ok (.istore 5, 2) := by decide +kernel
theorem dX10_reads_191 : decode cX10_reads 191 = .ok (.iload 5, 2) := by decide +kernel
theorem dX10_reads_193 : decode cX10_reads 193 = .ok (.ifCond .ge 6, 3) := by decide +kernel
theorem dX10_reads_196 : decode cX10_reads 196 = .ok (.iload 5, 2) := by decide +kernel
theorem dX10_reads_198 : decode cX10_reads 198 = .ok (.ireturn, 1) := by decide +kernel
theorem dX10_reads_199 : decode cX10_reads 199 = .ok (.aload_n 0, 1) := by decide +kernel
theorem dX10_reads_200 : decode cX10_reads 200 = .ok (.getfield 107, 3) := by decide +kernel
theorem dX10_reads_203 : decode cX10_reads 203 = .ok (.lstore 6, 2) := by decide +kernel
theorem dX10_reads_205 : decode cX10_reads 205 = .ok (.lload 6, 2) := by decide +kernel
theorem dX10_reads_207 : decode cX10_reads 207 = .ok (.lconst 0, 1) := by decide +kernel
theorem dX10_reads_208 : decode cX10_reads 208 = .ok (.lcmp, 1) := by decide +kernel
theorem dX10_reads_209 : decode cX10_reads 209 = .ok (.ifCond .ge 38, 3) := by decide +kernel
theorem dX10_reads_212 : decode cX10_reads 212 = .ok (.iload_n 1, 1) := by decide +kernel
theorem dX10_reads_213 : decode cX10_reads 213 = .ok (.ifCond .ne 10, 3) := by decide +kernel
theorem dX10_reads_216 : decode cX10_reads 216 = .ok (.aload_n 0, 1) := by decide +kernel
theorem dX10_reads_217 : decode cX10_reads 217 = .ok (.lload 6, 2) := by decide +kernel
theorem dX10_reads_219 : decode cX10_reads 219 = .ok (.lneg, 1) := by decide +kernel
theorem dX10_reads_220 : decode cX10_reads 220 = .ok (.invokevirtual 258, 3) := by decide +kernel
theorem dX10_reads_223 : decode cX10_reads 223 = .ok (.iload_n 1, 1) := by decide +kernel
theorem dX10_reads_224 : decode cX10_reads 224 = .ok (.ifCond .eq 18, 3) := by decide +kernel
theorem dX10_reads_227 : decode cX10_reads 227 = .ok (.ldc2_w 199, 3) := by decide +kernel
theorem dX10_reads_230 : decode cX10_reads 230 = .ok (.aload_n 0, 1) := by decide +kernel
theorem dX10_reads_231 : decode cX10_reads 231 = .ok (.lload 6, 2) := by decide +kernel
theorem dX10_reads_233 : decode cX10_reads 233 = .ok (.lneg, 1) := by decide +kernel
theorem dX10_reads_234 : decode cX10_reads 234 = .ok (.invokevirtual 240, 3) := by decide +kernel
theorem dX10_reads_237 : decode cX10_reads 237 = .ok (.i2l, 1) := by decide +kernel
theorem dX10_reads_238 : decode cX10_reads 238 = .ok (.ladd, 1) := by decide +kernel
theorem dX10_reads_239 : decode cX10_reads 239 = .ok (.goto 6, 3) := by decide +kernel
theorem dX10_reads_242 : decode cX10_reads 242 = .ok (.ldc2_w 199, 3) := by decide +kernel
theorem dX10_reads_245 : decode cX10_reads 245 = .ok (.lstore 6, 2) := by decide +kernel
theorem dX10_reads_247 : decode cX10_reads 247 = .ok (.aload_n 0, 1) := by decide +kernel
theorem dX10_reads_248 : decode cX10_reads 248 = .ok (.iload_n 1, 1) := by decide +kernel
theorem dX10_reads_249 : decode cX10_reads 249 = .ok (.lload 6, 2) := by decide +kernel
theorem dX10_reads_251 : decode cX10_reads 251 = .ok (.invokevirtual 251, 3) := by decide +kernel
theorem dX10_reads_254 : decode cX10_reads 254 = .ok (.iload 5, 2) := by decide +kernel
theorem dX10_reads_256 : decode cX10_reads 256 = .ok (.ireturn, 1) := by decide +kernel
theorem dX10_readAll_0 : decode cX10_readAll 0 = .ok (.aload_n 0, 1) := by decide +kernel
theorem dX10_readAll_1 : decode cX10_readAll 1 = .ok (.iconst 0, 1) := by decide +kernel
theorem dX10_readAll_2 : decode cX10_readAll 2 = .ok (.putfield 101, 3) := by decide +kernel
theorem dX10_readAll_5 : decode cX10_readAll 5 = .ok (.aload_n 0, 1) := by decide +kernel
theorem dX10_readAll_6 : decode cX10_readAll 6 = .ok (.iconst 0, 1) := by decide +kernel
theorem dX10_readAll_7 : decode cX10_readAll 7 = .ok (.putfield 104, 3) := by decide +kernel
theorem dX10_readAll_10 : decode cX10_readAll 10 = .ok (.aload_n 0, 1) := by decide +kernel
theorem dX10_readAll_11 : decode cX10_readAll 11 = .ok (.iconst 0, 1) := by decide +kernel
theorem dX10_readAll_12 : decode cX10_readAll 12 = .ok (.putfield 89, 3) := by decide +kernel
theorem dX10_readAll_15 : decode cX10_readAll 15 = .ok (.iload_n 2, 1) := by decide +kernel
theorem dX10_readAll_16 : decode cX10_readAll 16 = .ok (.istore_n 3, 1) := by decide +kernel
theorem dX10_readAll_17 : decode cX10_readAll 17 = .ok (.iload_n 3, 1) := by decide +kernel
theorem dX10_readAll_18 : decode cX10_readAll 18 = .ok (.ifCond .lt 38, 3) := by decide +kernel
theorem dX10_readAll_21 : decode cX10_readAll 21 = .ok (.aload_n 0, 1) := by decide +kernel
theorem dX10_readAll_22 : decode cX10_readAll 22 = .ok (.getfield 89, 3) := by decide +kernel
theorem dX10_readAll_25 : decode cX10_readAll 25 = .ok (.iconst 4, 1) := by decide +kernel
theorem dX10_readAll_26 : decode cX10_readAll 26 = .ok (.if_icmp .eq 30, 3) := by decide +kernel
theorem dX10_readAll_29 : decode cX10_readAll 29 = .ok (.iload_n 3, 1) := by decide +kernel
theorem dX10_readAll_30 : decode cX10_readAll 30 = .ok (.aload_n 0, 1) := by decide +kernel
theorem dX10_readAll_31 : decode cX10_readAll 31 = .ok (.getfield 26, 3) := by decide +kernel
theorem dX10_readAll_34 : decode cX10_readAll 34 = .ok (.if_icmp .lt 12, 3) := by decide +kernel
theorem dX10_readAll_37 : decode cX10_readAll 37 = .ok (.iconst (-1), 1) := by decide +kernel
theorem dX10_readAll_38 : decode cX10_readAll 38 = .ok (.aload_n 0, 1) := by decide +kernel
theorem dX10_readAll_39 : decode cX10_readAll 39 = .ok (.getfield 26, 3) := by decide +kernel
theorem dX10_readAll_42 : decode cX10_readAll 42 = .ok (.isub, 1) := by decide +kernel
theorem dX10_readAll_43 : decode cX10_readAll 43 = .ok (.goto 9, 3) := by decide +kernel
theorem dX10_readAll_46 : decode cX10_readAll 46 = .ok (.aload_n 0, 1) := by decide +kernel
theorem dX10_readAll_47 : decode cX10_readAll 47 = .ok (.iload_n 1, 1) := by decide +kernel
theorem dX10_readAll_48 : decode cX10_readAll 48 = .ok (.iload_n 3, 1) := by decide +kernel
theorem dX10_readAll_49 : decode cX10_readAll 49 = .ok (.invokevirtual 261, 3) := by decide +kernel
theorem dX10_readAll_52 : decode cX10_readAll 52 = .ok (.istore_n 3, 1) := by decide +kernel
theorem dX10_readAll_53 : decode cX10_readAll 53 = .ok (.goto (-36), 3) := by decide +kernel
theorem dX10_readAll_56 : decode cX10_readAll 56 = .ok (.iload_n 3, 1) := by decide +kernel
theorem dX10_readAll_57 : decode cX10_readAll 57 = .ok (.ireturn, 1) := by decide +kernel
theorem dX10_fails_0 : decode cX10_fails 0 = .ok (.aload_n 0, 1) := by decide +kernel
theorem dX10_fails_1 : decode cX10_fails 1 = .ok (.getfield 35, 3) := by decide +kernel
theorem dX10_fails_4 : decode cX10_fails 4 = .ok (.ifCond .ne 8, 3) := by decide +kernel
theorem dX10_fails_7 : decode cX10_fails 7 = .ok (.aload_n 0, 1) := by decide +kernel
theorem dX10_fails_8 : decode cX10_fails 8 = .ok (.iload_n 1, 1) := by decide +kernel
theorem dX10_fails_9 : decode cX10_fails 9 = .ok (.putfield 35, 3) := by decide +kernel
theorem dX10_fails_12 : decode cX10_fails 12 = .ok (.return_, 1) := by decide +kernel
theorem dX10_begins_0 : decode cX10_begins 0 = .ok (.aload_n 0, 1) := by decide +kernel
theorem dX10_begins_1 : decode cX10_begins 1 = .ok (.getfield 38, 3) := by decide +kernel
theorem dX10_begins_4 : decode cX10_begins 4 = .ok (.aload_n 0, 1) := by decide +kernel
theorem dX10_begins_5 : decode cX10_begins 5 = .ok (.getfield 19, 3) := by decide +kernel
theorem dX10_begins_8 : decode cX10_begins 8 = .ok (.if_icmp .ne 11, 3) := by decide +kernel
theorem dX10_begins_11 : decode cX10_begins 11 = .ok (.aload_n 0, 1) := by decide +kernel
theorem dX10_begins_12 : decode cX10_begins 12 = .ok (.bipush 8, 2) := by decide +kernel
theorem dX10_begins_14 : decode cX10_begins 14 = .ok (.invokevirtual 265, 3) := by decide +kernel
theorem dX10_begins_17 : decode cX10_begins 17 = .ok (.iconst 0, 1) := by decide +kernel
theorem dX10_begins_18 : decode cX10_begins 18 = .ok (.ireturn, 1) := by decide +kernel
theorem dX10_begins_19 : decode cX10_begins 19 = .ok (.aload_n 0, 1) := by decide +kernel
theorem dX10_begins_20 : decode cX10_begins 20 = .ok (.dup, 1) := by decide +kernel
theorem dX10_begins_21 : decode cX10_begins 21 = .ok (.getfield 38, 3) := by decide +kernel
theorem dX10_begins_24 : decode cX10_begins 24 = .ok (.iconst 1, 1) := by decide +kernel
theorem dX10_begins_25 : decode cX10_begins 25 = .ok (.iadd, 1) := by decide +kernel
theorem dX10_begins_26 : decode cX10_begins 26 = .ok (.putfield 38, 3) := by decide +kernel
theorem dX10_begins_29 : decode cX10_begins 29 = .ok (.iconst 1, 1) := by decide +kernel
theorem dX10_begins_30 : decode cX10_begins 30 = .ok (.ireturn, 1) := by decide +kernel
theorem dX10_waits_0 : decode cX10_waits 0 = .ok (.aload_n 0, 1) := by decide +kernel
theorem dX10_waits_1 : decode cX10_waits 1 = .ok (.getfield 111, 3) := by decide +kernel
theorem dX10_waits_4 : decode cX10_waits 4 = .ok (.aload_n 0, 1) := by decide +kernel
theorem dX10_waits_5 : decode cX10_waits 5 = .ok (.getfield 16, 3) := by decide +kernel
theorem dX10_waits_8 : decode cX10_waits 8 = .ok (.if_icmp .ne 11, 3) := by decide +kernel
theorem dX10_waits_11 : decode cX10_waits 11 = .ok (.aload_n 0, 1) := by decide +kernel
theorem dX10_waits_12 : decode cX10_waits 12 = .ok (.bipush 7, 2) := by decide +kernel
theorem dX10_waits_14 : decode cX10_waits 14 = .ok (.invokevirtual 265, 3) := by decide +kernel
theorem dX10_waits_17 : decode cX10_waits 17 = .ok (.iconst 0, 1) := by decide +kernel
theorem dX10_waits_18 : decode cX10_waits 18 = .ok (.ireturn, 1) := by decide +kernel
theorem dX10_waits_19 : decode cX10_waits 19 = .ok (.aload_n 0, 1) := by decide +kernel
theorem dX10_waits_20 : decode cX10_waits 20 = .ok (.getfield 114, 3) := by decide +kernel
theorem dX10_waits_23 : decode cX10_waits 23 = .ok (.aload_n 0, 1) := by decide +kernel
theorem dX10_waits_24 : decode cX10_waits 24 = .ok (.getfield 111, 3) := by decide +kernel
theorem dX10_waits_27 : decode cX10_waits 27 = .ok (.iload_n 1, 1) := by decide +kernel
theorem dX10_waits_28 : decode cX10_waits 28 = .ok (.iastore, 1) := by decide +kernel
theorem dX10_waits_29 : decode cX10_waits 29 = .ok (.aload_n 0, 1) := by decide +kernel
theorem dX10_waits_30 : decode cX10_waits 30 = .ok (.getfield 117, 3) := by decide +kernel
theorem dX10_waits_33 : decode cX10_waits 33 = .ok (.aload_n 0, 1) := by decide +kernel
theorem dX10_waits_34 : decode cX10_waits 34 = .ok (.getfield 111, 3) := by decide +kernel
theorem dX10_waits_37 : decode cX10_waits 37 = .ok (.lload_n 2, 1) := by decide +kernel
theorem dX10_waits_38 : decode cX10_waits 38 = .ok (.lastore, 1) := by decide +kernel
theorem dX10_waits_39 : decode cX10_waits 39 = .ok (.aload_n 0, 1) := by decide +kernel
theorem dX10_waits_40 : decode cX10_waits 40 = .ok (.getfield 120, 3) := by decide +kernel
theorem dX10_waits_43 : decode cX10_waits 43 = .ok (.aload_n 0, 1) := by decide +kernel
theorem dX10_waits_44 : decode cX10_waits 44 = .ok (.getfield 111, 3) := by decide +kernel
theorem dX10_waits_47 : decode cX10_waits 47 = .ok (.lload 4, 2) := by decide +kernel
theorem dX10_waits_49 : decode cX10_waits 49 = .ok (.lastore, 1) := by decide +kernel
theorem dX10_waits_50 : decode cX10_waits 50 = .ok (.aload_n 0, 1) := by decide +kernel
theorem dX10_waits_51 : decode cX10_waits 51 = .ok (.getfield 123, 3) := by decide +kernel
theorem dX10_waits_54 : decode cX10_waits 54 = .ok (.aload_n 0, 1) := by decide +kernel
theorem dX10_waits_55 : decode cX10_waits 55 = .ok (.getfield 111, 3) := by decide +kernel
theorem dX10_waits_58 : decode cX10_waits 58 = .ok (.aload_n 0, 1) := by decide +kernel
theorem dX10_waits_59 : decode cX10_waits 59 = .ok (.getfield 138, 3) := by decide +kernel
theorem dX10_waits_62 : decode cX10_waits 62 = .ok (.lastore, 1) := by decide +kernel
theorem dX10_waits_63 : decode cX10_waits 63 = .ok (.aload_n 0, 1) := by decide +kernel
theorem dX10_waits_64 : decode cX10_waits 64 = .ok (.getfield 126, 3) := by decide +kernel
theorem dX10_waits_67 : decode cX10_waits 67 = .ok (.aload_n 0, 1) := by decide +kernel
theorem dX10_waits_68 : decode cX10_waits 68 = .ok (.getfield 111, 3) := by decide +kernel
theorem dX10_waits_71 : decode cX10_waits 71 = .ok (.iconst 0, 1) := by decide +kernel
theorem dX10_waits_72 : decode cX10_waits 72 = .ok (.iastore, 1) := by decide +kernel
theorem dX10_waits_73 : decode cX10_waits 73 = .ok (.aload_n 0, 1) := by decide +kernel
theorem dX10_waits_74 : decode cX10_waits 74 = .ok (.dup, 1) := by decide +kernel
theorem dX10_waits_75 : decode cX10_waits 75 = .ok (.getfield 111, 3) := by decide +kernel
theorem dX10_waits_78 : decode cX10_waits 78 = .ok (.iconst 1, 1) := by decide +kernel
theorem dX10_waits_79 : decode cX10_waits 79 = .ok (.iadd, 1) := by decide +kernel
theorem dX10_waits_80 : decode cX10_waits 80 = .ok (.putfield 111, 3) := by decide +kernel
theorem dX10_waits_83 : decode cX10_waits 83 = .ok (.aload_n 0, 1) := by decide +kernel
theorem dX10_waits_84 : decode cX10_waits 84 = .ok (.getfield 111, 3) := by decide +kernel
theorem dX10_waits_87 : decode cX10_waits 87 = .ok (.aload_n 0, 1) := by decide +kernel
theorem dX10_waits_88 : decode cX10_waits 88 = .ok (.getfield 41, 3) := by decide +kernel
theorem dX10_waits_91 : decode cX10_waits 91 = .ok (.if_icmp .le 11, 3) := by decide +kernel
theorem dX10_waits_94 : decode cX10_waits 94 = .ok (.aload_n 0, 1) := by decide +kernel
theorem dX10_waits_95 : decode cX10_waits 95 = .ok (.aload_n 0, 1) := by decide +kernel
theorem dX10_waits_96 : decode cX10_waits 96 = .ok (.getfield 111, 3) := by decide +kernel
theorem dX10_waits_99 : decode cX10_waits 99 = .ok (.putfield 41, 3) := by decide +kernel
theorem dX10_waits_102 : decode cX10_waits 102 = .ok (.iconst 1, 1) := by decide +kernel
theorem dX10_waits_103 : decode cX10_waits 103 = .ok (.ireturn, 1) := by decide +kernel
theorem dX10_gives_0 : decode cX10_gives 0 = .ok (.aload_n 0, 1) := by decide +kernel
theorem dX10_gives_1 : decode cX10_gives 1 = .ok (.iconst 2, 1) := by decide +kernel
theorem dX10_gives_2 : decode cX10_gives 2 = .ok (.putfield 132, 3) := by decide +kernel
theorem dX10_gives_5 : decode cX10_gives 5 = .ok (.aload_n 0, 1) := by decide +kernel
theorem dX10_gives_6 : decode cX10_gives 6 = .ok (.lload_n 1, 1) := by decide +kernel
theorem dX10_gives_7 : decode cX10_gives 7 = .ok (.putfield 135, 3) := by decide +kernel
theorem dX10_gives_10 : decode cX10_gives 10 = .ok (.return_, 1) := by decide +kernel
theorem dX10_lookUp_0 : decode cX10_lookUp 0 = .ok (.aload_n 0, 1) := by decide +kernel
theorem dX10_lookUp_1 : decode cX10_lookUp 1 = .ok (.getfield 138, 3) := by decide +kernel
theorem dX10_lookUp_4 : decode cX10_lookUp 4 = .ok (.lstore_n 3, 1) := by decide +kernel
theorem dX10_lookUp_5 : decode cX10_lookUp 5 = .ok (.lload_n 3, 1) := by decide +kernel
theorem dX10_lookUp_6 : decode cX10_lookUp 6 = .ok (.invokestatic 205, 3) := by decide +kernel
theorem dX10_lookUp_9 : decode cX10_lookUp 9 = .ok (.ifCond .eq 36, 3) := by decide +kernel
theorem dX10_lookUp_12 : decode cX10_lookUp 12 = .ok (.aload_n 0, 1) := by decide +kernel
theorem dX10_lookUp_13 : decode cX10_lookUp 13 = .ok (.aload_n 0, 1) := by decide +kernel
theorem dX10_lookUp_14 : decode cX10_lookUp 14 = .ok (.lload_n 3, 1) := by decide +kernel
theorem dX10_lookUp_15 : decode cX10_lookUp 15 = .ok (.invokevirtual 209, 3) := by decide +kernel
theorem dX10_lookUp_18 : decode cX10_lookUp 18 = .ok (.invokevirtual 209, 3) := by decide +kernel
theorem dX10_lookUp_21 : decode cX10_lookUp 21 = .ok (.lload_n 1, 1) := by decide +kernel
theorem dX10_lookUp_22 : decode cX10_lookUp 22 = .ok (.lcmp, 1) := by decide +kernel
theorem dX10_lookUp_23 : decode cX10_lookUp 23 = .ok (.ifCond .ne 13, 3) := by decide +kernel
theorem dX10_lookUp_26 : decode cX10_lookUp 26 = .ok (.aload_n 0, 1) := by decide +kernel
theorem dX10_lookUp_27 : decode cX10_lookUp 27 = .ok (.aload_n 0, 1) := by decide +kernel
theorem dX10_lookUp_28 : decode cX10_lookUp 28 = .ok (.lload_n 3, 1) := by decide +kernel
theorem dX10_lookUp_29 : decode cX10_lookUp 29 = .ok (.invokevirtual 209, 3) := by decide +kernel
theorem dX10_lookUp_32 : decode cX10_lookUp 32 = .ok (.invokevirtual 216, 3) := by decide +kernel
theorem dX10_lookUp_35 : decode cX10_lookUp 35 = .ok (.lreturn, 1) := by decide +kernel
theorem dX10_lookUp_36 : decode cX10_lookUp 36 = .ok (.aload_n 0, 1) := by decide +kernel
theorem dX10_lookUp_37 : decode cX10_lookUp 37 = .ok (.lload_n 3, 1) := by decide +kernel
theorem dX10_lookUp_38 : decode cX10_lookUp 38 = .ok (.invokevirtual 216, 3) := by decide +kernel
theorem dX10_lookUp_41 : decode cX10_lookUp 41 = .ok (.lstore_n 3, 1) := by decide +kernel
theorem dX10_lookUp_42 : decode cX10_lookUp 42 = .ok (.goto (-37), 3) := by decide +kernel
theorem dX10_lookUp_45 : decode cX10_lookUp 45 = .ok (.aload_n 0, 1) := by decide +kernel
theorem dX10_lookUp_46 : decode cX10_lookUp 46 = .ok (.getfield 73, 3) := by decide +kernel
theorem dX10_lookUp_49 : decode cX10_lookUp 49 = .ok (.lload_n 1, 1) := by decide +kernel
theorem dX10_lookUp_50 : decode cX10_lookUp 50 = .ok (.ldc2_w 199, 3) := by decide +kernel
theorem dX10_lookUp_53 : decode cX10_lookUp 53 = .ok (.lsub, 1) := by decide +kernel
theorem dX10_lookUp_54 : decode cX10_lookUp 54 = .ok (.l2i, 1) := by decide +kernel
theorem dX10_lookUp_55 : decode cX10_lookUp 55 = .ok (.laload, 1) := by decide +kernel
theorem dX10_lookUp_56 : decode cX10_lookUp 56 = .ok (.lstore 5, 2) := by decide +kernel
theorem dX10_lookUp_58 : decode cX10_lookUp 58 = .ok (.lload 5, 2) := by decide +kernel
theorem dX10_lookUp_60 : decode cX10_lookUp 60 = .ok (.lconst 0, 1) := by decide +kernel
theorem dX10_lookUp_61 : decode cX10_lookUp 61 = .ok (.lcmp, 1) := by decide +kernel
theorem dX10_lookUp_62 : decode cX10_lookUp 62 = .ok (.ifCond .ge 8, 3) := by decide +kernel
theorem dX10_lookUp_65 : decode cX10_lookUp 65 = .ok (.aload_n 0, 1) := by decide +kernel
theorem dX10_lookUp_66 : decode cX10_lookUp 66 = .ok (.iconst 1, 1) := by decide +kernel
theorem dX10_lookUp_67 : decode cX10_lookUp 67 = .ok (.invokevirtual 265, 3) := by decide +kernel
theorem dX10_lookUp_70 : decode cX10_lookUp 70 = .ok (.lload 5, 2) := by decide +kernel
theorem dX10_lookUp_72 : decode cX10_lookUp 72 = .ok (.lreturn, 1) := by decide +kernel
theorem dX10_listOf_0 : decode cX10_listOf 0 = .ok (.lload_n 1, 1) := by decide +kernel
theorem dX10_listOf_1 : decode cX10_listOf 1 = .ok (.lstore 4, 2) := by decide +kernel
theorem dX10_listOf_3 : decode cX10_listOf 3 = .ok (.iconst 0, 1) := by decide +kernel
theorem dX10_listOf_4 : decode cX10_listOf 4 = .ok (.istore 6, 2) := by decide +kernel
theorem dX10_listOf_6 : decode cX10_listOf 6 = .ok (.iload 6, 2) := by decide +kernel
theorem dX10_listOf_8 : decode cX10_listOf 8 = .ok (.iload_n 3, 1) := by decide +kernel
theorem dX10_listOf_9 : decode cX10_listOf 9 = .ok (.if_icmp .ge 27, 3) := by decide +kernel
theorem dX10_listOf_12 : decode cX10_listOf 12 = .ok (.lload 4, 2) := by decide +kernel
theorem dX10_listOf_14 : decode cX10_listOf 14 = .ok (.invokestatic 205, 3) := by decide +kernel
theorem dX10_listOf_17 : decode cX10_listOf 17 = .ok (.ifCond .ne 5, 3) := by decide +kernel
theorem dX10_listOf_20 : decode cX10_listOf 20 = .ok (.iconst 0, 1) := by decide +kernel
theorem dX10_listOf_21 : decode cX10_listOf 21 = .ok (.ireturn, 1) := by decide +kernel
theorem dX10_listOf_22 : decode cX10_listOf 22 = .ok (.aload_n 0, 1) := by decide +kernel
theorem dX10_listOf_23 : decode cX10_listOf 23 = .ok (.lload 4, 2) := by decide +kernel
theorem dX10_listOf_25 : decode cX10_listOf 25 = .ok (.invokevirtual 216, 3) := by decide +kernel
theorem dX10_listOf_28 : decode cX10_listOf 28 = .ok (.lstore 4, 2) := by decide +kernel
theorem dX10_listOf_30 : decode cX10_listOf 30 = .ok (.iinc 6 1, 3) := by decide +kernel
theorem dX10_listOf_33 : decode cX10_listOf 33 = .ok (.goto (-27), 3) := by decide +kernel
theorem dX10_listOf_36 : decode cX10_listOf 36 = .ok (.lload 4, 2) := by decide +kernel
theorem dX10_listOf_38 : decode cX10_listOf 38 = .ok (.ldc2_w 199, 3) := by decide +kernel
theorem dX10_listOf_41 : decode cX10_listOf 41 = .ok (.lcmp, 1) := by decide +kernel
theorem dX10_listOf_42 : decode cX10_listOf 42 = .ok (.ifCond .ne 7, 3) := by decide +kernel
theorem dX10_listOf_45 : decode cX10_listOf 45 = .ok (.iconst 1, 1) := by decide +kernel
theorem dX10_listOf_46 : decode cX10_listOf 46 = .ok (.goto 4, 3) := by decide +kernel
theorem dX10_listOf_49 : decode cX10_listOf 49 = .ok (.iconst 0, 1) := by decide +kernel
theorem dX10_listOf_50 : decode cX10_listOf 50 = .ok (.ireturn, 1) := by decide +kernel
theorem dX10_condition_0 : decode cX10_condition 0 = .ok (.lload_n 1, 1) := by decide +kernel
theorem dX10_condition_1 : decode cX10_condition 1 = .ok (.ldc2_w 199, 3) := by decide +kernel
theorem dX10_condition_4 : decode cX10_condition 4 = .ok (.lcmp, 1) := by decide +kernel
theorem dX10_condition_5 : decode cX10_condition 5 = .ok (.ifCond .ne 11, 3) := by decide +kernel
theorem dX10_condition_8 : decode cX10_condition 8 = .ok (.aload_n 0, 1) := by decide +kernel
theorem dX10_condition_9 : decode cX10_condition 9 = .ok (.iconst 5, 1) := by decide +kernel
theorem dX10_condition_10 : decode cX10_condition 10 = .ok (.invokevirtual 265, 3) := by decide +kernel
theorem dX10_condition_13 : decode cX10_condition 13 = .ok (.goto 61, 3) := by decide +kernel
theorem dX10_condition_16 : decode cX10_condition 16 = .ok (.lload_n 1, 1) := by decide +kernel
theorem dX10_condition_17 : decode cX10_condition 17 = .ok (.invokestatic 205, 3) := by decide +kernel
theorem dX10_condition_20 : decode cX10_condition 20 = .ok (.ifCond .eq 16, 3) := by decide +kernel
theorem dX10_condition_23 : decode cX10_condition 23 = .ok (.aload_n 0, 1) := by decide +kernel
theorem dX10_condition_24 : decode cX10_condition 24 = .ok (.aload_n 0, 1) := by decide +kernel
theorem dX10_condition_25 : decode cX10_condition 25 = .ok (.lload_n 1, 1) := by decide +kernel
theorem dX10_condition_26 : decode cX10_condition 26 = .ok (.invokevirtual 209, 3) := by decide +kernel
theorem dX10_condition_29 : decode cX10_condition 29 = .ok (.iconst 2, 1) := by decide +kernel
theorem dX10_condition_30 : decode cX10_condition 30 = .ok (.invokevirtual 269, 3) := by decide +kernel
theorem dX10_condition_33 : decode cX10_condition 33 = .ok (.ifCond .ne 11, 3) := by decide +kernel
theorem dX10_condition_36 : decode cX10_condition 36 = .ok (.aload_n 0, 1) := by decide +kernel
theorem dX10_condition_37 : decode cX10_condition 37 = .ok (.iconst 3, 1) := by decide +kernel
theorem dX10_condition_38 : decode cX10_condition 38 = .ok (.invokevirtual 265, 3) := by decide +kernel
theorem dX10_condition_41 : decode cX10_condition 41 = .ok (.goto 33, 3) := by decide +kernel
theorem dX10_condition_44 : decode cX10_condition 44 = .ok (.aload_n 0, 1) := by decide +kernel
theorem dX10_condition_45 : decode cX10_condition 45 = .ok (.iconst 1, 1) := by decide +kernel
theorem dX10_condition_46 : decode cX10_condition 46 = .ok (.ldc2_w 199, 3) := by decide +kernel
theorem dX10_condition_49 : decode cX10_condition 49 = .ok (.lload_n 1, 1) := by decide +kernel
theorem dX10_condition_50 : decode cX10_condition 50 = .ok (.invokevirtual 273, 3) := by decide +kernel
theorem dX10_condition_53 : decode cX10_condition 53 = .ok (.ifCond .eq 21, 3) := by decide +kernel
theorem dX10_condition_56 : decode cX10_condition 56 = .ok (.aload_n 0, 1) := by decide +kernel
theorem dX10_condition_57 : decode cX10_condition 57 = .ok (.iconst 0, 1) := by decide +kernel
theorem dX10_condition_58 : decode cX10_condition 58 = .ok (.putfield 132, 3) := by decide +kernel
theorem dX10_condition_61 : decode cX10_condition 61 = .ok (.aload_n 0, 1) := by decide +kernel
theorem dX10_condition_62 : decode cX10_condition 62 = .ok (.aload_n 0, 1) := by decide +kernel
theorem dX10_condition_63 : decode cX10_condition 63 = .ok (.aload_n 0, 1) := by decide +kernel
theorem dX10_condition_64 : decode cX10_condition 64 = .ok (.lload_n 1, 1) := by decide +kernel
theorem dX10_condition_65 : decode cX10_condition 65 = .ok (.invokevirtual 209, 3) := by decide +kernel
theorem dX10_condition_68 : decode cX10_condition 68 = .ok (.invokevirtual 209, 3) := by decide +kernel
theorem dX10_condition_71 : decode cX10_condition 71 = .ok (.putfield 135, 3) := by decide +kernel
theorem dX10_condition_74 : decode cX10_condition 74 = .ok (.return_, 1) := by decide +kernel
theorem dX10_evaluate_0 : decode cX10_evaluate 0 = .ok (.aload_n 0, 1) := by decide +kernel
theorem dX10_evaluate_1 : decode cX10_evaluate 1 = .ok (.invokevirtual 277, 3) := by decide +kernel
theorem dX10_evaluate_4 : decode cX10_evaluate 4 = .ok (.ifCond .ne 4, 3) := by decide +kernel
theorem dX10_evaluate_7 : decode cX10_evaluate 7 = .ok (.return_, 1) := by decide +kernel
theorem dX10_evaluate_8 : decode cX10_evaluate 8 = .ok (.aload_n 0, 1) := by decide +kernel
theorem dX10_evaluate_9 : decode cX10_evaluate 9 = .ok (.getfield 135, 3) := by decide +kernel
theorem dX10_evaluate_12 : decode cX10_evaluate 12 = .ok (.lstore_n 1, 1) := by decide +kernel
theorem dX10_evaluate_13 : decode cX10_evaluate 13 = .ok (.lload_n 1, 1) := by decide +kernel
theorem dX10_evaluate_14 : decode cX10_evaluate 14 = .ok (.invokestatic 281, 3) := by decide +kernel
theorem dX10_evaluate_17 : decode cX10_evaluate 17 = .ok (.ifCond .ne 19, 3) := by decide +kernel
theorem dX10_evaluate_20 : decode cX10_evaluate 20 = .ok (.lload_n 1, 1) := by decide +kernel
theorem dX10_evaluate_21 : decode cX10_evaluate 21 = .ok (.ldc2_w 199, 3) := by decide +kernel
theorem dX10_evaluate_24 : decode cX10_evaluate 24 = .ok (.lcmp, 1) := by decide +kernel
theorem dX10_evaluate_25 : decode cX10_evaluate 25 = .ok (.ifCond .eq 11, 3) := by decide +kernel
theorem dX10_evaluate_28 : decode cX10_evaluate 28 = .ok (.lload_n 1, 1) := by decide +kernel
theorem dX10_evaluate_29 : decode cX10_evaluate 29 = .ok (.ldc2_w 284, 3) := by decide +kernel
theorem dX10_evaluate_32 : decode cX10_evaluate 32 = .ok (.lcmp, 1) := by decide +kernel
theorem dX10_evaluate_33 : decode cX10_evaluate 33 = .ok (.ifCond .ne 9, 3) := by decide +kernel
theorem dX10_evaluate_36 : decode cX10_evaluate 36 = .ok (.aload_n 0, 1) := by decide +kernel
theorem dX10_evaluate_37 : decode cX10_evaluate 37 = .ok (.lload_n 1, 1) := by decide +kernel
theorem dX10_evaluate_38 : decode cX10_evaluate 38 = .ok (.invokevirtual 286, 3) := by decide +kernel
theorem dX10_evaluate_41 : decode cX10_evaluate 41 = .ok (.return_, 1) := by decide +kernel
theorem dX10_evaluate_42 : decode cX10_evaluate 42 = .ok (.lload_n 1, 1) := by decide +kernel
theorem dX10_evaluate_43 : decode cX10_evaluate 43 = .ok (.invokestatic 289, 3) := by decide +kernel
theorem dX10_evaluate_46 : decode cX10_evaluate 46 = .ok (.ifCond .eq 13, 3) := by decide +kernel
theorem dX10_evaluate_49 : decode cX10_evaluate 49 = .ok (.aload_n 0, 1) := by decide +kernel
theorem dX10_evaluate_50 : decode cX10_evaluate 50 = .ok (.aload_n 0, 1) := by decide +kernel
theorem dX10_evaluate_51 : decode cX10_evaluate 51 = .ok (.lload_n 1, 1) := by decide +kernel
theorem dX10_evaluate_52 : decode cX10_evaluate 52 = .ok (.invokevirtual 292, 3) := by decide +kernel
theorem dX10_evaluate_55 : decode cX10_evaluate 55 = .ok (.invokevirtual 286, 3) := by decide +kernel
theorem dX10_evaluate_58 : decode cX10_evaluate 58 = .ok (.return_, 1) := by decide +kernel
theorem dX10_evaluate_59 : decode cX10_evaluate 59 = .ok (.aload_n 0, 1) := by decide +kernel
theorem dX10_evaluate_60 : decode cX10_evaluate 60 = .ok (.lload_n 1, 1) := by decide +kernel
theorem dX10_evaluate_61 : decode cX10_evaluate 61 = .ok (.invokevirtual 209, 3) := by decide +kernel
theorem dX10_evaluate_64 : decode cX10_evaluate 64 = .ok (.lstore_n 3, 1) := by decide +kernel
theorem dX10_evaluate_65 : decode cX10_evaluate 65 = .ok (.aload_n 0, 1) := by decide +kernel
theorem dX10_evaluate_66 : decode cX10_evaluate 66 = .ok (.lload_n 1, 1) := by decide +kernel
theorem dX10_evaluate_67 : decode cX10_evaluate 67 = .ok (.invokevirtual 216, 3) := by decide +kernel
theorem dX10_evaluate_70 : decode cX10_evaluate 70 = .ok (.lstore 5, 2) := by decide +kernel
theorem dX10_evaluate_72 : decode cX10_evaluate 72 = .ok (.lload_n 3, 1) := by decide +kernel
theorem dX10_evaluate_73 : decode cX10_evaluate 73 = .ok (.ldc2_w 295, 3) := by decide +kernel
theorem dX10_evaluate_76 : decode cX10_evaluate 76 = .ok (.lcmp, 1) := by decide +kernel
theorem dX10_evaluate_77 : decode cX10_evaluate 77 = .ok (.ifCond .ne 34, 3) := by decide +kernel
theorem dX10_evaluate_80 : decode cX10_evaluate 80 = .ok (.aload_n 0, 1) := by decide +kernel
theorem dX10_evaluate_81 : decode cX10_evaluate 81 = .ok (.lload 5, 2) := by decide +kernel
theorem dX10_evaluate_83 : decode cX10_evaluate 83 = .ok (.iconst 1, 1) := by decide +kernel
theorem dX10_evaluate_84 : decode cX10_evaluate 84 = .ok (.invokevirtual 269, 3) := by decide +kernel
theorem dX10_evaluate_87 : decode cX10_evaluate 87 = .ok (.ifCond .eq 16, 3) := by decide +kernel
theorem dX10_evaluate_90 : decode cX10_evaluate 90 = .ok (.aload_n 0, 1) := by decide +kernel
theorem dX10_evaluate_91 : decode cX10_evaluate 91 = .ok (.aload_n 0, 1) := by decide +kernel
theorem dX10_evaluate_92 : decode cX10_evaluate 92 = .ok (.lload 5, 2) := by decide +kernel
theorem dX10_evaluate_94 : decode cX10_evaluate 94 = .ok (.invokevirtual 209, 3) := by decide +kernel
theorem dX10_evaluate_97 : decode cX10_evaluate 97 = .ok (.invokevirtual 286, 3) := by decide +kernel
theorem dX10_evaluate_100 : decode cX10_evaluate 100 = .ok (.goto 216, 3) := by decide +kernel
theorem dX10_evaluate_103 : decode cX10_evaluate 103 = .ok (.aload_n 0, 1) := by decide +kernel
theorem dX10_evaluate_104 : decode cX10_evaluate 104 = .ok (.iconst 3, 1) := by decide +kernel
theorem dX10_evaluate_105 : decode cX10_evaluate 105 = .ok (.invokevirtual 265, 3) := by decide +kernel
theorem dX10_evaluate_108 : decode cX10_evaluate 108 = .ok (.goto 208, 3) := by decide +kernel
theorem dX10_evaluate_111 : decode cX10_evaluate 111 = .ok (.lload_n 3, 1) := by decide +kernel
theorem dX10_evaluate_112 : decode cX10_evaluate 112 = .ok (.ldc2_w 297, 3) := by decide +kernel
theorem dX10_evaluate_115 : decode cX10_evaluate 115 = .ok (.lcmp, 1) := by decide +kernel
theorem dX10_evaluate_116 : decode cX10_evaluate 116 = .ok (.ifCond .ne 12, 3) := by decide +kernel
theorem dX10_evaluate_119 : decode cX10_evaluate 119 = .ok (.aload_n 0, 1) := by decide +kernel
theorem dX10_evaluate_120 : decode cX10_evaluate 120 = .ok (.lload 5, 2) := by decide +kernel
theorem dX10_evaluate_122 : decode cX10_evaluate 122 = .ok (.invokevirtual 299, 3) := by decide +kernel
theorem dX10_evaluate_125 : decode cX10_evaluate 125 = .ok (.goto 191, 3) := by decide +kernel
theorem dX10_evaluate_128 : decode cX10_evaluate 128 = .ok (.lload_n 3, 1) := by decide +kernel
theorem dX10_evaluate_129 : decode cX10_evaluate 129 = .ok (.ldc2_w 302, 3) := by decide +kernel
theorem dX10_evaluate_132 : decode cX10_evaluate 132 = .ok (.lcmp, 1) := by decide +kernel
theorem dX10_evaluate_133 : decode cX10_evaluate 133 = .ok (.ifCond .ne 110, 3) := by decide +kernel
theorem dX10_evaluate_136 : decode cX10_evaluate 136 = .ok (.aload_n 0, 1) := by decide +kernel
theorem dX10_evaluate_137 : decode cX10_evaluate 137 = .ok (.lload 5, 2) := by decide +kernel
theorem dX10_evaluate_139 : decode cX10_evaluate 139 = .ok (.iconst 2, 1) := by decide +kernel
theorem dX10_evaluate_140 : decode cX10_evaluate 140 = .ok (.invokevirtual 269, 3) := by decide +kernel
theorem dX10_evaluate_143 : decode cX10_evaluate 143 = .ok (.ifCond .eq 45, 3) := by decide +kernel
theorem dX10_evaluate_146 : decode cX10_evaluate 146 = .ok (.aload_n 0, 1) := by decide +kernel
theorem dX10_evaluate_147 : decode cX10_evaluate 147 = .ok (.lload 5, 2) := by decide +kernel
theorem dX10_evaluate_149 : decode cX10_evaluate 149 = .ok (.invokevirtual 209, 3) := by decide +kernel
theorem dX10_evaluate_152 : decode cX10_evaluate 152 = .ok (.invokestatic 289, 3) := by decide +kernel
theorem dX10_evaluate_155 : decode cX10_evaluate 155 = .ok (.ifCond .eq 33, 3) := by decide +kernel
theorem dX10_evaluate_158 : decode cX10_evaluate 158 = .ok (.aload_n 0, 1) := by decide +kernel
theorem dX10_evaluate_159 : decode cX10_evaluate 159 = .ok (.lload 5, 2) := by decide +kernel
theorem dX10_evaluate_161 : decode cX10_evaluate 161 = .ok (.invokevirtual 209, 3) := by decide +kernel
theorem dX10_evaluate_164 : decode cX10_evaluate 164 = .ok (.ldc2_w 199, 3) := by decide +kernel
theorem dX10_evaluate_167 : decode cX10_evaluate 167 = .ok (.lcmp, 1) := by decide +kernel
theorem dX10_evaluate_168 : decode cX10_evaluate 168 = .ok (.ifCond .eq 20, 3) := by decide +kernel
theorem dX10_evaluate_171 : decode cX10_evaluate 171 = .ok (.aload_n 0, 1) := by decide +kernel
theorem dX10_evaluate_172 : decode cX10_evaluate 172 = .ok (.lload 5, 2) := by decide +kernel
theorem dX10_evaluate_174 : decode cX10_evaluate 174 = .ok (.invokevirtual 209, 3) := by decide +kernel
theorem dX10_evaluate_177 : decode cX10_evaluate 177 = .ok (.ldc2_w 284, 3) := by decide +kernel
theorem dX10_evaluate_180 : decode cX10_evaluate 180 = .ok (.lcmp, 1) := by decide +kernel
theorem dX10_evaluate_181 : decode cX10_evaluate 181 = .ok (.ifCond .eq 7, 3) := by decide +kernel
theorem dX10_evaluate_184 : decode cX10_evaluate 184 = .ok (.iconst 1, 1) := by decide +kernel
theorem dX10_evaluate_185 : decode cX10_evaluate 185 = .ok (.goto 4, 3) := by decide +kernel
theorem dX10_evaluate_188 : decode cX10_evaluate 188 = .ok (.iconst 0, 1) := by decide +kernel
theorem dX10_evaluate_189 : decode cX10_evaluate 189 = .ok (.istore 7, 2) := by decide +kernel
theorem dX10_evaluate_191 : decode cX10_evaluate 191 = .ok (.iload 7, 2) := by decide +kernel
theorem dX10_evaluate_193 : decode cX10_evaluate 193 = .ok (.ifCond .eq 42, 3) := by decide +kernel
theorem dX10_evaluate_196 : decode cX10_evaluate 196 = .ok (.aload_n 0, 1) := by decide +kernel
theorem dX10_evaluate_197 : decode cX10_evaluate 197 = .ok (.getfield 73, 3) := by decide +kernel
theorem dX10_evaluate_200 : decode cX10_evaluate 200 = .ok (.aload_n 0, 1) := by decide +kernel
theorem dX10_evaluate_201 : decode cX10_evaluate 201 = .ok (.lload 5, 2) := by decide +kernel
theorem dX10_evaluate_203 : decode cX10_evaluate 203 = .ok (.invokevirtual 209, 3) := by decide +kernel
theorem dX10_evaluate_206 : decode cX10_evaluate 206 = .ok (.ldc2_w 199, 3) := by decide +kernel
theorem dX10_evaluate_209 : decode cX10_evaluate 209 = .ok (.lsub, 1) := by decide +kernel
theorem dX10_evaluate_210 : decode cX10_evaluate 210 = .ok (.l2i, 1) := by decide +kernel
theorem dX10_evaluate_211 : decode cX10_evaluate 211 = .ok (.aload_n 0, 1) := by decide +kernel
theorem dX10_evaluate_212 : decode cX10_evaluate 212 = .ok (.aload_n 0, 1) := by decide +kernel
theorem dX10_evaluate_213 : decode cX10_evaluate 213 = .ok (.lload 5, 2) := by decide +kernel
theorem dX10_evaluate_215 : decode cX10_evaluate 215 = .ok (.invokevirtual 216, 3) := by decide +kernel
theorem dX10_evaluate_218 : decode cX10_evaluate 218 = .ok (.invokevirtual 209, 3) := by decide +kernel
theorem dX10_evaluate_221 : decode cX10_evaluate 221 = .ok (.lastore, 1) := by decide +kernel
theorem dX10_evaluate_222 : decode cX10_evaluate 222 = .ok (.aload_n 0, 1) := by decide +kernel
theorem dX10_evaluate_223 : decode cX10_evaluate 223 = .ok (.aload_n 0, 1) := by decide +kernel
theorem dX10_evaluate_224 : decode cX10_evaluate 224 = .ok (.lload 5, 2) := by decide +kernel
theorem dX10_evaluate_226 : decode cX10_evaluate 226 = .ok (.invokevirtual 209, 3) := by decide +kernel
theorem dX10_evaluate_229 : decode cX10_evaluate 229 = .ok (.invokevirtual 286, 3) := by decide +kernel
theorem dX10_evaluate_232 : decode cX10_evaluate 232 = .ok (.goto 8, 3) := by decide +kernel
theorem dX10_evaluate_235 : decode cX10_evaluate 235 = .ok (.aload_n 0, 1) := by decide +kernel
theorem dX10_evaluate_236 : decode cX10_evaluate 236 = .ok (.iconst 3, 1) := by decide +kernel
theorem dX10_evaluate_237 : decode cX10_evaluate 237 = .ok (.invokevirtual 265, 3) := by decide +kernel
theorem dX10_evaluate_240 : decode cX10_evaluate 240 = .ok (.goto 76, 3) := by decide +kernel
theorem dX10_evaluate_243 : decode cX10_evaluate 243 = .ok (.lload 5, 2) := by decide +kernel
theorem dX10_evaluate_245 : decode cX10_evaluate 245 = .ok (.ldc2_w 199, 3) := by decide +kernel
theorem dX10_evaluate_248 : decode cX10_evaluate 248 = .ok (.lcmp, 1) := by decide +kernel
theorem dX10_evaluate_249 : decode cX10_evaluate 249 = .ok (.ifCond .ne 21, 3) := by decide +kernel
theorem dX10_evaluate_252 : decode cX10_evaluate 252 = .ok (.aload_n 0, 1) := by decide +kernel
theorem dX10_evaluate_253 : decode cX10_evaluate 253 = .ok (.iconst 1, 1) := by decide +kernel
theorem dX10_evaluate_254 : decode cX10_evaluate 254 = .ok (.putfield 132, 3) := by decide +kernel
theorem dX10_evaluate_257 : decode cX10_evaluate 257 = .ok (.aload_n 0, 1) := by decide +kernel
theorem dX10_evaluate_258 : decode cX10_evaluate 258 = .ok (.lload_n 3, 1) := by decide +kernel
theorem dX10_evaluate_259 : decode cX10_evaluate 259 = .ok (.putfield 135, 3) := by decide +kernel
theorem dX10_evaluate_262 : decode cX10_evaluate 262 = .ok (.aload_n 0, 1) := by decide +kernel
theorem dX10_evaluate_263 : decode cX10_evaluate 263 = .ok (.iconst 0, 1) := by decide +kernel
theorem dX10_evaluate_264 : decode cX10_evaluate 264 = .ok (.putfield 144, 3) := by decide +kernel
theorem dX10_evaluate_267 : decode cX10_evaluate 267 = .ok (.goto 49, 3) := by decide +kernel
theorem dX10_evaluate_270 : decode cX10_evaluate 270 = .ok (.lload 5, 2) := by decide +kernel
theorem dX10_evaluate_272 : decode cX10_evaluate 272 = .ok (.invokestatic 205, 3) := by decide +kernel
theorem dX10_evaluate_275 : decode cX10_evaluate 275 = .ok (.ifCond .ne 11, 3) := by decide +kernel
theorem dX10_evaluate_278 : decode cX10_evaluate 278 = .ok (.aload_n 0, 1) := by decide +kernel
theorem dX10_evaluate_279 : decode cX10_evaluate 279 = .ok (.iconst 3, 1) := by decide +kernel
theorem dX10_evaluate_280 : decode cX10_evaluate 280 = .ok (.invokevirtual 265, 3) := by decide +kernel
theorem dX10_evaluate_283 : decode cX10_evaluate 283 = .ok (.goto 33, 3) := by decide +kernel
theorem dX10_evaluate_286 : decode cX10_evaluate 286 = .ok (.aload_n 0, 1) := by decide +kernel
theorem dX10_evaluate_287 : decode cX10_evaluate 287 = .ok (.iconst 0, 1) := by decide +kernel
theorem dX10_evaluate_288 : decode cX10_evaluate 288 = .ok (.lload_n 3, 1) := by decide +kernel
theorem dX10_evaluate_289 : decode cX10_evaluate 289 = .ok (.aload_n 0, 1) := by decide +kernel
theorem dX10_evaluate_290 : decode cX10_evaluate 290 = .ok (.lload 5, 2) := by decide +kernel
theorem dX10_evaluate_292 : decode cX10_evaluate 292 = .ok (.invokevirtual 216, 3) := by decide +kernel
theorem dX10_evaluate_295 : decode cX10_evaluate 295 = .ok (.invokevirtual 273, 3) := by decide +kernel
theorem dX10_evaluate_298 : decode cX10_evaluate 298 = .ok (.ifCond .eq 18, 3) := by decide +kernel
theorem dX10_evaluate_301 : decode cX10_evaluate 301 = .ok (.aload_n 0, 1) := by decide +kernel
theorem dX10_evaluate_302 : decode cX10_evaluate 302 = .ok (.iconst 0, 1) := by decide +kernel
theorem dX10_evaluate_303 : decode cX10_evaluate 303 = .ok (.putfield 132, 3) := by decide +kernel
theorem dX10_evaluate_306 : decode cX10_evaluate 306 = .ok (.aload_n 0, 1) := by decide +kernel
theorem dX10_evaluate_307 : decode cX10_evaluate 307 = .ok (.aload_n 0, 1) := by decide +kernel
theorem dX10_evaluate_308 : decode cX10_evaluate 308 = .ok (.lload 5, 2) := by decide +kernel
theorem dX10_evaluate_310 : decode cX10_evaluate 310 = .ok (.invokevirtual 209, 3) := by decide +kernel
theorem dX10_evaluate_313 : decode cX10_evaluate 313 = .ok (.putfield 135, 3) := by decide +kernel
theorem dX10_evaluate_316 : decode cX10_evaluate 316 = .ok (.return_, 1) := by decide +kernel
theorem dX10_back_0 : decode cX10_back 0 = .ok (.aload_n 0, 1) := by decide +kernel
theorem dX10_back_1 : decode cX10_back 1 = .ok (.getfield 111, 3) := by decide +kernel
theorem dX10_back_4 : decode cX10_back 4 = .ok (.iconst 1, 1) := by decide +kernel
theorem dX10_back_5 : decode cX10_back 5 = .ok (.isub, 1) := by decide +kernel
theorem dX10_back_6 : decode cX10_back 6 = .ok (.istore_n 1, 1) := by decide +kernel
theorem dX10_back_7 : decode cX10_back 7 = .ok (.aload_n 0, 1) := by decide +kernel
theorem dX10_back_8 : decode cX10_back 8 = .ok (.aload_n 0, 1) := by decide +kernel
theorem dX10_back_9 : decode cX10_back 9 = .ok (.getfield 123, 3) := by decide +kernel
theorem dX10_back_12 : decode cX10_back 12 = .ok (.iload_n 1, 1) := by decide +kernel
theorem dX10_back_13 : decode cX10_back 13 = .ok (.laload, 1) := by decide +kernel
theorem dX10_back_14 : decode cX10_back 14 = .ok (.putfield 138, 3) := by decide +kernel
theorem dX10_back_17 : decode cX10_back 17 = .ok (.aload_n 0, 1) := by decide +kernel
theorem dX10_back_18 : decode cX10_back 18 = .ok (.getfield 114, 3) := by decide +kernel
theorem dX10_back_21 : decode cX10_back 21 = .ok (.iload_n 1, 1) := by decide +kernel
theorem dX10_back_22 : decode cX10_back 22 = .ok (.iaload, 1) := by decide +kernel
theorem dX10_back_23 : decode cX10_back 23 = .ok (.iconst 1, 1) := by decide +kernel
theorem dX10_back_24 : decode cX10_back 24 = .ok (.if_icmp .ne 78, 3) := by decide +kernel
theorem dX10_back_27 : decode cX10_back 27 = .ok (.aload_n 0, 1) := by decide +kernel
theorem dX10_back_28 : decode cX10_back 28 = .ok (.dup, 1) := by decide +kernel
theorem dX10_back_29 : decode cX10_back 29 = .ok (.getfield 111, 3) := by decide +kernel
theorem dX10_back_32 : decode cX10_back 32 = .ok (.iconst 1, 1) := by decide +kernel
theorem dX10_back_33 : decode cX10_back 33 = .ok (.isub, 1) := by decide +kernel
theorem dX10_back_34 : decode cX10_back 34 = .ok (.putfield 111, 3) := by decide +kernel
theorem dX10_back_37 : decode cX10_back 37 = .ok (.aload_n 0, 1) := by decide +kernel
theorem dX10_back_38 : decode cX10_back 38 = .ok (.aload_n 0, 1) := by decide +kernel
theorem dX10_back_39 : decode cX10_back 39 = .ok (.getfield 120, 3) := by decide +kernel
theorem dX10_back_42 : decode cX10_back 42 = .ok (.iload_n 1, 1) := by decide +kernel
theorem dX10_back_43 : decode cX10_back 43 = .ok (.laload, 1) := by decide +kernel
theorem dX10_back_44 : decode cX10_back 44 = .ok (.invokevirtual 209, 3) := by decide +kernel
theorem dX10_back_47 : decode cX10_back 47 = .ok (.lstore_n 2, 1) := by decide +kernel
theorem dX10_back_48 : decode cX10_back 48 = .ok (.aload_n 0, 1) := by decide +kernel
theorem dX10_back_49 : decode cX10_back 49 = .ok (.iconst 0, 1) := by decide +kernel
theorem dX10_back_50 : decode cX10_back 50 = .ok (.putfield 132, 3) := by decide +kernel
theorem dX10_back_53 : decode cX10_back 53 = .ok (.aload_n 0, 1) := by decide +kernel
theorem dX10_back_54 : decode cX10_back 54 = .ok (.getfield 135, 3) := by decide +kernel
theorem dX10_back_57 : decode cX10_back 57 = .ok (.ldc2_w 199, 3) := by decide +kernel
theorem dX10_back_60 : decode cX10_back 60 = .ok (.lcmp, 1) := by decide +kernel
theorem dX10_back_61 : decode cX10_back 61 = .ok (.ifCond .eq 19, 3) := by decide +kernel
theorem dX10_back_64 : decode cX10_back 64 = .ok (.aload_n 0, 1) := by decide +kernel
theorem dX10_back_65 : decode cX10_back 65 = .ok (.aload_n 0, 1) := by decide +kernel
theorem dX10_back_66 : decode cX10_back 66 = .ok (.aload_n 0, 1) := by decide +kernel
theorem dX10_back_67 : decode cX10_back 67 = .ok (.lload_n 2, 1) := by decide +kernel
theorem dX10_back_68 : decode cX10_back 68 = .ok (.invokevirtual 216, 3) := by decide +kernel
theorem dX10_back_71 : decode cX10_back 71 = .ok (.invokevirtual 209, 3) := by decide +kernel
theorem dX10_back_74 : decode cX10_back 74 = .ok (.putfield 135, 3) := by decide +kernel
theorem dX10_back_77 : decode cX10_back 77 = .ok (.goto 24, 3) := by decide +kernel
theorem dX10_back_80 : decode cX10_back 80 = .ok (.aload_n 0, 1) := by decide +kernel
theorem dX10_back_81 : decode cX10_back 81 = .ok (.invokevirtual 277, 3) := by decide +kernel
theorem dX10_back_84 : decode cX10_back 84 = .ok (.ifCond .eq 17, 3) := by decide +kernel
theorem dX10_back_87 : decode cX10_back 87 = .ok (.aload_n 0, 1) := by decide +kernel
theorem dX10_back_88 : decode cX10_back 88 = .ok (.aload_n 0, 1) := by decide +kernel
theorem dX10_back_89 : decode cX10_back 89 = .ok (.aload_n 0, 1) := by decide +kernel
theorem dX10_back_90 : decode cX10_back 90 = .ok (.getfield 120, 3) := by decide +kernel
theorem dX10_back_93 : decode cX10_back 93 = .ok (.iload_n 1, 1) := by decide +kernel
theorem dX10_back_94 : decode cX10_back 94 = .ok (.laload, 1) := by decide +kernel
theorem dX10_back_95 : decode cX10_back 95 = .ok (.invokevirtual 216, 3) := by decide +kernel
theorem dX10_back_98 : decode cX10_back 98 = .ok (.invokevirtual 299, 3) := by decide +kernel
theorem dX10_back_101 : decode cX10_back 101 = .ok (.return_, 1) := by decide +kernel
theorem dX10_back_102 : decode cX10_back 102 = .ok (.aload_n 0, 1) := by decide +kernel
theorem dX10_back_103 : decode cX10_back 103 = .ok (.getfield 114, 3) := by decide +kernel
theorem dX10_back_106 : decode cX10_back 106 = .ok (.iload_n 1, 1) := by decide +kernel
theorem dX10_back_107 : decode cX10_back 107 = .ok (.iaload, 1) := by decide +kernel
theorem dX10_back_108 : decode cX10_back 108 = .ok (.iconst 2, 1) := by decide +kernel
theorem dX10_back_109 : decode cX10_back 109 = .ok (.if_icmp .ne 62, 3) := by decide +kernel
theorem dX10_back_112 : decode cX10_back 112 = .ok (.aload_n 0, 1) := by decide +kernel
theorem dX10_back_113 : decode cX10_back 113 = .ok (.dup, 1) := by decide +kernel
theorem dX10_back_114 : decode cX10_back 114 = .ok (.getfield 111, 3) := by decide +kernel
theorem dX10_back_117 : decode cX10_back 117 = .ok (.iconst 1, 1) := by decide +kernel
theorem dX10_back_118 : decode cX10_back 118 = .ok (.isub, 1) := by decide +kernel
theorem dX10_back_119 : decode cX10_back 119 = .ok (.putfield 111, 3) := by decide +kernel
theorem dX10_back_122 : decode cX10_back 122 = .ok (.aload_n 0, 1) := by decide +kernel
theorem dX10_back_123 : decode cX10_back 123 = .ok (.aload_n 0, 1) := by decide +kernel
theorem dX10_back_124 : decode cX10_back 124 = .ok (.getfield 126, 3) := by decide +kernel
theorem dX10_back_127 : decode cX10_back 127 = .ok (.iload_n 1, 1) := by decide +kernel
theorem dX10_back_128 : decode cX10_back 128 = .ok (.iaload, 1) := by decide +kernel
theorem dX10_back_129 : decode cX10_back 129 = .ok (.putfield 144, 3) := by decide +kernel
theorem dX10_back_132 : decode cX10_back 132 = .ok (.iconst 0, 1) := by decide +kernel
theorem dX10_back_133 : decode cX10_back 133 = .ok (.istore_n 2, 1) := by decide +kernel
theorem dX10_back_134 : decode cX10_back 134 = .ok (.iload_n 2, 1) := by decide +kernel
theorem dX10_back_135 : decode cX10_back 135 = .ok (.aload_n 0, 1) := by decide +kernel
theorem dX10_back_136 : decode cX10_back 136 = .ok (.getfield 144, 3) := by decide +kernel
theorem dX10_back_139 : decode cX10_back 139 = .ok (.if_icmp .ge 26, 3) := by decide +kernel
theorem dX10_back_142 : decode cX10_back 142 = .ok (.aload_n 0, 1) := by decide +kernel
theorem dX10_back_143 : decode cX10_back 143 = .ok (.getfield 141, 3) := by decide +kernel
theorem dX10_back_146 : decode cX10_back 146 = .ok (.iload_n 2, 1) := by decide +kernel
theorem dX10_back_147 : decode cX10_back 147 = .ok (.aload_n 0, 1) := by decide +kernel
theorem dX10_back_148 : decode cX10_back 148 = .ok (.getfield 129, 3) := by decide +kernel
theorem dX10_back_151 : decode cX10_back 151 = .ok (.bipush 8, 2) := by decide +kernel
theorem dX10_back_153 : decode cX10_back 153 = .ok (.iload_n 1, 1) := by decide +kernel
theorem dX10_back_154 : decode cX10_back 154 = .ok (.imul, 1) := by decide +kernel
theorem dX10_back_155 : decode cX10_back 155 = .ok (.iload_n 2, 1) := by decide +kernel
theorem dX10_back_156 : decode cX10_back 156 = .ok (.iadd, 1) := by decide +kernel
theorem dX10_back_157 : decode cX10_back 157 = .ok (.laload, 1) := by decide +kernel
theorem dX10_back_158 : decode cX10_back 158 = .ok (.lastore, 1) := by decide +kernel
theorem dX10_back_159 : decode cX10_back 159 = .ok (.iinc 2 1, 3) := by decide +kernel
theorem dX10_back_162 : decode cX10_back 162 = .ok (.goto (-28), 3) := by decide +kernel
theorem dX10_back_165 : decode cX10_back 165 = .ok (.aload_n 0, 1) := by decide +kernel
theorem dX10_back_166 : decode cX10_back 166 = .ok (.iconst 1, 1) := by decide +kernel
theorem dX10_back_167 : decode cX10_back 167 = .ok (.putfield 132, 3) := by decide +kernel
theorem dX10_back_170 : decode cX10_back 170 = .ok (.return_, 1) := by decide +kernel
theorem dX10_back_171 : decode cX10_back 171 = .ok (.aload_n 0, 1) := by decide +kernel
theorem dX10_back_172 : decode cX10_back 172 = .ok (.getfield 129, 3) := by decide +kernel
theorem dX10_back_175 : decode cX10_back 175 = .ok (.bipush 8, 2) := by decide +kernel
theorem dX10_back_177 : decode cX10_back 177 = .ok (.iload_n 1, 1) := by decide +kernel
theorem dX10_back_178 : decode cX10_back 178 = .ok (.imul, 1) := by decide +kernel
theorem dX10_back_179 : decode cX10_back 179 = .ok (.aload_n 0, 1) := by decide +kernel
theorem dX10_back_180 : decode cX10_back 180 = .ok (.getfield 126, 3) := by decide +kernel
theorem dX10_back_183 : decode cX10_back 183 = .ok (.iload_n 1, 1) := by decide +kernel
theorem dX10_back_184 : decode cX10_back 184 = .ok (.iaload, 1) := by decide +kernel
theorem dX10_back_185 : decode cX10_back 185 = .ok (.iadd, 1) := by decide +kernel
theorem dX10_back_186 : decode cX10_back 186 = .ok (.aload_n 0, 1) := by decide +kernel
theorem dX10_back_187 : decode cX10_back 187 = .ok (.getfield 135, 3) := by decide +kernel
theorem dX10_back_190 : decode cX10_back 190 = .ok (.lastore, 1) := by decide +kernel
theorem dX10_back_191 : decode cX10_back 191 = .ok (.aload_n 0, 1) := by decide +kernel
theorem dX10_back_192 : decode cX10_back 192 = .ok (.getfield 126, 3) := by decide +kernel
theorem dX10_back_195 : decode cX10_back 195 = .ok (.iload_n 1, 1) := by decide +kernel
theorem dX10_back_196 : decode cX10_back 196 = .ok (.aload_n 0, 1) := by decide +kernel
theorem dX10_back_197 : decode cX10_back 197 = .ok (.getfield 126, 3) := by decide +kernel
theorem dX10_back_200 : decode cX10_back 200 = .ok (.iload_n 1, 1) := by decide +kernel
theorem dX10_back_201 : decode cX10_back 201 = .ok (.iaload, 1) := by decide +kernel
theorem dX10_back_202 : decode cX10_back 202 = .ok (.iconst 1, 1) := by decide +kernel
theorem dX10_back_203 : decode cX10_back 203 = .ok (.iadd, 1) := by decide +kernel
theorem dX10_back_204 : decode cX10_back 204 = .ok (.iastore, 1) := by decide +kernel
theorem dX10_back_205 : decode cX10_back 205 = .ok (.aload_n 0, 1) := by decide +kernel
theorem dX10_back_206 : decode cX10_back 206 = .ok (.getfield 120, 3) := by decide +kernel
theorem dX10_back_209 : decode cX10_back 209 = .ok (.iload_n 1, 1) := by decide +kernel
theorem dX10_back_210 : decode cX10_back 210 = .ok (.laload, 1) := by decide +kernel
theorem dX10_back_211 : decode cX10_back 211 = .ok (.ldc2_w 199, 3) := by decide +kernel
theorem dX10_back_214 : decode cX10_back 214 = .ok (.lcmp, 1) := by decide +kernel
theorem dX10_back_215 : decode cX10_back 215 = .ok (.ifCond .ne 74, 3) := by decide +kernel
theorem dX10_back_218 : decode cX10_back 218 = .ok (.aload_n 0, 1) := by decide +kernel
theorem dX10_back_219 : decode cX10_back 219 = .ok (.dup, 1) := by decide +kernel
theorem dX10_back_220 : decode cX10_back 220 = .ok (.getfield 111, 3) := by decide +kernel
theorem dX10_back_223 : decode cX10_back 223 = .ok (.iconst 1, 1) := by decide +kernel
theorem dX10_back_224 : decode cX10_back 224 = .ok (.isub, 1) := by decide +kernel
theorem dX10_back_225 : decode cX10_back 225 = .ok (.putfield 111, 3) := by decide +kernel
theorem dX10_back_228 : decode cX10_back 228 = .ok (.aload_n 0, 1) := by decide +kernel
theorem dX10_back_229 : decode cX10_back 229 = .ok (.aload_n 0, 1) := by decide +kernel
theorem dX10_back_230 : decode cX10_back 230 = .ok (.getfield 126, 3) := by decide +kernel
theorem dX10_back_233 : decode cX10_back 233 = .ok (.iload_n 1, 1) := by decide +kernel
theorem dX10_back_234 : decode cX10_back 234 = .ok (.iaload, 1) := by decide +kernel
theorem dX10_back_235 : decode cX10_back 235 = .ok (.putfield 144, 3) := by decide +kernel
theorem dX10_back_238 : decode cX10_back 238 = .ok (.iconst 0, 1) := by decide +kernel
theorem dX10_back_239 : decode cX10_back 239 = .ok (.istore_n 2, 1) := by decide +kernel
theorem dX10_back_240 : decode cX10_back 240 = .ok (.iload_n 2, 1) := by decide +kernel
theorem dX10_back_241 : decode cX10_back 241 = .ok (.aload_n 0, 1) := by decide +kernel
theorem dX10_back_242 : decode cX10_back 242 = .ok (.getfield 144, 3) := by decide +kernel
theorem dX10_back_245 : decode cX10_back 245 = .ok (.if_icmp .ge 26, 3) := by decide +kernel
theorem dX10_back_248 : decode cX10_back 248 = .ok (.aload_n 0, 1) := by decide +kernel
theorem dX10_back_249 : decode cX10_back 249 = .ok (.getfield 141, 3) := by decide +kernel
theorem dX10_back_252 : decode cX10_back 252 = .ok (.iload_n 2, 1) := by decide +kernel
theorem dX10_back_253 : decode cX10_back 253 = .ok (.aload_n 0, 1) := by decide +kernel
theorem dX10_back_254 : decode cX10_back 254 = .ok (.getfield 129, 3) := by decide +kernel
theorem dX10_back_257 : decode cX10_back 257 = .ok (.bipush 8, 2) := by decide +kernel
theorem dX10_back_259 : decode cX10_back 259 = .ok (.iload_n 1, 1) := by decide +kernel
theorem dX10_back_260 : decode cX10_back 260 = .ok (.imul, 1) := by decide +kernel
theorem dX10_back_261 : decode cX10_back 261 = .ok (.iload_n 2, 1) := by decide +kernel
theorem dX10_back_262 : decode cX10_back 262 = .ok (.iadd, 1) := by decide +kernel
theorem dX10_back_263 : decode cX10_back 263 = .ok (.laload, 1) := by decide +kernel
theorem dX10_back_264 : decode cX10_back 264 = .ok (.lastore, 1) := by decide +kernel
theorem dX10_back_265 : decode cX10_back 265 = .ok (.iinc 2 1, 3) := by decide +kernel
theorem dX10_back_268 : decode cX10_back 268 = .ok (.goto (-28), 3) := by decide +kernel
theorem dX10_back_271 : decode cX10_back 271 = .ok (.aload_n 0, 1) := by decide +kernel
theorem dX10_back_272 : decode cX10_back 272 = .ok (.iconst 1, 1) := by decide +kernel
theorem dX10_back_273 : decode cX10_back 273 = .ok (.putfield 132, 3) := by decide +kernel
theorem dX10_back_276 : decode cX10_back 276 = .ok (.aload_n 0, 1) := by decide +kernel
theorem dX10_back_277 : decode cX10_back 277 = .ok (.aload_n 0, 1) := by decide +kernel
theorem dX10_back_278 : decode cX10_back 278 = .ok (.getfield 117, 3) := by decide +kernel
theorem dX10_back_281 : decode cX10_back 281 = .ok (.iload_n 1, 1) := by decide +kernel
theorem dX10_back_282 : decode cX10_back 282 = .ok (.laload, 1) := by decide +kernel
theorem dX10_back_283 : decode cX10_back 283 = .ok (.putfield 135, 3) := by decide +kernel
theorem dX10_back_286 : decode cX10_back 286 = .ok (.goto 69, 3) := by decide +kernel
theorem dX10_back_289 : decode cX10_back 289 = .ok (.aload_n 0, 1) := by decide +kernel
theorem dX10_back_290 : decode cX10_back 290 = .ok (.getfield 120, 3) := by decide +kernel
theorem dX10_back_293 : decode cX10_back 293 = .ok (.iload_n 1, 1) := by decide +kernel
theorem dX10_back_294 : decode cX10_back 294 = .ok (.laload, 1) := by decide +kernel
theorem dX10_back_295 : decode cX10_back 295 = .ok (.invokestatic 205, 3) := by decide +kernel
theorem dX10_back_298 : decode cX10_back 298 = .ok (.ifCond .eq 14, 3) := by decide +kernel
theorem dX10_back_301 : decode cX10_back 301 = .ok (.aload_n 0, 1) := by decide +kernel
theorem dX10_back_302 : decode cX10_back 302 = .ok (.getfield 126, 3) := by decide +kernel
theorem dX10_back_305 : decode cX10_back 305 = .ok (.iload_n 1, 1) := by decide +kernel
theorem dX10_back_306 : decode cX10_back 306 = .ok (.iaload, 1) := by decide +kernel
theorem dX10_back_307 : decode cX10_back 307 = .ok (.bipush 8, 2) := by decide +kernel
theorem dX10_back_309 : decode cX10_back 309 = .ok (.if_icmp .ne 11, 3) := by decide +kernel
theorem dX10_back_312 : decode cX10_back 312 = .ok (.aload_n 0, 1) := by decide +kernel
theorem dX10_back_313 : decode cX10_back 313 = .ok (.iconst 3, 1) := by decide +kernel
theorem dX10_back_314 : decode cX10_back 314 = .ok (.invokevirtual 265, 3) := by decide +kernel
theorem dX10_back_317 : decode cX10_back 317 = .ok (.goto 38, 3) := by decide +kernel
theorem dX10_back_320 : decode cX10_back 320 = .ok (.aload_n 0, 1) := by decide +kernel
theorem dX10_back_321 : decode cX10_back 321 = .ok (.iconst 0, 1) := by decide +kernel
theorem dX10_back_322 : decode cX10_back 322 = .ok (.putfield 132, 3) := by decide +kernel
theorem dX10_back_325 : decode cX10_back 325 = .ok (.aload_n 0, 1) := by decide +kernel
theorem dX10_back_326 : decode cX10_back 326 = .ok (.aload_n 0, 1) := by decide +kernel
theorem dX10_back_327 : decode cX10_back 327 = .ok (.aload_n 0, 1) := by decide +kernel
theorem dX10_back_328 : decode cX10_back 328 = .ok (.getfield 120, 3) := by decide +kernel
theorem dX10_back_331 : decode cX10_back 331 = .ok (.iload_n 1, 1) := by decide +kernel
theorem dX10_back_332 : decode cX10_back 332 = .ok (.laload, 1) := by decide +kernel
theorem dX10_back_333 : decode cX10_back 333 = .ok (.invokevirtual 209, 3) := by decide +kernel
theorem dX10_back_336 : decode cX10_back 336 = .ok (.putfield 135, 3) := by decide +kernel
theorem dX10_back_339 : decode cX10_back 339 = .ok (.aload_n 0, 1) := by decide +kernel
theorem dX10_back_340 : decode cX10_back 340 = .ok (.getfield 120, 3) := by decide +kernel
theorem dX10_back_343 : decode cX10_back 343 = .ok (.iload_n 1, 1) := by decide +kernel
theorem dX10_back_344 : decode cX10_back 344 = .ok (.aload_n 0, 1) := by decide +kernel
theorem dX10_back_345 : decode cX10_back 345 = .ok (.aload_n 0, 1) := by decide +kernel
theorem dX10_back_346 : decode cX10_back 346 = .ok (.getfield 120, 3) := by decide +kernel
theorem dX10_back_349 : decode cX10_back 349 = .ok (.iload_n 1, 1) := by decide +kernel
theorem dX10_back_350 : decode cX10_back 350 = .ok (.laload, 1) := by decide +kernel
theorem dX10_back_351 : decode cX10_back 351 = .ok (.invokevirtual 216, 3) := by decide +kernel
theorem dX10_back_354 : decode cX10_back 354 = .ok (.lastore, 1) := by decide +kernel
theorem dX10_back_355 : decode cX10_back 355 = .ok (.return_, 1) := by decide +kernel
theorem dX10_primitive_0 : decode cX10_primitive 0 = .ok (.iload_n 1, 1) := by decide +kernel
theorem dX10_primitive_1 : decode cX10_primitive 1 = .ok (.bipush 7, 2) := by decide +kernel
theorem dX10_primitive_3 : decode cX10_primitive 3 = .ok (.if_icmp .eq 27, 3) := by decide +kernel
theorem dX10_primitive_6 : decode cX10_primitive 6 = .ok (.iload_n 1, 1) := by decide +kernel
theorem dX10_primitive_7 : decode cX10_primitive 7 = .ok (.bipush 8, 2) := by decide +kernel
theorem dX10_primitive_9 : decode cX10_primitive 9 = .ok (.if_icmp .eq 21, 3) := by decide +kernel
theorem dX10_primitive_12 : decode cX10_primitive 12 = .ok (.iload_n 1, 1) := by decide +kernel
theorem dX10_primitive_13 : decode cX10_primitive 13 = .ok (.bipush 10, 2) := by decide +kernel
theorem dX10_primitive_15 : decode cX10_primitive 15 = .ok (.if_icmp .eq 15, 3) := by decide +kernel
theorem dX10_primitive_18 : decode cX10_primitive 18 = .ok (.iload_n 1, 1) := by decide +kernel
theorem dX10_primitive_19 : decode cX10_primitive 19 = .ok (.bipush 12, 2) := by decide +kernel
theorem dX10_primitive_21 : decode cX10_primitive 21 = .ok (.if_icmp .eq 9, 3) := by decide +kernel
theorem dX10_primitive_24 : decode cX10_primitive 24 = .ok (.iload_n 1, 1) := by decide +kernel
theorem dX10_primitive_25 : decode cX10_primitive 25 = .ok (.bipush 13, 2) := by decide +kernel
theorem dX10_primitive_27 : decode cX10_primitive 27 = .ok (.if_icmp .ne 7, 3) := by decide +kernel
theorem dX10_primitive_30 : decode cX10_primitive 30 = .ok (.iconst 1, 1) := by decide +kernel
theorem dX10_primitive_31 : decode cX10_primitive 31 = .ok (.goto 4, 3) := by decide +kernel
theorem dX10_primitive_34 : decode cX10_primitive 34 = .ok (.iconst 2, 1) := by decide +kernel
theorem dX10_primitive_35 : decode cX10_primitive 35 = .ok (.istore_n 2, 1) := by decide +kernel
theorem dX10_primitive_36 : decode cX10_primitive 36 = .ok (.aload_n 0, 1) := by decide +kernel
theorem dX10_primitive_37 : decode cX10_primitive 37 = .ok (.getfield 144, 3) := by decide +kernel
theorem dX10_primitive_40 : decode cX10_primitive 40 = .ok (.iload_n 2, 1) := by decide +kernel
theorem dX10_primitive_41 : decode cX10_primitive 41 = .ok (.if_icmp .eq 9, 3) := by decide +kernel
theorem dX10_primitive_44 : decode cX10_primitive 44 = .ok (.aload_n 0, 1) := by decide +kernel
theorem dX10_primitive_45 : decode cX10_primitive 45 = .ok (.iconst 3, 1) := by decide +kernel
theorem dX10_primitive_46 : decode cX10_primitive 46 = .ok (.invokevirtual 265, 3) := by decide +kernel
theorem dX10_primitive_49 : decode cX10_primitive 49 = .ok (.return_, 1) := by decide +kernel
theorem dX10_primitive_50 : decode cX10_primitive 50 = .ok (.aload_n 0, 1) := by decide +kernel
theorem dX10_primitive_51 : decode cX10_primitive 51 = .ok (.getfield 141, 3) := by decide +kernel
theorem dX10_primitive_54 : decode cX10_primitive 54 = .ok (.iconst 0, 1) := by decide +kernel
theorem dX10_primitive_55 : decode cX10_primitive 55 = .ok (.laload, 1) := by decide +kernel
theorem dX10_primitive_56 : decode cX10_primitive 56 = .ok (.lstore_n 3, 1) := by decide +kernel
theorem dX10_primitive_57 : decode cX10_primitive 57 = .ok (.aload_n 0, 1) := by decide +kernel
theorem dX10_primitive_58 : decode cX10_primitive 58 = .ok (.getfield 141, 3) := by decide +kernel
theorem dX10_primitive_61 : decode cX10_primitive 61 = .ok (.iconst 1, 1) := by decide +kernel
theorem dX10_primitive_62 : decode cX10_primitive 62 = .ok (.laload, 1) := by decide +kernel
theorem dX10_primitive_63 : decode cX10_primitive 63 = .ok (.lstore 5, 2) := by decide +kernel
theorem dX10_primitive_65 : decode cX10_primitive 65 = .ok (.iload_n 1, 1) := by decide +kernel
theorem dX10_primitive_66 : decode cX10_primitive 66 = .ok (.bipush 7, 2) := by decide +kernel
theorem dX10_primitive_68 : decode cX10_primitive 68 = .ok (.if_icmp .eq 9, 3) := by decide +kernel
theorem dX10_primitive_71 : decode cX10_primitive 71 = .ok (.iload_n 1, 1) := by decide +kernel
theorem dX10_primitive_72 : decode cX10_primitive 72 = .ok (.bipush 8, 2) := by decide +kernel
theorem dX10_primitive_74 : decode cX10_primitive 74 = .ok (.if_icmp .ne 44, 3) := by decide +kernel
theorem dX10_primitive_77 : decode cX10_primitive 77 = .ok (.lload_n 3, 1) := by decide +kernel
theorem dX10_primitive_78 : decode cX10_primitive 78 = .ok (.invokestatic 205, 3) := by decide +kernel
theorem dX10_primitive_81 : decode cX10_primitive 81 = .ok (.ifCond .ne 11, 3) := by decide +kernel
theorem dX10_primitive_84 : decode cX10_primitive 84 = .ok (.aload_n 0, 1) := by decide +kernel
theorem dX10_primitive_85 : decode cX10_primitive 85 = .ok (.iconst 2, 1) := by decide +kernel
theorem dX10_primitive_86 : decode cX10_primitive 86 = .ok (.invokevirtual 265, 3) := by decide +kernel
theorem dX10_primitive_89 : decode cX10_primitive 89 = .ok (.goto 315, 3) := by decide +kernel
theorem dX10_primitive_92 : decode cX10_primitive 92 = .ok (.aload_n 0, 1) := by decide +kernel
theorem dX10_primitive_93 : decode cX10_primitive 93 = .ok (.iload_n 1, 1) := by decide +kernel
theorem dX10_primitive_94 : decode cX10_primitive 94 = .ok (.bipush 7, 2) := by decide +kernel
theorem dX10_primitive_96 : decode cX10_primitive 96 = .ok (.if_icmp .ne 11, 3) := by decide +kernel
theorem dX10_primitive_99 : decode cX10_primitive 99 = .ok (.aload_n 0, 1) := by decide +kernel
theorem dX10_primitive_100 : decode cX10_primitive 100 = .ok (.lload_n 3, 1) := by decide +kernel
theorem dX10_primitive_101 : decode cX10_primitive 101 = .ok (.invokevirtual 209, 3) := by decide +kernel
theorem dX10_primitive_104 : decode cX10_primitive 104 = .ok (.goto 8, 3) := by decide +kernel
theorem dX10_primitive_107 : decode cX10_primitive 107 = .ok (.aload_n 0, 1) := by decide +kernel
theorem dX10_primitive_108 : decode cX10_primitive 108 = .ok (.lload_n 3, 1) := by decide +kernel
theorem dX10_primitive_109 : decode cX10_primitive 109 = .ok (.invokevirtual 216, 3) := by decide +kernel
theorem dX10_primitive_112 : decode cX10_primitive 112 = .ok (.invokevirtual 286, 3) := by decide +kernel
theorem dX10_primitive_115 : decode cX10_primitive 115 = .ok (.goto 289, 3) := by decide +kernel
theorem dX10_primitive_118 : decode cX10_primitive 118 = .ok (.iload_n 1, 1) := by decide +kernel
theorem dX10_primitive_119 : decode cX10_primitive 119 = .ok (.bipush 9, 2) := by decide +kernel
theorem dX10_primitive_121 : decode cX10_primitive 121 = .ok (.if_icmp .ne 40, 3) := by decide +kernel
theorem dX10_primitive_124 : decode cX10_primitive 124 = .ok (.aload_n 0, 1) := by decide +kernel
theorem dX10_primitive_125 : decode cX10_primitive 125 = .ok (.invokevirtual 304, 3) := by decide +kernel
theorem dX10_primitive_128 : decode cX10_primitive 128 = .ok (.aload_n 0, 1) := by decide +kernel
theorem dX10_primitive_129 : decode cX10_primitive 129 = .ok (.lload_n 3, 1) := by decide +kernel
theorem dX10_primitive_130 : decode cX10_primitive 130 = .ok (.invokevirtual 213, 3) := by decide +kernel
theorem dX10_primitive_133 : decode cX10_primitive 133 = .ok (.aload_n 0, 1) := by decide +kernel
theorem dX10_primitive_134 : decode cX10_primitive 134 = .ok (.lload 5, 2) := by decide +kernel
theorem dX10_primitive_136 : decode cX10_primitive 136 = .ok (.invokevirtual 213, 3) := by decide +kernel
theorem dX10_primitive_139 : decode cX10_primitive 139 = .ok (.aload_n 0, 1) := by decide +kernel
theorem dX10_primitive_140 : decode cX10_primitive 140 = .ok (.iconst 1, 1) := by decide +kernel
theorem dX10_primitive_141 : decode cX10_primitive 141 = .ok (.invokevirtual 307, 3) := by decide +kernel
theorem dX10_primitive_144 : decode cX10_primitive 144 = .ok (.ifCond .eq 260, 3) := by decide +kernel
theorem dX10_primitive_147 : decode cX10_primitive 147 = .ok (.aload_n 0, 1) := by decide +kernel
theorem dX10_primitive_148 : decode cX10_primitive 148 = .ok (.aload_n 0, 1) := by decide +kernel
theorem dX10_primitive_149 : decode cX10_primitive 149 = .ok (.lload_n 3, 1) := by decide +kernel
theorem dX10_primitive_150 : decode cX10_primitive 150 = .ok (.lload 5, 2) := by decide +kernel
theorem dX10_primitive_152 : decode cX10_primitive 152 = .ok (.invokevirtual 244, 3) := by decide +kernel
theorem dX10_primitive_155 : decode cX10_primitive 155 = .ok (.invokevirtual 286, 3) := by decide +kernel
theorem dX10_primitive_158 : decode cX10_primitive 158 = .ok (.goto 246, 3) := by decide +kernel
theorem dX10_primitive_161 : decode cX10_primitive 161 = .ok (.iload_n 1, 1) := by decide +kernel
theorem dX10_primitive_162 : decode cX10_primitive 162 = .ok (.bipush 10, 2) := by decide +kernel
theorem dX10_primitive_164 : decode cX10_primitive 164 = .ok (.if_icmp .ne 26, 3) := by decide +kernel
theorem dX10_primitive_167 : decode cX10_primitive 167 = .ok (.aload_n 0, 1) := by decide +kernel
theorem dX10_primitive_168 : decode cX10_primitive 168 = .ok (.lload_n 3, 1) := by decide +kernel
theorem dX10_primitive_169 : decode cX10_primitive 169 = .ok (.invokestatic 205, 3) := by decide +kernel
theorem dX10_primitive_172 : decode cX10_primitive 172 = .ok (.ifCond .eq 9, 3) := by decide +kernel
theorem dX10_primitive_175 : decode cX10_primitive 175 = .ok (.ldc2_w 199, 3) := by decide +kernel
theorem dX10_primitive_178 : decode cX10_primitive 178 = .ok (.goto 6, 3) := by decide +kernel
theorem dX10_primitive_181 : decode cX10_primitive 181 = .ok (.ldc2_w 284, 3) := by decide +kernel
theorem dX10_primitive_184 : decode cX10_primitive 184 = .ok (.invokevirtual 286, 3) := by decide +kernel
theorem dX10_primitive_187 : decode cX10_primitive 187 = .ok (.goto 217, 3) := by decide +kernel
theorem dX10_primitive_190 : decode cX10_primitive 190 = .ok (.iload_n 1, 1) := by decide +kernel
theorem dX10_primitive_191 : decode cX10_primitive 191 = .ok (.bipush 11, 2) := by decide +kernel
theorem dX10_primitive_193 : decode cX10_primitive 193 = .ok (.if_icmp .ne 49, 3) := by decide +kernel
theorem dX10_primitive_196 : decode cX10_primitive 196 = .ok (.lload_n 3, 1) := by decide +kernel
theorem dX10_primitive_197 : decode cX10_primitive 197 = .ok (.invokestatic 205, 3) := by decide +kernel
theorem dX10_primitive_200 : decode cX10_primitive 200 = .ok (.ifCond .ne 11, 3) := by decide +kernel
theorem dX10_primitive_203 : decode cX10_primitive 203 = .ok (.lload 5, 2) := by decide +kernel
theorem dX10_primitive_205 : decode cX10_primitive 205 = .ok (.invokestatic 205, 3) := by decide +kernel
theorem dX10_primitive_208 : decode cX10_primitive 208 = .ok (.ifCond .eq 11, 3) := by decide +kernel
theorem dX10_primitive_211 : decode cX10_primitive 211 = .ok (.aload_n 0, 1) := by decide +kernel
theorem dX10_primitive_212 : decode cX10_primitive 212 = .ok (.iconst 2, 1) := by decide +kernel
theorem dX10_primitive_213 : decode cX10_primitive 213 = .ok (.invokevirtual 265, 3) := by decide +kernel
theorem dX10_primitive_216 : decode cX10_primitive 216 = .ok (.goto 188, 3) := by decide +kernel
theorem dX10_primitive_219 : decode cX10_primitive 219 = .ok (.aload_n 0, 1) := by decide +kernel
theorem dX10_primitive_220 : decode cX10_primitive 220 = .ok (.lload_n 3, 1) := by decide +kernel
theorem dX10_primitive_221 : decode cX10_primitive 221 = .ok (.lload 5, 2) := by decide +kernel
theorem dX10_primitive_223 : decode cX10_primitive 223 = .ok (.lcmp, 1) := by decide +kernel
theorem dX10_primitive_224 : decode cX10_primitive 224 = .ok (.ifCond .ne 9, 3) := by decide +kernel
theorem dX10_primitive_227 : decode cX10_primitive 227 = .ok (.ldc2_w 284, 3) := by decide +kernel
theorem dX10_primitive_230 : decode cX10_primitive 230 = .ok (.goto 6, 3) := by decide +kernel
theorem dX10_primitive_233 : decode cX10_primitive 233 = .ok (.ldc2_w 199, 3) := by decide +kernel
theorem dX10_primitive_236 : decode cX10_primitive 236 = .ok (.invokevirtual 286, 3) := by decide +kernel
theorem dX10_primitive_239 : decode cX10_primitive 239 = .ok (.goto 165, 3) := by decide +kernel
theorem dX10_primitive_242 : decode cX10_primitive 242 = .ok (.iload_n 1, 1) := by decide +kernel
theorem dX10_primitive_243 : decode cX10_primitive 243 = .ok (.bipush 12, 2) := by decide +kernel
theorem dX10_primitive_245 : decode cX10_primitive 245 = .ok (.if_icmp .ne 27, 3) := by decide +kernel
theorem dX10_primitive_248 : decode cX10_primitive 248 = .ok (.aload_n 0, 1) := by decide +kernel
theorem dX10_primitive_249 : decode cX10_primitive 249 = .ok (.lload_n 3, 1) := by decide +kernel
theorem dX10_primitive_250 : decode cX10_primitive 250 = .ok (.ldc2_w 199, 3) := by decide +kernel
theorem dX10_primitive_253 : decode cX10_primitive 253 = .ok (.lcmp, 1) := by decide +kernel
theorem dX10_primitive_254 : decode cX10_primitive 254 = .ok (.ifCond .ne 9, 3) := by decide +kernel
theorem dX10_primitive_257 : decode cX10_primitive 257 = .ok (.ldc2_w 284, 3) := by decide +kernel
theorem dX10_primitive_260 : decode cX10_primitive 260 = .ok (.goto 6, 3) := by decide +kernel
theorem dX10_primitive_263 : decode cX10_primitive 263 = .ok (.ldc2_w 199, 3) := by decide +kernel
theorem dX10_primitive_266 : decode cX10_primitive 266 = .ok (.invokevirtual 286, 3) := by decide +kernel
theorem dX10_primitive_269 : decode cX10_primitive 269 = .ok (.goto 135, 3) := by decide +kernel
theorem dX10_primitive_272 : decode cX10_primitive 272 = .ok (.iload_n 1, 1) := by decide +kernel
theorem dX10_primitive_273 : decode cX10_primitive 273 = .ok (.bipush 13, 2) := by decide +kernel
theorem dX10_primitive_275 : decode cX10_primitive 275 = .ok (.if_icmp .ne 26, 3) := by decide +kernel
theorem dX10_primitive_278 : decode cX10_primitive 278 = .ok (.aload_n 0, 1) := by decide +kernel
theorem dX10_primitive_279 : decode cX10_primitive 279 = .ok (.lload_n 3, 1) := by decide +kernel
theorem dX10_primitive_280 : decode cX10_primitive 280 = .ok (.invokestatic 281, 3) := by decide +kernel
theorem dX10_primitive_283 : decode cX10_primitive 283 = .ok (.ifCond .eq 9, 3) := by decide +kernel
theorem dX10_primitive_286 : decode cX10_primitive 286 = .ok (.ldc2_w 284, 3) := by decide +kernel
theorem dX10_primitive_289 : decode cX10_primitive 289 = .ok (.goto 6, 3) := by decide +kernel
theorem dX10_primitive_292 : decode cX10_primitive 292 = .ok (.ldc2_w 199, 3) := by decide +kernel
theorem dX10_primitive_295 : decode cX10_primitive 295 = .ok (.invokevirtual 286, 3) := by decide +kernel
theorem dX10_primitive_298 : decode cX10_primitive 298 = .ok (.goto 106, 3) := by decide +kernel
theorem dX10_primitive_301 : decode cX10_primitive 301 = .ok (.lload_n 3, 1) := by decide +kernel
theorem dX10_primitive_302 : decode cX10_primitive 302 = .ok (.invokestatic 281, 3) := by decide +kernel
theorem dX10_primitive_305 : decode cX10_primitive 305 = .ok (.ifCond .eq 11, 3) := by decide +kernel
theorem dX10_primitive_308 : decode cX10_primitive 308 = .ok (.lload 5, 2) := by decide +kernel
theorem dX10_primitive_310 : decode cX10_primitive 310 = .ok (.invokestatic 281, 3) := by decide +kernel
theorem dX10_primitive_313 : decode cX10_primitive 313 = .ok (.ifCond .ne 11, 3) := by decide +kernel
theorem dX10_primitive_316 : decode cX10_primitive 316 = .ok (.aload_n 0, 1) := by decide +kernel
theorem dX10_primitive_317 : decode cX10_primitive 317 = .ok (.iconst 2, 1) := by decide +kernel
theorem dX10_primitive_318 : decode cX10_primitive 318 = .ok (.invokevirtual 265, 3) := by decide +kernel
theorem dX10_primitive_321 : decode cX10_primitive 321 = .ok (.goto 83, 3) := by decide +kernel
theorem dX10_primitive_324 : decode cX10_primitive 324 = .ok (.lload_n 3, 1) := by decide +kernel
theorem dX10_primitive_325 : decode cX10_primitive 325 = .ok (.l2i, 1) := by decide +kernel
theorem dX10_primitive_326 : decode cX10_primitive 326 = .ok (.istore 7, 2) := by decide +kernel
theorem dX10_primitive_328 : decode cX10_primitive 328 = .ok (.lload 5, 2) := by decide +kernel
theorem dX10_primitive_330 : decode cX10_primitive 330 = .ok (.l2i, 1) := by decide +kernel
theorem dX10_primitive_331 : decode cX10_primitive 331 = .ok (.istore 8, 2) := by decide +kernel
theorem dX10_primitive_333 : decode cX10_primitive 333 = .ok (.aload_n 0, 1) := by decide +kernel
theorem dX10_primitive_334 : decode cX10_primitive 334 = .ok (.iload_n 1, 1) := by decide +kernel
theorem dX10_primitive_335 : decode cX10_primitive 335 = .ok (.bipush 14, 2) := by decide +kernel
theorem dX10_primitive_337 : decode cX10_primitive 337 = .ok (.if_icmp .ne 14, 3) := by decide +kernel
theorem dX10_primitive_340 : decode cX10_primitive 340 = .ok (.iload 7, 2) := by decide +kernel
theorem dX10_primitive_342 : decode cX10_primitive 342 = .ok (.iload 8, 2) := by decide +kernel
theorem dX10_primitive_344 : decode cX10_primitive 344 = .ok (.iadd, 1) := by decide +kernel
theorem dX10_primitive_345 : decode cX10_primitive 345 = .ok (.invokestatic 236, 3) := by decide +kernel
theorem dX10_primitive_348 : decode cX10_primitive 348 = .ok (.goto 53, 3) := by decide +kernel
theorem dX10_primitive_351 : decode cX10_primitive 351 = .ok (.iload_n 1, 1) := by decide +kernel
theorem dX10_primitive_352 : decode cX10_primitive 352 = .ok (.bipush 15, 2) := by decide +kernel
theorem dX10_primitive_354 : decode cX10_primitive 354 = .ok (.if_icmp .ne 14, 3) := by decide +kernel
theorem dX10_primitive_357 : decode cX10_primitive 357 = .ok (.iload 7, 2) := by decide +kernel
theorem dX10_primitive_359 : decode cX10_primitive 359 = .ok (.iload 8, 2) := by decide +kernel
theorem dX10_primitive_361 : decode cX10_primitive 361 = .ok (.isub, 1) := by decide +kernel
theorem dX10_primitive_362 : decode cX10_primitive 362 = .ok (.invokestatic 236, 3) := by decide +kernel
theorem dX10_primitive_365 : decode cX10_primitive 365 = .ok (.goto 36, 3) := by decide +kernel
theorem dX10_primitive_368 : decode cX10_primitive 368 = .ok (.iload_n 1, 1) := by decide +kernel
theorem dX10_primitive_369 : decode cX10_primitive 369 = .ok (.bipush 16, 2) := by decide +kernel
theorem dX10_primitive_371 : decode cX10_primitive 371 = .ok (.if_icmp .ne 14, 3) := by decide +kernel
theorem dX10_primitive_374 : decode cX10_primitive 374 = .ok (.iload 7, 2) := by decide +kernel
theorem dX10_primitive_376 : decode cX10_primitive 376 = .ok (.iload 8, 2) := by decide +kernel
theorem dX10_primitive_378 : decode cX10_primitive 378 = .ok (.imul, 1) := by decide +kernel
theorem dX10_primitive_379 : decode cX10_primitive 379 = .ok (.invokestatic 236, 3) := by decide +kernel
theorem dX10_primitive_382 : decode cX10_primitive 382 = .ok (.goto 19, 3) := by decide +kernel
theorem dX10_primitive_385 : decode cX10_primitive 385 = .ok (.iload 7, 2) := by decide +kernel
theorem dX10_primitive_387 : decode cX10_primitive 387 = .ok (.iload 8, 2) := by decide +kernel
theorem dX10_primitive_389 : decode cX10_primitive 389 = .ok (.if_icmp .ge 9, 3) := by decide +kernel
theorem dX10_primitive_392 : decode cX10_primitive 392 = .ok (.ldc2_w 284, 3) := by decide +kernel
theorem dX10_primitive_395 : decode cX10_primitive 395 = .ok (.goto 6, 3) := by decide +kernel
theorem dX10_primitive_398 : decode cX10_primitive 398 = .ok (.ldc2_w 199, 3) := by decide +kernel
theorem dX10_primitive_401 : decode cX10_primitive 401 = .ok (.invokevirtual 286, 3) := by decide +kernel
theorem dX10_primitive_404 : decode cX10_primitive 404 = .ok (.return_, 1) := by decide +kernel
theorem dX10_namesIn_0 : decode cX10_namesIn 0 = .ok (.iconst 0, 1) := by decide +kernel
theorem dX10_namesIn_1 : decode cX10_namesIn 1 = .ok (.istore_n 3, 1) := by decide +kernel
theorem dX10_namesIn_2 : decode cX10_namesIn 2 = .ok (.lload_n 1, 1) := by decide +kernel
theorem dX10_namesIn_3 : decode cX10_namesIn 3 = .ok (.lstore 4, 2) := by decide +kernel
theorem dX10_namesIn_5 : decode cX10_namesIn 5 = .ok (.lload 4, 2) := by decide +kernel
theorem dX10_namesIn_7 : decode cX10_namesIn 7 = .ok (.invokestatic 205, 3) := by decide +kernel
theorem dX10_namesIn_10 : decode cX10_namesIn 10 = .ok (.ifCond .eq 31, 3) := by decide +kernel
theorem dX10_namesIn_13 : decode cX10_namesIn 13 = .ok (.aload_n 0, 1) := by decide +kernel
theorem dX10_namesIn_14 : decode cX10_namesIn 14 = .ok (.lload 4, 2) := by decide +kernel
theorem dX10_namesIn_16 : decode cX10_namesIn 16 = .ok (.invokevirtual 209, 3) := by decide +kernel
theorem dX10_namesIn_19 : decode cX10_namesIn 19 = .ok (.invokestatic 289, 3) := by decide +kernel
theorem dX10_namesIn_22 : decode cX10_namesIn 22 = .ok (.ifCond .ne 5, 3) := by decide +kernel
theorem dX10_namesIn_25 : decode cX10_namesIn 25 = .ok (.iconst (-1), 1) := by decide +kernel
theorem dX10_namesIn_26 : decode cX10_namesIn 26 = .ok (.ireturn, 1) := by decide +kernel
theorem dX10_namesIn_27 : decode cX10_namesIn 27 = .ok (.iinc 3 1, 3) := by decide +kernel
theorem dX10_namesIn_30 : decode cX10_namesIn 30 = .ok (.aload_n 0, 1) := by decide +kernel
theorem dX10_namesIn_31 : decode cX10_namesIn 31 = .ok (.lload 4, 2) := by decide +kernel
theorem dX10_namesIn_33 : decode cX10_namesIn 33 = .ok (.invokevirtual 216, 3) := by decide +kernel
theorem dX10_namesIn_36 : decode cX10_namesIn 36 = .ok (.lstore 4, 2) := by decide +kernel
theorem dX10_namesIn_38 : decode cX10_namesIn 38 = .ok (.goto (-33), 3) := by decide +kernel
theorem dX10_namesIn_41 : decode cX10_namesIn 41 = .ok (.lload 4, 2) := by decide +kernel
theorem dX10_namesIn_43 : decode cX10_namesIn 43 = .ok (.ldc2_w 199, 3) := by decide +kernel
theorem dX10_namesIn_46 : decode cX10_namesIn 46 = .ok (.lcmp, 1) := by decide +kernel
theorem dX10_namesIn_47 : decode cX10_namesIn 47 = .ok (.ifCond .ne 7, 3) := by decide +kernel
theorem dX10_namesIn_50 : decode cX10_namesIn 50 = .ok (.iload_n 3, 1) := by decide +kernel
theorem dX10_namesIn_51 : decode cX10_namesIn 51 = .ok (.goto 4, 3) := by decide +kernel
theorem dX10_namesIn_54 : decode cX10_namesIn 54 = .ok (.iconst (-1), 1) := by decide +kernel
theorem dX10_namesIn_55 : decode cX10_namesIn 55 = .ok (.ireturn, 1) := by decide +kernel
theorem dX10_holdForBinding_0 : decode cX10_holdForBinding 0 = .ok (.aload_n 0, 1) := by decide +kernel
theorem dX10_holdForBinding_1 : decode cX10_holdForBinding 1 = .ok (.invokevirtual 304, 3) := by decide +kernel
theorem dX10_holdForBinding_4 : decode cX10_holdForBinding 4 = .ok (.aload_n 0, 1) := by decide +kernel
theorem dX10_holdForBinding_5 : decode cX10_holdForBinding 5 = .ok (.lload_n 1, 1) := by decide +kernel
theorem dX10_holdForBinding_6 : decode cX10_holdForBinding 6 = .ok (.invokevirtual 213, 3) := by decide +kernel
theorem dX10_holdForBinding_9 : decode cX10_holdForBinding 9 = .ok (.aload_n 0, 1) := by decide +kernel
theorem dX10_holdForBinding_10 : decode cX10_holdForBinding 10 = .ok (.aload_n 0, 1) := by decide +kernel
theorem dX10_holdForBinding_11 : decode cX10_holdForBinding 11 = .ok (.getfield 138, 3) := by decide +kernel
theorem dX10_holdForBinding_14 : decode cX10_holdForBinding 14 = .ok (.invokevirtual 213, 3) := by decide +kernel
theorem dX10_holdForBinding_17 : decode cX10_holdForBinding 17 = .ok (.iconst 0, 1) := by decide +kernel
theorem dX10_holdForBinding_18 : decode cX10_holdForBinding 18 = .ok (.istore_n 3, 1) := by decide +kernel
theorem dX10_holdForBinding_19 : decode cX10_holdForBinding 19 = .ok (.iload_n 3, 1) := by decide +kernel
theorem dX10_holdForBinding_20 : decode cX10_holdForBinding 20 = .ok (.aload_n 0, 1) := by decide +kernel
theorem dX10_holdForBinding_21 : decode cX10_holdForBinding 21 = .ok (.getfield 144, 3) := by decide +kernel
theorem dX10_holdForBinding_24 : decode cX10_holdForBinding 24 = .ok (.if_icmp .ge 19, 3) := by decide +kernel
theorem dX10_holdForBinding_27 : decode cX10_holdForBinding 27 = .ok (.aload_n 0, 1) := by decide +kernel
theorem dX10_holdForBinding_28 : decode cX10_holdForBinding 28 = .ok (.aload_n 0, 1) := by decide +kernel
theorem dX10_holdForBinding_29 : decode cX10_holdForBinding 29 = .ok (.getfield 141, 3) := by decide +kernel
theorem dX10_holdForBinding_32 : decode cX10_holdForBinding 32 = .ok (.iload_n 3, 1) := by decide +kernel
theorem dX10_holdForBinding_33 : decode cX10_holdForBinding 33 = .ok (.laload, 1) := by decide +kernel
theorem dX10_holdForBinding_34 : decode cX10_holdForBinding 34 = .ok (.invokevirtual 213, 3) := by decide +kernel
theorem dX10_holdForBinding_37 : decode cX10_holdForBinding 37 = .ok (.iinc 3 1, 3) := by decide +kernel
theorem dX10_holdForBinding_40 : decode cX10_holdForBinding 40 = .ok (.goto (-21), 3) := by decide +kernel
theorem dX10_holdForBinding_43 : decode cX10_holdForBinding 43 = .ok (.return_, 1) := by decide +kernel
theorem dX10_lambda_0 : decode cX10_lambda 0 = .ok (.aload_n 0, 1) := by decide +kernel
theorem dX10_lambda_1 : decode cX10_lambda 1 = .ok (.lload_n 1, 1) := by decide +kernel
theorem dX10_lambda_2 : decode cX10_lambda 2 = .ok (.invokevirtual 216, 3) := by decide +kernel
theorem dX10_lambda_5 : decode cX10_lambda 5 = .ok (.lstore_n 3, 1) := by decide +kernel
theorem dX10_lambda_6 : decode cX10_lambda 6 = .ok (.aload_n 0, 1) := by decide +kernel
theorem dX10_lambda_7 : decode cX10_lambda 7 = .ok (.lload_n 3, 1) := by decide +kernel
theorem dX10_lambda_8 : decode cX10_lambda 8 = .ok (.iconst 2, 1) := by decide +kernel
theorem dX10_lambda_9 : decode cX10_lambda 9 = .ok (.invokevirtual 269, 3) := by decide +kernel
theorem dX10_lambda_12 : decode cX10_lambda 12 = .ok (.ifCond .eq 19, 3) := by decide +kernel
theorem dX10_lambda_15 : decode cX10_lambda 15 = .ok (.aload_n 0, 1) := by decide +kernel
theorem dX10_lambda_16 : decode cX10_lambda 16 = .ok (.aload_n 0, 1) := by decide +kernel
theorem dX10_lambda_17 : decode cX10_lambda 17 = .ok (.lload_n 3, 1) := by decide +kernel
theorem dX10_lambda_18 : decode cX10_lambda 18 = .ok (.invokevirtual 209, 3) := by decide +kernel
theorem dX10_lambda_21 : decode cX10_lambda 21 = .ok (.invokevirtual 310, 3) := by decide +kernel
theorem dX10_lambda_24 : decode cX10_lambda 24 = .ok (.aload_n 0, 1) := by decide +kernel
theorem dX10_lambda_25 : decode cX10_lambda 25 = .ok (.getfield 144, 3) := by decide +kernel
theorem dX10_lambda_28 : decode cX10_lambda 28 = .ok (.if_icmp .eq 9, 3) := by decide +kernel
theorem dX10_lambda_31 : decode cX10_lambda 31 = .ok (.aload_n 0, 1) := by decide +kernel
theorem dX10_lambda_32 : decode cX10_lambda 32 = .ok (.iconst 3, 1) := by decide +kernel
theorem dX10_lambda_33 : decode cX10_lambda 33 = .ok (.invokevirtual 265, 3) := by decide +kernel
theorem dX10_lambda_36 : decode cX10_lambda 36 = .ok (.return_, 1) := by decide +kernel
theorem dX10_lambda_37 : decode cX10_lambda 37 = .ok (.aload_n 0, 1) := by decide +kernel
theorem dX10_lambda_38 : decode cX10_lambda 38 = .ok (.lload_n 1, 1) := by decide +kernel
theorem dX10_lambda_39 : decode cX10_lambda 39 = .ok (.invokevirtual 313, 3) := by decide +kernel
theorem dX10_lambda_42 : decode cX10_lambda 42 = .ok (.aload_n 0, 1) := by decide +kernel
theorem dX10_lambda_43 : decode cX10_lambda 43 = .ok (.iconst 2, 1) := by decide +kernel
theorem dX10_lambda_44 : decode cX10_lambda 44 = .ok (.aload_n 0, 1) := by decide +kernel
theorem dX10_lambda_45 : decode cX10_lambda 45 = .ok (.getfield 144, 3) := by decide +kernel
theorem dX10_lambda_48 : decode cX10_lambda 48 = .ok (.imul, 1) := by decide +kernel
theorem dX10_lambda_49 : decode cX10_lambda 49 = .ok (.invokevirtual 307, 3) := by decide +kernel
theorem dX10_lambda_52 : decode cX10_lambda 52 = .ok (.ifCond .ne 4, 3) := by decide +kernel
theorem dX10_lambda_55 : decode cX10_lambda 55 = .ok (.return_, 1) := by decide +kernel
theorem dX10_lambda_56 : decode cX10_lambda 56 = .ok (.aload_n 0, 1) := by decide +kernel
theorem dX10_lambda_57 : decode cX10_lambda 57 = .ok (.getfield 138, 3) := by decide +kernel
theorem dX10_lambda_60 : decode cX10_lambda 60 = .ok (.lstore 5, 2) := by decide +kernel
theorem dX10_lambda_62 : decode cX10_lambda 62 = .ok (.aload_n 0, 1) := by decide +kernel
theorem dX10_lambda_63 : decode cX10_lambda 63 = .ok (.getfield 144, 3) := by decide +kernel
theorem dX10_lambda_66 : decode cX10_lambda 66 = .ok (.iconst 1, 1) := by decide +kernel
theorem dX10_lambda_67 : decode cX10_lambda 67 = .ok (.isub, 1) := by decide +kernel
theorem dX10_lambda_68 : decode cX10_lambda 68 = .ok (.istore 7, 2) := by decide +kernel
theorem dX10_lambda_70 : decode cX10_lambda 70 = .ok (.iload 7, 2) := by decide +kernel
theorem dX10_lambda_72 : decode cX10_lambda 72 = .ok (.ifCond .lt 65, 3) := by decide +kernel
theorem dX10_lambda_75 : decode cX10_lambda 75 = .ok (.aload_n 0, 1) := by decide +kernel
theorem dX10_lambda_76 : decode cX10_lambda 76 = .ok (.lload_n 3, 1) := by decide +kernel
theorem dX10_lambda_77 : decode cX10_lambda 77 = .ok (.invokevirtual 209, 3) := by decide +kernel
theorem dX10_lambda_80 : decode cX10_lambda 80 = .ok (.lstore 8, 2) := by decide +kernel
theorem dX10_lambda_82 : decode cX10_lambda 82 = .ok (.iconst 0, 1) := by decide +kernel
theorem dX10_lambda_83 : decode cX10_lambda 83 = .ok (.istore 10, 2) := by decide +kernel
theorem dX10_lambda_85 : decode cX10_lambda 85 = .ok (.iload 10, 2) := by decide +kernel
theorem dX10_lambda_87 : decode cX10_lambda 87 = .ok (.iload 7, 2) := by decide +kernel
theorem dX10_lambda_89 : decode cX10_lambda 89 = .ok (.if_icmp .ge 17, 3) := by decide +kernel
theorem dX10_lambda_92 : decode cX10_lambda 92 = .ok (.aload_n 0, 1) := by decide +kernel
theorem dX10_lambda_93 : decode cX10_lambda 93 = .ok (.lload 8, 2) := by decide +kernel
theorem dX10_lambda_95 : decode cX10_lambda 95 = .ok (.invokevirtual 216, 3) := by decide +kernel
theorem dX10_lambda_98 : decode cX10_lambda 98 = .ok (.lstore 8, 2) := by decide +kernel
theorem dX10_lambda_100 : decode cX10_lambda 100 = .ok (.iinc 10 1, 3) := by decide +kernel
theorem dX10_lambda_103 : decode cX10_lambda 103 = .ok (.goto (-18), 3) := by decide +kernel
theorem dX10_lambda_106 : decode cX10_lambda 106 = .ok (.aload_n 0, 1) := by decide +kernel
theorem dX10_lambda_107 : decode cX10_lambda 107 = .ok (.aload_n 0, 1) := by decide +kernel
theorem dX10_lambda_108 : decode cX10_lambda 108 = .ok (.aload_n 0, 1) := by decide +kernel
theorem dX10_lambda_109 : decode cX10_lambda 109 = .ok (.lload 8, 2) := by decide +kernel
theorem dX10_lambda_111 : decode cX10_lambda 111 = .ok (.invokevirtual 209, 3) := by decide +kernel
theorem dX10_lambda_114 : decode cX10_lambda 114 = .ok (.aload_n 0, 1) := by decide +kernel
theorem dX10_lambda_115 : decode cX10_lambda 115 = .ok (.getfield 141, 3) := by decide +kernel
theorem dX10_lambda_118 : decode cX10_lambda 118 = .ok (.iload 7, 2) := by decide +kernel
theorem dX10_lambda_120 : decode cX10_lambda 120 = .ok (.laload, 1) := by decide +kernel
theorem dX10_lambda_121 : decode cX10_lambda 121 = .ok (.invokevirtual 244, 3) := by decide +kernel
theorem dX10_lambda_124 : decode cX10_lambda 124 = .ok (.lload 5, 2) := by decide +kernel
theorem dX10_lambda_126 : decode cX10_lambda 126 = .ok (.invokevirtual 244, 3) := by decide +kernel
theorem dX10_lambda_129 : decode cX10_lambda 129 = .ok (.lstore 5, 2) := by decide +kernel
theorem dX10_lambda_131 : decode cX10_lambda 131 = .ok (.iinc 7 (-1), 3) := by decide +kernel
theorem dX10_lambda_134 : decode cX10_lambda 134 = .ok (.goto (-64), 3) := by decide +kernel
theorem dX10_lambda_137 : decode cX10_lambda 137 = .ok (.aload_n 0, 1) := by decide +kernel
theorem dX10_lambda_138 : decode cX10_lambda 138 = .ok (.lload 5, 2) := by decide +kernel
theorem dX10_lambda_140 : decode cX10_lambda 140 = .ok (.putfield 138, 3) := by decide +kernel
theorem dX10_lambda_143 : decode cX10_lambda 143 = .ok (.aload_n 0, 1) := by decide +kernel
theorem dX10_lambda_144 : decode cX10_lambda 144 = .ok (.iconst 0, 1) := by decide +kernel
theorem dX10_lambda_145 : decode cX10_lambda 145 = .ok (.putfield 132, 3) := by decide +kernel
theorem dX10_lambda_148 : decode cX10_lambda 148 = .ok (.aload_n 0, 1) := by decide +kernel
theorem dX10_lambda_149 : decode cX10_lambda 149 = .ok (.aload_n 0, 1) := by decide +kernel
theorem dX10_lambda_150 : decode cX10_lambda 150 = .ok (.aload_n 0, 1) := by decide +kernel
theorem dX10_lambda_151 : decode cX10_lambda 151 = .ok (.lload_n 3, 1) := by decide +kernel
theorem dX10_lambda_152 : decode cX10_lambda 152 = .ok (.invokevirtual 216, 3) := by decide +kernel
theorem dX10_lambda_155 : decode cX10_lambda 155 = .ok (.invokevirtual 209, 3) := by decide +kernel
theorem dX10_lambda_158 : decode cX10_lambda 158 = .ok (.putfield 135, 3) := by decide +kernel
theorem dX10_lambda_161 : decode cX10_lambda 161 = .ok (.return_, 1) := by decide +kernel
theorem dX10_label_0 : decode cX10_label 0 = .ok (.aload_n 0, 1) := by decide +kernel
theorem dX10_label_1 : decode cX10_label 1 = .ok (.lload_n 1, 1) := by decide +kernel
theorem dX10_label_2 : decode cX10_label 2 = .ok (.invokevirtual 216, 3) := by decide +kernel
theorem dX10_label_5 : decode cX10_label 5 = .ok (.lstore_n 3, 1) := by decide +kernel
theorem dX10_label_6 : decode cX10_label 6 = .ok (.aload_n 0, 1) := by decide +kernel
theorem dX10_label_7 : decode cX10_label 7 = .ok (.lload_n 3, 1) := by decide +kernel
theorem dX10_label_8 : decode cX10_label 8 = .ok (.iconst 2, 1) := by decide +kernel
theorem dX10_label_9 : decode cX10_label 9 = .ok (.invokevirtual 269, 3) := by decide +kernel
theorem dX10_label_12 : decode cX10_label 12 = .ok (.ifCond .eq 14, 3) := by decide +kernel
theorem dX10_label_15 : decode cX10_label 15 = .ok (.aload_n 0, 1) := by decide +kernel
theorem dX10_label_16 : decode cX10_label 16 = .ok (.lload_n 3, 1) := by decide +kernel
theorem dX10_label_17 : decode cX10_label 17 = .ok (.invokevirtual 209, 3) := by decide +kernel
theorem dX10_label_20 : decode cX10_label 20 = .ok (.invokestatic 289, 3) := by decide +kernel
theorem dX10_label_23 : decode cX10_label 23 = .ok (.ifCond .ne 9, 3) := by decide +kernel
theorem dX10_label_26 : decode cX10_label 26 = .ok (.aload_n 0, 1) := by decide +kernel
theorem dX10_label_27 : decode cX10_label 27 = .ok (.iconst 3, 1) := by decide +kernel
theorem dX10_label_28 : decode cX10_label 28 = .ok (.invokevirtual 265, 3) := by decide +kernel
theorem dX10_label_31 : decode cX10_label 31 = .ok (.return_, 1) := by decide +kernel
theorem dX10_label_32 : decode cX10_label 32 = .ok (.aload_n 0, 1) := by decide +kernel
theorem dX10_label_33 : decode cX10_label 33 = .ok (.lload_n 1, 1) := by decide +kernel
theorem dX10_label_34 : decode cX10_label 34 = .ok (.invokevirtual 313, 3) := by decide +kernel
theorem dX10_label_37 : decode cX10_label 37 = .ok (.aload_n 0, 1) := by decide +kernel
theorem dX10_label_38 : decode cX10_label 38 = .ok (.iconst 2, 1) := by decide +kernel
theorem dX10_label_39 : decode cX10_label 39 = .ok (.invokevirtual 307, 3) := by decide +kernel
theorem dX10_label_42 : decode cX10_label 42 = .ok (.ifCond .ne 4, 3) := by decide +kernel
theorem dX10_label_45 : decode cX10_label 45 = .ok (.return_, 1) := by decide +kernel
theorem dX10_label_46 : decode cX10_label 46 = .ok (.aload_n 0, 1) := by decide +kernel
theorem dX10_label_47 : decode cX10_label 47 = .ok (.aload_n 0, 1) := by decide +kernel
theorem dX10_label_48 : decode cX10_label 48 = .ok (.aload_n 0, 1) := by decide +kernel
theorem dX10_label_49 : decode cX10_label 49 = .ok (.aload_n 0, 1) := by decide +kernel
theorem dX10_label_50 : decode cX10_label 50 = .ok (.lload_n 3, 1) := by decide +kernel
theorem dX10_label_51 : decode cX10_label 51 = .ok (.invokevirtual 209, 3) := by decide +kernel
theorem dX10_label_54 : decode cX10_label 54 = .ok (.aload_n 0, 1) := by decide +kernel
theorem dX10_label_55 : decode cX10_label 55 = .ok (.aload_n 0, 1) := by decide +kernel
theorem dX10_label_56 : decode cX10_label 56 = .ok (.lload_n 3, 1) := by decide +kernel
theorem dX10_label_57 : decode cX10_label 57 = .ok (.invokevirtual 216, 3) := by decide +kernel
theorem dX10_label_60 : decode cX10_label 60 = .ok (.invokevirtual 209, 3) := by decide +kernel
theorem dX10_label_63 : decode cX10_label 63 = .ok (.invokevirtual 244, 3) := by decide +kernel
theorem dX10_label_66 : decode cX10_label 66 = .ok (.aload_n 0, 1) := by decide +kernel
theorem dX10_label_67 : decode cX10_label 67 = .ok (.getfield 138, 3) := by decide +kernel
theorem dX10_label_70 : decode cX10_label 70 = .ok (.invokevirtual 244, 3) := by decide +kernel
theorem dX10_label_73 : decode cX10_label 73 = .ok (.putfield 138, 3) := by decide +kernel
theorem dX10_label_76 : decode cX10_label 76 = .ok (.aload_n 0, 1) := by decide +kernel
theorem dX10_label_77 : decode cX10_label 77 = .ok (.aload_n 0, 1) := by decide +kernel
theorem dX10_label_78 : decode cX10_label 78 = .ok (.aload_n 0, 1) := by decide +kernel
theorem dX10_label_79 : decode cX10_label 79 = .ok (.lload_n 3, 1) := by decide +kernel
theorem dX10_label_80 : decode cX10_label 80 = .ok (.invokevirtual 216, 3) := by decide +kernel
theorem dX10_label_83 : decode cX10_label 83 = .ok (.invokevirtual 209, 3) := by decide +kernel
theorem dX10_label_86 : decode cX10_label 86 = .ok (.putfield 135, 3) := by decide +kernel
theorem dX10_label_89 : decode cX10_label 89 = .ok (.return_, 1) := by decide +kernel
theorem dX10_apply_0 : decode cX10_apply 0 = .ok (.aload_n 0, 1) := by decide +kernel
theorem dX10_apply_1 : decode cX10_apply 1 = .ok (.invokevirtual 277, 3) := by decide +kernel
theorem dX10_apply_4 : decode cX10_apply 4 = .ok (.ifCond .ne 4, 3) := by decide +kernel
theorem dX10_apply_7 : decode cX10_apply 7 = .ok (.return_, 1) := by decide +kernel
theorem dX10_apply_8 : decode cX10_apply 8 = .ok (.aload_n 0, 1) := by decide +kernel
theorem dX10_apply_9 : decode cX10_apply 9 = .ok (.getfield 135, 3) := by decide +kernel
theorem dX10_apply_12 : decode cX10_apply 12 = .ok (.lstore_n 1, 1) := by decide +kernel
theorem dX10_apply_13 : decode cX10_apply 13 = .ok (.lload_n 1, 1) := by decide +kernel
theorem dX10_apply_14 : decode cX10_apply 14 = .ok (.invokestatic 281, 3) := by decide +kernel
theorem dX10_apply_17 : decode cX10_apply 17 = .ok (.ifCond .ne 19, 3) := by decide +kernel
theorem dX10_apply_20 : decode cX10_apply 20 = .ok (.lload_n 1, 1) := by decide +kernel
theorem dX10_apply_21 : decode cX10_apply 21 = .ok (.ldc2_w 199, 3) := by decide +kernel
theorem dX10_apply_24 : decode cX10_apply 24 = .ok (.lcmp, 1) := by decide +kernel
theorem dX10_apply_25 : decode cX10_apply 25 = .ok (.ifCond .eq 11, 3) := by decide +kernel
theorem dX10_apply_28 : decode cX10_apply 28 = .ok (.lload_n 1, 1) := by decide +kernel
theorem dX10_apply_29 : decode cX10_apply 29 = .ok (.ldc2_w 284, 3) := by decide +kernel
theorem dX10_apply_32 : decode cX10_apply 32 = .ok (.lcmp, 1) := by decide +kernel
theorem dX10_apply_33 : decode cX10_apply 33 = .ok (.ifCond .ne 11, 3) := by decide +kernel
theorem dX10_apply_36 : decode cX10_apply 36 = .ok (.aload_n 0, 1) := by decide +kernel
theorem dX10_apply_37 : decode cX10_apply 37 = .ok (.iconst 4, 1) := by decide +kernel
theorem dX10_apply_38 : decode cX10_apply 38 = .ok (.invokevirtual 265, 3) := by decide +kernel
theorem dX10_apply_41 : decode cX10_apply 41 = .ok (.goto 162, 3) := by decide +kernel
theorem dX10_apply_44 : decode cX10_apply 44 = .ok (.lload_n 1, 1) := by decide +kernel
theorem dX10_apply_45 : decode cX10_apply 45 = .ok (.invokestatic 289, 3) := by decide +kernel
theorem dX10_apply_48 : decode cX10_apply 48 = .ok (.ifCond .eq 42, 3) := by decide +kernel
theorem dX10_apply_51 : decode cX10_apply 51 = .ok (.lload_n 1, 1) := by decide +kernel
theorem dX10_apply_52 : decode cX10_apply 52 = .ok (.ldc2_w 199, 3) := by decide +kernel
theorem dX10_apply_55 : decode cX10_apply 55 = .ok (.lsub, 1) := by decide +kernel
theorem dX10_apply_56 : decode cX10_apply 56 = .ok (.l2i, 1) := by decide +kernel
theorem dX10_apply_57 : decode cX10_apply 57 = .ok (.istore_n 3, 1) := by decide +kernel
theorem dX10_apply_58 : decode cX10_apply 58 = .ok (.iload_n 3, 1) := by decide +kernel
theorem dX10_apply_59 : decode cX10_apply 59 = .ok (.bipush 6, 2) := by decide +kernel
theorem dX10_apply_61 : decode cX10_apply 61 = .ok (.if_icmp .le 17, 3) := by decide +kernel
theorem dX10_apply_64 : decode cX10_apply 64 = .ok (.iload_n 3, 1) := by decide +kernel
theorem dX10_apply_65 : decode cX10_apply 65 = .ok (.bipush 18, 2) := by decide +kernel
theorem dX10_apply_67 : decode cX10_apply 67 = .ok (.if_icmp .ge 11, 3) := by decide +kernel
theorem dX10_apply_70 : decode cX10_apply 70 = .ok (.aload_n 0, 1) := by decide +kernel
theorem dX10_apply_71 : decode cX10_apply 71 = .ok (.iload_n 3, 1) := by decide +kernel
theorem dX10_apply_72 : decode cX10_apply 72 = .ok (.invokevirtual 316, 3) := by decide +kernel
theorem dX10_apply_75 : decode cX10_apply 75 = .ok (.goto 12, 3) := by decide +kernel
theorem dX10_apply_78 : decode cX10_apply 78 = .ok (.aload_n 0, 1) := by decide +kernel
theorem dX10_apply_79 : decode cX10_apply 79 = .ok (.aload_n 0, 1) := by decide +kernel
theorem dX10_apply_80 : decode cX10_apply 80 = .ok (.lload_n 1, 1) := by decide +kernel
theorem dX10_apply_81 : decode cX10_apply 81 = .ok (.invokevirtual 292, 3) := by decide +kernel
theorem dX10_apply_84 : decode cX10_apply 84 = .ok (.putfield 135, 3) := by decide +kernel
theorem dX10_apply_87 : decode cX10_apply 87 = .ok (.goto 116, 3) := by decide +kernel
theorem dX10_apply_90 : decode cX10_apply 90 = .ok (.aload_n 0, 1) := by decide +kernel
theorem dX10_apply_91 : decode cX10_apply 91 = .ok (.lload_n 1, 1) := by decide +kernel
theorem dX10_apply_92 : decode cX10_apply 92 = .ok (.invokevirtual 209, 3) := by decide +kernel
theorem dX10_apply_95 : decode cX10_apply 95 = .ok (.ldc2_w 319, 3) := by decide +kernel
theorem dX10_apply_98 : decode cX10_apply 98 = .ok (.lcmp, 1) := by decide +kernel
theorem dX10_apply_99 : decode cX10_apply 99 = .ok (.ifCond .ne 11, 3) := by decide +kernel
theorem dX10_apply_102 : decode cX10_apply 102 = .ok (.aload_n 0, 1) := by decide +kernel
theorem dX10_apply_103 : decode cX10_apply 103 = .ok (.lload_n 1, 1) := by decide +kernel
theorem dX10_apply_104 : decode cX10_apply 104 = .ok (.invokevirtual 321, 3) := by decide +kernel
theorem dX10_apply_107 : decode cX10_apply 107 = .ok (.goto 96, 3) := by decide +kernel
theorem dX10_apply_110 : decode cX10_apply 110 = .ok (.aload_n 0, 1) := by decide +kernel
theorem dX10_apply_111 : decode cX10_apply 111 = .ok (.lload_n 1, 1) := by decide +kernel
theorem dX10_apply_112 : decode cX10_apply 112 = .ok (.invokevirtual 209, 3) := by decide +kernel
theorem dX10_apply_115 : decode cX10_apply 115 = .ok (.ldc2_w 324, 3) := by decide +kernel
theorem dX10_apply_118 : decode cX10_apply 118 = .ok (.lcmp, 1) := by decide +kernel
theorem dX10_apply_119 : decode cX10_apply 119 = .ok (.ifCond .ne 11, 3) := by decide +kernel
theorem dX10_apply_122 : decode cX10_apply 122 = .ok (.aload_n 0, 1) := by decide +kernel
theorem dX10_apply_123 : decode cX10_apply 123 = .ok (.lload_n 1, 1) := by decide +kernel
theorem dX10_apply_124 : decode cX10_apply 124 = .ok (.invokevirtual 326, 3) := by decide +kernel
theorem dX10_apply_127 : decode cX10_apply 127 = .ok (.goto 76, 3) := by decide +kernel
theorem dX10_apply_130 : decode cX10_apply 130 = .ok (.aload_n 0, 1) := by decide +kernel
theorem dX10_apply_131 : decode cX10_apply 131 = .ok (.iconst 2, 1) := by decide +kernel
theorem dX10_apply_132 : decode cX10_apply 132 = .ok (.ldc2_w 199, 3) := by decide +kernel
theorem dX10_apply_135 : decode cX10_apply 135 = .ok (.ldc2_w 199, 3) := by decide +kernel
theorem dX10_apply_138 : decode cX10_apply 138 = .ok (.invokevirtual 273, 3) := by decide +kernel
theorem dX10_apply_141 : decode cX10_apply 141 = .ok (.ifCond .eq 62, 3) := by decide +kernel
theorem dX10_apply_144 : decode cX10_apply 144 = .ok (.aload_n 0, 1) := by decide +kernel
theorem dX10_apply_145 : decode cX10_apply 145 = .ok (.getfield 126, 3) := by decide +kernel
theorem dX10_apply_148 : decode cX10_apply 148 = .ok (.aload_n 0, 1) := by decide +kernel
theorem dX10_apply_149 : decode cX10_apply 149 = .ok (.getfield 111, 3) := by decide +kernel
theorem dX10_apply_152 : decode cX10_apply 152 = .ok (.iconst 1, 1) := by decide +kernel
theorem dX10_apply_153 : decode cX10_apply 153 = .ok (.isub, 1) := by decide +kernel
theorem dX10_apply_154 : decode cX10_apply 154 = .ok (.aload_n 0, 1) := by decide +kernel
theorem dX10_apply_155 : decode cX10_apply 155 = .ok (.getfield 144, 3) := by decide +kernel
theorem dX10_apply_158 : decode cX10_apply 158 = .ok (.iastore, 1) := by decide +kernel
theorem dX10_apply_159 : decode cX10_apply 159 = .ok (.iconst 0, 1) := by decide +kernel
theorem dX10_apply_160 : decode cX10_apply 160 = .ok (.istore_n 3, 1) := by decide +kernel
theorem dX10_apply_161 : decode cX10_apply 161 = .ok (.iload_n 3, 1) := by decide +kernel
theorem dX10_apply_162 : decode cX10_apply 162 = .ok (.aload_n 0, 1) := by decide +kernel
theorem dX10_apply_163 : decode cX10_apply 163 = .ok (.getfield 144, 3) := by decide +kernel
theorem dX10_apply_166 : decode cX10_apply 166 = .ok (.if_icmp .ge 32, 3) := by decide +kernel
theorem dX10_apply_169 : decode cX10_apply 169 = .ok (.aload_n 0, 1) := by decide +kernel
theorem dX10_apply_170 : decode cX10_apply 170 = .ok (.getfield 129, 3) := by decide +kernel
theorem dX10_apply_173 : decode cX10_apply 173 = .ok (.bipush 8, 2) := by decide +kernel
theorem dX10_apply_175 : decode cX10_apply 175 = .ok (.aload_n 0, 1) := by decide +kernel
theorem dX10_apply_176 : decode cX10_apply 176 = .ok (.getfield 111, 3) := by decide +kernel
theorem dX10_apply_179 : decode cX10_apply 179 = .ok (.imul, 1) := by decide +kernel
theorem dX10_apply_180 : decode cX10_apply 180 = .ok (.bipush 8, 2) := by decide +kernel
theorem dX10_apply_182 : decode cX10_apply 182 = .ok (.isub, 1) := by decide +kernel
theorem dX10_apply_183 : decode cX10_apply 183 = .ok (.iload_n 3, 1) := by decide +kernel
theorem dX10_apply_184 : decode cX10_apply 184 = .ok (.iadd, 1) := by decide +kernel
theorem dX10_apply_185 : decode cX10_apply 185 = .ok (.aload_n 0, 1) := by decide +kernel
theorem dX10_apply_186 : decode cX10_apply 186 = .ok (.getfield 141, 3) := by decide +kernel
theorem dX10_apply_189 : decode cX10_apply 189 = .ok (.iload_n 3, 1) := by decide +kernel
theorem dX10_apply_190 : decode cX10_apply 190 = .ok (.laload, 1) := by decide +kernel
theorem dX10_apply_191 : decode cX10_apply 191 = .ok (.lastore, 1) := by decide +kernel
theorem dX10_apply_192 : decode cX10_apply 192 = .ok (.iinc 3 1, 3) := by decide +kernel
theorem dX10_apply_195 : decode cX10_apply 195 = .ok (.goto (-34), 3) := by decide +kernel
theorem dX10_apply_198 : decode cX10_apply 198 = .ok (.aload_n 0, 1) := by decide +kernel
theorem dX10_apply_199 : decode cX10_apply 199 = .ok (.iconst 0, 1) := by decide +kernel
theorem dX10_apply_200 : decode cX10_apply 200 = .ok (.putfield 132, 3) := by decide +kernel
theorem dX10_apply_203 : decode cX10_apply 203 = .ok (.return_, 1) := by decide +kernel
theorem dX10_evaluateAll_0 : decode cX10_evaluateAll 0 = .ok (.aload_n 0, 1) := by decide +kernel
theorem dX10_evaluateAll_1 : decode cX10_evaluateAll 1 = .ok (.iconst 0, 1) := by decide +kernel
theorem dX10_evaluateAll_2 : decode cX10_evaluateAll 2 = .ok (.putfield 111, 3) := by decide +kernel
theorem dX10_evaluateAll_5 : decode cX10_evaluateAll 5 = .ok (.aload_n 0, 1) := by decide +kernel
theorem dX10_evaluateAll_6 : decode cX10_evaluateAll 6 = .ok (.iconst 0, 1) := by decide +kernel
theorem dX10_evaluateAll_7 : decode cX10_evaluateAll 7 = .ok (.putfield 132, 3) := by decide +kernel
theorem dX10_evaluateAll_10 : decode cX10_evaluateAll 10 = .ok (.aload_n 0, 1) := by decide +kernel
theorem dX10_evaluateAll_11 : decode cX10_evaluateAll 11 = .ok (.lload_n 1, 1) := by decide +kernel
theorem dX10_evaluateAll_12 : decode cX10_evaluateAll 12 = .ok (.putfield 135, 3) := by decide +kernel
theorem dX10_evaluateAll_15 : decode cX10_evaluateAll 15 = .ok (.aload_n 0, 1) := by decide +kernel
theorem dX10_evaluateAll_16 : decode cX10_evaluateAll 16 = .ok (.ldc2_w 199, 3) := by decide +kernel
theorem dX10_evaluateAll_19 : decode cX10_evaluateAll 19 = .ok (.putfield 138, 3) := by decide +kernel
theorem dX10_evaluateAll_22 : decode cX10_evaluateAll 22 = .ok (.aload_n 0, 1) := by decide +kernel
theorem dX10_evaluateAll_23 : decode cX10_evaluateAll 23 = .ok (.getfield 35, 3) := by decide +kernel
theorem dX10_evaluateAll_26 : decode cX10_evaluateAll 26 = .ok (.ifCond .ne 54, 3) := by decide +kernel
theorem dX10_evaluateAll_29 : decode cX10_evaluateAll 29 = .ok (.aload_n 0, 1) := by decide +kernel
theorem dX10_evaluateAll_30 : decode cX10_evaluateAll 30 = .ok (.getfield 132, 3) := by decide +kernel
theorem dX10_evaluateAll_33 : decode cX10_evaluateAll 33 = .ok (.iconst 2, 1) := by decide +kernel
theorem dX10_evaluateAll_34 : decode cX10_evaluateAll 34 = .ok (.if_icmp .ne 10, 3) := by decide +kernel
theorem dX10_evaluateAll_37 : decode cX10_evaluateAll 37 = .ok (.aload_n 0, 1) := by decide +kernel
theorem dX10_evaluateAll_38 : decode cX10_evaluateAll 38 = .ok (.getfield 111, 3) := by decide +kernel
theorem dX10_evaluateAll_41 : decode cX10_evaluateAll 41 = .ok (.ifCond .le 39, 3) := by decide +kernel
theorem dX10_evaluateAll_44 : decode cX10_evaluateAll 44 = .ok (.aload_n 0, 1) := by decide +kernel
theorem dX10_evaluateAll_45 : decode cX10_evaluateAll 45 = .ok (.getfield 132, 3) := by decide +kernel
theorem dX10_evaluateAll_48 : decode cX10_evaluateAll 48 = .ok (.ifCond .ne 10, 3) := by decide +kernel
theorem dX10_evaluateAll_51 : decode cX10_evaluateAll 51 = .ok (.aload_n 0, 1) := by decide +kernel
theorem dX10_evaluateAll_52 : decode cX10_evaluateAll 52 = .ok (.invokevirtual 329, 3) := by decide +kernel
theorem dX10_evaluateAll_55 : decode cX10_evaluateAll 55 = .ok (.goto (-33), 3) := by decide +kernel
theorem dX10_evaluateAll_58 : decode cX10_evaluateAll 58 = .ok (.aload_n 0, 1) := by decide +kernel
theorem dX10_evaluateAll_59 : decode cX10_evaluateAll 59 = .ok (.getfield 132, 3) := by decide +kernel
theorem dX10_evaluateAll_62 : decode cX10_evaluateAll 62 = .ok (.iconst 1, 1) := by decide +kernel
theorem dX10_evaluateAll_63 : decode cX10_evaluateAll 63 = .ok (.if_icmp .ne 10, 3) := by decide +kernel
theorem dX10_evaluateAll_66 : decode cX10_evaluateAll 66 = .ok (.aload_n 0, 1) := by decide +kernel
theorem dX10_evaluateAll_67 : decode cX10_evaluateAll 67 = .ok (.invokevirtual 332, 3) := by decide +kernel
theorem dX10_evaluateAll_70 : decode cX10_evaluateAll 70 = .ok (.goto (-48), 3) := by decide +kernel
theorem dX10_evaluateAll_73 : decode cX10_evaluateAll 73 = .ok (.aload_n 0, 1) := by decide +kernel
theorem dX10_evaluateAll_74 : decode cX10_evaluateAll 74 = .ok (.invokevirtual 335, 3) := by decide +kernel
theorem dX10_evaluateAll_77 : decode cX10_evaluateAll 77 = .ok (.goto (-55), 3) := by decide +kernel
theorem dX10_evaluateAll_80 : decode cX10_evaluateAll 80 = .ok (.return_, 1) := by decide +kernel
theorem dX10_put_0 : decode cX10_put 0 = .ok (.aload_n 0, 1) := by decide +kernel
theorem dX10_put_1 : decode cX10_put 1 = .ok (.getfield 47, 3) := by decide +kernel
theorem dX10_put_4 : decode cX10_put 4 = .ok (.sipush 400, 3) := by decide +kernel
theorem dX10_put_7 : decode cX10_put 7 = .ok (.if_icmp .ge 23, 3) := by decide +kernel
theorem dX10_put_10 : decode cX10_put 10 = .ok (.aload_n 0, 1) := by decide +kernel
theorem dX10_put_11 : decode cX10_put 11 = .ok (.getfield 44, 3) := by decide +kernel
theorem dX10_put_14 : decode cX10_put 14 = .ok (.aload_n 0, 1) := by decide +kernel
theorem dX10_put_15 : decode cX10_put 15 = .ok (.getfield 47, 3) := by decide +kernel
theorem dX10_put_18 : decode cX10_put 18 = .ok (.iload_n 1, 1) := by decide +kernel
theorem dX10_put_19 : decode cX10_put 19 = .ok (.iastore, 1) := by decide +kernel
theorem dX10_put_20 : decode cX10_put 20 = .ok (.aload_n 0, 1) := by decide +kernel
theorem dX10_put_21 : decode cX10_put 21 = .ok (.dup, 1) := by decide +kernel
theorem dX10_put_22 : decode cX10_put 22 = .ok (.getfield 47, 3) := by decide +kernel
theorem dX10_put_25 : decode cX10_put 25 = .ok (.iconst 1, 1) := by decide +kernel
theorem dX10_put_26 : decode cX10_put 26 = .ok (.iadd, 1) := by decide +kernel
theorem dX10_put_27 : decode cX10_put 27 = .ok (.putfield 47, 3) := by decide +kernel
theorem dX10_put_30 : decode cX10_put 30 = .ok (.return_, 1) := by decide +kernel
theorem dX10_putAtom_0 : decode cX10_putAtom 0 = .ok (.lload_n 1, 1) := by decide +kernel
theorem dX10_putAtom_1 : decode cX10_putAtom 1 = .ok (.invokestatic 289, 3) := by decide +kernel
theorem dX10_putAtom_4 : decode cX10_putAtom 4 = .ok (.ifCond .eq 94, 3) := by decide +kernel
theorem dX10_putAtom_7 : decode cX10_putAtom 7 = .ok (.aload_n 0, 1) := by decide +kernel
theorem dX10_putAtom_8 : decode cX10_putAtom 8 = .ok (.getfield 70, 3) := by decide +kernel
theorem dX10_putAtom_11 : decode cX10_putAtom 11 = .ok (.lload_n 1, 1) := by decide +kernel
theorem dX10_putAtom_12 : decode cX10_putAtom 12 = .ok (.ldc2_w 199, 3) := by decide +kernel
theorem dX10_putAtom_15 : decode cX10_putAtom 15 = .ok (.lsub, 1) := by decide +kernel
theorem dX10_putAtom_16 : decode cX10_putAtom 16 = .ok (.l2i, 1) := by decide +kernel
theorem dX10_putAtom_17 : decode cX10_putAtom 17 = .ok (.laload, 1) := by decide +kernel
theorem dX10_putAtom_18 : decode cX10_putAtom 18 = .ok (.lstore_n 3, 1) := by decide +kernel
theorem dX10_putAtom_19 : decode cX10_putAtom 19 = .ok (.lconst 1, 1) := by decide +kernel
theorem dX10_putAtom_20 : decode cX10_putAtom 20 = .ok (.lstore 5, 2) := by decide +kernel
theorem dX10_putAtom_22 : decode cX10_putAtom 22 = .ok (.lload 5, 2) := by decide +kernel
theorem dX10_putAtom_24 : decode cX10_putAtom 24 = .ok (.lload_n 3, 1) := by decide +kernel
theorem dX10_putAtom_25 : decode cX10_putAtom 25 = .ok (.ldc2_w 187, 3) := by decide +kernel
theorem dX10_putAtom_28 : decode cX10_putAtom 28 = .ok (.ldiv, 1) := by decide +kernel
theorem dX10_putAtom_29 : decode cX10_putAtom 29 = .ok (.lcmp, 1) := by decide +kernel
theorem dX10_putAtom_30 : decode cX10_putAtom 30 = .ok (.ifCond .gt 14, 3) := by decide +kernel
theorem dX10_putAtom_33 : decode cX10_putAtom 33 = .ok (.lload 5, 2) := by decide +kernel
theorem dX10_putAtom_35 : decode cX10_putAtom 35 = .ok (.ldc2_w 187, 3) := by decide +kernel
theorem dX10_putAtom_38 : decode cX10_putAtom 38 = .ok (.lmul, 1) := by decide +kernel
theorem dX10_putAtom_39 : decode cX10_putAtom 39 = .ok (.lstore 5, 2) := by decide +kernel
theorem dX10_putAtom_41 : decode cX10_putAtom 41 = .ok (.goto (-19), 3) := by decide +kernel
theorem dX10_putAtom_44 : decode cX10_putAtom 44 = .ok (.lload 5, 2) := by decide +kernel
theorem dX10_putAtom_46 : decode cX10_putAtom 46 = .ok (.lconst 0, 1) := by decide +kernel
theorem dX10_putAtom_47 : decode cX10_putAtom 47 = .ok (.lcmp, 1) := by decide +kernel
theorem dX10_putAtom_48 : decode cX10_putAtom 48 = .ok (.ifCond .le 49, 3) := by decide +kernel
theorem dX10_putAtom_51 : decode cX10_putAtom 51 = .ok (.lload_n 3, 1) := by decide +kernel
theorem dX10_putAtom_52 : decode cX10_putAtom 52 = .ok (.lload 5, 2) := by decide +kernel
theorem dX10_putAtom_54 : decode cX10_putAtom 54 = .ok (.ldiv, 1) := by decide +kernel
theorem dX10_putAtom_55 : decode cX10_putAtom 55 = .ok (.ldc2_w 187, 3) := by decide +kernel
theorem dX10_putAtom_58 : decode cX10_putAtom 58 = .ok (.lrem, 1) := by decide +kernel
theorem dX10_putAtom_59 : decode cX10_putAtom 59 = .ok (.l2i, 1) := by decide +kernel
theorem dX10_putAtom_60 : decode cX10_putAtom 60 = .ok (.istore 7, 2) := by decide +kernel
theorem dX10_putAtom_62 : decode cX10_putAtom 62 = .ok (.aload_n 0, 1) := by decide +kernel
theorem dX10_putAtom_63 : decode cX10_putAtom 63 = .ok (.iload 7, 2) := by decide +kernel
theorem dX10_putAtom_65 : decode cX10_putAtom 65 = .ok (.bipush 27, 2) := by decide +kernel
theorem dX10_putAtom_67 : decode cX10_putAtom 67 = .ok (.if_icmp .ge 11, 3) := by decide +kernel
theorem dX10_putAtom_70 : decode cX10_putAtom 70 = .ok (.iload 7, 2) := by decide +kernel
theorem dX10_putAtom_72 : decode cX10_putAtom 72 = .ok (.bipush 64, 2) := by decide +kernel
theorem dX10_putAtom_74 : decode cX10_putAtom 74 = .ok (.iadd, 1) := by decide +kernel
theorem dX10_putAtom_75 : decode cX10_putAtom 75 = .ok (.goto 8, 3) := by decide +kernel
theorem dX10_putAtom_78 : decode cX10_putAtom 78 = .ok (.iload 7, 2) := by decide +kernel
theorem dX10_putAtom_80 : decode cX10_putAtom 80 = .ok (.bipush 21, 2) := by decide +kernel
theorem dX10_putAtom_82 : decode cX10_putAtom 82 = .ok (.iadd, 1) := by decide +kernel
theorem dX10_putAtom_83 : decode cX10_putAtom 83 = .ok (.invokevirtual 338, 3) := by decide +kernel
theorem dX10_putAtom_86 : decode cX10_putAtom 86 = .ok (.lload 5, 2) := by decide +kernel
theorem dX10_putAtom_88 : decode cX10_putAtom 88 = .ok (.ldc2_w 187, 3) := by decide +kernel
theorem dX10_putAtom_91 : decode cX10_putAtom 91 = .ok (.ldiv, 1) := by decide +kernel
theorem dX10_putAtom_92 : decode cX10_putAtom 92 = .ok (.lstore 5, 2) := by decide +kernel
theorem dX10_putAtom_94 : decode cX10_putAtom 94 = .ok (.goto (-50), 3) := by decide +kernel
theorem dX10_putAtom_97 : decode cX10_putAtom 97 = .ok (.return_, 1) := by decide +kernel
theorem dX10_putAtom_98 : decode cX10_putAtom 98 = .ok (.lload_n 1, 1) := by decide +kernel
theorem dX10_putAtom_99 : decode cX10_putAtom 99 = .ok (.l2i, 1) := by decide +kernel
theorem dX10_putAtom_100 : decode cX10_putAtom 100 = .ok (.istore_n 3, 1) := by decide +kernel
theorem dX10_putAtom_101 : decode cX10_putAtom 101 = .ok (.iload_n 3, 1) := by decide +kernel
theorem dX10_putAtom_102 : decode cX10_putAtom 102 = .ok (.i2l, 1) := by decide +kernel
theorem dX10_putAtom_103 : decode cX10_putAtom 103 = .ok (.lstore 4, 2) := by decide +kernel
theorem dX10_putAtom_105 : decode cX10_putAtom 105 = .ok (.iload_n 3, 1) := by decide +kernel
theorem dX10_putAtom_106 : decode cX10_putAtom 106 = .ok (.ifCond .ge 14, 3) := by decide +kernel
theorem dX10_putAtom_109 : decode cX10_putAtom 109 = .ok (.aload_n 0, 1) := by decide +kernel
theorem dX10_putAtom_110 : decode cX10_putAtom 110 = .ok (.bipush 45, 2) := by decide +kernel
theorem dX10_putAtom_112 : decode cX10_putAtom 112 = .ok (.invokevirtual 338, 3) := by decide +kernel
theorem dX10_putAtom_115 : decode cX10_putAtom 115 = .ok (.lload 4, 2) := by decide +kernel
theorem dX10_putAtom_117 : decode cX10_putAtom 117 = .ok (.lneg, 1) := by decide +kernel
theorem dX10_putAtom_118 : decode cX10_putAtom 118 = .ok (.lstore 4, 2) := by decide +kernel
theorem dX10_putAtom_120 : decode cX10_putAtom 120 = .ok (.lconst 1, 1) := by decide +kernel
theorem dX10_putAtom_121 : decode cX10_putAtom 121 = .ok (.lstore 6, 2) := by decide +kernel
theorem dX10_putAtom_123 : decode cX10_putAtom 123 = .ok (.lload 6, 2) := by decide +kernel
theorem dX10_putAtom_125 : decode cX10_putAtom 125 = .ok (.lload 4, 2) := by decide +kernel
theorem dX10_putAtom_127 : decode cX10_putAtom 127 = .ok (.ldc2_w 232, 3) := by decide +kernel
theorem dX10_putAtom_130 : decode cX10_putAtom 130 = .ok (.ldiv, 1) := by decide +kernel
theorem dX10_putAtom_131 : decode cX10_putAtom 131 = .ok (.lcmp, 1) := by decide +kernel
theorem dX10_putAtom_132 : decode cX10_putAtom 132 = .ok (.ifCond .gt 14, 3) := by decide +kernel
theorem dX10_putAtom_135 : decode cX10_putAtom 135 = .ok (.lload 6, 2) := by decide +kernel
theorem dX10_putAtom_137 : decode cX10_putAtom 137 = .ok (.ldc2_w 232, 3) := by decide +kernel
theorem dX10_putAtom_140 : decode cX10_putAtom 140 = .ok (.lmul, 1) := by decide +kernel
theorem dX10_putAtom_141 : decode cX10_putAtom 141 = .ok (.lstore 6, 2) := by decide +kernel
theorem dX10_putAtom_143 : decode cX10_putAtom 143 = .ok (.goto (-20), 3) := by decide +kernel
theorem dX10_putAtom_146 : decode cX10_putAtom 146 = .ok (.lload 6, 2) := by decide +kernel
theorem dX10_putAtom_148 : decode cX10_putAtom 148 = .ok (.lconst 0, 1) := by decide +kernel
theorem dX10_putAtom_149 : decode cX10_putAtom 149 = .ok (.lcmp, 1) := by decide +kernel
theorem dX10_putAtom_150 : decode cX10_putAtom 150 = .ok (.ifCond .le 31, 3) := by decide +kernel
theorem dX10_putAtom_153 : decode cX10_putAtom 153 = .ok (.aload_n 0, 1) := by decide +kernel
theorem dX10_putAtom_154 : decode cX10_putAtom 154 = .ok (.lload 4, 2) := by decide +kernel
theorem dX10_putAtom_156 : decode cX10_putAtom 156 = .ok (.lload 6, 2) := by decide +kernel
theorem dX10_putAtom_158 : decode cX10_putAtom 158 = .ok (.ldiv, 1) := by decide +kernel
theorem dX10_putAtom_159 : decode cX10_putAtom 159 = .ok (.ldc2_w 232, 3) := by decide +kernel
theorem dX10_putAtom_162 : decode cX10_putAtom 162 = .ok (.lrem, 1) := by decide +kernel
theorem dX10_putAtom_163 : decode cX10_putAtom 163 = .ok (.l2i, 1) := by decide +kernel
theorem dX10_putAtom_164 : decode cX10_putAtom 164 = .ok (.bipush 48, 2) := by decide +kernel
theorem dX10_putAtom_166 : decode cX10_putAtom 166 = .ok (.iadd, 1) := by decide +kernel
theorem dX10_putAtom_167 : decode cX10_putAtom 167 = .ok (.invokevirtual 338, 3) := by decide +kernel
theorem dX10_putAtom_170 : decode cX10_putAtom 170 = .ok (.lload 6, 2) := by decide +kernel
theorem dX10_putAtom_172 : decode cX10_putAtom 172 = .ok (.ldc2_w 232, 3) := by decide +kernel
theorem dX10_putAtom_175 : decode cX10_putAtom 175 = .ok (.ldiv, 1) := by decide +kernel
theorem dX10_putAtom_176 : decode cX10_putAtom 176 = .ok (.lstore 6, 2) := by decide +kernel
theorem dX10_putAtom_178 : decode cX10_putAtom 178 = .ok (.goto (-32), 3) := by decide +kernel
theorem dX10_putAtom_181 : decode cX10_putAtom 181 = .ok (.return_, 1) := by decide +kernel
theorem dX10_printAll_0 : decode cX10_printAll 0 = .ok (.aload_n 0, 1) := by decide +kernel
theorem dX10_printAll_1 : decode cX10_printAll 1 = .ok (.iconst 0, 1) := by decide +kernel
theorem dX10_printAll_2 : decode cX10_printAll 2 = .ok (.putfield 47, 3) := by decide +kernel
theorem dX10_printAll_5 : decode cX10_printAll 5 = .ok (.iconst 0, 1) := by decide +kernel
theorem dX10_printAll_6 : decode cX10_printAll 6 = .ok (.istore_n 3, 1) := by decide +kernel
theorem dX10_printAll_7 : decode cX10_printAll 7 = .ok (.lload_n 1, 1) := by decide +kernel
theorem dX10_printAll_8 : decode cX10_printAll 8 = .ok (.lstore 4, 2) := by decide +kernel
theorem dX10_printAll_10 : decode cX10_printAll 10 = .ok (.iconst 1, 1) := by decide +kernel
theorem dX10_printAll_11 : decode cX10_printAll 11 = .ok (.istore 6, 2) := by decide +kernel
theorem dX10_printAll_13 : decode cX10_printAll 13 = .ok (.iload 6, 2) := by decide +kernel
theorem dX10_printAll_15 : decode cX10_printAll 15 = .ok (.ifCond .eq 191, 3) := by decide +kernel
theorem dX10_printAll_18 : decode cX10_printAll 18 = .ok (.aload_n 0, 1) := by decide +kernel
theorem dX10_printAll_19 : decode cX10_printAll 19 = .ok (.getfield 47, 3) := by decide +kernel
theorem dX10_printAll_22 : decode cX10_printAll 22 = .ok (.sipush 400, 3) := by decide +kernel
theorem dX10_printAll_25 : decode cX10_printAll 25 = .ok (.if_icmp .ge 181, 3) := by decide +kernel
theorem dX10_printAll_28 : decode cX10_printAll 28 = .ok (.lload 4, 2) := by decide +kernel
theorem dX10_printAll_30 : decode cX10_printAll 30 = .ok (.invokestatic 205, 3) := by decide +kernel
theorem dX10_printAll_33 : decode cX10_printAll 33 = .ok (.ifCond .eq 35, 3) := by decide +kernel
theorem dX10_printAll_36 : decode cX10_printAll 36 = .ok (.aload_n 0, 1) := by decide +kernel
theorem dX10_printAll_37 : decode cX10_printAll 37 = .ok (.bipush 40, 2) := by decide +kernel
theorem dX10_printAll_39 : decode cX10_printAll 39 = .ok (.invokevirtual 338, 3) := by decide +kernel
theorem dX10_printAll_42 : decode cX10_printAll 42 = .ok (.aload_n 0, 1) := by decide +kernel
theorem dX10_printAll_43 : decode cX10_printAll 43 = .ok (.getfield 64, 3) := by decide +kernel
theorem dX10_printAll_46 : decode cX10_printAll 46 = .ok (.iload_n 3, 1) := by decide +kernel
theorem dX10_printAll_47 : decode cX10_printAll 47 = .ok (.aload_n 0, 1) := by decide +kernel
theorem dX10_printAll_48 : decode cX10_printAll 48 = .ok (.lload 4, 2) := by decide +kernel
theorem dX10_printAll_50 : decode cX10_printAll 50 = .ok (.invokevirtual 216, 3) := by decide +kernel
theorem dX10_printAll_53 : decode cX10_printAll 53 = .ok (.lastore, 1) := by decide +kernel
theorem dX10_printAll_54 : decode cX10_printAll 54 = .ok (.iinc 3 1, 3) := by decide +kernel
theorem dX10_printAll_57 : decode cX10_printAll 57 = .ok (.aload_n 0, 1) := by decide +kernel
theorem dX10_printAll_58 : decode cX10_printAll 58 = .ok (.lload 4, 2) := by decide +kernel
theorem dX10_printAll_60 : decode cX10_printAll 60 = .ok (.invokevirtual 209, 3) := by decide +kernel
theorem dX10_printAll_63 : decode cX10_printAll 63 = .ok (.lstore 4, 2) := by decide +kernel
theorem dX10_printAll_65 : decode cX10_printAll 65 = .ok (.goto (-52), 3) := by decide +kernel
theorem dX10_printAll_68 : decode cX10_printAll 68 = .ok (.aload_n 0, 1) := by decide +kernel
theorem dX10_printAll_69 : decode cX10_printAll 69 = .ok (.lload 4, 2) := by decide +kernel
theorem dX10_printAll_71 : decode cX10_printAll 71 = .ok (.invokevirtual 341, 3) := by decide +kernel
theorem dX10_printAll_74 : decode cX10_printAll 74 = .ok (.iconst 1, 1) := by decide +kernel
theorem dX10_printAll_75 : decode cX10_printAll 75 = .ok (.istore 7, 2) := by decide +kernel
theorem dX10_printAll_77 : decode cX10_printAll 77 = .ok (.iload 7, 2) := by decide +kernel
theorem dX10_printAll_79 : decode cX10_printAll 79 = .ok (.ifCond .eq 113, 3) := by decide +kernel
theorem dX10_printAll_82 : decode cX10_printAll 82 = .ok (.iload_n 3, 1) := by decide +kernel
theorem dX10_printAll_83 : decode cX10_printAll 83 = .ok (.ifCond .le 109, 3) := by decide +kernel
theorem dX10_printAll_86 : decode cX10_printAll 86 = .ok (.aload_n 0, 1) := by decide +kernel
theorem dX10_printAll_87 : decode cX10_printAll 87 = .ok (.getfield 64, 3) := by decide +kernel
theorem dX10_printAll_90 : decode cX10_printAll 90 = .ok (.iload_n 3, 1) := by decide +kernel
theorem dX10_printAll_91 : decode cX10_printAll 91 = .ok (.iconst 1, 1) := by decide +kernel
theorem dX10_printAll_92 : decode cX10_printAll 92 = .ok (.isub, 1) := by decide +kernel
theorem dX10_printAll_93 : decode cX10_printAll 93 = .ok (.laload, 1) := by decide +kernel
theorem dX10_printAll_94 : decode cX10_printAll 94 = .ok (.lstore 8, 2) := by decide +kernel
theorem dX10_printAll_96 : decode cX10_printAll 96 = .ok (.lload 8, 2) := by decide +kernel
theorem dX10_printAll_98 : decode cX10_printAll 98 = .ok (.invokestatic 205, 3) := by decide +kernel
theorem dX10_printAll_101 : decode cX10_printAll 101 = .ok (.ifCond .ne 7, 3) := by decide +kernel
theorem dX10_printAll_104 : decode cX10_printAll 104 = .ok (.iconst 1, 1) := by decide +kernel
theorem dX10_printAll_105 : decode cX10_printAll 105 = .ok (.goto 4, 3) := by decide +kernel
theorem dX10_printAll_108 : decode cX10_printAll 108 = .ok (.iconst 0, 1) := by decide +kernel
theorem dX10_printAll_109 : decode cX10_printAll 109 = .ok (.istore 7, 2) := by decide +kernel
theorem dX10_printAll_111 : decode cX10_printAll 111 = .ok (.iload 7, 2) := by decide +kernel
theorem dX10_printAll_113 : decode cX10_printAll 113 = .ok (.ifCond .eq 48, 3) := by decide +kernel
theorem dX10_printAll_116 : decode cX10_printAll 116 = .ok (.lload 8, 2) := by decide +kernel
theorem dX10_printAll_118 : decode cX10_printAll 118 = .ok (.ldc2_w 199, 3) := by decide +kernel
theorem dX10_printAll_121 : decode cX10_printAll 121 = .ok (.lcmp, 1) := by decide +kernel
theorem dX10_printAll_122 : decode cX10_printAll 122 = .ok (.ifCond .eq 27, 3) := by decide +kernel
theorem dX10_printAll_125 : decode cX10_printAll 125 = .ok (.aload_n 0, 1) := by decide +kernel
theorem dX10_printAll_126 : decode cX10_printAll 126 = .ok (.bipush 32, 2) := by decide +kernel
theorem dX10_printAll_128 : decode cX10_printAll 128 = .ok (.invokevirtual 338, 3) := by decide +kernel
theorem dX10_printAll_131 : decode cX10_printAll 131 = .ok (.aload_n 0, 1) := by decide +kernel
theorem dX10_printAll_132 : decode cX10_printAll 132 = .ok (.bipush 46, 2) := by decide +kernel
theorem dX10_printAll_134 : decode cX10_printAll 134 = .ok (.invokevirtual 338, 3) := by decide +kernel
theorem dX10_printAll_137 : decode cX10_printAll 137 = .ok (.aload_n 0, 1) := by decide +kernel
theorem dX10_printAll_138 : decode cX10_printAll 138 = .ok (.bipush 32, 2) := by decide +kernel
theorem dX10_printAll_140 : decode cX10_printAll 140 = .ok (.invokevirtual 338, 3) := by decide +kernel
theorem dX10_printAll_143 : decode cX10_printAll 143 = .ok (.aload_n 0, 1) := by decide +kernel
theorem dX10_printAll_144 : decode cX10_printAll 144 = .ok (.lload 8, 2) := by decide +kernel
theorem dX10_printAll_146 : decode cX10_printAll 146 = .ok (.invokevirtual 341, 3) := by decide +kernel
theorem dX10_printAll_149 : decode cX10_printAll 149 = .ok (.aload_n 0, 1) := by decide +kernel
theorem dX10_printAll_150 : decode cX10_printAll 150 = .ok (.bipush 41, 2) := by decide +kernel
theorem dX10_printAll_152 : decode cX10_printAll 152 = .ok (.invokevirtual 338, 3) := by decide +kernel
theorem dX10_printAll_155 : decode cX10_printAll 155 = .ok (.iinc 3 (-1), 3) := by decide +kernel
theorem dX10_printAll_158 : decode cX10_printAll 158 = .ok (.goto 31, 3) := by decide +kernel
theorem dX10_printAll_161 : decode cX10_printAll 161 = .ok (.aload_n 0, 1) := by decide +kernel
theorem dX10_printAll_162 : decode cX10_printAll 162 = .ok (.bipush 32, 2) := by decide +kernel
theorem dX10_printAll_164 : decode cX10_printAll 164 = .ok (.invokevirtual 338, 3) := by decide +kernel
theorem dX10_printAll_167 : decode cX10_printAll 167 = .ok (.aload_n 0, 1) := by decide +kernel
theorem dX10_printAll_168 : decode cX10_printAll 168 = .ok (.lload 8, 2) := by decide +kernel
theorem dX10_printAll_170 : decode cX10_printAll 170 = .ok (.invokevirtual 209, 3) := by decide +kernel
theorem dX10_printAll_173 : decode cX10_printAll 173 = .ok (.lstore 4, 2) := by decide +kernel
theorem dX10_printAll_175 : decode cX10_printAll 175 = .ok (.aload_n 0, 1) := by decide +kernel
theorem dX10_printAll_176 : decode cX10_printAll 176 = .ok (.getfield 64, 3) := by decide +kernel
theorem dX10_printAll_179 : decode cX10_printAll 179 = .ok (.iload_n 3, 1) := by decide +kernel
theorem dX10_printAll_180 : decode cX10_printAll 180 = .ok (.iconst 1, 1) := by decide +kernel
theorem dX10_printAll_181 : decode cX10_printAll 181 = .ok (.isub, 1) := by decide +kernel
theorem dX10_printAll_182 : decode cX10_printAll 182 = .ok (.aload_n 0, 1) := by decide +kernel
theorem dX10_printAll_183 : decode cX10_printAll 183 = .ok (.lload 8, 2) := by decide +kernel
theorem dX10_printAll_185 : decode cX10_printAll 185 = .ok (.invokevirtual 216, 3) := by decide +kernel
theorem dX10_printAll_188 : decode cX10_printAll 188 = .ok (.lastore, 1) := by decide +kernel
theorem dX10_printAll_189 : decode cX10_printAll 189 = .ok (.goto (-112), 3) := by decide +kernel
theorem dX10_printAll_192 : decode cX10_printAll 192 = .ok (.iload_n 3, 1) := by decide +kernel
theorem dX10_printAll_193 : decode cX10_printAll 193 = .ok (.ifCond .le 7, 3) := by decide +kernel
theorem dX10_printAll_196 : decode cX10_printAll 196 = .ok (.iconst 1, 1) := by decide +kernel
theorem dX10_printAll_197 : decode cX10_printAll 197 = .ok (.goto 4, 3) := by decide +kernel
theorem dX10_printAll_200 : decode cX10_printAll 200 = .ok (.iconst 0, 1) := by decide +kernel
theorem dX10_printAll_201 : decode cX10_printAll 201 = .ok (.istore 6, 2) := by decide +kernel
theorem dX10_printAll_203 : decode cX10_printAll 203 = .ok (.goto (-190), 3) := by decide +kernel
theorem dX10_printAll_206 : decode cX10_printAll 206 = .ok (.return_, 1) := by decide +kernel
theorem dX10_thrown_0 : decode cX10_thrown 0 = .ok (.aload_n 0, 1) := by decide +kernel
theorem dX10_thrown_1 : decode cX10_thrown 1 = .ok (.getfield 7, 3) := by decide +kernel
theorem dX10_thrown_4 : decode cX10_thrown 4 = .ok (.ireturn, 1) := by decide +kernel
theorem dX10_write_0 : decode cX10_write 0 = .ok (.aload_n 0, 1) := by decide +kernel
theorem dX10_write_1 : decode cX10_write 1 = .ok (.iconst 0, 1) := by decide +kernel
theorem dX10_write_2 : decode cX10_write 2 = .ok (.putfield 7, 3) := by decide +kernel
theorem dX10_write_5 : decode cX10_write 5 = .ok (.iconst 0, 1) := by decide +kernel
theorem dX10_write_6 : decode cX10_write 6 = .ok (.istore_n 3, 1) := by decide +kernel
theorem dX10_write_7 : decode cX10_write 7 = .ok (.bipush 56, 2) := by decide +kernel
theorem dX10_write_9 : decode cX10_write 9 = .ok (.istore 4, 2) := by decide +kernel
theorem dX10_write_11 : decode cX10_write 11 = .ok (.iload 4, 2) := by decide +kernel
theorem dX10_write_13 : decode cX10_write 13 = .ok (.ifCond .lt 61, 3) := by decide +kernel
theorem dX10_write_16 : decode cX10_write 16 = .ok (.lload_n 1, 1) := by decide +kernel
theorem dX10_write_17 : decode cX10_write 17 = .ok (.iload 4, 2) := by decide +kernel
theorem dX10_write_19 : decode cX10_write 19 = .ok (.lshr, 1) := by decide +kernel
theorem dX10_write_20 : decode cX10_write 20 = .ok (.l2i, 1) := by decide +kernel
theorem dX10_write_21 : decode cX10_write 21 = .ok (.sipush 255, 3) := by decide +kernel
theorem dX10_write_24 : decode cX10_write 24 = .ok (.iand, 1) := by decide +kernel
theorem dX10_write_25 : decode cX10_write 25 = .ok (.istore 5, 2) := by decide +kernel
theorem dX10_write_27 : decode cX10_write 27 = .ok (.iload 5, 2) := by decide +kernel
theorem dX10_write_29 : decode cX10_write 29 = .ok (.ifCond .eq 26, 3) := by decide +kernel
theorem dX10_write_32 : decode cX10_write 32 = .ok (.iload 5, 2) := by decide +kernel
theorem dX10_write_34 : decode cX10_write 34 = .ok (.bipush 10, 2) := by decide +kernel
theorem dX10_write_36 : decode cX10_write 36 = .ok (.if_icmp .eq 19, 3) := by decide +kernel
theorem dX10_write_39 : decode cX10_write 39 = .ok (.iload 5, 2) := by decide +kernel
theorem dX10_write_41 : decode cX10_write 41 = .ok (.bipush 32, 2) := by decide +kernel
theorem dX10_write_43 : decode cX10_write 43 = .ok (.if_icmp .lt 10, 3) := by decide +kernel
theorem dX10_write_46 : decode cX10_write 46 = .ok (.iload 5, 2) := by decide +kernel
theorem dX10_write_48 : decode cX10_write 48 = .ok (.bipush 126, 2) := by decide +kernel
theorem dX10_write_50 : decode cX10_write 50 = .ok (.if_icmp .le 5, 3) := by decide +kernel
theorem dX10_write_53 : decode cX10_write 53 = .ok (.iconst 0, 1) := by decide +kernel
theorem dX10_write_54 : decode cX10_write 54 = .ok (.ireturn, 1) := by decide +kernel
theorem dX10_write_55 : decode cX10_write 55 = .ok (.iload_n 3, 1) := by decide +kernel
theorem dX10_write_56 : decode cX10_write 56 = .ok (.iload 5, 2) := by decide +kernel
theorem dX10_write_58 : decode cX10_write 58 = .ok (.ifCond .eq 7, 3) := by decide +kernel
theorem dX10_write_61 : decode cX10_write 61 = .ok (.iconst 1, 1) := by decide +kernel
theorem dX10_write_62 : decode cX10_write 62 = .ok (.goto 4, 3) := by decide +kernel
theorem dX10_write_65 : decode cX10_write 65 = .ok (.iconst 0, 1) := by decide +kernel
theorem dX10_write_66 : decode cX10_write 66 = .ok (.iadd, 1) := by decide +kernel
theorem dX10_write_67 : decode cX10_write 67 = .ok (.istore_n 3, 1) := by decide +kernel
theorem dX10_write_68 : decode cX10_write 68 = .ok (.iinc 4 (-8), 3) := by decide +kernel
theorem dX10_write_71 : decode cX10_write 71 = .ok (.goto (-60), 3) := by decide +kernel
theorem dX10_write_74 : decode cX10_write 74 = .ok (.aload_n 0, 1) := by decide +kernel
theorem dX10_write_75 : decode cX10_write 75 = .ok (.getfield 26, 3) := by decide +kernel
theorem dX10_write_78 : decode cX10_write 78 = .ok (.iload_n 3, 1) := by decide +kernel
theorem dX10_write_79 : decode cX10_write 79 = .ok (.iadd, 1) := by decide +kernel
theorem dX10_write_80 : decode cX10_write 80 = .ok (.sipush 2000, 3) := by decide +kernel
theorem dX10_write_83 : decode cX10_write 83 = .ok (.if_icmp .le 5, 3) := by decide +kernel
theorem dX10_write_86 : decode cX10_write 86 = .ok (.iconst 0, 1) := by decide +kernel
theorem dX10_write_87 : decode cX10_write 87 = .ok (.ireturn, 1) := by decide +kernel
theorem dX10_write_88 : decode cX10_write 88 = .ok (.bipush 56, 2) := by decide +kernel
theorem dX10_write_90 : decode cX10_write 90 = .ok (.istore 4, 2) := by decide +kernel
theorem dX10_write_92 : decode cX10_write 92 = .ok (.iload 4, 2) := by decide +kernel
theorem dX10_write_94 : decode cX10_write 94 = .ok (.ifCond .lt 46, 3) := by decide +kernel
theorem dX10_write_97 : decode cX10_write 97 = .ok (.lload_n 1, 1) := by decide +kernel
theorem dX10_write_98 : decode cX10_write 98 = .ok (.iload 4, 2) := by decide +kernel
theorem dX10_write_100 : decode cX10_write 100 = .ok (.lshr, 1) := by decide +kernel
theorem dX10_write_101 : decode cX10_write 101 = .ok (.l2i, 1) := by decide +kernel
theorem dX10_write_102 : decode cX10_write 102 = .ok (.sipush 255, 3) := by decide +kernel
theorem dX10_write_105 : decode cX10_write 105 = .ok (.iand, 1) := by decide +kernel
theorem dX10_write_106 : decode cX10_write 106 = .ok (.istore 5, 2) := by decide +kernel
theorem dX10_write_108 : decode cX10_write 108 = .ok (.iload 5, 2) := by decide +kernel
theorem dX10_write_110 : decode cX10_write 110 = .ok (.ifCond .eq 24, 3) := by decide +kernel
theorem dX10_write_113 : decode cX10_write 113 = .ok (.aload_n 0, 1) := by decide +kernel
theorem dX10_write_114 : decode cX10_write 114 = .ok (.getfield 22, 3) := by decide +kernel
theorem dX10_write_117 : decode cX10_write 117 = .ok (.aload_n 0, 1) := by decide +kernel
theorem dX10_write_118 : decode cX10_write 118 = .ok (.getfield 26, 3) := by decide +kernel
theorem dX10_write_121 : decode cX10_write 121 = .ok (.iload 5, 2) := by decide +kernel
theorem dX10_write_123 : decode cX10_write 123 = .ok (.iastore, 1) := by decide +kernel
theorem dX10_write_124 : decode cX10_write 124 = .ok (.aload_n 0, 1) := by decide +kernel
theorem dX10_write_125 : decode cX10_write 125 = .ok (.dup, 1) := by decide +kernel
theorem dX10_write_126 : decode cX10_write 126 = .ok (.getfield 26, 3) := by decide +kernel
theorem dX10_write_129 : decode cX10_write 129 = .ok (.iconst 1, 1) := by decide +kernel
theorem dX10_write_130 : decode cX10_write 130 = .ok (.iadd, 1) := by decide +kernel
theorem dX10_write_131 : decode cX10_write 131 = .ok (.putfield 26, 3) := by decide +kernel
theorem dX10_write_134 : decode cX10_write 134 = .ok (.iinc 4 (-8), 3) := by decide +kernel
theorem dX10_write_137 : decode cX10_write 137 = .ok (.goto (-45), 3) := by decide +kernel
theorem dX10_write_140 : decode cX10_write 140 = .ok (.iconst 1, 1) := by decide +kernel
theorem dX10_write_141 : decode cX10_write 141 = .ok (.ireturn, 1) := by decide +kernel
theorem dX10_clear_0 : decode cX10_clear 0 = .ok (.aload_n 0, 1) := by decide +kernel
theorem dX10_clear_1 : decode cX10_clear 1 = .ok (.iconst 0, 1) := by decide +kernel
theorem dX10_clear_2 : decode cX10_clear 2 = .ok (.putfield 7, 3) := by decide +kernel
theorem dX10_clear_5 : decode cX10_clear 5 = .ok (.aload_n 0, 1) := by decide +kernel
theorem dX10_clear_6 : decode cX10_clear 6 = .ok (.iconst 0, 1) := by decide +kernel
theorem dX10_clear_7 : decode cX10_clear 7 = .ok (.putfield 26, 3) := by decide +kernel
theorem dX10_clear_10 : decode cX10_clear 10 = .ok (.aload_n 0, 1) := by decide +kernel
theorem dX10_clear_11 : decode cX10_clear 11 = .ok (.iconst 0, 1) := by decide +kernel
theorem dX10_clear_12 : decode cX10_clear 12 = .ok (.putfield 29, 3) := by decide +kernel
theorem dX10_clear_15 : decode cX10_clear 15 = .ok (.aload_n 0, 1) := by decide +kernel
theorem dX10_clear_16 : decode cX10_clear 16 = .ok (.iconst 0, 1) := by decide +kernel
theorem dX10_clear_17 : decode cX10_clear 17 = .ok (.putfield 32, 3) := by decide +kernel
theorem dX10_clear_20 : decode cX10_clear 20 = .ok (.return_, 1) := by decide +kernel
theorem dX10_next_0 : decode cX10_next 0 = .ok (.aload_n 0, 1) := by decide +kernel
theorem dX10_next_1 : decode cX10_next 1 = .ok (.iconst 0, 1) := by decide +kernel
theorem dX10_next_2 : decode cX10_next 2 = .ok (.putfield 7, 3) := by decide +kernel
theorem dX10_next_5 : decode cX10_next 5 = .ok (.aload_n 0, 1) := by decide +kernel
theorem dX10_next_6 : decode cX10_next 6 = .ok (.iconst 0, 1) := by decide +kernel
theorem dX10_next_7 : decode cX10_next 7 = .ok (.putfield 47, 3) := by decide +kernel
theorem dX10_next_10 : decode cX10_next 10 = .ok (.aload_n 0, 1) := by decide +kernel
theorem dX10_next_11 : decode cX10_next 11 = .ok (.iconst 0, 1) := by decide +kernel
theorem dX10_next_12 : decode cX10_next 12 = .ok (.putfield 35, 3) := by decide +kernel
theorem dX10_next_15 : decode cX10_next 15 = .ok (.aload_n 0, 1) := by decide +kernel
theorem dX10_next_16 : decode cX10_next 16 = .ok (.iconst 0, 1) := by decide +kernel
theorem dX10_next_17 : decode cX10_next 17 = .ok (.putfield 38, 3) := by decide +kernel
theorem dX10_next_20 : decode cX10_next 20 = .ok (.aload_n 0, 1) := by decide +kernel
theorem dX10_next_21 : decode cX10_next 21 = .ok (.iconst 0, 1) := by decide +kernel
theorem dX10_next_22 : decode cX10_next 22 = .ok (.putfield 41, 3) := by decide +kernel
theorem dX10_next_25 : decode cX10_next 25 = .ok (.aload_n 0, 1) := by decide +kernel
theorem dX10_next_26 : decode cX10_next 26 = .ok (.getfield 29, 3) := by decide +kernel
theorem dX10_next_29 : decode cX10_next 29 = .ok (.aload_n 0, 1) := by decide +kernel
theorem dX10_next_30 : decode cX10_next 30 = .ok (.getfield 26, 3) := by decide +kernel
theorem dX10_next_33 : decode cX10_next 33 = .ok (.if_icmp .ge 31, 3) := by decide +kernel
theorem dX10_next_36 : decode cX10_next 36 = .ok (.aload_n 0, 1) := by decide +kernel
theorem dX10_next_37 : decode cX10_next 37 = .ok (.getfield 22, 3) := by decide +kernel
theorem dX10_next_40 : decode cX10_next 40 = .ok (.aload_n 0, 1) := by decide +kernel
theorem dX10_next_41 : decode cX10_next 41 = .ok (.getfield 29, 3) := by decide +kernel
theorem dX10_next_44 : decode cX10_next 44 = .ok (.iaload, 1) := by decide +kernel
theorem dX10_next_45 : decode cX10_next 45 = .ok (.invokestatic 248, 3) := by decide +kernel
theorem dX10_next_48 : decode cX10_next 48 = .ok (.ifCond .eq 16, 3) := by decide +kernel
theorem dX10_next_51 : decode cX10_next 51 = .ok (.aload_n 0, 1) := by decide +kernel
theorem dX10_next_52 : decode cX10_next 52 = .ok (.dup, 1) := by decide +kernel
theorem dX10_next_53 : decode cX10_next 53 = .ok (.getfield 29, 3) := by decide +kernel
theorem dX10_next_56 : decode cX10_next 56 = .ok (.iconst 1, 1) := by decide +kernel
theorem dX10_next_57 : decode cX10_next 57 = .ok (.iadd, 1) := by decide +kernel
theorem dX10_next_58 : decode cX10_next 58 = .ok (.putfield 29, 3) := by decide +kernel
theorem dX10_next_61 : decode cX10_next 61 = .ok (.goto (-36), 3) := by decide +kernel
theorem dX10_next_64 : decode cX10_next 64 = .ok (.aload_n 0, 1) := by decide +kernel
theorem dX10_next_65 : decode cX10_next 65 = .ok (.aload_n 0, 1) := by decide +kernel
theorem dX10_next_66 : decode cX10_next 66 = .ok (.getfield 29, 3) := by decide +kernel
theorem dX10_next_69 : decode cX10_next 69 = .ok (.putfield 32, 3) := by decide +kernel
theorem dX10_next_72 : decode cX10_next 72 = .ok (.aload_n 0, 1) := by decide +kernel
theorem dX10_next_73 : decode cX10_next 73 = .ok (.getfield 29, 3) := by decide +kernel
theorem dX10_next_76 : decode cX10_next 76 = .ok (.aload_n 0, 1) := by decide +kernel
theorem dX10_next_77 : decode cX10_next 77 = .ok (.getfield 26, 3) := by decide +kernel
theorem dX10_next_80 : decode cX10_next 80 = .ok (.if_icmp .ne 5, 3) := by decide +kernel
theorem dX10_next_83 : decode cX10_next 83 = .ok (.iconst 0, 1) := by decide +kernel
theorem dX10_next_84 : decode cX10_next 84 = .ok (.ireturn, 1) := by decide +kernel
theorem dX10_next_85 : decode cX10_next 85 = .ok (.aload_n 0, 1) := by decide +kernel
theorem dX10_next_86 : decode cX10_next 86 = .ok (.iconst 0, 1) := by decide +kernel
theorem dX10_next_87 : decode cX10_next 87 = .ok (.putfield 82, 3) := by decide +kernel
theorem dX10_next_90 : decode cX10_next 90 = .ok (.aload_n 0, 1) := by decide +kernel
theorem dX10_next_91 : decode cX10_next 91 = .ok (.iconst 0, 1) := by decide +kernel
theorem dX10_next_92 : decode cX10_next 92 = .ok (.putfield 85, 3) := by decide +kernel
theorem dX10_next_95 : decode cX10_next 95 = .ok (.aload_n 0, 1) := by decide +kernel
theorem dX10_next_96 : decode cX10_next 96 = .ok (.iconst 0, 1) := by decide +kernel
theorem dX10_next_97 : decode cX10_next 97 = .ok (.aload_n 0, 1) := by decide +kernel
theorem dX10_next_98 : decode cX10_next 98 = .ok (.getfield 29, 3) := by decide +kernel
theorem dX10_next_101 : decode cX10_next 101 = .ok (.invokevirtual 344, 3) := by decide +kernel
theorem dX10_next_104 : decode cX10_next 104 = .ok (.istore_n 1, 1) := by decide +kernel
theorem dX10_next_105 : decode cX10_next 105 = .ok (.iload_n 1, 1) := by decide +kernel
theorem dX10_next_106 : decode cX10_next 106 = .ok (.ifCond .ge 31, 3) := by decide +kernel
theorem dX10_next_109 : decode cX10_next 109 = .ok (.aload_n 0, 1) := by decide +kernel
theorem dX10_next_110 : decode cX10_next 110 = .ok (.bipush 10, 2) := by decide +kernel
theorem dX10_next_112 : decode cX10_next 112 = .ok (.putfield 35, 3) := by decide +kernel
theorem dX10_next_115 : decode cX10_next 115 = .ok (.aload_n 0, 1) := by decide +kernel
theorem dX10_next_116 : decode cX10_next 116 = .ok (.iconst 1, 1) := by decide +kernel
theorem dX10_next_117 : decode cX10_next 117 = .ok (.putfield 7, 3) := by decide +kernel
theorem dX10_next_120 : decode cX10_next 120 = .ok (.aload_n 0, 1) := by decide +kernel
theorem dX10_next_121 : decode cX10_next 121 = .ok (.iconst (-1), 1) := by decide +kernel
theorem dX10_next_122 : decode cX10_next 122 = .ok (.iload_n 1, 1) := by decide +kernel
theorem dX10_next_123 : decode cX10_next 123 = .ok (.isub, 1) := by decide +kernel
theorem dX10_next_124 : decode cX10_next 124 = .ok (.putfield 32, 3) := by decide +kernel
theorem dX10_next_127 : decode cX10_next 127 = .ok (.aload_n 0, 1) := by decide +kernel
theorem dX10_next_128 : decode cX10_next 128 = .ok (.aload_n 0, 1) := by decide +kernel
theorem dX10_next_129 : decode cX10_next 129 = .ok (.getfield 26, 3) := by decide +kernel
theorem dX10_next_132 : decode cX10_next 132 = .ok (.putfield 29, 3) := by decide +kernel
theorem dX10_next_135 : decode cX10_next 135 = .ok (.iconst 0, 1) := by decide +kernel
theorem dX10_next_136 : decode cX10_next 136 = .ok (.ireturn, 1) := by decide +kernel
theorem dX10_next_137 : decode cX10_next 137 = .ok (.aload_n 0, 1) := by decide +kernel
theorem dX10_next_138 : decode cX10_next 138 = .ok (.getfield 29, 3) := by decide +kernel
theorem dX10_next_141 : decode cX10_next 141 = .ok (.istore_n 2, 1) := by decide +kernel
theorem dX10_next_142 : decode cX10_next 142 = .ok (.aload_n 0, 1) := by decide +kernel
theorem dX10_next_143 : decode cX10_next 143 = .ok (.iload_n 1, 1) := by decide +kernel
theorem dX10_next_144 : decode cX10_next 144 = .ok (.putfield 29, 3) := by decide +kernel
theorem dX10_next_147 : decode cX10_next 147 = .ok (.aload_n 0, 1) := by decide +kernel
theorem dX10_next_148 : decode cX10_next 148 = .ok (.iload_n 1, 1) := by decide +kernel
theorem dX10_next_149 : decode cX10_next 149 = .ok (.putfield 32, 3) := by decide +kernel
theorem dX10_next_152 : decode cX10_next 152 = .ok (.aload_n 0, 1) := by decide +kernel
theorem dX10_next_153 : decode cX10_next 153 = .ok (.getfield 85, 3) := by decide +kernel
theorem dX10_next_156 : decode cX10_next 156 = .ok (.ifCond .eq 12, 3) := by decide +kernel
theorem dX10_next_159 : decode cX10_next 159 = .ok (.aload_n 0, 1) := by decide +kernel
theorem dX10_next_160 : decode cX10_next 160 = .ok (.bipush 9, 2) := by decide +kernel
theorem dX10_next_162 : decode cX10_next 162 = .ok (.invokevirtual 265, 3) := by decide +kernel
theorem dX10_next_165 : decode cX10_next 165 = .ok (.goto 86, 3) := by decide +kernel
theorem dX10_next_168 : decode cX10_next 168 = .ok (.iconst 0, 1) := by decide +kernel
theorem dX10_next_169 : decode cX10_next 169 = .ok (.istore_n 3, 1) := by decide +kernel
theorem dX10_next_170 : decode cX10_next 170 = .ok (.iload_n 3, 1) := by decide +kernel
theorem dX10_next_171 : decode cX10_next 171 = .ok (.aload_n 0, 1) := by decide +kernel
theorem dX10_next_172 : decode cX10_next 172 = .ok (.getfield 82, 3) := by decide +kernel
theorem dX10_next_175 : decode cX10_next 175 = .ok (.if_icmp .ge 46, 3) := by decide +kernel
theorem dX10_next_178 : decode cX10_next 178 = .ok (.aload_n 0, 1) := by decide +kernel
theorem dX10_next_179 : decode cX10_next 179 = .ok (.getfield 70, 3) := by decide +kernel
theorem dX10_next_182 : decode cX10_next 182 = .ok (.aload_n 0, 1) := by decide +kernel
theorem dX10_next_183 : decode cX10_next 183 = .ok (.getfield 76, 3) := by decide +kernel
theorem dX10_next_186 : decode cX10_next 186 = .ok (.aload_n 0, 1) := by decide +kernel
theorem dX10_next_187 : decode cX10_next 187 = .ok (.getfield 79, 3) := by decide +kernel
theorem dX10_next_190 : decode cX10_next 190 = .ok (.iload_n 3, 1) := by decide +kernel
theorem dX10_next_191 : decode cX10_next 191 = .ok (.laload, 1) := by decide +kernel
theorem dX10_next_192 : decode cX10_next 192 = .ok (.lastore, 1) := by decide +kernel
theorem dX10_next_193 : decode cX10_next 193 = .ok (.aload_n 0, 1) := by decide +kernel
theorem dX10_next_194 : decode cX10_next 194 = .ok (.getfield 73, 3) := by decide +kernel
theorem dX10_next_197 : decode cX10_next 197 = .ok (.aload_n 0, 1) := by decide +kernel
theorem dX10_next_198 : decode cX10_next 198 = .ok (.getfield 76, 3) := by decide +kernel
theorem dX10_next_201 : decode cX10_next 201 = .ok (.ldc2_w 197, 3) := by decide +kernel
theorem dX10_next_204 : decode cX10_next 204 = .ok (.lastore, 1) := by decide +kernel
theorem dX10_next_205 : decode cX10_next 205 = .ok (.aload_n 0, 1) := by decide +kernel
theorem dX10_next_206 : decode cX10_next 206 = .ok (.dup, 1) := by decide +kernel
theorem dX10_next_207 : decode cX10_next 207 = .ok (.getfield 76, 3) := by decide +kernel
theorem dX10_next_210 : decode cX10_next 210 = .ok (.iconst 1, 1) := by decide +kernel
theorem dX10_next_211 : decode cX10_next 211 = .ok (.iadd, 1) := by decide +kernel
theorem dX10_next_212 : decode cX10_next 212 = .ok (.putfield 76, 3) := by decide +kernel
theorem dX10_next_215 : decode cX10_next 215 = .ok (.iinc 3 1, 3) := by decide +kernel
theorem dX10_next_218 : decode cX10_next 218 = .ok (.goto (-48), 3) := by decide +kernel
theorem dX10_next_221 : decode cX10_next 221 = .ok (.aload_n 0, 1) := by decide +kernel
theorem dX10_next_222 : decode cX10_next 222 = .ok (.invokevirtual 222, 3) := by decide +kernel
theorem dX10_next_225 : decode cX10_next 225 = .ok (.aload_n 0, 1) := by decide +kernel
theorem dX10_next_226 : decode cX10_next 226 = .ok (.aload_n 0, 1) := by decide +kernel
theorem dX10_next_227 : decode cX10_next 227 = .ok (.getfield 104, 3) := by decide +kernel
theorem dX10_next_230 : decode cX10_next 230 = .ok (.invokevirtual 307, 3) := by decide +kernel
theorem dX10_next_233 : decode cX10_next 233 = .ok (.ifCond .eq 18, 3) := by decide +kernel
theorem dX10_next_236 : decode cX10_next 236 = .ok (.aload_n 0, 1) := by decide +kernel
theorem dX10_next_237 : decode cX10_next 237 = .ok (.iconst 1, 1) := by decide +kernel
theorem dX10_next_238 : decode cX10_next 238 = .ok (.iload_n 2, 1) := by decide +kernel
theorem dX10_next_239 : decode cX10_next 239 = .ok (.invokevirtual 344, 3) := by decide +kernel
theorem dX10_next_242 : decode cX10_next 242 = .ok (.pop, 1) := by decide +kernel
theorem dX10_next_243 : decode cX10_next 243 = .ok (.aload_n 0, 1) := by decide +kernel
theorem dX10_next_244 : decode cX10_next 244 = .ok (.aload_n 0, 1) := by decide +kernel
theorem dX10_next_245 : decode cX10_next 245 = .ok (.getfield 107, 3) := by decide +kernel
theorem dX10_next_248 : decode cX10_next 248 = .ok (.invokevirtual 347, 3) := by decide +kernel
theorem dX10_next_251 : decode cX10_next 251 = .ok (.aload_n 0, 1) := by decide +kernel
theorem dX10_next_252 : decode cX10_next 252 = .ok (.aload_n 0, 1) := by decide +kernel
theorem dX10_next_253 : decode cX10_next 253 = .ok (.getfield 35, 3) := by decide +kernel
theorem dX10_next_256 : decode cX10_next 256 = .ok (.ifCond .ne 7, 3) := by decide +kernel
theorem dX10_next_259 : decode cX10_next 259 = .ok (.iconst 0, 1) := by decide +kernel
theorem dX10_next_260 : decode cX10_next 260 = .ok (.goto 4, 3) := by decide +kernel
theorem dX10_next_263 : decode cX10_next 263 = .ok (.iconst 2, 1) := by decide +kernel
theorem dX10_next_264 : decode cX10_next 264 = .ok (.putfield 7, 3) := by decide +kernel
theorem dX10_next_267 : decode cX10_next 267 = .ok (.aload_n 0, 1) := by decide +kernel
theorem dX10_next_268 : decode cX10_next 268 = .ok (.getfield 35, 3) := by decide +kernel
theorem dX10_next_271 : decode cX10_next 271 = .ok (.ifCond .eq 5, 3) := by decide +kernel
theorem dX10_next_274 : decode cX10_next 274 = .ok (.iconst 0, 1) := by decide +kernel
theorem dX10_next_275 : decode cX10_next 275 = .ok (.ireturn, 1) := by decide +kernel
theorem dX10_next_276 : decode cX10_next 276 = .ok (.aload_n 0, 1) := by decide +kernel
theorem dX10_next_277 : decode cX10_next 277 = .ok (.aload_n 0, 1) := by decide +kernel
theorem dX10_next_278 : decode cX10_next 278 = .ok (.getfield 135, 3) := by decide +kernel
theorem dX10_next_281 : decode cX10_next 281 = .ok (.invokevirtual 350, 3) := by decide +kernel
theorem dX10_next_284 : decode cX10_next 284 = .ok (.iconst 1, 1) := by decide +kernel
theorem dX10_next_285 : decode cX10_next 285 = .ok (.ireturn, 1) := by decide +kernel
theorem dX10_fault_0 : decode cX10_fault 0 = .ok (.aload_n 0, 1) := by decide +kernel
theorem dX10_fault_1 : decode cX10_fault 1 = .ok (.iconst 0, 1) := by decide +kernel
theorem dX10_fault_2 : decode cX10_fault 2 = .ok (.putfield 7, 3) := by decide +kernel
theorem dX10_fault_5 : decode cX10_fault 5 = .ok (.aload_n 0, 1) := by decide +kernel
theorem dX10_fault_6 : decode cX10_fault 6 = .ok (.getfield 35, 3) := by decide +kernel
theorem dX10_fault_9 : decode cX10_fault 9 = .ok (.ireturn, 1) := by decide +kernel
theorem dX10_place_0 : decode cX10_place 0 = .ok (.aload_n 0, 1) := by decide +kernel
theorem dX10_place_1 : decode cX10_place 1 = .ok (.iconst 0, 1) := by decide +kernel
theorem dX10_place_2 : decode cX10_place 2 = .ok (.putfield 7, 3) := by decide +kernel
theorem dX10_place_5 : decode cX10_place 5 = .ok (.aload_n 0, 1) := by decide +kernel
theorem dX10_place_6 : decode cX10_place 6 = .ok (.getfield 32, 3) := by decide +kernel
theorem dX10_place_9 : decode cX10_place 9 = .ok (.ireturn, 1) := by decide +kernel
theorem dX10_size_0 : decode cX10_size 0 = .ok (.aload_n 0, 1) := by decide +kernel
theorem dX10_size_1 : decode cX10_size 1 = .ok (.iconst 0, 1) := by decide +kernel
theorem dX10_size_2 : decode cX10_size 2 = .ok (.putfield 7, 3) := by decide +kernel
theorem dX10_size_5 : decode cX10_size 5 = .ok (.aload_n 0, 1) := by decide +kernel
theorem dX10_size_6 : decode cX10_size 6 = .ok (.getfield 47, 3) := by decide +kernel
theorem dX10_size_9 : decode cX10_size 9 = .ok (.ireturn, 1) := by decide +kernel
theorem dX10_out_0 : decode cX10_out 0 = .ok (.aload_n 0, 1) := by decide +kernel
theorem dX10_out_1 : decode cX10_out 1 = .ok (.iconst 0, 1) := by decide +kernel
theorem dX10_out_2 : decode cX10_out 2 = .ok (.putfield 7, 3) := by decide +kernel
theorem dX10_out_5 : decode cX10_out 5 = .ok (.iload_n 1, 1) := by decide +kernel
theorem dX10_out_6 : decode cX10_out 6 = .ok (.ifCond .lt 11, 3) := by decide +kernel
theorem dX10_out_9 : decode cX10_out 9 = .ok (.iload_n 1, 1) := by decide +kernel
theorem dX10_out_10 : decode cX10_out 10 = .ok (.aload_n 0, 1) := by decide +kernel
theorem dX10_out_11 : decode cX10_out 11 = .ok (.getfield 47, 3) := by decide +kernel
theorem dX10_out_14 : decode cX10_out 14 = .ok (.if_icmp .lt 7, 3) := by decide +kernel
theorem dX10_out_17 : decode cX10_out 17 = .ok (.iconst (-1), 1) := by decide +kernel
theorem dX10_out_18 : decode cX10_out 18 = .ok (.goto 9, 3) := by decide +kernel
theorem dX10_out_21 : decode cX10_out 21 = .ok (.aload_n 0, 1) := by decide +kernel
theorem dX10_out_22 : decode cX10_out 22 = .ok (.getfield 44, 3) := by decide +kernel
theorem dX10_out_25 : decode cX10_out 25 = .ok (.iload_n 1, 1) := by decide +kernel
theorem dX10_out_26 : decode cX10_out 26 = .ok (.iaload, 1) := by decide +kernel
theorem dX10_out_27 : decode cX10_out 27 = .ok (.ireturn, 1) := by decide +kernel
theorem dX10_count_0 : decode cX10_count 0 = .ok (.aload_n 0, 1) := by decide +kernel
theorem dX10_count_1 : decode cX10_count 1 = .ok (.iconst 0, 1) := by decide +kernel
theorem dX10_count_2 : decode cX10_count 2 = .ok (.putfield 7, 3) := by decide +kernel
theorem dX10_count_5 : decode cX10_count 5 = .ok (.iload_n 1, 1) := by decide +kernel
theorem dX10_count_6 : decode cX10_count 6 = .ok (.ifCond .ne 8, 3) := by decide +kernel
theorem dX10_count_9 : decode cX10_count 9 = .ok (.aload_n 0, 1) := by decide +kernel
theorem dX10_count_10 : decode cX10_count 10 = .ok (.getfield 38, 3) := by decide +kernel
theorem dX10_count_13 : decode cX10_count 13 = .ok (.ireturn, 1) := by decide +kernel
theorem dX10_count_14 : decode cX10_count 14 = .ok (.iload_n 1, 1) := by decide +kernel
theorem dX10_count_15 : decode cX10_count 15 = .ok (.iconst 2, 1) := by decide +kernel
theorem dX10_count_16 : decode cX10_count 16 = .ok (.if_icmp .ne 8, 3) := by decide +kernel
theorem dX10_count_19 : decode cX10_count 19 = .ok (.aload_n 0, 1) := by decide +kernel
theorem dX10_count_20 : decode cX10_count 20 = .ok (.getfield 76, 3) := by decide +kernel
theorem dX10_count_23 : decode cX10_count 23 = .ok (.ireturn, 1) := by decide +kernel
theorem dX10_count_24 : decode cX10_count 24 = .ok (.iload_n 1, 1) := by decide +kernel
theorem dX10_count_25 : decode cX10_count 25 = .ok (.iconst 3, 1) := by decide +kernel
theorem dX10_count_26 : decode cX10_count 26 = .ok (.if_icmp .ne 8, 3) := by decide +kernel
theorem dX10_count_29 : decode cX10_count 29 = .ok (.aload_n 0, 1) := by decide +kernel
theorem dX10_count_30 : decode cX10_count 30 = .ok (.getfield 41, 3) := by decide +kernel
theorem dX10_count_33 : decode cX10_count 33 = .ok (.ireturn, 1) := by decide +kernel
theorem dX10_count_34 : decode cX10_count 34 = .ok (.iload_n 1, 1) := by decide +kernel
theorem dX10_count_35 : decode cX10_count 35 = .ok (.iconst 1, 1) := by decide +kernel
theorem dX10_count_36 : decode cX10_count 36 = .ok (.if_icmp .eq 5, 3) := by decide +kernel
theorem dX10_count_39 : decode cX10_count 39 = .ok (.iconst (-1), 1) := by decide +kernel
theorem dX10_count_40 : decode cX10_count 40 = .ok (.ireturn, 1) := by decide +kernel
theorem dX10_count_41 : decode cX10_count 41 = .ok (.aload_n 0, 1) := by decide +kernel
theorem dX10_count_42 : decode cX10_count 42 = .ok (.invokevirtual 222, 3) := by decide +kernel
theorem dX10_count_45 : decode cX10_count 45 = .ok (.aload_n 0, 1) := by decide +kernel
theorem dX10_count_46 : decode cX10_count 46 = .ok (.getfield 61, 3) := by decide +kernel
theorem dX10_count_49 : decode cX10_count 49 = .ok (.ireturn, 1) := by decide +kernel
end
section
theorem dL_cell_0 : decode cL_cell 0 = .ok (.iload_n 1, 1) := by decide +kernel
theorem dL_cell_1 : decode cL_cell 1 = .ok (.aload_n 0, 1) := by decide +kernel
theorem dL_cell_2 : decode cL_cell 2 = .ok (.arraylength, 1) := by decide +kernel
theorem dL_cell_3 : decode cL_cell 3 = .ok (.if_icmp .ge 9, 3) := by decide +kernel
theorem dL_cell_6 : decode cL_cell 6 = .ok (.aload_n 0, 1) := by decide +kernel
theorem dL_cell_7 : decode cL_cell 7 = .ok (.iload_n 1, 1) := by decide +kernel
theorem dL_cell_8 : decode cL_cell 8 = .ok (.iaload, 1) := by decide +kernel
theorem dL_cell_9 : decode cL_cell 9 = .ok (.goto 4, 3) := by decide +kernel
theorem dL_cell_12 : decode cL_cell 12 = .ok (.iconst 0, 1) := by decide +kernel
theorem dL_cell_13 : decode cL_cell 13 = .ok (.ireturn, 1) := by decide +kernel
theorem dL_next_0 : decode cL_next 0 = .ok (.aload_n 1, 1) := by decide +kernel
theorem dL_next_1 : decode cL_next 1 = .ok (.iconst 0, 1) := by decide +kernel
theorem dL_next_2 : decode cL_next 2 = .ok (.aload_n 0, 1) := by decide +kernel
theorem dL_next_3 : decode cL_next 3 = .ok (.invokevirtual 7, 3) := by decide +kernel
theorem dL_next_6 : decode cL_next 6 = .ok (.i2l, 1) := by decide +kernel
theorem dL_next_7 : decode cL_next 7 = .ok (.lastore, 1) := by decide +kernel
theorem dL_next_8 : decode cL_next 8 = .ok (.goto 9, 3) := by decide +kernel
theorem dL_next_11 : decode cL_next 11 = .ok (.astore_n 2, 1) := by decide +kernel
theorem dL_next_12 : decode cL_next 12 = .ok (.iconst 1, 1) := by decide +kernel
theorem dL_next_13 : decode cL_next 13 = .ok (.ireturn, 1) := by decide +kernel
theorem dL_next_14 : decode cL_next 14 = .ok (.astore_n 2, 1) := by decide +kernel
theorem dL_next_15 : decode cL_next 15 = .ok (.iconst 2, 1) := by decide +kernel
theorem dL_next_16 : decode cL_next 16 = .ok (.ireturn, 1) := by decide +kernel
theorem dL_next_17 : decode cL_next 17 = .ok (.iconst 0, 1) := by decide +kernel
theorem dL_next_18 : decode cL_next 18 = .ok (.ireturn, 1) := by decide +kernel
theorem dL_law_0 : decode cL_law 0 = .ok (.new 8, 3) := by decide +kernel
theorem dL_law_3 : decode cL_law 3 = .ok (.dup, 1) := by decide +kernel
theorem dL_law_4 : decode cL_law 4 = .ok (.aload_n 0, 1) := by decide +kernel
theorem dL_law_5 : decode cL_law 5 = .ok (.iconst 0, 1) := by decide +kernel
theorem dL_law_6 : decode cL_law 6 = .ok (.invokestatic 17, 3) := by decide +kernel
theorem dL_law_9 : decode cL_law 9 = .ok (.aload_n 0, 1) := by decide +kernel
theorem dL_law_10 : decode cL_law 10 = .ok (.iconst 1, 1) := by decide +kernel
theorem dL_law_11 : decode cL_law 11 = .ok (.invokestatic 17, 3) := by decide +kernel
theorem dL_law_14 : decode cL_law 14 = .ok (.aload_n 0, 1) := by decide +kernel
theorem dL_law_15 : decode cL_law 15 = .ok (.iconst 2, 1) := by decide +kernel
theorem dL_law_16 : decode cL_law 16 = .ok (.invokestatic 17, 3) := by decide +kernel
theorem dL_law_19 : decode cL_law 19 = .ok (.invokespecial 23, 3) := by decide +kernel
theorem dL_law_22 : decode cL_law 22 = .ok (.astore_n 1, 1) := by decide +kernel
theorem dL_law_23 : decode cL_law 23 = .ok (.new 26, 3) := by decide +kernel
theorem dL_law_26 : decode cL_law 26 = .ok (.dup, 1) := by decide +kernel
theorem dL_law_27 : decode cL_law 27 = .ok (.aload_n 0, 1) := by decide +kernel
theorem dL_law_28 : decode cL_law 28 = .ok (.iconst 0, 1) := by decide +kernel
theorem dL_law_29 : decode cL_law 29 = .ok (.invokestatic 17, 3) := by decide +kernel
theorem dL_law_32 : decode cL_law 32 = .ok (.aload_n 0, 1) := by decide +kernel
theorem dL_law_33 : decode cL_law 33 = .ok (.iconst 1, 1) := by decide +kernel
theorem dL_law_34 : decode cL_law 34 = .ok (.invokestatic 17, 3) := by decide +kernel
theorem dL_law_37 : decode cL_law 37 = .ok (.aload_n 0, 1) := by decide +kernel
theorem dL_law_38 : decode cL_law 38 = .ok (.iconst 2, 1) := by decide +kernel
theorem dL_law_39 : decode cL_law 39 = .ok (.invokestatic 17, 3) := by decide +kernel
theorem dL_law_42 : decode cL_law 42 = .ok (.invokespecial 28, 3) := by decide +kernel
theorem dL_law_45 : decode cL_law 45 = .ok (.astore_n 2, 1) := by decide +kernel
theorem dL_law_46 : decode cL_law 46 = .ok (.iconst 1, 1) := by decide +kernel
theorem dL_law_47 : decode cL_law 47 = .ok (.newarray .long, 2) := by decide +kernel
theorem dL_law_49 : decode cL_law 49 = .ok (.astore_n 3, 1) := by decide +kernel
theorem dL_law_50 : decode cL_law 50 = .ok (.iconst 3, 1) := by decide +kernel
theorem dL_law_51 : decode cL_law 51 = .ok (.istore 4, 2) := by decide +kernel
theorem dL_law_53 : decode cL_law 53 = .ok (.iload 4, 2) := by decide +kernel
theorem dL_law_55 : decode cL_law 55 = .ok (.aload_n 0, 1) := by decide +kernel
theorem dL_law_56 : decode cL_law 56 = .ok (.arraylength, 1) := by decide +kernel
theorem dL_law_57 : decode cL_law 57 = .ok (.iconst 3, 1) := by decide +kernel
theorem dL_law_58 : decode cL_law 58 = .ok (.isub, 1) := by decide +kernel
theorem dL_law_59 : decode cL_law 59 = .ok (.if_icmp .gt 264, 3) := by decide +kernel
theorem dL_law_62 : decode cL_law 62 = .ok (.aload_n 0, 1) := by decide +kernel
theorem dL_law_63 : decode cL_law 63 = .ok (.iload 4, 2) := by decide +kernel
theorem dL_law_65 : decode cL_law 65 = .ok (.iaload, 1) := by decide +kernel
theorem dL_law_66 : decode cL_law 66 = .ok (.bipush 7, 2) := by decide +kernel
theorem dL_law_68 : decode cL_law 68 = .ok (.iand, 1) := by decide +kernel
theorem dL_law_69 : decode cL_law 69 = .ok (.tableswitch 248 0 7 #[47, 104, 115, 159, 172, 185, 198, 223], 47) := by decide +kernel
theorem dL_law_116 : decode cL_law 116 = .ok (.aload_n 1, 1) := by decide +kernel
theorem dL_law_117 : decode cL_law 117 = .ok (.aload_n 0, 1) := by decide +kernel
theorem dL_law_118 : decode cL_law 118 = .ok (.iload 4, 2) := by decide +kernel
theorem dL_law_120 : decode cL_law 120 = .ok (.iconst 1, 1) := by decide +kernel
theorem dL_law_121 : decode cL_law 121 = .ok (.iadd, 1) := by decide +kernel
theorem dL_law_122 : decode cL_law 122 = .ok (.iaload, 1) := by decide +kernel
theorem dL_law_123 : decode cL_law 123 = .ok (.i2l, 1) := by decide +kernel
theorem dL_law_124 : decode cL_law 124 = .ok (.bipush 32, 2) := by decide +kernel
theorem dL_law_126 : decode cL_law 126 = .ok (.lshl, 1) := by decide +kernel
theorem dL_law_127 : decode cL_law 127 = .ok (.aload_n 0, 1) := by decide +kernel
theorem dL_law_128 : decode cL_law 128 = .ok (.iload 4, 2) := by decide +kernel
theorem dL_law_130 : decode cL_law 130 = .ok (.iconst 2, 1) := by decide +kernel
theorem dL_law_131 : decode cL_law 131 = .ok (.iadd, 1) := by decide +kernel
theorem dL_law_132 : decode cL_law 132 = .ok (.iaload, 1) := by decide +kernel
theorem dL_law_133 : decode cL_law 133 = .ok (.i2l, 1) := by decide +kernel
theorem dL_law_134 : decode cL_law 134 = .ok (.ldc2_w 29, 3) := by decide +kernel
theorem dL_law_137 : decode cL_law 137 = .ok (.land, 1) := by decide +kernel
theorem dL_law_138 : decode cL_law 138 = .ok (.lor, 1) := by decide +kernel
theorem dL_law_139 : decode cL_law 139 = .ok (.invokevirtual 31, 3) := by decide +kernel
theorem dL_law_142 : decode cL_law 142 = .ok (.aload_n 2, 1) := by decide +kernel
theorem dL_law_143 : decode cL_law 143 = .ok (.aload_n 0, 1) := by decide +kernel
theorem dL_law_144 : decode cL_law 144 = .ok (.iload 4, 2) := by decide +kernel
theorem dL_law_146 : decode cL_law 146 = .ok (.iconst 1, 1) := by decide +kernel
theorem dL_law_147 : decode cL_law 147 = .ok (.iadd, 1) := by decide +kernel
theorem dL_law_148 : decode cL_law 148 = .ok (.iaload, 1) := by decide +kernel
theorem dL_law_149 : decode cL_law 149 = .ok (.i2l, 1) := by decide +kernel
theorem dL_law_150 : decode cL_law 150 = .ok (.bipush 32, 2) := by decide +kernel
theorem dL_law_152 : decode cL_law 152 = .ok (.lshl, 1) := by decide +kernel
theorem dL_law_153 : decode cL_law 153 = .ok (.aload_n 0, 1) := by decide +kernel
theorem dL_law_154 : decode cL_law 154 = .ok (.iload 4, 2) := by decide +kernel
theorem dL_law_156 : decode cL_law 156 = .ok (.iconst 2, 1) := by decide +kernel
theorem dL_law_157 : decode cL_law 157 = .ok (.iadd, 1) := by decide +kernel
theorem dL_law_158 : decode cL_law 158 = .ok (.iaload, 1) := by decide +kernel
theorem dL_law_159 : decode cL_law 159 = .ok (.i2l, 1) := by decide +kernel
theorem dL_law_160 : decode cL_law 160 = .ok (.ldc2_w 29, 3) := by decide +kernel
theorem dL_law_163 : decode cL_law 163 = .ok (.land, 1) := by decide +kernel
theorem dL_law_164 : decode cL_law 164 = .ok (.lor, 1) := by decide +kernel
theorem dL_law_165 : decode cL_law 165 = .ok (.invokevirtual 35, 3) := by decide +kernel
theorem dL_law_168 : decode cL_law 168 = .ok (.if_icmp .eq 149, 3) := by decide +kernel
theorem dL_law_171 : decode cL_law 171 = .ok (.iconst 0, 1) := by decide +kernel
theorem dL_law_172 : decode cL_law 172 = .ok (.ireturn, 1) := by decide +kernel
theorem dL_law_173 : decode cL_law 173 = .ok (.aload_n 1, 1) := by decide +kernel
theorem dL_law_174 : decode cL_law 174 = .ok (.invokevirtual 36, 3) := by decide +kernel
theorem dL_law_177 : decode cL_law 177 = .ok (.aload_n 2, 1) := by decide +kernel
theorem dL_law_178 : decode cL_law 178 = .ok (.invokevirtual 39, 3) := by decide +kernel
theorem dL_law_181 : decode cL_law 181 = .ok (.goto 136, 3) := by decide +kernel
theorem dL_law_184 : decode cL_law 184 = .ok (.aload_n 1, 1) := by decide +kernel
theorem dL_law_185 : decode cL_law 185 = .ok (.aload_n 3, 1) := by decide +kernel
theorem dL_law_186 : decode cL_law 186 = .ok (.invokestatic 40, 3) := by decide +kernel
theorem dL_law_189 : decode cL_law 189 = .ok (.istore 5, 2) := by decide +kernel
theorem dL_law_191 : decode cL_law 191 = .ok (.aload_n 2, 1) := by decide +kernel
theorem dL_law_192 : decode cL_law 192 = .ok (.invokevirtual 43, 3) := by decide +kernel
theorem dL_law_195 : decode cL_law 195 = .ok (.istore 6, 2) := by decide +kernel
theorem dL_law_197 : decode cL_law 197 = .ok (.aload_n 2, 1) := by decide +kernel
theorem dL_law_198 : decode cL_law 198 = .ok (.invokevirtual 44, 3) := by decide +kernel
theorem dL_law_201 : decode cL_law 201 = .ok (.iload 5, 2) := by decide +kernel
theorem dL_law_203 : decode cL_law 203 = .ok (.if_icmp .eq 5, 3) := by decide +kernel
theorem dL_law_206 : decode cL_law 206 = .ok (.iconst 0, 1) := by decide +kernel
theorem dL_law_207 : decode cL_law 207 = .ok (.ireturn, 1) := by decide +kernel
theorem dL_law_208 : decode cL_law 208 = .ok (.iload 5, 2) := by decide +kernel
theorem dL_law_210 : decode cL_law 210 = .ok (.ifCond .ne 15, 3) := by decide +kernel
theorem dL_law_213 : decode cL_law 213 = .ok (.aload_n 3, 1) := by decide +kernel
theorem dL_law_214 : decode cL_law 214 = .ok (.iconst 0, 1) := by decide +kernel
theorem dL_law_215 : decode cL_law 215 = .ok (.laload, 1) := by decide +kernel
theorem dL_law_216 : decode cL_law 216 = .ok (.iload 6, 2) := by decide +kernel
theorem dL_law_218 : decode cL_law 218 = .ok (.i2l, 1) := by decide +kernel
theorem dL_law_219 : decode cL_law 219 = .ok (.lcmp, 1) := by decide +kernel
theorem dL_law_220 : decode cL_law 220 = .ok (.ifCond .eq 5, 3) := by decide +kernel
theorem dL_law_223 : decode cL_law 223 = .ok (.iconst 0, 1) := by decide +kernel
theorem dL_law_224 : decode cL_law 224 = .ok (.ireturn, 1) := by decide +kernel
theorem dL_law_225 : decode cL_law 225 = .ok (.goto 92, 3) := by decide +kernel
theorem dL_law_228 : decode cL_law 228 = .ok (.aload_n 1, 1) := by decide +kernel
theorem dL_law_229 : decode cL_law 229 = .ok (.invokevirtual 47, 3) := by decide +kernel
theorem dL_law_232 : decode cL_law 232 = .ok (.aload_n 2, 1) := by decide +kernel
theorem dL_law_233 : decode cL_law 233 = .ok (.invokevirtual 50, 3) := by decide +kernel
theorem dL_law_236 : decode cL_law 236 = .ok (.if_icmp .eq 81, 3) := by decide +kernel
theorem dL_law_239 : decode cL_law 239 = .ok (.iconst 0, 1) := by decide +kernel
theorem dL_law_240 : decode cL_law 240 = .ok (.ireturn, 1) := by decide +kernel
theorem dL_law_241 : decode cL_law 241 = .ok (.aload_n 1, 1) := by decide +kernel
theorem dL_law_242 : decode cL_law 242 = .ok (.invokevirtual 51, 3) := by decide +kernel
theorem dL_law_245 : decode cL_law 245 = .ok (.aload_n 2, 1) := by decide +kernel
theorem dL_law_246 : decode cL_law 246 = .ok (.invokevirtual 54, 3) := by decide +kernel
theorem dL_law_249 : decode cL_law 249 = .ok (.if_icmp .eq 68, 3) := by decide +kernel
theorem dL_law_252 : decode cL_law 252 = .ok (.iconst 0, 1) := by decide +kernel
theorem dL_law_253 : decode cL_law 253 = .ok (.ireturn, 1) := by decide +kernel
theorem dL_law_254 : decode cL_law 254 = .ok (.aload_n 1, 1) := by decide +kernel
theorem dL_law_255 : decode cL_law 255 = .ok (.invokevirtual 55, 3) := by decide +kernel
theorem dL_law_258 : decode cL_law 258 = .ok (.aload_n 2, 1) := by decide +kernel
theorem dL_law_259 : decode cL_law 259 = .ok (.invokevirtual 58, 3) := by decide +kernel
theorem dL_law_262 : decode cL_law 262 = .ok (.if_icmp .eq 55, 3) := by decide +kernel
theorem dL_law_265 : decode cL_law 265 = .ok (.iconst 0, 1) := by decide +kernel
theorem dL_law_266 : decode cL_law 266 = .ok (.ireturn, 1) := by decide +kernel
theorem dL_law_267 : decode cL_law 267 = .ok (.aload_n 1, 1) := by decide +kernel
theorem dL_law_268 : decode cL_law 268 = .ok (.aload_n 0, 1) := by decide +kernel
theorem dL_law_269 : decode cL_law 269 = .ok (.iload 4, 2) := by decide +kernel
theorem dL_law_271 : decode cL_law 271 = .ok (.iconst 1, 1) := by decide +kernel
theorem dL_law_272 : decode cL_law 272 = .ok (.iadd, 1) := by decide +kernel
theorem dL_law_273 : decode cL_law 273 = .ok (.iaload, 1) := by decide +kernel
theorem dL_law_274 : decode cL_law 274 = .ok (.invokevirtual 59, 3) := by decide +kernel
theorem dL_law_277 : decode cL_law 277 = .ok (.aload_n 2, 1) := by decide +kernel
theorem dL_law_278 : decode cL_law 278 = .ok (.aload_n 0, 1) := by decide +kernel
theorem dL_law_279 : decode cL_law 279 = .ok (.iload 4, 2) := by decide +kernel
theorem dL_law_281 : decode cL_law 281 = .ok (.iconst 1, 1) := by decide +kernel
theorem dL_law_282 : decode cL_law 282 = .ok (.iadd, 1) := by decide +kernel
theorem dL_law_283 : decode cL_law 283 = .ok (.iaload, 1) := by decide +kernel
theorem dL_law_284 : decode cL_law 284 = .ok (.invokevirtual 63, 3) := by decide +kernel
theorem dL_law_287 : decode cL_law 287 = .ok (.if_icmp .eq 30, 3) := by decide +kernel
theorem dL_law_290 : decode cL_law 290 = .ok (.iconst 0, 1) := by decide +kernel
theorem dL_law_291 : decode cL_law 291 = .ok (.ireturn, 1) := by decide +kernel
theorem dL_law_292 : decode cL_law 292 = .ok (.aload_n 1, 1) := by decide +kernel
theorem dL_law_293 : decode cL_law 293 = .ok (.aload_n 0, 1) := by decide +kernel
theorem dL_law_294 : decode cL_law 294 = .ok (.iload 4, 2) := by decide +kernel
theorem dL_law_296 : decode cL_law 296 = .ok (.iconst 1, 1) := by decide +kernel
theorem dL_law_297 : decode cL_law 297 = .ok (.iadd, 1) := by decide +kernel
theorem dL_law_298 : decode cL_law 298 = .ok (.iaload, 1) := by decide +kernel
theorem dL_law_299 : decode cL_law 299 = .ok (.invokevirtual 64, 3) := by decide +kernel
theorem dL_law_302 : decode cL_law 302 = .ok (.aload_n 2, 1) := by decide +kernel
theorem dL_law_303 : decode cL_law 303 = .ok (.aload_n 0, 1) := by decide +kernel
theorem dL_law_304 : decode cL_law 304 = .ok (.iload 4, 2) := by decide +kernel
theorem dL_law_306 : decode cL_law 306 = .ok (.iconst 1, 1) := by decide +kernel
theorem dL_law_307 : decode cL_law 307 = .ok (.iadd, 1) := by decide +kernel
theorem dL_law_308 : decode cL_law 308 = .ok (.iaload, 1) := by decide +kernel
theorem dL_law_309 : decode cL_law 309 = .ok (.invokevirtual 67, 3) := by decide +kernel
theorem dL_law_312 : decode cL_law 312 = .ok (.if_icmp .eq 5, 3) := by decide +kernel
theorem dL_law_315 : decode cL_law 315 = .ok (.iconst 0, 1) := by decide +kernel
theorem dL_law_316 : decode cL_law 316 = .ok (.ireturn, 1) := by decide +kernel
theorem dL_law_317 : decode cL_law 317 = .ok (.iinc 4 3, 3) := by decide +kernel
theorem dL_law_320 : decode cL_law 320 = .ok (.goto (-267), 3) := by decide +kernel
theorem dL_law_323 : decode cL_law 323 = .ok (.iconst 1, 1) := by decide +kernel
theorem dL_law_324 : decode cL_law 324 = .ok (.ireturn, 1) := by decide +kernel
end
section
def WS : List Cond := lw_tbl.filter goodWord
theorem WS_of {w : Cond} (h : w ∈ lw_tbl) (g : goodWord w = true) : w ∈ WS := List.mem_filter.mpr ⟨h, g⟩
theorem WS_in : ∀ w ∈ WS, w ∈ lw_tbl := fun _ h => (List.mem_filter.mp h).1
theorem WS_good : ∀ w ∈ WS, (w.onTables && w.keeps) = true ∨ ∃ ty, w = .arrayClass ty := fun _ h => good_of_word (List.mem_filter.mp h).2
theorem kmX0_3 : Cond.methodLink RX0 3 objectInit ∈ WS := WS_of (List.mem_append_right _ (List.mem_of_getElem? (i := 39) (by decide +kernel))) (by decide +kernel)
theorem kfX0_9 : Cond.fieldLink RX0 9 "ConsHouse$Heap" "round" "I" ∈ WS := WS_of (List.mem_append_right _ (List.mem_of_getElem? (i := 48) (by decide +kernel))) (by decide +kernel)
theorem kfX0_15 : Cond.fieldLink RX0 15 "ConsHouse$Heap" "markedCount" "I" ∈ WS := WS_of (List.mem_append_right _ (List.mem_of_getElem? (i := 49) (by decide +kernel))) (by decide +kernel)
theorem kfX0_18 : Cond.fieldLink RX0 18 "ConsHouse$Heap" "cars" "[J" ∈ WS := WS_of (List.mem_append_right _ (List.mem_of_getElem? (i := 40) (by decide +kernel))) (by decide +kernel)
theorem kfX0_22 : Cond.fieldLink RX0 22 "ConsHouse$Heap" "cdrs" "[J" ∈ WS := WS_of (List.mem_append_right _ (List.mem_of_getElem? (i := 42) (by decide +kernel))) (by decide +kernel)
theorem kfX0_25 : Cond.fieldLink RX0 25 "ConsHouse$Heap" "marks" "[I" ∈ WS := WS_of (List.mem_append_right _ (List.mem_of_getElem? (i := 43) (by decide +kernel))) (by decide +kernel)
theorem kfX0_29 : Cond.fieldLink RX0 29 "ConsHouse$Heap" "pending" "[J" ∈ WS := WS_of (List.mem_append_right _ (List.mem_of_getElem? (i := 44) (by decide +kernel))) (by decide +kernel)
theorem kfX0_32 : Cond.fieldLink RX0 32 "ConsHouse$Heap" "free" "[I" ∈ WS := WS_of (List.mem_append_right _ (List.mem_of_getElem? (i := 45) (by decide +kernel))) (by decide +kernel)
theorem kfX0_35 : Cond.fieldLink RX0 35 "ConsHouse$Heap" "freeCount" "I" ∈ WS := WS_of (List.mem_append_right _ (List.mem_of_getElem? (i := 46) (by decide +kernel))) (by decide +kernel)
theorem kcX0_38 : Cond.constantLong RX0 38 (2199023255552) ∈ WS := WS_of (List.mem_append_right _ (List.mem_of_getElem? (i := 434) (by decide +kernel))) (by decide +kernel)
theorem kmX0_40 : Cond.methodLink RX0 40 yX0_cellOf ∈ WS := WS_of (List.mem_append_right _ (List.mem_of_getElem? (i := 542) (by decide +kernel))) (by decide +kernel)
theorem kcX0_44 : Cond.constantLong RX0 44 (1099511627776) ∈ WS := WS_of (List.mem_append_right _ (List.mem_of_getElem? (i := 550) (by decide +kernel))) (by decide +kernel)
theorem kmX0_46 : Cond.methodLink RX0 46 yX8_isPair ∈ WS := WS_of (List.mem_append_right _ (List.mem_of_getElem? (i := 695) (by decide +kernel))) (by decide +kernel)
theorem kmX0_52 : Cond.methodLink RX0 52 yX0_cdr ∈ WS := WS_of (List.mem_append_right _ (List.mem_of_getElem? (i := 696) (by decide +kernel))) (by decide +kernel)
theorem kmX0_56 : Cond.methodLink RX0 56 yX0_car ∈ WS := WS_of (List.mem_append_right _ (List.mem_of_getElem? (i := 772) (by decide +kernel))) (by decide +kernel)
theorem kmX0_59 : Cond.methodLink RX0 59 yX8_isName ∈ WS := WS_of (List.mem_append_right _ (List.mem_of_getElem? (i := 773) (by decide +kernel))) (by decide +kernel)
theorem kmX1_1 : Cond.methodLink RX1 1 objectInit ∈ WS := WS_of (List.mem_append_right _ (List.mem_of_getElem? (i := 212) (by decide +kernel))) (by decide +kernel)
theorem kfX1_7 : Cond.fieldLink RX1 7 "ConsHouse$Keeper" "others" "[J" ∈ WS := WS_of (List.mem_append_right _ (List.mem_of_getElem? (i := 216) (by decide +kernel))) (by decide +kernel)
theorem kfX1_13 : Cond.fieldLink RX1 13 "ConsHouse$Keeper" "heap" "LConsHouse$Heap;" ∈ WS := WS_of (List.mem_append_right _ (List.mem_of_getElem? (i := 213) (by decide +kernel))) (by decide +kernel)
theorem kfX1_17 : Cond.fieldLink RX1 17 "ConsHouse$Keeper" "names" "LConsHouse$Names;" ∈ WS := WS_of (List.mem_append_right _ (List.mem_of_getElem? (i := 214) (by decide +kernel))) (by decide +kernel)
theorem kfX1_21 : Cond.fieldLink RX1 21 "ConsHouse$Keeper" "waiting" "LConsHouse$Waiting;" ∈ WS := WS_of (List.mem_append_right _ (List.mem_of_getElem? (i := 215) (by decide +kernel))) (by decide +kernel)
theorem kmX1_25 : Cond.methodLink RX1 25 yX0_beginMarking ∈ WS := WS_of (List.mem_append_right _ (List.mem_of_getElem? (i := 426) (by decide +kernel))) (by decide +kernel)
theorem kfX1_30 : Cond.fieldLink RX1 30 "ConsHouse$Names" "globals" "[J" ∈ WS := WS_of (List.mem_append_right _ (List.mem_of_getElem? (i := 163) (by decide +kernel))) (by decide +kernel)
theorem kfX1_35 : Cond.fieldLink RX1 35 "ConsHouse$Names" "total" "I" ∈ WS := WS_of (List.mem_append_right _ (List.mem_of_getElem? (i := 166) (by decide +kernel))) (by decide +kernel)
theorem kmX1_39 : Cond.methodLink RX1 39 yX0_mark ∈ WS := WS_of (List.mem_append_right _ (List.mem_of_getElem? (i := 430) (by decide +kernel))) (by decide +kernel)
theorem kfX1_43 : Cond.fieldLink RX1 43 "ConsHouse$Heap" "markedCount" "I" ∈ WS := WS_of (List.mem_append_right _ (List.mem_of_getElem? (i := 50) (by decide +kernel))) (by decide +kernel)
theorem kfX1_46 : Cond.fieldLink RX1 46 "ConsHouse$Heap" "freeCount" "I" ∈ WS := WS_of (List.mem_append_right _ (List.mem_of_getElem? (i := 47) (by decide +kernel))) (by decide +kernel)
theorem kfX1_49 : Cond.fieldLink RX1 49 "ConsHouse$Waiting" "words" "[J" ∈ WS := WS_of (List.mem_append_right _ (List.mem_of_getElem? (i := 189) (by decide +kernel))) (by decide +kernel)
theorem kfX1_54 : Cond.fieldLink RX1 54 "ConsHouse$Waiting" "depth" "I" ∈ WS := WS_of (List.mem_append_right _ (List.mem_of_getElem? (i := 191) (by decide +kernel))) (by decide +kernel)
theorem kmX1_57 : Cond.methodLink RX1 57 yX0_sweep ∈ WS := WS_of (List.mem_append_right _ (List.mem_of_getElem? (i := 514) (by decide +kernel))) (by decide +kernel)
theorem kmX2_3 : Cond.methodLink RX2 3 objectInit ∈ WS := WS_of (List.mem_append_right _ (List.mem_of_getElem? (i := 282) (by decide +kernel))) (by decide +kernel)
theorem kfX2_9 : Cond.fieldLink RX2 9 "ConsHouse$Machine" "values" "[J" ∈ WS := WS_of (List.mem_append_right _ (List.mem_of_getElem? (i := 289) (by decide +kernel))) (by decide +kernel)
theorem kfX2_15 : Cond.fieldLink RX2 15 "ConsHouse$Machine" "valueCount" "I" ∈ WS := WS_of (List.mem_append_right _ (List.mem_of_getElem? (i := 290) (by decide +kernel))) (by decide +kernel)
theorem kfX2_19 : Cond.fieldLink RX2 19 "ConsHouse$Machine" "steps" "I" ∈ WS := WS_of (List.mem_append_right _ (List.mem_of_getElem? (i := 291) (by decide +kernel))) (by decide +kernel)
theorem kfX2_22 : Cond.fieldLink RX2 22 "ConsHouse$Machine" "mode" "I" ∈ WS := WS_of (List.mem_append_right _ (List.mem_of_getElem? (i := 293) (by decide +kernel))) (by decide +kernel)
theorem kfX2_25 : Cond.fieldLink RX2 25 "ConsHouse$Machine" "failure" "I" ∈ WS := WS_of (List.mem_append_right _ (List.mem_of_getElem? (i := 294) (by decide +kernel))) (by decide +kernel)
theorem kcX2_28 : Cond.constantLong RX2 28 (1099511627776) ∈ WS := WS_of (List.mem_append_right _ (List.mem_of_getElem? (i := 283) (by decide +kernel))) (by decide +kernel)
theorem kfX2_30 : Cond.fieldLink RX2 30 "ConsHouse$Machine" "expression" "J" ∈ WS := WS_of (List.mem_append_right _ (List.mem_of_getElem? (i := 295) (by decide +kernel))) (by decide +kernel)
theorem kfX2_34 : Cond.fieldLink RX2 34 "ConsHouse$Machine" "clauses" "J" ∈ WS := WS_of (List.mem_append_right _ (List.mem_of_getElem? (i := 296) (by decide +kernel))) (by decide +kernel)
theorem kfX2_37 : Cond.fieldLink RX2 37 "ConsHouse$Machine" "function" "J" ∈ WS := WS_of (List.mem_append_right _ (List.mem_of_getElem? (i := 297) (by decide +kernel))) (by decide +kernel)
theorem kfX2_40 : Cond.fieldLink RX2 40 "ConsHouse$Machine" "bindings" "J" ∈ WS := WS_of (List.mem_append_right _ (List.mem_of_getElem? (i := 298) (by decide +kernel))) (by decide +kernel)
theorem kfX2_43 : Cond.fieldLink RX2 43 "ConsHouse$Machine" "result" "J" ∈ WS := WS_of (List.mem_append_right _ (List.mem_of_getElem? (i := 299) (by decide +kernel))) (by decide +kernel)
theorem kfX2_46 : Cond.fieldLink RX2 46 "ConsHouse$Machine" "heap" "LConsHouse$Heap;" ∈ WS := WS_of (List.mem_append_right _ (List.mem_of_getElem? (i := 284) (by decide +kernel))) (by decide +kernel)
theorem kfX2_50 : Cond.fieldLink RX2 50 "ConsHouse$Machine" "names" "LConsHouse$Names;" ∈ WS := WS_of (List.mem_append_right _ (List.mem_of_getElem? (i := 285) (by decide +kernel))) (by decide +kernel)
theorem kfX2_54 : Cond.fieldLink RX2 54 "ConsHouse$Machine" "waiting" "LConsHouse$Waiting;" ∈ WS := WS_of (List.mem_append_right _ (List.mem_of_getElem? (i := 286) (by decide +kernel))) (by decide +kernel)
theorem kfX2_58 : Cond.fieldLink RX2 58 "ConsHouse$Machine" "keeper" "LConsHouse$Keeper;" ∈ WS := WS_of (List.mem_append_right _ (List.mem_of_getElem? (i := 287) (by decide +kernel))) (by decide +kernel)
theorem kfX2_62 : Cond.fieldLink RX2 62 "ConsHouse$Machine" "stepLimit" "I" ∈ WS := WS_of (List.mem_append_right _ (List.mem_of_getElem? (i := 288) (by decide +kernel))) (by decide +kernel)
theorem kmX2_65 : Cond.methodLink RX2 65 yX2_beginEvaluating ∈ WS := WS_of (List.mem_append_right _ (List.mem_of_getElem? (i := 621) (by decide +kernel))) (by decide +kernel)
theorem kmX2_69 : Cond.methodLink RX2 69 yX2_handBack ∈ WS := WS_of (List.mem_append_right _ (List.mem_of_getElem? (i := 625) (by decide +kernel))) (by decide +kernel)
theorem kmX2_72 : Cond.methodLink RX2 72 yX2_choose ∈ WS := WS_of (List.mem_append_right _ (List.mem_of_getElem? (i := 687) (by decide +kernel))) (by decide +kernel)
theorem kmX2_75 : Cond.methodLink RX2 75 yX8_isPair ∈ WS := WS_of (List.mem_append_right _ (List.mem_of_getElem? (i := 665) (by decide +kernel))) (by decide +kernel)
theorem kmX2_81 : Cond.methodLink RX2 81 yX2_evaluatePair ∈ WS := WS_of (List.mem_append_right _ (List.mem_of_getElem? (i := 704) (by decide +kernel))) (by decide +kernel)
theorem kmX2_84 : Cond.methodLink RX2 84 yX2_evaluateAtom ∈ WS := WS_of (List.mem_append_right _ (List.mem_of_getElem? (i := 746) (by decide +kernel))) (by decide +kernel)
theorem kmX2_87 : Cond.methodLink RX2 87 yX2_applyPair ∈ WS := WS_of (List.mem_append_right _ (List.mem_of_getElem? (i := 759) (by decide +kernel))) (by decide +kernel)
theorem kmX2_90 : Cond.methodLink RX2 90 yX2_applyAtom ∈ WS := WS_of (List.mem_append_right _ (List.mem_of_getElem? (i := 791) (by decide +kernel))) (by decide +kernel)
theorem kcX2_93 : Cond.constantLong RX2 93 (1099511627777) ∈ WS := WS_of (List.mem_append_right _ (List.mem_of_getElem? (i := 816) (by decide +kernel))) (by decide +kernel)
theorem kmX2_95 : Cond.methodLink RX2 95 yX2_answer ∈ WS := WS_of (List.mem_append_right _ (List.mem_of_getElem? (i := 713) (by decide +kernel))) (by decide +kernel)
theorem kfX2_99 : Cond.fieldLink RX2 99 "ConsHouse$Heap" "cars" "[J" ∈ WS := WS_of (List.mem_append_right _ (List.mem_of_getElem? (i := 41) (by decide +kernel))) (by decide +kernel)
theorem kmX2_104 : Cond.methodLink RX2 104 yX0_car ∈ WS := WS_of (List.mem_append_right _ (List.mem_of_getElem? (i := 679) (by decide +kernel))) (by decide +kernel)
theorem kmX2_108 : Cond.methodLink RX2 108 yX0_cdr ∈ WS := WS_of (List.mem_append_right _ (List.mem_of_getElem? (i := 671) (by decide +kernel))) (by decide +kernel)
theorem kmX2_111 : Cond.methodLink RX2 111 yX3_globalOf ∈ WS := WS_of (List.mem_append_right _ (List.mem_of_getElem? (i := 754) (by decide +kernel))) (by decide +kernel)
theorem kmX2_116 : Cond.methodLink RX2 116 yX8_isFixed ∈ WS := WS_of (List.mem_append_right _ (List.mem_of_getElem? (i := 727) (by decide +kernel))) (by decide +kernel)
theorem kmX2_119 : Cond.methodLink RX2 119 yX2_boundTo ∈ WS := WS_of (List.mem_append_right _ (List.mem_of_getElem? (i := 750) (by decide +kernel))) (by decide +kernel)
theorem kcX2_122 : Cond.constantLong RX2 122 (3298534883331) ∈ WS := WS_of (List.mem_append_right _ (List.mem_of_getElem? (i := 758) (by decide +kernel))) (by decide +kernel)
theorem kcX2_124 : Cond.constantLong RX2 124 (1099511627778) ∈ WS := WS_of (List.mem_append_right _ (List.mem_of_getElem? (i := 708) (by decide +kernel))) (by decide +kernel)
theorem kmX2_126 : Cond.methodLink RX2 126 yX2_evaluateQuote ∈ WS := WS_of (List.mem_append_right _ (List.mem_of_getElem? (i := 709) (by decide +kernel))) (by decide +kernel)
theorem kcX2_129 : Cond.constantLong RX2 129 (1099511627779) ∈ WS := WS_of (List.mem_append_right _ (List.mem_of_getElem? (i := 717) (by decide +kernel))) (by decide +kernel)
theorem kcX2_131 : Cond.constantLong RX2 131 (1099511627780) ∈ WS := WS_of (List.mem_append_right _ (List.mem_of_getElem? (i := 718) (by decide +kernel))) (by decide +kernel)
theorem kmX2_133 : Cond.methodLink RX2 133 yX2_evaluateDefine ∈ WS := WS_of (List.mem_append_right _ (List.mem_of_getElem? (i := 719) (by decide +kernel))) (by decide +kernel)
theorem kmX2_136 : Cond.methodLink RX2 136 yX2_evaluateCall ∈ WS := WS_of (List.mem_append_right _ (List.mem_of_getElem? (i := 742) (by decide +kernel))) (by decide +kernel)
theorem kmX2_139 : Cond.methodLink RX2 139 yX0_isListOf ∈ WS := WS_of (List.mem_append_right _ (List.mem_of_getElem? (i := 691) (by decide +kernel))) (by decide +kernel)
theorem kmX2_143 : Cond.methodLink RX2 143 yX8_isName ∈ WS := WS_of (List.mem_append_right _ (List.mem_of_getElem? (i := 723) (by decide +kernel))) (by decide +kernel)
theorem kmX2_146 : Cond.methodLink RX2 146 yX3_makeGlobal ∈ WS := WS_of (List.mem_append_right _ (List.mem_of_getElem? (i := 734) (by decide +kernel))) (by decide +kernel)
theorem kmX2_151 : Cond.methodLink RX2 151 yX7_push ∈ WS := WS_of (List.mem_append_right _ (List.mem_of_getElem? (i := 697) (by decide +kernel))) (by decide +kernel)
theorem kmX2_155 : Cond.methodLink RX2 155 yX2_beginApplying ∈ WS := WS_of (List.mem_append_right _ (List.mem_of_getElem? (i := 657) (by decide +kernel))) (by decide +kernel)
theorem kfX2_158 : Cond.fieldLink RX2 158 "ConsHouse$Waiting" "depth" "I" ∈ WS := WS_of (List.mem_append_right _ (List.mem_of_getElem? (i := 193) (by decide +kernel))) (by decide +kernel)
theorem kmX2_161 : Cond.methodLink RX2 161 yX7_part ∈ WS := WS_of (List.mem_append_right _ (List.mem_of_getElem? (i := 629) (by decide +kernel))) (by decide +kernel)
theorem kmX2_165 : Cond.methodLink RX2 165 yX7_kindOnTop ∈ WS := WS_of (List.mem_append_right _ (List.mem_of_getElem? (i := 634) (by decide +kernel))) (by decide +kernel)
theorem kmX2_169 : Cond.methodLink RX2 169 yX2_goOnWithCall ∈ WS := WS_of (List.mem_append_right _ (List.mem_of_getElem? (i := 638) (by decide +kernel))) (by decide +kernel)
theorem kmX2_172 : Cond.methodLink RX2 172 yX2_goOnWithChoice ∈ WS := WS_of (List.mem_append_right _ (List.mem_of_getElem? (i := 683) (by decide +kernel))) (by decide +kernel)
theorem kmX2_175 : Cond.methodLink RX2 175 yX7_takeValues ∈ WS := WS_of (List.mem_append_right _ (List.mem_of_getElem? (i := 650) (by decide +kernel))) (by decide +kernel)
theorem kmX2_179 : Cond.methodLink RX2 179 yX7_pop ∈ WS := WS_of (List.mem_append_right _ (List.mem_of_getElem? (i := 661) (by decide +kernel))) (by decide +kernel)
theorem kmX2_182 : Cond.methodLink RX2 182 yX7_addValue ∈ WS := WS_of (List.mem_append_right _ (List.mem_of_getElem? (i := 642) (by decide +kernel))) (by decide +kernel)
theorem kmX2_185 : Cond.methodLink RX2 185 yX7_valuesOnTop ∈ WS := WS_of (List.mem_append_right _ (List.mem_of_getElem? (i := 670) (by decide +kernel))) (by decide +kernel)
theorem kmX2_188 : Cond.methodLink RX2 188 yX7_setRest ∈ WS := WS_of (List.mem_append_right _ (List.mem_of_getElem? (i := 675) (by decide +kernel))) (by decide +kernel)
theorem kcX2_191 : Cond.constantLong RX2 191 (1099511627781) ∈ WS := WS_of (List.mem_append_right _ (List.mem_of_getElem? (i := 763) (by decide +kernel))) (by decide +kernel)
theorem kmX2_193 : Cond.methodLink RX2 193 yX2_applyLambda ∈ WS := WS_of (List.mem_append_right _ (List.mem_of_getElem? (i := 764) (by decide +kernel))) (by decide +kernel)
theorem kcX2_196 : Cond.constantLong RX2 196 (1099511627782) ∈ WS := WS_of (List.mem_append_right _ (List.mem_of_getElem? (i := 781) (by decide +kernel))) (by decide +kernel)
theorem kmX2_198 : Cond.methodLink RX2 198 yX2_applyLabel ∈ WS := WS_of (List.mem_append_right _ (List.mem_of_getElem? (i := 782) (by decide +kernel))) (by decide +kernel)
theorem kmX2_201 : Cond.methodLink RX2 201 yX7_putValues ∈ WS := WS_of (List.mem_append_right _ (List.mem_of_getElem? (i := 786) (by decide +kernel))) (by decide +kernel)
theorem kcX2_205 : Cond.constantLong RX2 205 (7) ∈ WS := WS_of (List.mem_append_right _ (List.mem_of_getElem? (i := 795) (by decide +kernel))) (by decide +kernel)
theorem kcX2_207 : Cond.constantLong RX2 207 (17) ∈ WS := WS_of (List.mem_append_right _ (List.mem_of_getElem? (i := 796) (by decide +kernel))) (by decide +kernel)
theorem kmX2_209 : Cond.methodLink RX2 209 yX2_applyBuiltIn ∈ WS := WS_of (List.mem_append_right _ (List.mem_of_getElem? (i := 797) (by decide +kernel))) (by decide +kernel)
theorem kmX2_213 : Cond.methodLink RX2 213 yX0_isListOfNames ∈ WS := WS_of (List.mem_append_right _ (List.mem_of_getElem? (i := 768) (by decide +kernel))) (by decide +kernel)
theorem kmX2_216 : Cond.methodLink RX2 216 yX1_hasRoom ∈ WS := WS_of (List.mem_append_right _ (List.mem_of_getElem? (i := 774) (by decide +kernel))) (by decide +kernel)
theorem kmX2_222 : Cond.methodLink RX2 222 yX2_bindAll ∈ WS := WS_of (List.mem_append_right _ (List.mem_of_getElem? (i := 775) (by decide +kernel))) (by decide +kernel)
theorem kmX2_225 : Cond.methodLink RX2 225 yX0_newPair ∈ WS := WS_of (List.mem_append_right _ (List.mem_of_getElem? (i := 779) (by decide +kernel))) (by decide +kernel)
theorem kmX2_229 : Cond.methodLink RX2 229 yX0_setCdr ∈ WS := WS_of (List.mem_append_right _ (List.mem_of_getElem? (i := 780) (by decide +kernel))) (by decide +kernel)
theorem kmX2_232 : Cond.methodLink RX2 232 yX2_valuesOf ∈ WS := WS_of (List.mem_append_right _ (List.mem_of_getElem? (i := 801) (by decide +kernel))) (by decide +kernel)
theorem kmX2_236 : Cond.methodLink RX2 236 yX2_takePart ∈ WS := WS_of (List.mem_append_right _ (List.mem_of_getElem? (i := 804) (by decide +kernel))) (by decide +kernel)
theorem kmX2_240 : Cond.methodLink RX2 240 yX2_makePair ∈ WS := WS_of (List.mem_append_right _ (List.mem_of_getElem? (i := 808) (by decide +kernel))) (by decide +kernel)
theorem kmX2_243 : Cond.methodLink RX2 243 yX2_answerTruth ∈ WS := WS_of (List.mem_append_right _ (List.mem_of_getElem? (i := 812) (by decide +kernel))) (by decide +kernel)
theorem kmX2_247 : Cond.methodLink RX2 247 yX2_compareAtoms ∈ WS := WS_of (List.mem_append_right _ (List.mem_of_getElem? (i := 817) (by decide +kernel))) (by decide +kernel)
theorem kmX2_250 : Cond.methodLink RX2 250 yX8_isNumber ∈ WS := WS_of (List.mem_append_right _ (List.mem_of_getElem? (i := 821) (by decide +kernel))) (by decide +kernel)
theorem kmX2_253 : Cond.methodLink RX2 253 yX2_reckon ∈ WS := WS_of (List.mem_append_right _ (List.mem_of_getElem? (i := 822) (by decide +kernel))) (by decide +kernel)
theorem kmX3_3 : Cond.methodLink RX3 3 objectInit ∈ WS := WS_of (List.mem_append_right _ (List.mem_of_getElem? (i := 101) (by decide +kernel))) (by decide +kernel)
theorem kfX3_9 : Cond.fieldLink RX3 9 "ConsHouse$Names" "spelled" "[J" ∈ WS := WS_of (List.mem_append_right _ (List.mem_of_getElem? (i := 161) (by decide +kernel))) (by decide +kernel)
theorem kfX3_15 : Cond.fieldLink RX3 15 "ConsHouse$Names" "globals" "[J" ∈ WS := WS_of (List.mem_append_right _ (List.mem_of_getElem? (i := 162) (by decide +kernel))) (by decide +kernel)
theorem kfX3_18 : Cond.fieldLink RX3 18 "ConsHouse$Names" "total" "I" ∈ WS := WS_of (List.mem_append_right _ (List.mem_of_getElem? (i := 164) (by decide +kernel))) (by decide +kernel)
theorem kfX3_22 : Cond.fieldLink RX3 22 "ConsHouse$Names" "crowded" "Z" ∈ WS := WS_of (List.mem_append_right _ (List.mem_of_getElem? (i := 168) (by decide +kernel))) (by decide +kernel)
theorem kcX3_26 : Cond.constantLong RX3 26 (3298534883331) ∈ WS := WS_of (List.mem_append_right _ (List.mem_of_getElem? (i := 102) (by decide +kernel))) (by decide +kernel)
theorem kmX3_30 : Cond.methodLink RX3 30 yJ0_length_8abf5 ∈ WS := WS_of (List.mem_append_right _ (List.mem_of_getElem? (i := 104) (by decide +kernel))) (by decide +kernel)
theorem kmX3_36 : Cond.methodLink RX3 36 yJ0_charAt_5068e ∈ WS := WS_of (List.mem_append_right _ (List.mem_of_getElem? (i := 114) (by decide +kernel))) (by decide +kernel)
theorem kmX3_40 : Cond.methodLink RX3 40 yX3_digitOf ∈ WS := WS_of (List.mem_append_right _ (List.mem_of_getElem? (i := 152) (by decide +kernel))) (by decide +kernel)
theorem kmX3_44 : Cond.methodLink RX3 44 yX3_wordOf ∈ WS := WS_of (List.mem_append_right _ (List.mem_of_getElem? (i := 155) (by decide +kernel))) (by decide +kernel)
theorem kcX3_48 : Cond.constantLong RX3 48 (37) ∈ WS := WS_of (List.mem_append_right _ (List.mem_of_getElem? (i := 160) (by decide +kernel))) (by decide +kernel)
theorem kcX3_50 : Cond.constantLong RX3 50 (1099511627776) ∈ WS := WS_of (List.mem_append_right _ (List.mem_of_getElem? (i := 159) (by decide +kernel))) (by decide +kernel)
theorem kmX3_52 : Cond.methodLink RX3 52 yX3_isKnown ∈ WS := WS_of (List.mem_append_right _ (List.mem_of_getElem? (i := 738) (by decide +kernel))) (by decide +kernel)
theorem kmX4_3 : Cond.methodLink RX4 3 objectInit ∈ WS := WS_of (List.mem_append_right _ (List.mem_of_getElem? (i := 337) (by decide +kernel))) (by decide +kernel)
theorem kfX4_9 : Cond.fieldLink RX4 9 "ConsHouse$Printer" "printed" "[C" ∈ WS := WS_of (List.mem_append_right _ (List.mem_of_getElem? (i := 340) (by decide +kernel))) (by decide +kernel)
theorem kfX4_15 : Cond.fieldLink RX4 15 "ConsHouse$Printer" "rests" "[J" ∈ WS := WS_of (List.mem_append_right _ (List.mem_of_getElem? (i := 342) (by decide +kernel))) (by decide +kernel)
theorem kfX4_19 : Cond.fieldLink RX4 19 "ConsHouse$Printer" "backwards" "[C" ∈ WS := WS_of (List.mem_append_right _ (List.mem_of_getElem? (i := 343) (by decide +kernel))) (by decide +kernel)
theorem kfX4_22 : Cond.fieldLink RX4 22 "ConsHouse$Printer" "depth" "I" ∈ WS := WS_of (List.mem_append_right _ (List.mem_of_getElem? (i := 344) (by decide +kernel))) (by decide +kernel)
theorem kfX4_26 : Cond.fieldLink RX4 26 "ConsHouse$Printer" "length" "I" ∈ WS := WS_of (List.mem_append_right _ (List.mem_of_getElem? (i := 345) (by decide +kernel))) (by decide +kernel)
theorem kfX4_29 : Cond.fieldLink RX4 29 "ConsHouse$Printer" "heap" "LConsHouse$Heap;" ∈ WS := WS_of (List.mem_append_right _ (List.mem_of_getElem? (i := 338) (by decide +kernel))) (by decide +kernel)
theorem kfX4_33 : Cond.fieldLink RX4 33 "ConsHouse$Printer" "names" "LConsHouse$Names;" ∈ WS := WS_of (List.mem_append_right _ (List.mem_of_getElem? (i := 339) (by decide +kernel))) (by decide +kernel)
theorem kmX4_37 : Cond.methodLink RX4 37 yX4_printBeginning ∈ WS := WS_of (List.mem_append_right _ (List.mem_of_getElem? (i := 846) (by decide +kernel))) (by decide +kernel)
theorem kmX4_41 : Cond.methodLink RX4 41 yX8_isPair ∈ WS := WS_of (List.mem_append_right _ (List.mem_of_getElem? (i := 850) (by decide +kernel))) (by decide +kernel)
theorem kmX4_47 : Cond.methodLink RX4 47 yX0_cdr ∈ WS := WS_of (List.mem_append_right _ (List.mem_of_getElem? (i := 885) (by decide +kernel))) (by decide +kernel)
theorem kmX4_53 : Cond.methodLink RX4 53 yX4_put ∈ WS := WS_of (List.mem_append_right _ (List.mem_of_getElem? (i := 860) (by decide +kernel))) (by decide +kernel)
theorem kmX4_57 : Cond.methodLink RX4 57 yX0_car ∈ WS := WS_of (List.mem_append_right _ (List.mem_of_getElem? (i := 886) (by decide +kernel))) (by decide +kernel)
theorem kmX4_60 : Cond.methodLink RX4 60 yX4_printEnd ∈ WS := WS_of (List.mem_append_right _ (List.mem_of_getElem? (i := 887) (by decide +kernel))) (by decide +kernel)
theorem kmX4_63 : Cond.methodLink RX4 63 yX4_printAtom ∈ WS := WS_of (List.mem_append_right _ (List.mem_of_getElem? (i := 851) (by decide +kernel))) (by decide +kernel)
theorem kcX4_66 : Cond.constantLong RX4 66 (1099511627776) ∈ WS := WS_of (List.mem_append_right _ (List.mem_of_getElem? (i := 891) (by decide +kernel))) (by decide +kernel)
theorem kmX4_68 : Cond.methodLink RX4 68 yX8_isNumber ∈ WS := WS_of (List.mem_append_right _ (List.mem_of_getElem? (i := 855) (by decide +kernel))) (by decide +kernel)
theorem kmX4_71 : Cond.methodLink RX4 71 yX4_printNumber ∈ WS := WS_of (List.mem_append_right _ (List.mem_of_getElem? (i := 856) (by decide +kernel))) (by decide +kernel)
theorem kmX4_74 : Cond.methodLink RX4 74 yX3_spellingOf ∈ WS := WS_of (List.mem_append_right _ (List.mem_of_getElem? (i := 873) (by decide +kernel))) (by decide +kernel)
theorem kmX4_79 : Cond.methodLink RX4 79 yX4_printName ∈ WS := WS_of (List.mem_append_right _ (List.mem_of_getElem? (i := 877) (by decide +kernel))) (by decide +kernel)
theorem kmX4_82 : Cond.methodLink RX4 82 yJ9_abs_067f4 ∈ WS := WS_of (List.mem_append_right _ (List.mem_of_getElem? (i := 864) (by decide +kernel))) (by decide +kernel)
theorem kcX4_87 : Cond.constantLong RX4 87 (48) ∈ WS := WS_of (List.mem_append_right _ (List.mem_of_getElem? (i := 867) (by decide +kernel))) (by decide +kernel)
theorem kcX4_89 : Cond.constantLong RX4 89 (10) ∈ WS := WS_of (List.mem_append_right _ (List.mem_of_getElem? (i := 868) (by decide +kernel))) (by decide +kernel)
theorem kmX4_91 : Cond.methodLink RX4 91 yX4_putBackwards ∈ WS := WS_of (List.mem_append_right _ (List.mem_of_getElem? (i := 869) (by decide +kernel))) (by decide +kernel)
theorem kcX4_95 : Cond.constantLong RX4 95 (37) ∈ WS := WS_of (List.mem_append_right _ (List.mem_of_getElem? (i := 881) (by decide +kernel))) (by decide +kernel)
theorem kmX4_97 : Cond.methodLink RX4 97 yX3_characterOf ∈ WS := WS_of (List.mem_append_right _ (List.mem_of_getElem? (i := 882) (by decide +kernel))) (by decide +kernel)
theorem kmX5_3 : Cond.methodLink RX5 3 objectInit ∈ WS := WS_of (List.mem_append_right _ (List.mem_of_getElem? (i := 231) (by decide +kernel))) (by decide +kernel)
theorem kfX5_9 : Cond.fieldLink RX5 9 "ConsHouse$Reader" "tokens" "[J" ∈ WS := WS_of (List.mem_append_right _ (List.mem_of_getElem? (i := 237) (by decide +kernel))) (by decide +kernel)
theorem kfX5_15 : Cond.fieldLink RX5 15 "ConsHouse$Reader" "states" "[I" ∈ WS := WS_of (List.mem_append_right _ (List.mem_of_getElem? (i := 238) (by decide +kernel))) (by decide +kernel)
theorem kfX5_19 : Cond.fieldLink RX5 19 "ConsHouse$Reader" "firsts" "[J" ∈ WS := WS_of (List.mem_append_right _ (List.mem_of_getElem? (i := 239) (by decide +kernel))) (by decide +kernel)
theorem kfX5_22 : Cond.fieldLink RX5 22 "ConsHouse$Reader" "lasts" "[J" ∈ WS := WS_of (List.mem_append_right _ (List.mem_of_getElem? (i := 240) (by decide +kernel))) (by decide +kernel)
theorem kfX5_25 : Cond.fieldLink RX5 25 "ConsHouse$Reader" "noValues" "[J" ∈ WS := WS_of (List.mem_append_right _ (List.mem_of_getElem? (i := 241) (by decide +kernel))) (by decide +kernel)
theorem kfX5_28 : Cond.fieldLink RX5 28 "ConsHouse$Reader" "tokenCount" "I" ∈ WS := WS_of (List.mem_append_right _ (List.mem_of_getElem? (i := 242) (by decide +kernel))) (by decide +kernel)
theorem kfX5_32 : Cond.fieldLink RX5 32 "ConsHouse$Reader" "depth" "I" ∈ WS := WS_of (List.mem_append_right _ (List.mem_of_getElem? (i := 243) (by decide +kernel))) (by decide +kernel)
theorem kfX5_35 : Cond.fieldLink RX5 35 "ConsHouse$Reader" "pairs" "I" ∈ WS := WS_of (List.mem_append_right _ (List.mem_of_getElem? (i := 244) (by decide +kernel))) (by decide +kernel)
theorem kfX5_38 : Cond.fieldLink RX5 38 "ConsHouse$Reader" "at" "I" ∈ WS := WS_of (List.mem_append_right _ (List.mem_of_getElem? (i := 245) (by decide +kernel))) (by decide +kernel)
theorem kcX5_41 : Cond.constantLong RX5 41 (1099511627776) ∈ WS := WS_of (List.mem_append_right _ (List.mem_of_getElem? (i := 232) (by decide +kernel))) (by decide +kernel)
theorem kfX5_43 : Cond.fieldLink RX5 43 "ConsHouse$Reader" "expression" "J" ∈ WS := WS_of (List.mem_append_right _ (List.mem_of_getElem? (i := 246) (by decide +kernel))) (by decide +kernel)
theorem kfX5_47 : Cond.fieldLink RX5 47 "ConsHouse$Reader" "text" "LConsHouse$Text;" ∈ WS := WS_of (List.mem_append_right _ (List.mem_of_getElem? (i := 233) (by decide +kernel))) (by decide +kernel)
theorem kfX5_51 : Cond.fieldLink RX5 51 "ConsHouse$Reader" "names" "LConsHouse$Names;" ∈ WS := WS_of (List.mem_append_right _ (List.mem_of_getElem? (i := 234) (by decide +kernel))) (by decide +kernel)
theorem kfX5_55 : Cond.fieldLink RX5 55 "ConsHouse$Reader" "heap" "LConsHouse$Heap;" ∈ WS := WS_of (List.mem_append_right _ (List.mem_of_getElem? (i := 235) (by decide +kernel))) (by decide +kernel)
theorem kfX5_59 : Cond.fieldLink RX5 59 "ConsHouse$Reader" "keeper" "LConsHouse$Keeper;" ∈ WS := WS_of (List.mem_append_right _ (List.mem_of_getElem? (i := 236) (by decide +kernel))) (by decide +kernel)
theorem kfX5_63 : Cond.fieldLink RX5 63 "ConsHouse$Names" "total" "I" ∈ WS := WS_of (List.mem_append_right _ (List.mem_of_getElem? (i := 165) (by decide +kernel))) (by decide +kernel)
theorem kfX5_68 : Cond.fieldLink RX5 68 "ConsHouse$Names" "crowded" "Z" ∈ WS := WS_of (List.mem_append_right _ (List.mem_of_getElem? (i := 169) (by decide +kernel))) (by decide +kernel)
theorem kmX5_72 : Cond.methodLink RX5 72 yX5_scan ∈ WS := WS_of (List.mem_append_right _ (List.mem_of_getElem? (i := 459) (by decide +kernel))) (by decide +kernel)
theorem kfX5_76 : Cond.fieldLink RX5 76 "ConsHouse$Text" "faultPlace" "I" ∈ WS := WS_of (List.mem_append_right _ (List.mem_of_getElem? (i := 84) (by decide +kernel))) (by decide +kernel)
theorem kfX5_81 : Cond.fieldLink RX5 81 "ConsHouse$Text" "length" "I" ∈ WS := WS_of (List.mem_append_right _ (List.mem_of_getElem? (i := 78) (by decide +kernel))) (by decide +kernel)
theorem kfX5_84 : Cond.fieldLink RX5 84 "ConsHouse$Text" "position" "I" ∈ WS := WS_of (List.mem_append_right _ (List.mem_of_getElem? (i := 81) (by decide +kernel))) (by decide +kernel)
theorem kmX5_87 : Cond.methodLink RX5 87 yX1_hasRoom ∈ WS := WS_of (List.mem_append_right _ (List.mem_of_getElem? (i := 510) (by decide +kernel))) (by decide +kernel)
theorem kmX5_93 : Cond.methodLink RX5 93 yX5_build ∈ WS := WS_of (List.mem_append_right _ (List.mem_of_getElem? (i := 518) (by decide +kernel))) (by decide +kernel)
theorem kmX5_96 : Cond.methodLink RX5 96 yX6_behindBlanks ∈ WS := WS_of (List.mem_append_right _ (List.mem_of_getElem? (i := 463) (by decide +kernel))) (by decide +kernel)
theorem kmX5_100 : Cond.methodLink RX5 100 yX6_at ∈ WS := WS_of (List.mem_append_right _ (List.mem_of_getElem? (i := 464) (by decide +kernel))) (by decide +kernel)
theorem kmX5_102 : Cond.methodLink RX5 102 yX5_takeToken ∈ WS := WS_of (List.mem_append_right _ (List.mem_of_getElem? (i := 465) (by decide +kernel))) (by decide +kernel)
theorem kmX5_106 : Cond.methodLink RX5 106 yX5_takeClose ∈ WS := WS_of (List.mem_append_right _ (List.mem_of_getElem? (i := 469) (by decide +kernel))) (by decide +kernel)
theorem kmX5_109 : Cond.methodLink RX5 109 yX5_takeDot ∈ WS := WS_of (List.mem_append_right _ (List.mem_of_getElem? (i := 486) (by decide +kernel))) (by decide +kernel)
theorem kmX5_112 : Cond.methodLink RX5 112 yX5_state ∈ WS := WS_of (List.mem_append_right _ (List.mem_of_getElem? (i := 473) (by decide +kernel))) (by decide +kernel)
theorem kmX5_116 : Cond.methodLink RX5 116 yX5_takeOpen ∈ WS := WS_of (List.mem_append_right _ (List.mem_of_getElem? (i := 491) (by decide +kernel))) (by decide +kernel)
theorem kmX5_119 : Cond.methodLink RX5 119 yX5_isDigit ∈ WS := WS_of (List.mem_append_right _ (List.mem_of_getElem? (i := 496) (by decide +kernel))) (by decide +kernel)
theorem kmX5_122 : Cond.methodLink RX5 122 yX5_takeNumber ∈ WS := WS_of (List.mem_append_right _ (List.mem_of_getElem? (i := 499) (by decide +kernel))) (by decide +kernel)
theorem kmX5_126 : Cond.methodLink RX5 126 yX3_digitOf ∈ WS := WS_of (List.mem_append_right _ (List.mem_of_getElem? (i := 503) (by decide +kernel))) (by decide +kernel)
theorem kmX5_129 : Cond.methodLink RX5 129 yX5_takeName ∈ WS := WS_of (List.mem_append_right _ (List.mem_of_getElem? (i := 504) (by decide +kernel))) (by decide +kernel)
theorem kcX5_132 : Cond.constantLong RX5 132 (3298534883328) ∈ WS := WS_of (List.mem_append_right _ (List.mem_of_getElem? (i := 495) (by decide +kernel))) (by decide +kernel)
theorem kmX5_134 : Cond.methodLink RX5 134 yX5_keep ∈ WS := WS_of (List.mem_append_right _ (List.mem_of_getElem? (i := 482) (by decide +kernel))) (by decide +kernel)
theorem kmX5_138 : Cond.methodLink RX5 138 yX5_noteExpression ∈ WS := WS_of (List.mem_append_right _ (List.mem_of_getElem? (i := 477) (by decide +kernel))) (by decide +kernel)
theorem kcX5_141 : Cond.constantLong RX5 141 (3298534883329) ∈ WS := WS_of (List.mem_append_right _ (List.mem_of_getElem? (i := 481) (by decide +kernel))) (by decide +kernel)
theorem kcX5_143 : Cond.constantLong RX5 143 (3298534883330) ∈ WS := WS_of (List.mem_append_right _ (List.mem_of_getElem? (i := 490) (by decide +kernel))) (by decide +kernel)
theorem kcX5_145 : Cond.constantLong RX5 145 (37) ∈ WS := WS_of (List.mem_append_right _ (List.mem_of_getElem? (i := 508) (by decide +kernel))) (by decide +kernel)
theorem kmX5_147 : Cond.methodLink RX5 147 yX3_wordOf ∈ WS := WS_of (List.mem_append_right _ (List.mem_of_getElem? (i := 509) (by decide +kernel))) (by decide +kernel)
theorem kmX5_151 : Cond.methodLink RX5 151 yX5_openList ∈ WS := WS_of (List.mem_append_right _ (List.mem_of_getElem? (i := 522) (by decide +kernel))) (by decide +kernel)
theorem kmX5_154 : Cond.methodLink RX5 154 yX5_markDot ∈ WS := WS_of (List.mem_append_right _ (List.mem_of_getElem? (i := 526) (by decide +kernel))) (by decide +kernel)
theorem kmX5_157 : Cond.methodLink RX5 157 yX5_closeList ∈ WS := WS_of (List.mem_append_right _ (List.mem_of_getElem? (i := 530) (by decide +kernel))) (by decide +kernel)
theorem kmX5_160 : Cond.methodLink RX5 160 yX5_attach ∈ WS := WS_of (List.mem_append_right _ (List.mem_of_getElem? (i := 534) (by decide +kernel))) (by decide +kernel)
theorem kmX5_164 : Cond.methodLink RX5 164 yX0_setCdr ∈ WS := WS_of (List.mem_append_right _ (List.mem_of_getElem? (i := 538) (by decide +kernel))) (by decide +kernel)
theorem kmX5_170 : Cond.methodLink RX5 170 yX0_newPair ∈ WS := WS_of (List.mem_append_right _ (List.mem_of_getElem? (i := 546) (by decide +kernel))) (by decide +kernel)
theorem kmX6_3 : Cond.methodLink RX6 3 objectInit ∈ WS := WS_of (List.mem_append_right _ (List.mem_of_getElem? (i := 75) (by decide +kernel))) (by decide +kernel)
theorem kfX6_9 : Cond.fieldLink RX6 9 "ConsHouse$Text" "characters" "[C" ∈ WS := WS_of (List.mem_append_right _ (List.mem_of_getElem? (i := 76) (by decide +kernel))) (by decide +kernel)
theorem kfX6_15 : Cond.fieldLink RX6 15 "ConsHouse$Text" "length" "I" ∈ WS := WS_of (List.mem_append_right _ (List.mem_of_getElem? (i := 77) (by decide +kernel))) (by decide +kernel)
theorem kfX6_19 : Cond.fieldLink RX6 19 "ConsHouse$Text" "position" "I" ∈ WS := WS_of (List.mem_append_right _ (List.mem_of_getElem? (i := 80) (by decide +kernel))) (by decide +kernel)
theorem kfX6_22 : Cond.fieldLink RX6 22 "ConsHouse$Text" "faultPlace" "I" ∈ WS := WS_of (List.mem_append_right _ (List.mem_of_getElem? (i := 83) (by decide +kernel))) (by decide +kernel)
theorem kmX6_25 : Cond.methodLink RX6 25 yX6_isCharacter ∈ WS := WS_of (List.mem_append_right _ (List.mem_of_getElem? (i := 395) (by decide +kernel))) (by decide +kernel)
theorem kmX6_29 : Cond.methodLink RX6 29 yX6_at ∈ WS := WS_of (List.mem_append_right _ (List.mem_of_getElem? (i := 451) (by decide +kernel))) (by decide +kernel)
theorem kmX7_5 : Cond.methodLink RX7 5 objectInit ∈ WS := WS_of (List.mem_append_right _ (List.mem_of_getElem? (i := 185) (by decide +kernel))) (by decide +kernel)
theorem kfX7_11 : Cond.fieldLink RX7 11 "ConsHouse$Waiting" "depth" "I" ∈ WS := WS_of (List.mem_append_right _ (List.mem_of_getElem? (i := 190) (by decide +kernel))) (by decide +kernel)
theorem kfX7_15 : Cond.fieldLink RX7 15 "ConsHouse$Waiting" "greatest" "I" ∈ WS := WS_of (List.mem_append_right _ (List.mem_of_getElem? (i := 194) (by decide +kernel))) (by decide +kernel)
theorem kfX7_18 : Cond.fieldLink RX7 18 "ConsHouse$Waiting" "kinds" "[I" ∈ WS := WS_of (List.mem_append_right _ (List.mem_of_getElem? (i := 186) (by decide +kernel))) (by decide +kernel)
theorem kfX7_22 : Cond.fieldLink RX7 22 "ConsHouse$Waiting" "valueCounts" "[I" ∈ WS := WS_of (List.mem_append_right _ (List.mem_of_getElem? (i := 187) (by decide +kernel))) (by decide +kernel)
theorem kfX7_25 : Cond.fieldLink RX7 25 "ConsHouse$Waiting" "words" "[J" ∈ WS := WS_of (List.mem_append_right _ (List.mem_of_getElem? (i := 188) (by decide +kernel))) (by decide +kernel)
theorem kcX7_29 : Cond.constantLong RX7 29 (1099511627776) ∈ WS := WS_of (List.mem_append_right _ (List.mem_of_getElem? (i := 633) (by decide +kernel))) (by decide +kernel)
theorem kmX7_31 : Cond.methodLink RX7 31 Lib.Math.max.name ∈ WS := WS_of (List.mem_append_right _ (List.mem_of_getElem? (i := 701) (by decide +kernel))) (by decide +kernel)
theorem kmX7_37 : Cond.methodLink RX7 37 yX7_valuesOnTop ∈ WS := WS_of (List.mem_append_right _ (List.mem_of_getElem? (i := 646) (by decide +kernel))) (by decide +kernel)
theorem kmX7_41 : Cond.methodLink RX7 41 yX7_addValue ∈ WS := WS_of (List.mem_append_right _ (List.mem_of_getElem? (i := 790) (by decide +kernel))) (by decide +kernel)
theorem kmX7_45 : Cond.methodLink RX7 45 arraycopyName ∈ WS := WS_of (List.mem_append_right _ (List.mem_of_getElem? (i := 654) (by decide +kernel))) (by decide +kernel)
theorem kcX8_9 : Cond.constantLong RX8 9 (1099511627776) ∈ WS := WS_of (List.mem_append_right _ (List.mem_of_getElem? (i := 726) (by decide +kernel))) (by decide +kernel)
theorem kcX8_11 : Cond.constantLong RX8 11 (2199023255552) ∈ WS := WS_of (List.mem_append_right _ (List.mem_of_getElem? (i := 668) (by decide +kernel))) (by decide +kernel)
theorem kcX8_13 : Cond.constantLong RX8 13 (3298534883328) ∈ WS := WS_of (List.mem_append_right _ (List.mem_of_getElem? (i := 669) (by decide +kernel))) (by decide +kernel)
theorem kmX8_15 : Cond.methodLink RX8 15 yX8_isNumber ∈ WS := WS_of (List.mem_append_right _ (List.mem_of_getElem? (i := 730) (by decide +kernel))) (by decide +kernel)
theorem kcX8_21 : Cond.constantLong RX8 21 (1099511627777) ∈ WS := WS_of (List.mem_append_right _ (List.mem_of_getElem? (i := 733) (by decide +kernel))) (by decide +kernel)
theorem kmX9_3 : Cond.methodLink RX9 3 objectInit ∈ WS := WS_of (List.mem_append_right _ (List.mem_of_getElem? (i := 28) (by decide +kernel))) (by decide +kernel)
theorem knX9_9 : Cond.classLink RX9 9 RX0 ∈ WS := WS_of (List.mem_append_right _ (List.mem_of_getElem? (i := 31) (by decide +kernel))) (by decide +kernel)
theorem kmX9_11 : Cond.methodLink RX9 11 yX9_within ∈ WS := WS_of (List.mem_append_right _ (List.mem_of_getElem? (i := 33) (by decide +kernel))) (by decide +kernel)
theorem kmX9_15 : Cond.methodLink RX9 15 yX0_init ∈ WS := WS_of (List.mem_append_right _ (List.mem_of_getElem? (i := 36) (by decide +kernel))) (by decide +kernel)
theorem knX9_18 : Cond.classLink RX9 18 RX6 ∈ WS := WS_of (List.mem_append_right _ (List.mem_of_getElem? (i := 70) (by decide +kernel))) (by decide +kernel)
theorem kfX9_21 : Cond.fieldLink RX9 21 "ConsHouse" "text" "LConsHouse$Text;" ∈ WS := WS_of (List.mem_append_right _ (List.mem_of_getElem? (i := 362) (by decide +kernel))) (by decide +kernel)
theorem knX9_25 : Cond.classLink RX9 25 RX3 ∈ WS := WS_of (List.mem_append_right _ (List.mem_of_getElem? (i := 96) (by decide +kernel))) (by decide +kernel)
theorem kmX9_27 : Cond.methodLink RX9 27 yX3_init ∈ WS := WS_of (List.mem_append_right _ (List.mem_of_getElem? (i := 98) (by decide +kernel))) (by decide +kernel)
theorem kfX9_28 : Cond.fieldLink RX9 28 "ConsHouse" "names" "LConsHouse$Names;" ∈ WS := WS_of (List.mem_append_right _ (List.mem_of_getElem? (i := 363) (by decide +kernel))) (by decide +kernel)
theorem knX9_32 : Cond.classLink RX9 32 RX7 ∈ WS := WS_of (List.mem_append_right _ (List.mem_of_getElem? (i := 180) (by decide +kernel))) (by decide +kernel)
theorem kmX9_34 : Cond.methodLink RX9 34 yX7_init ∈ WS := WS_of (List.mem_append_right _ (List.mem_of_getElem? (i := 182) (by decide +kernel))) (by decide +kernel)
theorem kfX9_35 : Cond.fieldLink RX9 35 "ConsHouse" "waiting" "LConsHouse$Waiting;" ∈ WS := WS_of (List.mem_append_right _ (List.mem_of_getElem? (i := 364) (by decide +kernel))) (by decide +kernel)
theorem knX9_39 : Cond.classLink RX9 39 RX1 ∈ WS := WS_of (List.mem_append_right _ (List.mem_of_getElem? (i := 207) (by decide +kernel))) (by decide +kernel)
theorem kmX9_41 : Cond.methodLink RX9 41 yX1_init ∈ WS := WS_of (List.mem_append_right _ (List.mem_of_getElem? (i := 209) (by decide +kernel))) (by decide +kernel)
theorem kfX9_44 : Cond.fieldLink RX9 44 "ConsHouse" "keeper" "LConsHouse$Keeper;" ∈ WS := WS_of (List.mem_append_right _ (List.mem_of_getElem? (i := 365) (by decide +kernel))) (by decide +kernel)
theorem knX9_48 : Cond.classLink RX9 48 RX5 ∈ WS := WS_of (List.mem_append_right _ (List.mem_of_getElem? (i := 226) (by decide +kernel))) (by decide +kernel)
theorem kmX9_50 : Cond.methodLink RX9 50 yX5_init ∈ WS := WS_of (List.mem_append_right _ (List.mem_of_getElem? (i := 228) (by decide +kernel))) (by decide +kernel)
theorem kfX9_53 : Cond.fieldLink RX9 53 "ConsHouse" "reader" "LConsHouse$Reader;" ∈ WS := WS_of (List.mem_append_right _ (List.mem_of_getElem? (i := 366) (by decide +kernel))) (by decide +kernel)
theorem knX9_57 : Cond.classLink RX9 57 RX2 ∈ WS := WS_of (List.mem_append_right _ (List.mem_of_getElem? (i := 277) (by decide +kernel))) (by decide +kernel)
theorem kmX9_59 : Cond.methodLink RX9 59 yX2_init ∈ WS := WS_of (List.mem_append_right _ (List.mem_of_getElem? (i := 279) (by decide +kernel))) (by decide +kernel)
theorem kfX9_62 : Cond.fieldLink RX9 62 "ConsHouse" "machine" "LConsHouse$Machine;" ∈ WS := WS_of (List.mem_append_right _ (List.mem_of_getElem? (i := 367) (by decide +kernel))) (by decide +kernel)
theorem knX9_66 : Cond.classLink RX9 66 RX4 ∈ WS := WS_of (List.mem_append_right _ (List.mem_of_getElem? (i := 332) (by decide +kernel))) (by decide +kernel)
theorem kmX9_68 : Cond.methodLink RX9 68 yX4_init ∈ WS := WS_of (List.mem_append_right _ (List.mem_of_getElem? (i := 334) (by decide +kernel))) (by decide +kernel)
theorem kfX9_71 : Cond.fieldLink RX9 71 "ConsHouse" "printer" "LConsHouse$Printer;" ∈ WS := WS_of (List.mem_append_right _ (List.mem_of_getElem? (i := 368) (by decide +kernel))) (by decide +kernel)
theorem kfX9_75 : Cond.fieldLink RX9 75 "ConsHouse" "latestFault" "I" ∈ WS := WS_of (List.mem_append_right _ (List.mem_of_getElem? (i := 369) (by decide +kernel))) (by decide +kernel)
theorem kmX9_79 : Cond.methodLink RX9 79 yX6_append ∈ WS := WS_of (List.mem_append_right _ (List.mem_of_getElem? (i := 391) (by decide +kernel))) (by decide +kernel)
theorem kfX9_83 : Cond.fieldLink RX9 83 "ConsHouse$Text" "length" "I" ∈ WS := WS_of (List.mem_append_right _ (List.mem_of_getElem? (i := 79) (by decide +kernel))) (by decide +kernel)
theorem kfX9_86 : Cond.fieldLink RX9 86 "ConsHouse$Text" "position" "I" ∈ WS := WS_of (List.mem_append_right _ (List.mem_of_getElem? (i := 82) (by decide +kernel))) (by decide +kernel)
theorem kfX9_89 : Cond.fieldLink RX9 89 "ConsHouse$Text" "faultPlace" "I" ∈ WS := WS_of (List.mem_append_right _ (List.mem_of_getElem? (i := 85) (by decide +kernel))) (by decide +kernel)
theorem kfX9_92 : Cond.fieldLink RX9 92 "ConsHouse$Printer" "length" "I" ∈ WS := WS_of (List.mem_append_right _ (List.mem_of_getElem? (i := 346) (by decide +kernel))) (by decide +kernel)
theorem kfX9_93 : Cond.fieldLink RX9 93 "ConsHouse$Machine" "steps" "I" ∈ WS := WS_of (List.mem_append_right _ (List.mem_of_getElem? (i := 292) (by decide +kernel))) (by decide +kernel)
theorem kfX9_96 : Cond.fieldLink RX9 96 "ConsHouse$Waiting" "depth" "I" ∈ WS := WS_of (List.mem_append_right _ (List.mem_of_getElem? (i := 192) (by decide +kernel))) (by decide +kernel)
theorem kfX9_99 : Cond.fieldLink RX9 99 "ConsHouse$Waiting" "greatest" "I" ∈ WS := WS_of (List.mem_append_right _ (List.mem_of_getElem? (i := 195) (by decide +kernel))) (by decide +kernel)
theorem kmX9_102 : Cond.methodLink RX9 102 yX6_behindBlanks ∈ WS := WS_of (List.mem_append_right _ (List.mem_of_getElem? (i := 447) (by decide +kernel))) (by decide +kernel)
theorem kmX9_106 : Cond.methodLink RX9 106 yX5_read ∈ WS := WS_of (List.mem_append_right _ (List.mem_of_getElem? (i := 455) (by decide +kernel))) (by decide +kernel)
theorem kfX9_117 : Cond.fieldLink RX9 117 "ConsHouse$Reader" "expression" "J" ∈ WS := WS_of (List.mem_append_right _ (List.mem_of_getElem? (i := 247) (by decide +kernel))) (by decide +kernel)
theorem kmX9_121 : Cond.methodLink RX9 121 yX2_evaluate ∈ WS := WS_of (List.mem_append_right _ (List.mem_of_getElem? (i := 617) (by decide +kernel))) (by decide +kernel)
theorem kfX9_130 : Cond.fieldLink RX9 130 "ConsHouse$Machine" "result" "J" ∈ WS := WS_of (List.mem_append_right _ (List.mem_of_getElem? (i := 300) (by decide +kernel))) (by decide +kernel)
theorem kmX9_133 : Cond.methodLink RX9 133 yX4_print ∈ WS := WS_of (List.mem_append_right _ (List.mem_of_getElem? (i := 842) (by decide +kernel))) (by decide +kernel)
theorem kfX9_137 : Cond.fieldLink RX9 137 "ConsHouse$Printer" "printed" "[C" ∈ WS := WS_of (List.mem_append_right _ (List.mem_of_getElem? (i := 341) (by decide +kernel))) (by decide +kernel)
theorem kmX9_141 : Cond.methodLink RX9 141 yX1_pairsOfGlobals ∈ WS := WS_of (List.mem_append_right _ (List.mem_of_getElem? (i := 422) (by decide +kernel))) (by decide +kernel)
theorem kfX9_144 : Cond.fieldLink RX9 144 "ConsHouse$Names" "total" "I" ∈ WS := WS_of (List.mem_append_right _ (List.mem_of_getElem? (i := 167) (by decide +kernel))) (by decide +kernel)
theorem kmX10_1 : Cond.methodLink RX10 1 objectInit ∈ WS := WS_of (List.mem_append_right _ (List.mem_of_getElem? (i := 897) (by decide +kernel))) (by decide +kernel)
theorem kfX10_7 : Cond.fieldLink RX10 7 "ConsHouseModel" "thrownCode" "I" ∈ WS := WS_of (List.mem_append_right _ (List.mem_of_getElem? (i := 927) (by decide +kernel))) (by decide +kernel)
theorem kfX10_13 : Cond.fieldLink RX10 13 "ConsHouseModel" "cells" "I" ∈ WS := WS_of (List.mem_append_right _ (List.mem_of_getElem? (i := 928) (by decide +kernel))) (by decide +kernel)
theorem kfX10_16 : Cond.fieldLink RX10 16 "ConsHouseModel" "tasks" "I" ∈ WS := WS_of (List.mem_append_right _ (List.mem_of_getElem? (i := 929) (by decide +kernel))) (by decide +kernel)
theorem kfX10_19 : Cond.fieldLink RX10 19 "ConsHouseModel" "stepsMost" "I" ∈ WS := WS_of (List.mem_append_right _ (List.mem_of_getElem? (i := 930) (by decide +kernel))) (by decide +kernel)
theorem kfX10_22 : Cond.fieldLink RX10 22 "ConsHouseModel" "text" "[I" ∈ WS := WS_of (List.mem_append_right _ (List.mem_of_getElem? (i := 931) (by decide +kernel))) (by decide +kernel)
theorem kfX10_26 : Cond.fieldLink RX10 26 "ConsHouseModel" "typed" "I" ∈ WS := WS_of (List.mem_append_right _ (List.mem_of_getElem? (i := 932) (by decide +kernel))) (by decide +kernel)
theorem kfX10_29 : Cond.fieldLink RX10 29 "ConsHouseModel" "at" "I" ∈ WS := WS_of (List.mem_append_right _ (List.mem_of_getElem? (i := 933) (by decide +kernel))) (by decide +kernel)
theorem kfX10_32 : Cond.fieldLink RX10 32 "ConsHouseModel" "placeNow" "I" ∈ WS := WS_of (List.mem_append_right _ (List.mem_of_getElem? (i := 934) (by decide +kernel))) (by decide +kernel)
theorem kfX10_35 : Cond.fieldLink RX10 35 "ConsHouseModel" "faultNow" "I" ∈ WS := WS_of (List.mem_append_right _ (List.mem_of_getElem? (i := 935) (by decide +kernel))) (by decide +kernel)
theorem kfX10_38 : Cond.fieldLink RX10 38 "ConsHouseModel" "steps" "I" ∈ WS := WS_of (List.mem_append_right _ (List.mem_of_getElem? (i := 936) (by decide +kernel))) (by decide +kernel)
theorem kfX10_41 : Cond.fieldLink RX10 41 "ConsHouseModel" "mostWaiting" "I" ∈ WS := WS_of (List.mem_append_right _ (List.mem_of_getElem? (i := 937) (by decide +kernel))) (by decide +kernel)
theorem kfX10_44 : Cond.fieldLink RX10 44 "ConsHouseModel" "print" "[I" ∈ WS := WS_of (List.mem_append_right _ (List.mem_of_getElem? (i := 938) (by decide +kernel))) (by decide +kernel)
theorem kfX10_47 : Cond.fieldLink RX10 47 "ConsHouseModel" "printed" "I" ∈ WS := WS_of (List.mem_append_right _ (List.mem_of_getElem? (i := 939) (by decide +kernel))) (by decide +kernel)
theorem kfX10_50 : Cond.fieldLink RX10 50 "ConsHouseModel" "car" "[J" ∈ WS := WS_of (List.mem_append_right _ (List.mem_of_getElem? (i := 940) (by decide +kernel))) (by decide +kernel)
theorem kfX10_54 : Cond.fieldLink RX10 54 "ConsHouseModel" "cdr" "[J" ∈ WS := WS_of (List.mem_append_right _ (List.mem_of_getElem? (i := 941) (by decide +kernel))) (by decide +kernel)
theorem kfX10_57 : Cond.fieldLink RX10 57 "ConsHouseModel" "held" "[Z" ∈ WS := WS_of (List.mem_append_right _ (List.mem_of_getElem? (i := 942) (by decide +kernel))) (by decide +kernel)
theorem kfX10_61 : Cond.fieldLink RX10 61 "ConsHouseModel" "heldCount" "I" ∈ WS := WS_of (List.mem_append_right _ (List.mem_of_getElem? (i := 943) (by decide +kernel))) (by decide +kernel)
theorem kfX10_64 : Cond.fieldLink RX10 64 "ConsHouseModel" "toMark" "[J" ∈ WS := WS_of (List.mem_append_right _ (List.mem_of_getElem? (i := 944) (by decide +kernel))) (by decide +kernel)
theorem kfX10_67 : Cond.fieldLink RX10 67 "ConsHouseModel" "marks" "I" ∈ WS := WS_of (List.mem_append_right _ (List.mem_of_getElem? (i := 945) (by decide +kernel))) (by decide +kernel)
theorem kfX10_70 : Cond.fieldLink RX10 70 "ConsHouseModel" "name" "[J" ∈ WS := WS_of (List.mem_append_right _ (List.mem_of_getElem? (i := 946) (by decide +kernel))) (by decide +kernel)
theorem kfX10_73 : Cond.fieldLink RX10 73 "ConsHouseModel" "global" "[J" ∈ WS := WS_of (List.mem_append_right _ (List.mem_of_getElem? (i := 947) (by decide +kernel))) (by decide +kernel)
theorem kfX10_76 : Cond.fieldLink RX10 76 "ConsHouseModel" "names" "I" ∈ WS := WS_of (List.mem_append_right _ (List.mem_of_getElem? (i := 948) (by decide +kernel))) (by decide +kernel)
theorem kfX10_79 : Cond.fieldLink RX10 79 "ConsHouseModel" "newName" "[J" ∈ WS := WS_of (List.mem_append_right _ (List.mem_of_getElem? (i := 949) (by decide +kernel))) (by decide +kernel)
theorem kfX10_82 : Cond.fieldLink RX10 82 "ConsHouseModel" "newNames" "I" ∈ WS := WS_of (List.mem_append_right _ (List.mem_of_getElem? (i := 950) (by decide +kernel))) (by decide +kernel)
theorem kfX10_85 : Cond.fieldLink RX10 85 "ConsHouseModel" "tooMany" "Z" ∈ WS := WS_of (List.mem_append_right _ (List.mem_of_getElem? (i := 951) (by decide +kernel))) (by decide +kernel)
theorem kfX10_89 : Cond.fieldLink RX10 89 "ConsHouseModel" "readState" "I" ∈ WS := WS_of (List.mem_append_right _ (List.mem_of_getElem? (i := 952) (by decide +kernel))) (by decide +kernel)
theorem kfX10_92 : Cond.fieldLink RX10 92 "ConsHouseModel" "openState" "[I" ∈ WS := WS_of (List.mem_append_right _ (List.mem_of_getElem? (i := 953) (by decide +kernel))) (by decide +kernel)
theorem kfX10_95 : Cond.fieldLink RX10 95 "ConsHouseModel" "openHead" "[J" ∈ WS := WS_of (List.mem_append_right _ (List.mem_of_getElem? (i := 954) (by decide +kernel))) (by decide +kernel)
theorem kfX10_98 : Cond.fieldLink RX10 98 "ConsHouseModel" "openTail" "[I" ∈ WS := WS_of (List.mem_append_right _ (List.mem_of_getElem? (i := 955) (by decide +kernel))) (by decide +kernel)
theorem kfX10_101 : Cond.fieldLink RX10 101 "ConsHouseModel" "opened" "I" ∈ WS := WS_of (List.mem_append_right _ (List.mem_of_getElem? (i := 956) (by decide +kernel))) (by decide +kernel)
theorem kfX10_104 : Cond.fieldLink RX10 104 "ConsHouseModel" "pairs" "I" ∈ WS := WS_of (List.mem_append_right _ (List.mem_of_getElem? (i := 957) (by decide +kernel))) (by decide +kernel)
theorem kfX10_107 : Cond.fieldLink RX10 107 "ConsHouseModel" "tokenValue" "J" ∈ WS := WS_of (List.mem_append_right _ (List.mem_of_getElem? (i := 958) (by decide +kernel))) (by decide +kernel)
theorem kfX10_111 : Cond.fieldLink RX10 111 "ConsHouseModel" "waiting" "I" ∈ WS := WS_of (List.mem_append_right _ (List.mem_of_getElem? (i := 959) (by decide +kernel))) (by decide +kernel)
theorem kfX10_114 : Cond.fieldLink RX10 114 "ConsHouseModel" "kind" "[I" ∈ WS := WS_of (List.mem_append_right _ (List.mem_of_getElem? (i := 960) (by decide +kernel))) (by decide +kernel)
theorem kfX10_117 : Cond.fieldLink RX10 117 "ConsHouseModel" "function" "[J" ∈ WS := WS_of (List.mem_append_right _ (List.mem_of_getElem? (i := 961) (by decide +kernel))) (by decide +kernel)
theorem kfX10_120 : Cond.fieldLink RX10 120 "ConsHouseModel" "rest" "[J" ∈ WS := WS_of (List.mem_append_right _ (List.mem_of_getElem? (i := 962) (by decide +kernel))) (by decide +kernel)
theorem kfX10_123 : Cond.fieldLink RX10 123 "ConsHouseModel" "bound" "[J" ∈ WS := WS_of (List.mem_append_right _ (List.mem_of_getElem? (i := 963) (by decide +kernel))) (by decide +kernel)
theorem kfX10_126 : Cond.fieldLink RX10 126 "ConsHouseModel" "count" "[I" ∈ WS := WS_of (List.mem_append_right _ (List.mem_of_getElem? (i := 964) (by decide +kernel))) (by decide +kernel)
theorem kfX10_129 : Cond.fieldLink RX10 129 "ConsHouseModel" "values" "[J" ∈ WS := WS_of (List.mem_append_right _ (List.mem_of_getElem? (i := 965) (by decide +kernel))) (by decide +kernel)
theorem kfX10_132 : Cond.fieldLink RX10 132 "ConsHouseModel" "mode" "I" ∈ WS := WS_of (List.mem_append_right _ (List.mem_of_getElem? (i := 966) (by decide +kernel))) (by decide +kernel)
theorem kfX10_135 : Cond.fieldLink RX10 135 "ConsHouseModel" "thing" "J" ∈ WS := WS_of (List.mem_append_right _ (List.mem_of_getElem? (i := 967) (by decide +kernel))) (by decide +kernel)
theorem kfX10_138 : Cond.fieldLink RX10 138 "ConsHouseModel" "list" "J" ∈ WS := WS_of (List.mem_append_right _ (List.mem_of_getElem? (i := 968) (by decide +kernel))) (by decide +kernel)
theorem kfX10_141 : Cond.fieldLink RX10 141 "ConsHouseModel" "value" "[J" ∈ WS := WS_of (List.mem_append_right _ (List.mem_of_getElem? (i := 969) (by decide +kernel))) (by decide +kernel)
theorem kfX10_144 : Cond.fieldLink RX10 144 "ConsHouseModel" "many" "I" ∈ WS := WS_of (List.mem_append_right _ (List.mem_of_getElem? (i := 970) (by decide +kernel))) (by decide +kernel)
theorem kcX10_147 : Cond.constantLong RX10 147 (5130572) ∈ WS := WS_of (List.mem_append_right _ (List.mem_of_getElem? (i := 898) (by decide +kernel))) (by decide +kernel)
theorem kmX10_149 : Cond.methodLink RX10 149 yX10_known ∈ WS := WS_of (List.mem_append_right _ (List.mem_of_getElem? (i := 899) (by decide +kernel))) (by decide +kernel)
theorem kcX10_153 : Cond.constantLong RX10 153 (84) ∈ WS := WS_of (List.mem_append_right _ (List.mem_of_getElem? (i := 908) (by decide +kernel))) (by decide +kernel)
theorem kcX10_155 : Cond.constantLong RX10 155 (349323613253) ∈ WS := WS_of (List.mem_append_right _ (List.mem_of_getElem? (i := 909) (by decide +kernel))) (by decide +kernel)
theorem kcX10_157 : Cond.constantLong RX10 157 (1129270852) ∈ WS := WS_of (List.mem_append_right _ (List.mem_of_getElem? (i := 910) (by decide +kernel))) (by decide +kernel)
theorem kcX10_159 : Cond.constantLong RX10 159 (75064322641477) ∈ WS := WS_of (List.mem_append_right _ (List.mem_of_getElem? (i := 911) (by decide +kernel))) (by decide +kernel)
theorem kcX10_161 : Cond.constantLong RX10 161 (83843352773697) ∈ WS := WS_of (List.mem_append_right _ (List.mem_of_getElem? (i := 912) (by decide +kernel))) (by decide +kernel)
theorem kcX10_163 : Cond.constantLong RX10 163 (327512376652) ∈ WS := WS_of (List.mem_append_right _ (List.mem_of_getElem? (i := 913) (by decide +kernel))) (by decide +kernel)
theorem kcX10_165 : Cond.constantLong RX10 165 (4407634) ∈ WS := WS_of (List.mem_append_right _ (List.mem_of_getElem? (i := 914) (by decide +kernel))) (by decide +kernel)
theorem kcX10_167 : Cond.constantLong RX10 167 (4408402) ∈ WS := WS_of (List.mem_append_right _ (List.mem_of_getElem? (i := 915) (by decide +kernel))) (by decide +kernel)
theorem kcX10_169 : Cond.constantLong RX10 169 (1129270867) ∈ WS := WS_of (List.mem_append_right _ (List.mem_of_getElem? (i := 916) (by decide +kernel))) (by decide +kernel)
theorem kcX10_171 : Cond.constantLong RX10 171 (1096044365) ∈ WS := WS_of (List.mem_append_right _ (List.mem_of_getElem? (i := 917) (by decide +kernel))) (by decide +kernel)
theorem kcX10_173 : Cond.constantLong RX10 173 (17745) ∈ WS := WS_of (List.mem_append_right _ (List.mem_of_getElem? (i := 918) (by decide +kernel))) (by decide +kernel)
theorem kcX10_175 : Cond.constantLong RX10 175 (1314212940) ∈ WS := WS_of (List.mem_append_right _ (List.mem_of_getElem? (i := 919) (by decide +kernel))) (by decide +kernel)
theorem kcX10_177 : Cond.constantLong RX10 177 (22048838496113232) ∈ WS := WS_of (List.mem_append_right _ (List.mem_of_getElem? (i := 920) (by decide +kernel))) (by decide +kernel)
theorem kcX10_179 : Cond.constantLong RX10 179 (1347179859) ∈ WS := WS_of (List.mem_append_right _ (List.mem_of_getElem? (i := 921) (by decide +kernel))) (by decide +kernel)
theorem kcX10_181 : Cond.constantLong RX10 181 (4920541335503652174) ∈ WS := WS_of (List.mem_append_right _ (List.mem_of_getElem? (i := 922) (by decide +kernel))) (by decide +kernel)
theorem kcX10_183 : Cond.constantLong RX10 183 (362007053651) ∈ WS := WS_of (List.mem_append_right _ (List.mem_of_getElem? (i := 923) (by decide +kernel))) (by decide +kernel)
theorem kcX10_185 : Cond.constantLong RX10 185 (327580603216) ∈ WS := WS_of (List.mem_append_right _ (List.mem_of_getElem? (i := 924) (by decide +kernel))) (by decide +kernel)
theorem kcX10_187 : Cond.constantLong RX10 187 (37) ∈ WS := WS_of (List.mem_append_right _ (List.mem_of_getElem? (i := 903) (by decide +kernel))) (by decide +kernel)
theorem kcX10_189 : Cond.constantLong RX10 189 (111) ∈ WS := WS_of (List.mem_append_right _ (List.mem_of_getElem? (i := 925) (by decide +kernel))) (by decide +kernel)
theorem kcX10_191 : Cond.constantLong RX10 191 (5) ∈ WS := WS_of (List.mem_append_right _ (List.mem_of_getElem? (i := 926) (by decide +kernel))) (by decide +kernel)
theorem kmX10_193 : Cond.methodLink RX10 193 yX10_digitOf ∈ WS := WS_of (List.mem_append_right _ (List.mem_of_getElem? (i := 904) (by decide +kernel))) (by decide +kernel)
theorem kcX10_197 : Cond.constantLong RX10 197 (-1) ∈ WS := WS_of (List.mem_append_right _ (List.mem_of_getElem? (i := 907) (by decide +kernel))) (by decide +kernel)
theorem kcX10_199 : Cond.constantLong RX10 199 (4294967296) ∈ WS := WS_of (List.mem_append_right _ (List.mem_of_getElem? (i := 1092) (by decide +kernel))) (by decide +kernel)
theorem kcX10_201 : Cond.constantLong RX10 201 (8589934592) ∈ WS := WS_of (List.mem_append_right _ (List.mem_of_getElem? (i := 1101) (by decide +kernel))) (by decide +kernel)
theorem kcX10_203 : Cond.constantLong RX10 203 (4294967295) ∈ WS := WS_of (List.mem_append_right _ (List.mem_of_getElem? (i := 1114) (by decide +kernel))) (by decide +kernel)
theorem kmX10_205 : Cond.methodLink RX10 205 yX10_isPair ∈ WS := WS_of (List.mem_append_right _ (List.mem_of_getElem? (i := 1135) (by decide +kernel))) (by decide +kernel)
theorem kmX10_209 : Cond.methodLink RX10 209 yX10_first ∈ WS := WS_of (List.mem_append_right _ (List.mem_of_getElem? (i := 1142) (by decide +kernel))) (by decide +kernel)
theorem kmX10_213 : Cond.methodLink RX10 213 yX10_hold ∈ WS := WS_of (List.mem_append_right _ (List.mem_of_getElem? (i := 1131) (by decide +kernel))) (by decide +kernel)
theorem kmX10_216 : Cond.methodLink RX10 216 yX10_behind ∈ WS := WS_of (List.mem_append_right _ (List.mem_of_getElem? (i := 1146) (by decide +kernel))) (by decide +kernel)
theorem kmX10_219 : Cond.methodLink RX10 219 yX10_holdAll ∈ WS := WS_of (List.mem_append_right _ (List.mem_of_getElem? (i := 1138) (by decide +kernel))) (by decide +kernel)
theorem kmX10_222 : Cond.methodLink RX10 222 yX10_holdGlobals ∈ WS := WS_of (List.mem_append_right _ (List.mem_of_getElem? (i := 1127) (by decide +kernel))) (by decide +kernel)
theorem kmX10_225 : Cond.methodLink RX10 225 yX10_charAt ∈ WS := WS_of (List.mem_append_right _ (List.mem_of_getElem? (i := 1088) (by decide +kernel))) (by decide +kernel)
theorem kmX10_228 : Cond.methodLink RX10 228 yX10_digit ∈ WS := WS_of (List.mem_append_right _ (List.mem_of_getElem? (i := 1106) (by decide +kernel))) (by decide +kernel)
theorem kcX10_232 : Cond.constantLong RX10 232 (10) ∈ WS := WS_of (List.mem_append_right _ (List.mem_of_getElem? (i := 1109) (by decide +kernel))) (by decide +kernel)
theorem kcX10_234 : Cond.constantLong RX10 234 (48) ∈ WS := WS_of (List.mem_append_right _ (List.mem_of_getElem? (i := 1110) (by decide +kernel))) (by decide +kernel)
theorem kmX10_236 : Cond.methodLink RX10 236 yX10_number ∈ WS := WS_of (List.mem_append_right _ (List.mem_of_getElem? (i := 1111) (by decide +kernel))) (by decide +kernel)
theorem kmX10_240 : Cond.methodLink RX10 240 yX10_placeOf ∈ WS := WS_of (List.mem_append_right _ (List.mem_of_getElem? (i := 1119) (by decide +kernel))) (by decide +kernel)
theorem kmX10_244 : Cond.methodLink RX10 244 yX10_pair ∈ WS := WS_of (List.mem_append_right _ (List.mem_of_getElem? (i := 1097) (by decide +kernel))) (by decide +kernel)
theorem kmX10_248 : Cond.methodLink RX10 248 yX10_blank ∈ WS := WS_of (List.mem_append_right _ (List.mem_of_getElem? (i := 1077) (by decide +kernel))) (by decide +kernel)
theorem kmX10_251 : Cond.methodLink RX10 251 yX10_comes ∈ WS := WS_of (List.mem_append_right _ (List.mem_of_getElem? (i := 1093) (by decide +kernel))) (by decide +kernel)
theorem kmX10_255 : Cond.methodLink RX10 255 yX10_atom ∈ WS := WS_of (List.mem_append_right _ (List.mem_of_getElem? (i := 1102) (by decide +kernel))) (by decide +kernel)
theorem kmX10_258 : Cond.methodLink RX10 258 yX10_meets ∈ WS := WS_of (List.mem_append_right _ (List.mem_of_getElem? (i := 1115) (by decide +kernel))) (by decide +kernel)
theorem kmX10_261 : Cond.methodLink RX10 261 yX10_reads ∈ WS := WS_of (List.mem_append_right _ (List.mem_of_getElem? (i := 1084) (by decide +kernel))) (by decide +kernel)
theorem kmX10_265 : Cond.methodLink RX10 265 yX10_fails ∈ WS := WS_of (List.mem_append_right _ (List.mem_of_getElem? (i := 1123) (by decide +kernel))) (by decide +kernel)
theorem kmX10_269 : Cond.methodLink RX10 269 yX10_listOf ∈ WS := WS_of (List.mem_append_right _ (List.mem_of_getElem? (i := 1182) (by decide +kernel))) (by decide +kernel)
theorem kmX10_273 : Cond.methodLink RX10 273 yX10_waits ∈ WS := WS_of (List.mem_append_right _ (List.mem_of_getElem? (i := 1191) (by decide +kernel))) (by decide +kernel)
theorem kmX10_277 : Cond.methodLink RX10 277 yX10_begins ∈ WS := WS_of (List.mem_append_right _ (List.mem_of_getElem? (i := 1162) (by decide +kernel))) (by decide +kernel)
theorem kmX10_281 : Cond.methodLink RX10 281 yX10_isNumber ∈ WS := WS_of (List.mem_append_right _ (List.mem_of_getElem? (i := 1166) (by decide +kernel))) (by decide +kernel)
theorem kcX10_284 : Cond.constantLong RX10 284 (4294967297) ∈ WS := WS_of (List.mem_append_right _ (List.mem_of_getElem? (i := 1169) (by decide +kernel))) (by decide +kernel)
theorem kmX10_286 : Cond.methodLink RX10 286 yX10_gives ∈ WS := WS_of (List.mem_append_right _ (List.mem_of_getElem? (i := 1170) (by decide +kernel))) (by decide +kernel)
theorem kmX10_289 : Cond.methodLink RX10 289 yX10_isName ∈ WS := WS_of (List.mem_append_right _ (List.mem_of_getElem? (i := 1174) (by decide +kernel))) (by decide +kernel)
theorem kmX10_292 : Cond.methodLink RX10 292 yX10_lookUp ∈ WS := WS_of (List.mem_append_right _ (List.mem_of_getElem? (i := 1177) (by decide +kernel))) (by decide +kernel)
theorem kcX10_295 : Cond.constantLong RX10 295 (4294967298) ∈ WS := WS_of (List.mem_append_right _ (List.mem_of_getElem? (i := 1181) (by decide +kernel))) (by decide +kernel)
theorem kcX10_297 : Cond.constantLong RX10 297 (4294967299) ∈ WS := WS_of (List.mem_append_right _ (List.mem_of_getElem? (i := 1186) (by decide +kernel))) (by decide +kernel)
theorem kmX10_299 : Cond.methodLink RX10 299 yX10_condition ∈ WS := WS_of (List.mem_append_right _ (List.mem_of_getElem? (i := 1187) (by decide +kernel))) (by decide +kernel)
theorem kcX10_302 : Cond.constantLong RX10 302 (4294967300) ∈ WS := WS_of (List.mem_append_right _ (List.mem_of_getElem? (i := 1195) (by decide +kernel))) (by decide +kernel)
theorem kmX10_304 : Cond.methodLink RX10 304 yX10_holdWaiting ∈ WS := WS_of (List.mem_append_right _ (List.mem_of_getElem? (i := 1204) (by decide +kernel))) (by decide +kernel)
theorem kmX10_307 : Cond.methodLink RX10 307 yX10_room ∈ WS := WS_of (List.mem_append_right _ (List.mem_of_getElem? (i := 1150) (by decide +kernel))) (by decide +kernel)
theorem kmX10_310 : Cond.methodLink RX10 310 yX10_namesIn ∈ WS := WS_of (List.mem_append_right _ (List.mem_of_getElem? (i := 1213) (by decide +kernel))) (by decide +kernel)
theorem kmX10_313 : Cond.methodLink RX10 313 yX10_holdForBinding ∈ WS := WS_of (List.mem_append_right _ (List.mem_of_getElem? (i := 1217) (by decide +kernel))) (by decide +kernel)
theorem kmX10_316 : Cond.methodLink RX10 316 yX10_primitive ∈ WS := WS_of (List.mem_append_right _ (List.mem_of_getElem? (i := 1200) (by decide +kernel))) (by decide +kernel)
theorem kcX10_319 : Cond.constantLong RX10 319 (4294967301) ∈ WS := WS_of (List.mem_append_right _ (List.mem_of_getElem? (i := 1208) (by decide +kernel))) (by decide +kernel)
theorem kmX10_321 : Cond.methodLink RX10 321 yX10_lambda ∈ WS := WS_of (List.mem_append_right _ (List.mem_of_getElem? (i := 1209) (by decide +kernel))) (by decide +kernel)
theorem kcX10_324 : Cond.constantLong RX10 324 (4294967302) ∈ WS := WS_of (List.mem_append_right _ (List.mem_of_getElem? (i := 1221) (by decide +kernel))) (by decide +kernel)
theorem kmX10_326 : Cond.methodLink RX10 326 yX10_label ∈ WS := WS_of (List.mem_append_right _ (List.mem_of_getElem? (i := 1222) (by decide +kernel))) (by decide +kernel)
theorem kmX10_329 : Cond.methodLink RX10 329 yX10_evaluate ∈ WS := WS_of (List.mem_append_right _ (List.mem_of_getElem? (i := 1158) (by decide +kernel))) (by decide +kernel)
theorem kmX10_332 : Cond.methodLink RX10 332 yX10_apply ∈ WS := WS_of (List.mem_append_right _ (List.mem_of_getElem? (i := 1196) (by decide +kernel))) (by decide +kernel)
theorem kmX10_335 : Cond.methodLink RX10 335 yX10_back ∈ WS := WS_of (List.mem_append_right _ (List.mem_of_getElem? (i := 1226) (by decide +kernel))) (by decide +kernel)
theorem kmX10_338 : Cond.methodLink RX10 338 yX10_put ∈ WS := WS_of (List.mem_append_right _ (List.mem_of_getElem? (i := 1234) (by decide +kernel))) (by decide +kernel)
theorem kmX10_341 : Cond.methodLink RX10 341 yX10_putAtom ∈ WS := WS_of (List.mem_append_right _ (List.mem_of_getElem? (i := 1238) (by decide +kernel))) (by decide +kernel)
theorem kmX10_344 : Cond.methodLink RX10 344 yX10_readAll ∈ WS := WS_of (List.mem_append_right _ (List.mem_of_getElem? (i := 1080) (by decide +kernel))) (by decide +kernel)
theorem kmX10_347 : Cond.methodLink RX10 347 yX10_evaluateAll ∈ WS := WS_of (List.mem_append_right _ (List.mem_of_getElem? (i := 1154) (by decide +kernel))) (by decide +kernel)
theorem kmX10_350 : Cond.methodLink RX10 350 yX10_printAll ∈ WS := WS_of (List.mem_append_right _ (List.mem_of_getElem? (i := 1230) (by decide +kernel))) (by decide +kernel)
theorem kmL_7 : Cond.methodLink RL 7 yX9_next ∈ WS := WS_of (List.mem_append_right _ (List.mem_of_getElem? (i := 443) (by decide +kernel))) (by decide +kernel)
theorem knL_8 : Cond.classLink RL 8 RX9 ∈ WS := WS_of (List.mem_append_right _ (List.mem_of_getElem? (i := 23) (by decide +kernel))) (by decide +kernel)
theorem kmL_17 : Cond.methodLink RL 17 yL_cell ∈ WS := WS_of (List.mem_append_right _ (List.mem_of_getElem? (i := 435) (by decide +kernel))) (by decide +kernel)
theorem kmL_23 : Cond.methodLink RL 23 yX9_init ∈ WS := WS_of (List.mem_append_right _ (List.mem_of_getElem? (i := 25) (by decide +kernel))) (by decide +kernel)
theorem knL_26 : Cond.classLink RL 26 RX10 ∈ WS := WS_of (List.mem_append_right _ (List.mem_of_getElem? (i := 892) (by decide +kernel))) (by decide +kernel)
theorem kmL_28 : Cond.methodLink RL 28 yX10_init ∈ WS := WS_of (List.mem_append_right _ (List.mem_of_getElem? (i := 894) (by decide +kernel))) (by decide +kernel)
theorem kcL_29 : Cond.constantLong RL 29 (4294967295) ∈ WS := WS_of (List.mem_append_right _ (List.mem_of_getElem? (i := 1262) (by decide +kernel))) (by decide +kernel)
theorem kmL_31 : Cond.methodLink RL 31 yX9_write ∈ WS := WS_of (List.mem_append_right _ (List.mem_of_getElem? (i := 387) (by decide +kernel))) (by decide +kernel)
theorem kmL_35 : Cond.methodLink RL 35 yX10_write ∈ WS := WS_of (List.mem_append_right _ (List.mem_of_getElem? (i := 1065) (by decide +kernel))) (by decide +kernel)
theorem kmL_36 : Cond.methodLink RL 36 yX9_clear ∈ WS := WS_of (List.mem_append_right _ (List.mem_of_getElem? (i := 398) (by decide +kernel))) (by decide +kernel)
theorem kmL_39 : Cond.methodLink RL 39 yX10_clear ∈ WS := WS_of (List.mem_append_right _ (List.mem_of_getElem? (i := 1069) (by decide +kernel))) (by decide +kernel)
theorem kmL_40 : Cond.methodLink RL 40 yL_next ∈ WS := WS_of (List.mem_append_right _ (List.mem_of_getElem? (i := 438) (by decide +kernel))) (by decide +kernel)
theorem kmL_43 : Cond.methodLink RL 43 yX10_next ∈ WS := WS_of (List.mem_append_right _ (List.mem_of_getElem? (i := 1073) (by decide +kernel))) (by decide +kernel)
theorem kmL_44 : Cond.methodLink RL 44 yX10_thrown ∈ WS := WS_of (List.mem_append_right _ (List.mem_of_getElem? (i := 1061) (by decide +kernel))) (by decide +kernel)
theorem kmL_47 : Cond.methodLink RL 47 yX9_fault ∈ WS := WS_of (List.mem_append_right _ (List.mem_of_getElem? (i := 402) (by decide +kernel))) (by decide +kernel)
theorem kmL_50 : Cond.methodLink RL 50 yX10_fault ∈ WS := WS_of (List.mem_append_right _ (List.mem_of_getElem? (i := 1242) (by decide +kernel))) (by decide +kernel)
theorem kmL_51 : Cond.methodLink RL 51 yX9_place ∈ WS := WS_of (List.mem_append_right _ (List.mem_of_getElem? (i := 406) (by decide +kernel))) (by decide +kernel)
theorem kmL_54 : Cond.methodLink RL 54 yX10_place ∈ WS := WS_of (List.mem_append_right _ (List.mem_of_getElem? (i := 1246) (by decide +kernel))) (by decide +kernel)
theorem kmL_55 : Cond.methodLink RL 55 yX9_size ∈ WS := WS_of (List.mem_append_right _ (List.mem_of_getElem? (i := 410) (by decide +kernel))) (by decide +kernel)
theorem kmL_58 : Cond.methodLink RL 58 yX10_size ∈ WS := WS_of (List.mem_append_right _ (List.mem_of_getElem? (i := 1250) (by decide +kernel))) (by decide +kernel)
theorem kmL_59 : Cond.methodLink RL 59 yX9_out ∈ WS := WS_of (List.mem_append_right _ (List.mem_of_getElem? (i := 414) (by decide +kernel))) (by decide +kernel)
theorem kmL_63 : Cond.methodLink RL 63 yX10_out ∈ WS := WS_of (List.mem_append_right _ (List.mem_of_getElem? (i := 1254) (by decide +kernel))) (by decide +kernel)
theorem kmL_64 : Cond.methodLink RL 64 yX9_count ∈ WS := WS_of (List.mem_append_right _ (List.mem_of_getElem? (i := 418) (by decide +kernel))) (by decide +kernel)
theorem kmL_67 : Cond.methodLink RL 67 yX10_count ∈ WS := WS_of (List.mem_append_right _ (List.mem_of_getElem? (i := 1258) (by decide +kernel))) (by decide +kernel)
theorem kk_yX0_init : Cond.code yX0_init cX0_init 3 none ∈ WS := WS_of (List.mem_append_right _ (List.mem_of_getElem? (i := 38) (by decide +kernel))) (by decide +kernel)
theorem ki_yX0_init : Cond.instanceMethod yX0_init ∈ WS := WS_of (List.mem_append_right _ (List.mem_of_getElem? (i := 37) (by decide +kernel))) (by decide +kernel)
theorem kk_yX0_cellOf : Cond.code yX0_cellOf cX0_cellOf 3 (some .int) ∈ WS := WS_of (List.mem_append_right _ (List.mem_of_getElem? (i := 545) (by decide +kernel))) (by decide +kernel)
theorem ki_yX0_cellOf : Cond.instanceMethod yX0_cellOf ∈ WS := WS_of (List.mem_append_right _ (List.mem_of_getElem? (i := 544) (by decide +kernel))) (by decide +kernel)
theorem kv_yX0_cellOf : Cond.selects RX0 yX0_cellOf yX0_cellOf ∈ WS := WS_of (List.mem_append_left _ (List.mem_of_getElem? (i := 15) (by decide +kernel))) (by decide +kernel)
theorem kk_yX0_car : Cond.code yX0_car cX0_car 4 (some .long) ∈ WS := WS_of (List.mem_append_right _ (List.mem_of_getElem? (i := 682) (by decide +kernel))) (by decide +kernel)
theorem ki_yX0_car : Cond.instanceMethod yX0_car ∈ WS := WS_of (List.mem_append_right _ (List.mem_of_getElem? (i := 680) (by decide +kernel))) (by decide +kernel)
theorem kv_yX0_car : Cond.selects RX0 yX0_car yX0_car ∈ WS := WS_of (List.mem_append_right _ (List.mem_of_getElem? (i := 681) (by decide +kernel))) (by decide +kernel)
theorem kk_yX0_cdr : Cond.code yX0_cdr cX0_cdr 4 (some .long) ∈ WS := WS_of (List.mem_append_right _ (List.mem_of_getElem? (i := 674) (by decide +kernel))) (by decide +kernel)
theorem ki_yX0_cdr : Cond.instanceMethod yX0_cdr ∈ WS := WS_of (List.mem_append_right _ (List.mem_of_getElem? (i := 672) (by decide +kernel))) (by decide +kernel)
theorem kv_yX0_cdr : Cond.selects RX0 yX0_cdr yX0_cdr ∈ WS := WS_of (List.mem_append_right _ (List.mem_of_getElem? (i := 673) (by decide +kernel))) (by decide +kernel)
theorem kk_yX0_setCdr : Cond.code yX0_setCdr cX0_setCdr 6 none ∈ WS := WS_of (List.mem_append_right _ (List.mem_of_getElem? (i := 541) (by decide +kernel))) (by decide +kernel)
theorem ki_yX0_setCdr : Cond.instanceMethod yX0_setCdr ∈ WS := WS_of (List.mem_append_right _ (List.mem_of_getElem? (i := 539) (by decide +kernel))) (by decide +kernel)
theorem kv_yX0_setCdr : Cond.selects RX0 yX0_setCdr yX0_setCdr ∈ WS := WS_of (List.mem_append_right _ (List.mem_of_getElem? (i := 540) (by decide +kernel))) (by decide +kernel)
theorem kk_yX0_newPair : Cond.code yX0_newPair cX0_newPair 6 (some .long) ∈ WS := WS_of (List.mem_append_right _ (List.mem_of_getElem? (i := 549) (by decide +kernel))) (by decide +kernel)
theorem ki_yX0_newPair : Cond.instanceMethod yX0_newPair ∈ WS := WS_of (List.mem_append_right _ (List.mem_of_getElem? (i := 547) (by decide +kernel))) (by decide +kernel)
theorem kv_yX0_newPair : Cond.selects RX0 yX0_newPair yX0_newPair ∈ WS := WS_of (List.mem_append_right _ (List.mem_of_getElem? (i := 548) (by decide +kernel))) (by decide +kernel)
theorem kk_yX0_isListOf : Cond.code yX0_isListOf cX0_isListOf 7 (some .boolean) ∈ WS := WS_of (List.mem_append_right _ (List.mem_of_getElem? (i := 694) (by decide +kernel))) (by decide +kernel)
theorem ki_yX0_isListOf : Cond.instanceMethod yX0_isListOf ∈ WS := WS_of (List.mem_append_right _ (List.mem_of_getElem? (i := 692) (by decide +kernel))) (by decide +kernel)
theorem kv_yX0_isListOf : Cond.selects RX0 yX0_isListOf yX0_isListOf ∈ WS := WS_of (List.mem_append_right _ (List.mem_of_getElem? (i := 693) (by decide +kernel))) (by decide +kernel)
theorem kk_yX0_isListOfNames : Cond.code yX0_isListOfNames cX0_isListOfNames 7 (some .boolean) ∈ WS := WS_of (List.mem_append_right _ (List.mem_of_getElem? (i := 771) (by decide +kernel))) (by decide +kernel)
theorem ki_yX0_isListOfNames : Cond.instanceMethod yX0_isListOfNames ∈ WS := WS_of (List.mem_append_right _ (List.mem_of_getElem? (i := 769) (by decide +kernel))) (by decide +kernel)
theorem kv_yX0_isListOfNames : Cond.selects RX0 yX0_isListOfNames yX0_isListOfNames ∈ WS := WS_of (List.mem_append_right _ (List.mem_of_getElem? (i := 770) (by decide +kernel))) (by decide +kernel)
theorem kk_yX0_beginMarking : Cond.code yX0_beginMarking cX0_beginMarking 1 none ∈ WS := WS_of (List.mem_append_right _ (List.mem_of_getElem? (i := 429) (by decide +kernel))) (by decide +kernel)
theorem ki_yX0_beginMarking : Cond.instanceMethod yX0_beginMarking ∈ WS := WS_of (List.mem_append_right _ (List.mem_of_getElem? (i := 427) (by decide +kernel))) (by decide +kernel)
theorem kv_yX0_beginMarking : Cond.selects RX0 yX0_beginMarking yX0_beginMarking ∈ WS := WS_of (List.mem_append_right _ (List.mem_of_getElem? (i := 428) (by decide +kernel))) (by decide +kernel)
theorem kk_yX0_mark : Cond.code yX0_mark cX0_mark 10 none ∈ WS := WS_of (List.mem_append_right _ (List.mem_of_getElem? (i := 433) (by decide +kernel))) (by decide +kernel)
theorem ki_yX0_mark : Cond.instanceMethod yX0_mark ∈ WS := WS_of (List.mem_append_right _ (List.mem_of_getElem? (i := 431) (by decide +kernel))) (by decide +kernel)
theorem kv_yX0_mark : Cond.selects RX0 yX0_mark yX0_mark ∈ WS := WS_of (List.mem_append_right _ (List.mem_of_getElem? (i := 432) (by decide +kernel))) (by decide +kernel)
theorem kk_yX0_sweep : Cond.code yX0_sweep cX0_sweep 2 none ∈ WS := WS_of (List.mem_append_right _ (List.mem_of_getElem? (i := 517) (by decide +kernel))) (by decide +kernel)
theorem ki_yX0_sweep : Cond.instanceMethod yX0_sweep ∈ WS := WS_of (List.mem_append_right _ (List.mem_of_getElem? (i := 515) (by decide +kernel))) (by decide +kernel)
theorem kv_yX0_sweep : Cond.selects RX0 yX0_sweep yX0_sweep ∈ WS := WS_of (List.mem_append_right _ (List.mem_of_getElem? (i := 516) (by decide +kernel))) (by decide +kernel)
theorem kk_yX1_init : Cond.code yX1_init cX1_init 4 none ∈ WS := WS_of (List.mem_append_right _ (List.mem_of_getElem? (i := 211) (by decide +kernel))) (by decide +kernel)
theorem ki_yX1_init : Cond.instanceMethod yX1_init ∈ WS := WS_of (List.mem_append_right _ (List.mem_of_getElem? (i := 210) (by decide +kernel))) (by decide +kernel)
theorem kk_yX1_pairsOfGlobals : Cond.code yX1_pairsOfGlobals cX1_pairsOfGlobals 1 (some .int) ∈ WS := WS_of (List.mem_append_right _ (List.mem_of_getElem? (i := 425) (by decide +kernel))) (by decide +kernel)
theorem ki_yX1_pairsOfGlobals : Cond.instanceMethod yX1_pairsOfGlobals ∈ WS := WS_of (List.mem_append_right _ (List.mem_of_getElem? (i := 423) (by decide +kernel))) (by decide +kernel)
theorem kv_yX1_pairsOfGlobals : Cond.selects RX1 yX1_pairsOfGlobals yX1_pairsOfGlobals ∈ WS := WS_of (List.mem_append_right _ (List.mem_of_getElem? (i := 424) (by decide +kernel))) (by decide +kernel)
theorem kk_yX1_hasRoom : Cond.code yX1_hasRoom cX1_hasRoom 8 (some .boolean) ∈ WS := WS_of (List.mem_append_right _ (List.mem_of_getElem? (i := 513) (by decide +kernel))) (by decide +kernel)
theorem ki_yX1_hasRoom : Cond.instanceMethod yX1_hasRoom ∈ WS := WS_of (List.mem_append_right _ (List.mem_of_getElem? (i := 511) (by decide +kernel))) (by decide +kernel)
theorem kv_yX1_hasRoom : Cond.selects RX1 yX1_hasRoom yX1_hasRoom ∈ WS := WS_of (List.mem_append_right _ (List.mem_of_getElem? (i := 512) (by decide +kernel))) (by decide +kernel)
theorem kk_yX2_init : Cond.code yX2_init cX2_init 6 none ∈ WS := WS_of (List.mem_append_right _ (List.mem_of_getElem? (i := 281) (by decide +kernel))) (by decide +kernel)
theorem ki_yX2_init : Cond.instanceMethod yX2_init ∈ WS := WS_of (List.mem_append_right _ (List.mem_of_getElem? (i := 280) (by decide +kernel))) (by decide +kernel)
theorem kk_yX2_evaluate : Cond.code yX2_evaluate cX2_evaluate 5 (some .int) ∈ WS := WS_of (List.mem_append_right _ (List.mem_of_getElem? (i := 620) (by decide +kernel))) (by decide +kernel)
theorem ki_yX2_evaluate : Cond.instanceMethod yX2_evaluate ∈ WS := WS_of (List.mem_append_right _ (List.mem_of_getElem? (i := 618) (by decide +kernel))) (by decide +kernel)
theorem kv_yX2_evaluate : Cond.selects RX2 yX2_evaluate yX2_evaluate ∈ WS := WS_of (List.mem_append_right _ (List.mem_of_getElem? (i := 619) (by decide +kernel))) (by decide +kernel)
theorem kk_yX2_beginEvaluating : Cond.code yX2_beginEvaluating cX2_beginEvaluating 5 none ∈ WS := WS_of (List.mem_append_right _ (List.mem_of_getElem? (i := 624) (by decide +kernel))) (by decide +kernel)
theorem ki_yX2_beginEvaluating : Cond.instanceMethod yX2_beginEvaluating ∈ WS := WS_of (List.mem_append_right _ (List.mem_of_getElem? (i := 623) (by decide +kernel))) (by decide +kernel)
theorem kv_yX2_beginEvaluating : Cond.selects RX2 yX2_beginEvaluating yX2_beginEvaluating ∈ WS := WS_of (List.mem_append_left _ (List.mem_of_getElem? (i := 17) (by decide +kernel))) (by decide +kernel)
theorem kk_yX2_beginApplying : Cond.code yX2_beginApplying cX2_beginApplying 3 none ∈ WS := WS_of (List.mem_append_right _ (List.mem_of_getElem? (i := 660) (by decide +kernel))) (by decide +kernel)
theorem ki_yX2_beginApplying : Cond.instanceMethod yX2_beginApplying ∈ WS := WS_of (List.mem_append_right _ (List.mem_of_getElem? (i := 659) (by decide +kernel))) (by decide +kernel)
theorem kv_yX2_beginApplying : Cond.selects RX2 yX2_beginApplying yX2_beginApplying ∈ WS := WS_of (List.mem_append_left _ (List.mem_of_getElem? (i := 20) (by decide +kernel))) (by decide +kernel)
theorem kk_yX2_answer : Cond.code yX2_answer cX2_answer 3 none ∈ WS := WS_of (List.mem_append_right _ (List.mem_of_getElem? (i := 716) (by decide +kernel))) (by decide +kernel)
theorem ki_yX2_answer : Cond.instanceMethod yX2_answer ∈ WS := WS_of (List.mem_append_right _ (List.mem_of_getElem? (i := 715) (by decide +kernel))) (by decide +kernel)
theorem kv_yX2_answer : Cond.selects RX2 yX2_answer yX2_answer ∈ WS := WS_of (List.mem_append_left _ (List.mem_of_getElem? (i := 25) (by decide +kernel))) (by decide +kernel)
theorem kk_yX2_answerTruth : Cond.code yX2_answerTruth cX2_answerTruth 2 none ∈ WS := WS_of (List.mem_append_right _ (List.mem_of_getElem? (i := 815) (by decide +kernel))) (by decide +kernel)
theorem ki_yX2_answerTruth : Cond.instanceMethod yX2_answerTruth ∈ WS := WS_of (List.mem_append_right _ (List.mem_of_getElem? (i := 814) (by decide +kernel))) (by decide +kernel)
theorem kv_yX2_answerTruth : Cond.selects RX2 yX2_answerTruth yX2_answerTruth ∈ WS := WS_of (List.mem_append_left _ (List.mem_of_getElem? (i := 39) (by decide +kernel))) (by decide +kernel)
theorem kk_yX2_boundTo : Cond.code yX2_boundTo cX2_boundTo 8 (some .long) ∈ WS := WS_of (List.mem_append_right _ (List.mem_of_getElem? (i := 753) (by decide +kernel))) (by decide +kernel)
theorem ki_yX2_boundTo : Cond.instanceMethod yX2_boundTo ∈ WS := WS_of (List.mem_append_right _ (List.mem_of_getElem? (i := 752) (by decide +kernel))) (by decide +kernel)
theorem kv_yX2_boundTo : Cond.selects RX2 yX2_boundTo yX2_boundTo ∈ WS := WS_of (List.mem_append_left _ (List.mem_of_getElem? (i := 30) (by decide +kernel))) (by decide +kernel)
theorem kk_yX2_evaluateAtom : Cond.code yX2_evaluateAtom cX2_evaluateAtom 3 none ∈ WS := WS_of (List.mem_append_right _ (List.mem_of_getElem? (i := 749) (by decide +kernel))) (by decide +kernel)
theorem ki_yX2_evaluateAtom : Cond.instanceMethod yX2_evaluateAtom ∈ WS := WS_of (List.mem_append_right _ (List.mem_of_getElem? (i := 748) (by decide +kernel))) (by decide +kernel)
theorem kv_yX2_evaluateAtom : Cond.selects RX2 yX2_evaluateAtom yX2_evaluateAtom ∈ WS := WS_of (List.mem_append_left _ (List.mem_of_getElem? (i := 29) (by decide +kernel))) (by decide +kernel)
theorem kk_yX2_evaluatePair : Cond.code yX2_evaluatePair cX2_evaluatePair 3 none ∈ WS := WS_of (List.mem_append_right _ (List.mem_of_getElem? (i := 707) (by decide +kernel))) (by decide +kernel)
theorem ki_yX2_evaluatePair : Cond.instanceMethod yX2_evaluatePair ∈ WS := WS_of (List.mem_append_right _ (List.mem_of_getElem? (i := 706) (by decide +kernel))) (by decide +kernel)
theorem kv_yX2_evaluatePair : Cond.selects RX2 yX2_evaluatePair yX2_evaluatePair ∈ WS := WS_of (List.mem_append_left _ (List.mem_of_getElem? (i := 23) (by decide +kernel))) (by decide +kernel)
theorem kk_yX2_evaluateQuote : Cond.code yX2_evaluateQuote cX2_evaluateQuote 1 none ∈ WS := WS_of (List.mem_append_right _ (List.mem_of_getElem? (i := 712) (by decide +kernel))) (by decide +kernel)
theorem ki_yX2_evaluateQuote : Cond.instanceMethod yX2_evaluateQuote ∈ WS := WS_of (List.mem_append_right _ (List.mem_of_getElem? (i := 711) (by decide +kernel))) (by decide +kernel)
theorem kv_yX2_evaluateQuote : Cond.selects RX2 yX2_evaluateQuote yX2_evaluateQuote ∈ WS := WS_of (List.mem_append_left _ (List.mem_of_getElem? (i := 24) (by decide +kernel))) (by decide +kernel)
theorem kk_yX2_evaluateDefine : Cond.code yX2_evaluateDefine cX2_evaluateDefine 3 none ∈ WS := WS_of (List.mem_append_right _ (List.mem_of_getElem? (i := 722) (by decide +kernel))) (by decide +kernel)
theorem ki_yX2_evaluateDefine : Cond.instanceMethod yX2_evaluateDefine ∈ WS := WS_of (List.mem_append_right _ (List.mem_of_getElem? (i := 721) (by decide +kernel))) (by decide +kernel)
theorem kv_yX2_evaluateDefine : Cond.selects RX2 yX2_evaluateDefine yX2_evaluateDefine ∈ WS := WS_of (List.mem_append_left _ (List.mem_of_getElem? (i := 26) (by decide +kernel))) (by decide +kernel)
theorem kk_yX2_choose : Cond.code yX2_choose cX2_choose 3 none ∈ WS := WS_of (List.mem_append_right _ (List.mem_of_getElem? (i := 690) (by decide +kernel))) (by decide +kernel)
theorem ki_yX2_choose : Cond.instanceMethod yX2_choose ∈ WS := WS_of (List.mem_append_right _ (List.mem_of_getElem? (i := 689) (by decide +kernel))) (by decide +kernel)
theorem kv_yX2_choose : Cond.selects RX2 yX2_choose yX2_choose ∈ WS := WS_of (List.mem_append_left _ (List.mem_of_getElem? (i := 22) (by decide +kernel))) (by decide +kernel)
theorem kk_yX2_evaluateCall : Cond.code yX2_evaluateCall cX2_evaluateCall 5 none ∈ WS := WS_of (List.mem_append_right _ (List.mem_of_getElem? (i := 745) (by decide +kernel))) (by decide +kernel)
theorem ki_yX2_evaluateCall : Cond.instanceMethod yX2_evaluateCall ∈ WS := WS_of (List.mem_append_right _ (List.mem_of_getElem? (i := 744) (by decide +kernel))) (by decide +kernel)
theorem kv_yX2_evaluateCall : Cond.selects RX2 yX2_evaluateCall yX2_evaluateCall ∈ WS := WS_of (List.mem_append_left _ (List.mem_of_getElem? (i := 28) (by decide +kernel))) (by decide +kernel)
theorem kk_yX2_handBack : Cond.code yX2_handBack cX2_handBack 1 none ∈ WS := WS_of (List.mem_append_right _ (List.mem_of_getElem? (i := 628) (by decide +kernel))) (by decide +kernel)
theorem ki_yX2_handBack : Cond.instanceMethod yX2_handBack ∈ WS := WS_of (List.mem_append_right _ (List.mem_of_getElem? (i := 627) (by decide +kernel))) (by decide +kernel)
theorem kv_yX2_handBack : Cond.selects RX2 yX2_handBack yX2_handBack ∈ WS := WS_of (List.mem_append_left _ (List.mem_of_getElem? (i := 18) (by decide +kernel))) (by decide +kernel)
theorem kk_yX2_goOnWithCall : Cond.code yX2_goOnWithCall cX2_goOnWithCall 3 none ∈ WS := WS_of (List.mem_append_right _ (List.mem_of_getElem? (i := 641) (by decide +kernel))) (by decide +kernel)
theorem ki_yX2_goOnWithCall : Cond.instanceMethod yX2_goOnWithCall ∈ WS := WS_of (List.mem_append_right _ (List.mem_of_getElem? (i := 640) (by decide +kernel))) (by decide +kernel)
theorem kv_yX2_goOnWithCall : Cond.selects RX2 yX2_goOnWithCall yX2_goOnWithCall ∈ WS := WS_of (List.mem_append_left _ (List.mem_of_getElem? (i := 19) (by decide +kernel))) (by decide +kernel)
theorem kk_yX2_goOnWithChoice : Cond.code yX2_goOnWithChoice cX2_goOnWithChoice 3 none ∈ WS := WS_of (List.mem_append_right _ (List.mem_of_getElem? (i := 686) (by decide +kernel))) (by decide +kernel)
theorem ki_yX2_goOnWithChoice : Cond.instanceMethod yX2_goOnWithChoice ∈ WS := WS_of (List.mem_append_right _ (List.mem_of_getElem? (i := 685) (by decide +kernel))) (by decide +kernel)
theorem kv_yX2_goOnWithChoice : Cond.selects RX2 yX2_goOnWithChoice yX2_goOnWithChoice ∈ WS := WS_of (List.mem_append_left _ (List.mem_of_getElem? (i := 21) (by decide +kernel))) (by decide +kernel)
theorem kk_yX2_applyPair : Cond.code yX2_applyPair cX2_applyPair 3 none ∈ WS := WS_of (List.mem_append_right _ (List.mem_of_getElem? (i := 762) (by decide +kernel))) (by decide +kernel)
theorem ki_yX2_applyPair : Cond.instanceMethod yX2_applyPair ∈ WS := WS_of (List.mem_append_right _ (List.mem_of_getElem? (i := 761) (by decide +kernel))) (by decide +kernel)
theorem kv_yX2_applyPair : Cond.selects RX2 yX2_applyPair yX2_applyPair ∈ WS := WS_of (List.mem_append_left _ (List.mem_of_getElem? (i := 31) (by decide +kernel))) (by decide +kernel)
theorem kk_yX2_applyAtom : Cond.code yX2_applyAtom cX2_applyAtom 5 none ∈ WS := WS_of (List.mem_append_right _ (List.mem_of_getElem? (i := 794) (by decide +kernel))) (by decide +kernel)
theorem ki_yX2_applyAtom : Cond.instanceMethod yX2_applyAtom ∈ WS := WS_of (List.mem_append_right _ (List.mem_of_getElem? (i := 793) (by decide +kernel))) (by decide +kernel)
theorem kv_yX2_applyAtom : Cond.selects RX2 yX2_applyAtom yX2_applyAtom ∈ WS := WS_of (List.mem_append_left _ (List.mem_of_getElem? (i := 35) (by decide +kernel))) (by decide +kernel)
theorem kk_yX2_applyLambda : Cond.code yX2_applyLambda cX2_applyLambda 5 none ∈ WS := WS_of (List.mem_append_right _ (List.mem_of_getElem? (i := 767) (by decide +kernel))) (by decide +kernel)
theorem ki_yX2_applyLambda : Cond.instanceMethod yX2_applyLambda ∈ WS := WS_of (List.mem_append_right _ (List.mem_of_getElem? (i := 766) (by decide +kernel))) (by decide +kernel)
theorem kv_yX2_applyLambda : Cond.selects RX2 yX2_applyLambda yX2_applyLambda ∈ WS := WS_of (List.mem_append_left _ (List.mem_of_getElem? (i := 32) (by decide +kernel))) (by decide +kernel)
theorem kk_yX2_bindAll : Cond.code yX2_bindAll cX2_bindAll 12 (some .long) ∈ WS := WS_of (List.mem_append_right _ (List.mem_of_getElem? (i := 778) (by decide +kernel))) (by decide +kernel)
theorem ki_yX2_bindAll : Cond.instanceMethod yX2_bindAll ∈ WS := WS_of (List.mem_append_right _ (List.mem_of_getElem? (i := 777) (by decide +kernel))) (by decide +kernel)
theorem kv_yX2_bindAll : Cond.selects RX2 yX2_bindAll yX2_bindAll ∈ WS := WS_of (List.mem_append_left _ (List.mem_of_getElem? (i := 33) (by decide +kernel))) (by decide +kernel)
theorem kk_yX2_applyLabel : Cond.code yX2_applyLabel cX2_applyLabel 5 none ∈ WS := WS_of (List.mem_append_right _ (List.mem_of_getElem? (i := 785) (by decide +kernel))) (by decide +kernel)
theorem ki_yX2_applyLabel : Cond.instanceMethod yX2_applyLabel ∈ WS := WS_of (List.mem_append_right _ (List.mem_of_getElem? (i := 784) (by decide +kernel))) (by decide +kernel)
theorem kv_yX2_applyLabel : Cond.selects RX2 yX2_applyLabel yX2_applyLabel ∈ WS := WS_of (List.mem_append_left _ (List.mem_of_getElem? (i := 34) (by decide +kernel))) (by decide +kernel)
theorem kk_yX2_valuesOf : Cond.code yX2_valuesOf cX2_valuesOf 1 (some .int) ∈ WS := WS_of (List.mem_append_right _ (List.mem_of_getElem? (i := 803) (by decide +kernel))) (by decide +kernel)
theorem ks_yX2_valuesOf : Cond.static yX2_valuesOf ∈ WS := WS_of (List.mem_append_right _ (List.mem_of_getElem? (i := 802) (by decide +kernel))) (by decide +kernel)
theorem kk_yX2_applyBuiltIn : Cond.code yX2_applyBuiltIn cX2_applyBuiltIn 2 none ∈ WS := WS_of (List.mem_append_right _ (List.mem_of_getElem? (i := 800) (by decide +kernel))) (by decide +kernel)
theorem ki_yX2_applyBuiltIn : Cond.instanceMethod yX2_applyBuiltIn ∈ WS := WS_of (List.mem_append_right _ (List.mem_of_getElem? (i := 799) (by decide +kernel))) (by decide +kernel)
theorem kv_yX2_applyBuiltIn : Cond.selects RX2 yX2_applyBuiltIn yX2_applyBuiltIn ∈ WS := WS_of (List.mem_append_left _ (List.mem_of_getElem? (i := 36) (by decide +kernel))) (by decide +kernel)
theorem kk_yX2_takePart : Cond.code yX2_takePart cX2_takePart 4 none ∈ WS := WS_of (List.mem_append_right _ (List.mem_of_getElem? (i := 807) (by decide +kernel))) (by decide +kernel)
theorem ki_yX2_takePart : Cond.instanceMethod yX2_takePart ∈ WS := WS_of (List.mem_append_right _ (List.mem_of_getElem? (i := 806) (by decide +kernel))) (by decide +kernel)
theorem kv_yX2_takePart : Cond.selects RX2 yX2_takePart yX2_takePart ∈ WS := WS_of (List.mem_append_left _ (List.mem_of_getElem? (i := 37) (by decide +kernel))) (by decide +kernel)
theorem kk_yX2_makePair : Cond.code yX2_makePair cX2_makePair 1 none ∈ WS := WS_of (List.mem_append_right _ (List.mem_of_getElem? (i := 811) (by decide +kernel))) (by decide +kernel)
theorem ki_yX2_makePair : Cond.instanceMethod yX2_makePair ∈ WS := WS_of (List.mem_append_right _ (List.mem_of_getElem? (i := 810) (by decide +kernel))) (by decide +kernel)
theorem kv_yX2_makePair : Cond.selects RX2 yX2_makePair yX2_makePair ∈ WS := WS_of (List.mem_append_left _ (List.mem_of_getElem? (i := 38) (by decide +kernel))) (by decide +kernel)
theorem kk_yX2_compareAtoms : Cond.code yX2_compareAtoms cX2_compareAtoms 5 none ∈ WS := WS_of (List.mem_append_right _ (List.mem_of_getElem? (i := 820) (by decide +kernel))) (by decide +kernel)
theorem ki_yX2_compareAtoms : Cond.instanceMethod yX2_compareAtoms ∈ WS := WS_of (List.mem_append_right _ (List.mem_of_getElem? (i := 819) (by decide +kernel))) (by decide +kernel)
theorem kv_yX2_compareAtoms : Cond.selects RX2 yX2_compareAtoms yX2_compareAtoms ∈ WS := WS_of (List.mem_append_left _ (List.mem_of_getElem? (i := 40) (by decide +kernel))) (by decide +kernel)
theorem kk_yX2_reckon : Cond.code yX2_reckon cX2_reckon 8 none ∈ WS := WS_of (List.mem_append_right _ (List.mem_of_getElem? (i := 825) (by decide +kernel))) (by decide +kernel)
theorem ki_yX2_reckon : Cond.instanceMethod yX2_reckon ∈ WS := WS_of (List.mem_append_right _ (List.mem_of_getElem? (i := 824) (by decide +kernel))) (by decide +kernel)
theorem kv_yX2_reckon : Cond.selects RX2 yX2_reckon yX2_reckon ∈ WS := WS_of (List.mem_append_left _ (List.mem_of_getElem? (i := 41) (by decide +kernel))) (by decide +kernel)
theorem kk_yX3_init : Cond.code yX3_init cX3_init 5 none ∈ WS := WS_of (List.mem_append_right _ (List.mem_of_getElem? (i := 100) (by decide +kernel))) (by decide +kernel)
theorem ki_yX3_init : Cond.instanceMethod yX3_init ∈ WS := WS_of (List.mem_append_right _ (List.mem_of_getElem? (i := 99) (by decide +kernel))) (by decide +kernel)
theorem kk_yX3_digitOf : Cond.code yX3_digitOf cX3_digitOf 1 (some .int) ∈ WS := WS_of (List.mem_append_right _ (List.mem_of_getElem? (i := 154) (by decide +kernel))) (by decide +kernel)
theorem ks_yX3_digitOf : Cond.static yX3_digitOf ∈ WS := WS_of (List.mem_append_right _ (List.mem_of_getElem? (i := 153) (by decide +kernel))) (by decide +kernel)
theorem kk_yX3_characterOf : Cond.code yX3_characterOf cX3_characterOf 1 (some .char) ∈ WS := WS_of (List.mem_append_right _ (List.mem_of_getElem? (i := 884) (by decide +kernel))) (by decide +kernel)
theorem ks_yX3_characterOf : Cond.static yX3_characterOf ∈ WS := WS_of (List.mem_append_right _ (List.mem_of_getElem? (i := 883) (by decide +kernel))) (by decide +kernel)
theorem kk_yX3_wordOf : Cond.code yX3_wordOf cX3_wordOf 4 (some .long) ∈ WS := WS_of (List.mem_append_right _ (List.mem_of_getElem? (i := 158) (by decide +kernel))) (by decide +kernel)
theorem ki_yX3_wordOf : Cond.instanceMethod yX3_wordOf ∈ WS := WS_of (List.mem_append_right _ (List.mem_of_getElem? (i := 156) (by decide +kernel))) (by decide +kernel)
theorem kv_yX3_wordOf : Cond.selects RX3 yX3_wordOf yX3_wordOf ∈ WS := WS_of (List.mem_append_right _ (List.mem_of_getElem? (i := 157) (by decide +kernel))) (by decide +kernel)
theorem kk_yX3_spellingOf : Cond.code yX3_spellingOf cX3_spellingOf 3 (some .long) ∈ WS := WS_of (List.mem_append_right _ (List.mem_of_getElem? (i := 876) (by decide +kernel))) (by decide +kernel)
theorem ki_yX3_spellingOf : Cond.instanceMethod yX3_spellingOf ∈ WS := WS_of (List.mem_append_right _ (List.mem_of_getElem? (i := 874) (by decide +kernel))) (by decide +kernel)
theorem kv_yX3_spellingOf : Cond.selects RX3 yX3_spellingOf yX3_spellingOf ∈ WS := WS_of (List.mem_append_right _ (List.mem_of_getElem? (i := 875) (by decide +kernel))) (by decide +kernel)
theorem kk_yX3_globalOf : Cond.code yX3_globalOf cX3_globalOf 3 (some .long) ∈ WS := WS_of (List.mem_append_right _ (List.mem_of_getElem? (i := 757) (by decide +kernel))) (by decide +kernel)
theorem ki_yX3_globalOf : Cond.instanceMethod yX3_globalOf ∈ WS := WS_of (List.mem_append_right _ (List.mem_of_getElem? (i := 755) (by decide +kernel))) (by decide +kernel)
theorem kv_yX3_globalOf : Cond.selects RX3 yX3_globalOf yX3_globalOf ∈ WS := WS_of (List.mem_append_right _ (List.mem_of_getElem? (i := 756) (by decide +kernel))) (by decide +kernel)
theorem kk_yX3_makeGlobal : Cond.code yX3_makeGlobal cX3_makeGlobal 5 none ∈ WS := WS_of (List.mem_append_right _ (List.mem_of_getElem? (i := 737) (by decide +kernel))) (by decide +kernel)
theorem ki_yX3_makeGlobal : Cond.instanceMethod yX3_makeGlobal ∈ WS := WS_of (List.mem_append_right _ (List.mem_of_getElem? (i := 735) (by decide +kernel))) (by decide +kernel)
theorem kv_yX3_makeGlobal : Cond.selects RX3 yX3_makeGlobal yX3_makeGlobal ∈ WS := WS_of (List.mem_append_right _ (List.mem_of_getElem? (i := 736) (by decide +kernel))) (by decide +kernel)
theorem kk_yX3_isKnown : Cond.code yX3_isKnown cX3_isKnown 3 (some .boolean) ∈ WS := WS_of (List.mem_append_right _ (List.mem_of_getElem? (i := 741) (by decide +kernel))) (by decide +kernel)
theorem ki_yX3_isKnown : Cond.instanceMethod yX3_isKnown ∈ WS := WS_of (List.mem_append_right _ (List.mem_of_getElem? (i := 740) (by decide +kernel))) (by decide +kernel)
theorem kv_yX3_isKnown : Cond.selects RX3 yX3_isKnown yX3_isKnown ∈ WS := WS_of (List.mem_append_left _ (List.mem_of_getElem? (i := 27) (by decide +kernel))) (by decide +kernel)
theorem kk_yX4_init : Cond.code yX4_init cX4_init 3 none ∈ WS := WS_of (List.mem_append_right _ (List.mem_of_getElem? (i := 336) (by decide +kernel))) (by decide +kernel)
theorem ki_yX4_init : Cond.instanceMethod yX4_init ∈ WS := WS_of (List.mem_append_right _ (List.mem_of_getElem? (i := 335) (by decide +kernel))) (by decide +kernel)
theorem kk_yX4_print : Cond.code yX4_print cX4_print 6 none ∈ WS := WS_of (List.mem_append_right _ (List.mem_of_getElem? (i := 845) (by decide +kernel))) (by decide +kernel)
theorem ki_yX4_print : Cond.instanceMethod yX4_print ∈ WS := WS_of (List.mem_append_right _ (List.mem_of_getElem? (i := 843) (by decide +kernel))) (by decide +kernel)
theorem kv_yX4_print : Cond.selects RX4 yX4_print yX4_print ∈ WS := WS_of (List.mem_append_right _ (List.mem_of_getElem? (i := 844) (by decide +kernel))) (by decide +kernel)
theorem kk_yX4_printBeginning : Cond.code yX4_printBeginning cX4_printBeginning 3 none ∈ WS := WS_of (List.mem_append_right _ (List.mem_of_getElem? (i := 849) (by decide +kernel))) (by decide +kernel)
theorem ki_yX4_printBeginning : Cond.instanceMethod yX4_printBeginning ∈ WS := WS_of (List.mem_append_right _ (List.mem_of_getElem? (i := 848) (by decide +kernel))) (by decide +kernel)
theorem kv_yX4_printBeginning : Cond.selects RX4 yX4_printBeginning yX4_printBeginning ∈ WS := WS_of (List.mem_append_left _ (List.mem_of_getElem? (i := 42) (by decide +kernel))) (by decide +kernel)
theorem kk_yX4_printEnd : Cond.code yX4_printEnd cX4_printEnd 3 none ∈ WS := WS_of (List.mem_append_right _ (List.mem_of_getElem? (i := 890) (by decide +kernel))) (by decide +kernel)
theorem ki_yX4_printEnd : Cond.instanceMethod yX4_printEnd ∈ WS := WS_of (List.mem_append_right _ (List.mem_of_getElem? (i := 889) (by decide +kernel))) (by decide +kernel)
theorem kv_yX4_printEnd : Cond.selects RX4 yX4_printEnd yX4_printEnd ∈ WS := WS_of (List.mem_append_left _ (List.mem_of_getElem? (i := 48) (by decide +kernel))) (by decide +kernel)
theorem kk_yX4_printAtom : Cond.code yX4_printAtom cX4_printAtom 3 none ∈ WS := WS_of (List.mem_append_right _ (List.mem_of_getElem? (i := 854) (by decide +kernel))) (by decide +kernel)
theorem ki_yX4_printAtom : Cond.instanceMethod yX4_printAtom ∈ WS := WS_of (List.mem_append_right _ (List.mem_of_getElem? (i := 853) (by decide +kernel))) (by decide +kernel)
theorem kv_yX4_printAtom : Cond.selects RX4 yX4_printAtom yX4_printAtom ∈ WS := WS_of (List.mem_append_left _ (List.mem_of_getElem? (i := 43) (by decide +kernel))) (by decide +kernel)
theorem kk_yX4_printNumber : Cond.code yX4_printNumber cX4_printNumber 6 none ∈ WS := WS_of (List.mem_append_right _ (List.mem_of_getElem? (i := 859) (by decide +kernel))) (by decide +kernel)
theorem ki_yX4_printNumber : Cond.instanceMethod yX4_printNumber ∈ WS := WS_of (List.mem_append_right _ (List.mem_of_getElem? (i := 858) (by decide +kernel))) (by decide +kernel)
theorem kv_yX4_printNumber : Cond.selects RX4 yX4_printNumber yX4_printNumber ∈ WS := WS_of (List.mem_append_left _ (List.mem_of_getElem? (i := 44) (by decide +kernel))) (by decide +kernel)
theorem kk_yX4_printName : Cond.code yX4_printName cX4_printName 6 none ∈ WS := WS_of (List.mem_append_right _ (List.mem_of_getElem? (i := 880) (by decide +kernel))) (by decide +kernel)
theorem ki_yX4_printName : Cond.instanceMethod yX4_printName ∈ WS := WS_of (List.mem_append_right _ (List.mem_of_getElem? (i := 879) (by decide +kernel))) (by decide +kernel)
theorem kv_yX4_printName : Cond.selects RX4 yX4_printName yX4_printName ∈ WS := WS_of (List.mem_append_left _ (List.mem_of_getElem? (i := 47) (by decide +kernel))) (by decide +kernel)
theorem kk_yX4_putBackwards : Cond.code yX4_putBackwards cX4_putBackwards 3 none ∈ WS := WS_of (List.mem_append_right _ (List.mem_of_getElem? (i := 872) (by decide +kernel))) (by decide +kernel)
theorem ki_yX4_putBackwards : Cond.instanceMethod yX4_putBackwards ∈ WS := WS_of (List.mem_append_right _ (List.mem_of_getElem? (i := 871) (by decide +kernel))) (by decide +kernel)
theorem kv_yX4_putBackwards : Cond.selects RX4 yX4_putBackwards yX4_putBackwards ∈ WS := WS_of (List.mem_append_left _ (List.mem_of_getElem? (i := 46) (by decide +kernel))) (by decide +kernel)
theorem kk_yX4_put : Cond.code yX4_put cX4_put 2 none ∈ WS := WS_of (List.mem_append_right _ (List.mem_of_getElem? (i := 863) (by decide +kernel))) (by decide +kernel)
theorem ki_yX4_put : Cond.instanceMethod yX4_put ∈ WS := WS_of (List.mem_append_right _ (List.mem_of_getElem? (i := 862) (by decide +kernel))) (by decide +kernel)
theorem kv_yX4_put : Cond.selects RX4 yX4_put yX4_put ∈ WS := WS_of (List.mem_append_left _ (List.mem_of_getElem? (i := 45) (by decide +kernel))) (by decide +kernel)
theorem kk_yX5_init : Cond.code yX5_init cX5_init 5 none ∈ WS := WS_of (List.mem_append_right _ (List.mem_of_getElem? (i := 230) (by decide +kernel))) (by decide +kernel)
theorem ki_yX5_init : Cond.instanceMethod yX5_init ∈ WS := WS_of (List.mem_append_right _ (List.mem_of_getElem? (i := 229) (by decide +kernel))) (by decide +kernel)
theorem kk_yX5_read : Cond.code yX5_read cX5_read 2 (some .int) ∈ WS := WS_of (List.mem_append_right _ (List.mem_of_getElem? (i := 458) (by decide +kernel))) (by decide +kernel)
theorem ki_yX5_read : Cond.instanceMethod yX5_read ∈ WS := WS_of (List.mem_append_right _ (List.mem_of_getElem? (i := 456) (by decide +kernel))) (by decide +kernel)
theorem kv_yX5_read : Cond.selects RX5 yX5_read yX5_read ∈ WS := WS_of (List.mem_append_right _ (List.mem_of_getElem? (i := 457) (by decide +kernel))) (by decide +kernel)
theorem kk_yX5_scan : Cond.code yX5_scan cX5_scan 2 (some .boolean) ∈ WS := WS_of (List.mem_append_right _ (List.mem_of_getElem? (i := 462) (by decide +kernel))) (by decide +kernel)
theorem ki_yX5_scan : Cond.instanceMethod yX5_scan ∈ WS := WS_of (List.mem_append_right _ (List.mem_of_getElem? (i := 461) (by decide +kernel))) (by decide +kernel)
theorem kv_yX5_scan : Cond.selects RX5 yX5_scan yX5_scan ∈ WS := WS_of (List.mem_append_left _ (List.mem_of_getElem? (i := 0) (by decide +kernel))) (by decide +kernel)
theorem kk_yX5_takeToken : Cond.code yX5_takeToken cX5_takeToken 2 (some .boolean) ∈ WS := WS_of (List.mem_append_right _ (List.mem_of_getElem? (i := 468) (by decide +kernel))) (by decide +kernel)
theorem ki_yX5_takeToken : Cond.instanceMethod yX5_takeToken ∈ WS := WS_of (List.mem_append_right _ (List.mem_of_getElem? (i := 467) (by decide +kernel))) (by decide +kernel)
theorem kv_yX5_takeToken : Cond.selects RX5 yX5_takeToken yX5_takeToken ∈ WS := WS_of (List.mem_append_left _ (List.mem_of_getElem? (i := 1) (by decide +kernel))) (by decide +kernel)
theorem kk_yX5_isDigit : Cond.code yX5_isDigit cX5_isDigit 1 (some .boolean) ∈ WS := WS_of (List.mem_append_right _ (List.mem_of_getElem? (i := 498) (by decide +kernel))) (by decide +kernel)
theorem ks_yX5_isDigit : Cond.static yX5_isDigit ∈ WS := WS_of (List.mem_append_right _ (List.mem_of_getElem? (i := 497) (by decide +kernel))) (by decide +kernel)
theorem kk_yX5_state : Cond.code yX5_state cX5_state 1 (some .int) ∈ WS := WS_of (List.mem_append_right _ (List.mem_of_getElem? (i := 476) (by decide +kernel))) (by decide +kernel)
theorem ki_yX5_state : Cond.instanceMethod yX5_state ∈ WS := WS_of (List.mem_append_right _ (List.mem_of_getElem? (i := 475) (by decide +kernel))) (by decide +kernel)
theorem kv_yX5_state : Cond.selects RX5 yX5_state yX5_state ∈ WS := WS_of (List.mem_append_left _ (List.mem_of_getElem? (i := 3) (by decide +kernel))) (by decide +kernel)
theorem kk_yX5_takeOpen : Cond.code yX5_takeOpen cX5_takeOpen 1 (some .boolean) ∈ WS := WS_of (List.mem_append_right _ (List.mem_of_getElem? (i := 494) (by decide +kernel))) (by decide +kernel)
theorem ki_yX5_takeOpen : Cond.instanceMethod yX5_takeOpen ∈ WS := WS_of (List.mem_append_right _ (List.mem_of_getElem? (i := 493) (by decide +kernel))) (by decide +kernel)
theorem kv_yX5_takeOpen : Cond.selects RX5 yX5_takeOpen yX5_takeOpen ∈ WS := WS_of (List.mem_append_left _ (List.mem_of_getElem? (i := 7) (by decide +kernel))) (by decide +kernel)
theorem kk_yX5_takeClose : Cond.code yX5_takeClose cX5_takeClose 1 (some .boolean) ∈ WS := WS_of (List.mem_append_right _ (List.mem_of_getElem? (i := 472) (by decide +kernel))) (by decide +kernel)
theorem ki_yX5_takeClose : Cond.instanceMethod yX5_takeClose ∈ WS := WS_of (List.mem_append_right _ (List.mem_of_getElem? (i := 471) (by decide +kernel))) (by decide +kernel)
theorem kv_yX5_takeClose : Cond.selects RX5 yX5_takeClose yX5_takeClose ∈ WS := WS_of (List.mem_append_left _ (List.mem_of_getElem? (i := 2) (by decide +kernel))) (by decide +kernel)
theorem kk_yX5_takeDot : Cond.code yX5_takeDot cX5_takeDot 1 (some .boolean) ∈ WS := WS_of (List.mem_append_right _ (List.mem_of_getElem? (i := 489) (by decide +kernel))) (by decide +kernel)
theorem ki_yX5_takeDot : Cond.instanceMethod yX5_takeDot ∈ WS := WS_of (List.mem_append_right _ (List.mem_of_getElem? (i := 488) (by decide +kernel))) (by decide +kernel)
theorem kv_yX5_takeDot : Cond.selects RX5 yX5_takeDot yX5_takeDot ∈ WS := WS_of (List.mem_append_left _ (List.mem_of_getElem? (i := 6) (by decide +kernel))) (by decide +kernel)
theorem kk_yX5_takeNumber : Cond.code yX5_takeNumber cX5_takeNumber 4 (some .boolean) ∈ WS := WS_of (List.mem_append_right _ (List.mem_of_getElem? (i := 502) (by decide +kernel))) (by decide +kernel)
theorem ki_yX5_takeNumber : Cond.instanceMethod yX5_takeNumber ∈ WS := WS_of (List.mem_append_right _ (List.mem_of_getElem? (i := 501) (by decide +kernel))) (by decide +kernel)
theorem kv_yX5_takeNumber : Cond.selects RX5 yX5_takeNumber yX5_takeNumber ∈ WS := WS_of (List.mem_append_left _ (List.mem_of_getElem? (i := 8) (by decide +kernel))) (by decide +kernel)
theorem kk_yX5_takeName : Cond.code yX5_takeName cX5_takeName 4 (some .boolean) ∈ WS := WS_of (List.mem_append_right _ (List.mem_of_getElem? (i := 507) (by decide +kernel))) (by decide +kernel)
theorem ki_yX5_takeName : Cond.instanceMethod yX5_takeName ∈ WS := WS_of (List.mem_append_right _ (List.mem_of_getElem? (i := 506) (by decide +kernel))) (by decide +kernel)
theorem kv_yX5_takeName : Cond.selects RX5 yX5_takeName yX5_takeName ∈ WS := WS_of (List.mem_append_left _ (List.mem_of_getElem? (i := 9) (by decide +kernel))) (by decide +kernel)
theorem kk_yX5_noteExpression : Cond.code yX5_noteExpression cX5_noteExpression 1 none ∈ WS := WS_of (List.mem_append_right _ (List.mem_of_getElem? (i := 480) (by decide +kernel))) (by decide +kernel)
theorem ki_yX5_noteExpression : Cond.instanceMethod yX5_noteExpression ∈ WS := WS_of (List.mem_append_right _ (List.mem_of_getElem? (i := 479) (by decide +kernel))) (by decide +kernel)
theorem kv_yX5_noteExpression : Cond.selects RX5 yX5_noteExpression yX5_noteExpression ∈ WS := WS_of (List.mem_append_left _ (List.mem_of_getElem? (i := 4) (by decide +kernel))) (by decide +kernel)
theorem kk_yX5_keep : Cond.code yX5_keep cX5_keep 3 (some .boolean) ∈ WS := WS_of (List.mem_append_right _ (List.mem_of_getElem? (i := 485) (by decide +kernel))) (by decide +kernel)
theorem ki_yX5_keep : Cond.instanceMethod yX5_keep ∈ WS := WS_of (List.mem_append_right _ (List.mem_of_getElem? (i := 484) (by decide +kernel))) (by decide +kernel)
theorem kv_yX5_keep : Cond.selects RX5 yX5_keep yX5_keep ∈ WS := WS_of (List.mem_append_left _ (List.mem_of_getElem? (i := 5) (by decide +kernel))) (by decide +kernel)
theorem kk_yX5_build : Cond.code yX5_build cX5_build 4 none ∈ WS := WS_of (List.mem_append_right _ (List.mem_of_getElem? (i := 521) (by decide +kernel))) (by decide +kernel)
theorem ki_yX5_build : Cond.instanceMethod yX5_build ∈ WS := WS_of (List.mem_append_right _ (List.mem_of_getElem? (i := 520) (by decide +kernel))) (by decide +kernel)
theorem kv_yX5_build : Cond.selects RX5 yX5_build yX5_build ∈ WS := WS_of (List.mem_append_left _ (List.mem_of_getElem? (i := 10) (by decide +kernel))) (by decide +kernel)
theorem kk_yX5_openList : Cond.code yX5_openList cX5_openList 1 none ∈ WS := WS_of (List.mem_append_right _ (List.mem_of_getElem? (i := 525) (by decide +kernel))) (by decide +kernel)
theorem ki_yX5_openList : Cond.instanceMethod yX5_openList ∈ WS := WS_of (List.mem_append_right _ (List.mem_of_getElem? (i := 524) (by decide +kernel))) (by decide +kernel)
theorem kv_yX5_openList : Cond.selects RX5 yX5_openList yX5_openList ∈ WS := WS_of (List.mem_append_left _ (List.mem_of_getElem? (i := 11) (by decide +kernel))) (by decide +kernel)
theorem kk_yX5_markDot : Cond.code yX5_markDot cX5_markDot 1 none ∈ WS := WS_of (List.mem_append_right _ (List.mem_of_getElem? (i := 529) (by decide +kernel))) (by decide +kernel)
theorem ki_yX5_markDot : Cond.instanceMethod yX5_markDot ∈ WS := WS_of (List.mem_append_right _ (List.mem_of_getElem? (i := 528) (by decide +kernel))) (by decide +kernel)
theorem kv_yX5_markDot : Cond.selects RX5 yX5_markDot yX5_markDot ∈ WS := WS_of (List.mem_append_left _ (List.mem_of_getElem? (i := 12) (by decide +kernel))) (by decide +kernel)
theorem kk_yX5_closeList : Cond.code yX5_closeList cX5_closeList 1 none ∈ WS := WS_of (List.mem_append_right _ (List.mem_of_getElem? (i := 533) (by decide +kernel))) (by decide +kernel)
theorem ki_yX5_closeList : Cond.instanceMethod yX5_closeList ∈ WS := WS_of (List.mem_append_right _ (List.mem_of_getElem? (i := 532) (by decide +kernel))) (by decide +kernel)
theorem kv_yX5_closeList : Cond.selects RX5 yX5_closeList yX5_closeList ∈ WS := WS_of (List.mem_append_left _ (List.mem_of_getElem? (i := 13) (by decide +kernel))) (by decide +kernel)
theorem kk_yX5_attach : Cond.code yX5_attach cX5_attach 6 none ∈ WS := WS_of (List.mem_append_right _ (List.mem_of_getElem? (i := 537) (by decide +kernel))) (by decide +kernel)
theorem ki_yX5_attach : Cond.instanceMethod yX5_attach ∈ WS := WS_of (List.mem_append_right _ (List.mem_of_getElem? (i := 536) (by decide +kernel))) (by decide +kernel)
theorem kv_yX5_attach : Cond.selects RX5 yX5_attach yX5_attach ∈ WS := WS_of (List.mem_append_left _ (List.mem_of_getElem? (i := 14) (by decide +kernel))) (by decide +kernel)
theorem kk_yX6_init : Cond.code yX6_init cX6_init 1 none ∈ WS := WS_of (List.mem_append_right _ (List.mem_of_getElem? (i := 74) (by decide +kernel))) (by decide +kernel)
theorem ki_yX6_init : Cond.instanceMethod yX6_init ∈ WS := WS_of (List.mem_append_right _ (List.mem_of_getElem? (i := 73) (by decide +kernel))) (by decide +kernel)
theorem kk_yX6_append : Cond.code yX6_append cX6_append 6 (some .boolean) ∈ WS := WS_of (List.mem_append_right _ (List.mem_of_getElem? (i := 394) (by decide +kernel))) (by decide +kernel)
theorem ki_yX6_append : Cond.instanceMethod yX6_append ∈ WS := WS_of (List.mem_append_right _ (List.mem_of_getElem? (i := 392) (by decide +kernel))) (by decide +kernel)
theorem kv_yX6_append : Cond.selects RX6 yX6_append yX6_append ∈ WS := WS_of (List.mem_append_right _ (List.mem_of_getElem? (i := 393) (by decide +kernel))) (by decide +kernel)
theorem kk_yX6_isCharacter : Cond.code yX6_isCharacter cX6_isCharacter 1 (some .boolean) ∈ WS := WS_of (List.mem_append_right _ (List.mem_of_getElem? (i := 397) (by decide +kernel))) (by decide +kernel)
theorem ks_yX6_isCharacter : Cond.static yX6_isCharacter ∈ WS := WS_of (List.mem_append_right _ (List.mem_of_getElem? (i := 396) (by decide +kernel))) (by decide +kernel)
theorem kk_yX6_at : Cond.code yX6_at cX6_at 2 (some .int) ∈ WS := WS_of (List.mem_append_right _ (List.mem_of_getElem? (i := 454) (by decide +kernel))) (by decide +kernel)
theorem ki_yX6_at : Cond.instanceMethod yX6_at ∈ WS := WS_of (List.mem_append_right _ (List.mem_of_getElem? (i := 452) (by decide +kernel))) (by decide +kernel)
theorem kv_yX6_at : Cond.selects RX6 yX6_at yX6_at ∈ WS := WS_of (List.mem_append_right _ (List.mem_of_getElem? (i := 453) (by decide +kernel))) (by decide +kernel)
theorem kk_yX6_behindBlanks : Cond.code yX6_behindBlanks cX6_behindBlanks 3 (some .int) ∈ WS := WS_of (List.mem_append_right _ (List.mem_of_getElem? (i := 450) (by decide +kernel))) (by decide +kernel)
theorem ki_yX6_behindBlanks : Cond.instanceMethod yX6_behindBlanks ∈ WS := WS_of (List.mem_append_right _ (List.mem_of_getElem? (i := 448) (by decide +kernel))) (by decide +kernel)
theorem kv_yX6_behindBlanks : Cond.selects RX6 yX6_behindBlanks yX6_behindBlanks ∈ WS := WS_of (List.mem_append_right _ (List.mem_of_getElem? (i := 449) (by decide +kernel))) (by decide +kernel)
theorem kk_yX7_init : Cond.code yX7_init cX7_init 2 none ∈ WS := WS_of (List.mem_append_right _ (List.mem_of_getElem? (i := 184) (by decide +kernel))) (by decide +kernel)
theorem ki_yX7_init : Cond.instanceMethod yX7_init ∈ WS := WS_of (List.mem_append_right _ (List.mem_of_getElem? (i := 183) (by decide +kernel))) (by decide +kernel)
theorem kk_yX7_push : Cond.code yX7_push cX7_push 10 (some .boolean) ∈ WS := WS_of (List.mem_append_right _ (List.mem_of_getElem? (i := 700) (by decide +kernel))) (by decide +kernel)
theorem ki_yX7_push : Cond.instanceMethod yX7_push ∈ WS := WS_of (List.mem_append_right _ (List.mem_of_getElem? (i := 698) (by decide +kernel))) (by decide +kernel)
theorem kv_yX7_push : Cond.selects RX7 yX7_push yX7_push ∈ WS := WS_of (List.mem_append_right _ (List.mem_of_getElem? (i := 699) (by decide +kernel))) (by decide +kernel)
theorem kk_yX7_pop : Cond.code yX7_pop cX7_pop 1 none ∈ WS := WS_of (List.mem_append_right _ (List.mem_of_getElem? (i := 664) (by decide +kernel))) (by decide +kernel)
theorem ki_yX7_pop : Cond.instanceMethod yX7_pop ∈ WS := WS_of (List.mem_append_right _ (List.mem_of_getElem? (i := 662) (by decide +kernel))) (by decide +kernel)
theorem kv_yX7_pop : Cond.selects RX7 yX7_pop yX7_pop ∈ WS := WS_of (List.mem_append_right _ (List.mem_of_getElem? (i := 663) (by decide +kernel))) (by decide +kernel)
theorem kk_yX7_kindOnTop : Cond.code yX7_kindOnTop cX7_kindOnTop 1 (some .int) ∈ WS := WS_of (List.mem_append_right _ (List.mem_of_getElem? (i := 637) (by decide +kernel))) (by decide +kernel)
theorem ki_yX7_kindOnTop : Cond.instanceMethod yX7_kindOnTop ∈ WS := WS_of (List.mem_append_right _ (List.mem_of_getElem? (i := 635) (by decide +kernel))) (by decide +kernel)
theorem kv_yX7_kindOnTop : Cond.selects RX7 yX7_kindOnTop yX7_kindOnTop ∈ WS := WS_of (List.mem_append_right _ (List.mem_of_getElem? (i := 636) (by decide +kernel))) (by decide +kernel)
theorem kk_yX7_valuesOnTop : Cond.code yX7_valuesOnTop cX7_valuesOnTop 1 (some .int) ∈ WS := WS_of (List.mem_append_right _ (List.mem_of_getElem? (i := 649) (by decide +kernel))) (by decide +kernel)
theorem ki_yX7_valuesOnTop : Cond.instanceMethod yX7_valuesOnTop ∈ WS := WS_of (List.mem_append_right _ (List.mem_of_getElem? (i := 647) (by decide +kernel))) (by decide +kernel)
theorem kv_yX7_valuesOnTop : Cond.selects RX7 yX7_valuesOnTop yX7_valuesOnTop ∈ WS := WS_of (List.mem_append_right _ (List.mem_of_getElem? (i := 648) (by decide +kernel))) (by decide +kernel)
theorem kk_yX7_part : Cond.code yX7_part cX7_part 2 (some .long) ∈ WS := WS_of (List.mem_append_right _ (List.mem_of_getElem? (i := 632) (by decide +kernel))) (by decide +kernel)
theorem ki_yX7_part : Cond.instanceMethod yX7_part ∈ WS := WS_of (List.mem_append_right _ (List.mem_of_getElem? (i := 630) (by decide +kernel))) (by decide +kernel)
theorem kv_yX7_part : Cond.selects RX7 yX7_part yX7_part ∈ WS := WS_of (List.mem_append_right _ (List.mem_of_getElem? (i := 631) (by decide +kernel))) (by decide +kernel)
theorem kk_yX7_setRest : Cond.code yX7_setRest cX7_setRest 3 none ∈ WS := WS_of (List.mem_append_right _ (List.mem_of_getElem? (i := 678) (by decide +kernel))) (by decide +kernel)
theorem ki_yX7_setRest : Cond.instanceMethod yX7_setRest ∈ WS := WS_of (List.mem_append_right _ (List.mem_of_getElem? (i := 676) (by decide +kernel))) (by decide +kernel)
theorem kv_yX7_setRest : Cond.selects RX7 yX7_setRest yX7_setRest ∈ WS := WS_of (List.mem_append_right _ (List.mem_of_getElem? (i := 677) (by decide +kernel))) (by decide +kernel)
theorem kk_yX7_addValue : Cond.code yX7_addValue cX7_addValue 4 none ∈ WS := WS_of (List.mem_append_right _ (List.mem_of_getElem? (i := 645) (by decide +kernel))) (by decide +kernel)
theorem ki_yX7_addValue : Cond.instanceMethod yX7_addValue ∈ WS := WS_of (List.mem_append_right _ (List.mem_of_getElem? (i := 643) (by decide +kernel))) (by decide +kernel)
theorem kv_yX7_addValue : Cond.selects RX7 yX7_addValue yX7_addValue ∈ WS := WS_of (List.mem_append_right _ (List.mem_of_getElem? (i := 644) (by decide +kernel))) (by decide +kernel)
theorem kk_yX7_putValues : Cond.code yX7_putValues cX7_putValues 4 none ∈ WS := WS_of (List.mem_append_right _ (List.mem_of_getElem? (i := 789) (by decide +kernel))) (by decide +kernel)
theorem ki_yX7_putValues : Cond.instanceMethod yX7_putValues ∈ WS := WS_of (List.mem_append_right _ (List.mem_of_getElem? (i := 787) (by decide +kernel))) (by decide +kernel)
theorem kv_yX7_putValues : Cond.selects RX7 yX7_putValues yX7_putValues ∈ WS := WS_of (List.mem_append_right _ (List.mem_of_getElem? (i := 788) (by decide +kernel))) (by decide +kernel)
theorem kk_yX7_takeValues : Cond.code yX7_takeValues cX7_takeValues 3 (some .int) ∈ WS := WS_of (List.mem_append_right _ (List.mem_of_getElem? (i := 653) (by decide +kernel))) (by decide +kernel)
theorem ki_yX7_takeValues : Cond.instanceMethod yX7_takeValues ∈ WS := WS_of (List.mem_append_right _ (List.mem_of_getElem? (i := 651) (by decide +kernel))) (by decide +kernel)
theorem kv_yX7_takeValues : Cond.selects RX7 yX7_takeValues yX7_takeValues ∈ WS := WS_of (List.mem_append_right _ (List.mem_of_getElem? (i := 652) (by decide +kernel))) (by decide +kernel)
theorem kk_yX8_isNumber : Cond.code yX8_isNumber cX8_isNumber 2 (some .boolean) ∈ WS := WS_of (List.mem_append_right _ (List.mem_of_getElem? (i := 732) (by decide +kernel))) (by decide +kernel)
theorem ks_yX8_isNumber : Cond.static yX8_isNumber ∈ WS := WS_of (List.mem_append_right _ (List.mem_of_getElem? (i := 731) (by decide +kernel))) (by decide +kernel)
theorem kk_yX8_isName : Cond.code yX8_isName cX8_isName 2 (some .boolean) ∈ WS := WS_of (List.mem_append_right _ (List.mem_of_getElem? (i := 725) (by decide +kernel))) (by decide +kernel)
theorem ks_yX8_isName : Cond.static yX8_isName ∈ WS := WS_of (List.mem_append_right _ (List.mem_of_getElem? (i := 724) (by decide +kernel))) (by decide +kernel)
theorem kk_yX8_isPair : Cond.code yX8_isPair cX8_isPair 2 (some .boolean) ∈ WS := WS_of (List.mem_append_right _ (List.mem_of_getElem? (i := 667) (by decide +kernel))) (by decide +kernel)
theorem ks_yX8_isPair : Cond.static yX8_isPair ∈ WS := WS_of (List.mem_append_right _ (List.mem_of_getElem? (i := 666) (by decide +kernel))) (by decide +kernel)
theorem kk_yX8_isFixed : Cond.code yX8_isFixed cX8_isFixed 2 (some .boolean) ∈ WS := WS_of (List.mem_append_right _ (List.mem_of_getElem? (i := 729) (by decide +kernel))) (by decide +kernel)
theorem ks_yX8_isFixed : Cond.static yX8_isFixed ∈ WS := WS_of (List.mem_append_right _ (List.mem_of_getElem? (i := 728) (by decide +kernel))) (by decide +kernel)
theorem kk_yX9_init : Cond.code yX9_init cX9_init 5 none ∈ WS := WS_of (List.mem_append_right _ (List.mem_of_getElem? (i := 27) (by decide +kernel))) (by decide +kernel)
theorem ki_yX9_init : Cond.instanceMethod yX9_init ∈ WS := WS_of (List.mem_append_right _ (List.mem_of_getElem? (i := 26) (by decide +kernel))) (by decide +kernel)
theorem kk_yX9_within : Cond.code yX9_within cX9_within 4 (some .int) ∈ WS := WS_of (List.mem_append_right _ (List.mem_of_getElem? (i := 35) (by decide +kernel))) (by decide +kernel)
theorem ks_yX9_within : Cond.static yX9_within ∈ WS := WS_of (List.mem_append_right _ (List.mem_of_getElem? (i := 34) (by decide +kernel))) (by decide +kernel)
theorem kk_yX9_write : Cond.code yX9_write cX9_write 3 (some .boolean) ∈ WS := WS_of (List.mem_append_right _ (List.mem_of_getElem? (i := 390) (by decide +kernel))) (by decide +kernel)
theorem ki_yX9_write : Cond.instanceMethod yX9_write ∈ WS := WS_of (List.mem_append_right _ (List.mem_of_getElem? (i := 388) (by decide +kernel))) (by decide +kernel)
theorem kv_yX9_write : Cond.selects RX9 yX9_write yX9_write ∈ WS := WS_of (List.mem_append_right _ (List.mem_of_getElem? (i := 389) (by decide +kernel))) (by decide +kernel)
theorem kk_yX9_clear : Cond.code yX9_clear cX9_clear 1 none ∈ WS := WS_of (List.mem_append_right _ (List.mem_of_getElem? (i := 401) (by decide +kernel))) (by decide +kernel)
theorem ki_yX9_clear : Cond.instanceMethod yX9_clear ∈ WS := WS_of (List.mem_append_right _ (List.mem_of_getElem? (i := 399) (by decide +kernel))) (by decide +kernel)
theorem kv_yX9_clear : Cond.selects RX9 yX9_clear yX9_clear ∈ WS := WS_of (List.mem_append_right _ (List.mem_of_getElem? (i := 400) (by decide +kernel))) (by decide +kernel)
theorem kk_yX9_next : Cond.code yX9_next cX9_next 1 (some .int) ∈ WS := WS_of (List.mem_append_right _ (List.mem_of_getElem? (i := 446) (by decide +kernel))) (by decide +kernel)
theorem ki_yX9_next : Cond.instanceMethod yX9_next ∈ WS := WS_of (List.mem_append_right _ (List.mem_of_getElem? (i := 444) (by decide +kernel))) (by decide +kernel)
theorem kv_yX9_next : Cond.selects RX9 yX9_next yX9_next ∈ WS := WS_of (List.mem_append_right _ (List.mem_of_getElem? (i := 445) (by decide +kernel))) (by decide +kernel)
theorem kk_yX9_fault : Cond.code yX9_fault cX9_fault 1 (some .int) ∈ WS := WS_of (List.mem_append_right _ (List.mem_of_getElem? (i := 405) (by decide +kernel))) (by decide +kernel)
theorem ki_yX9_fault : Cond.instanceMethod yX9_fault ∈ WS := WS_of (List.mem_append_right _ (List.mem_of_getElem? (i := 403) (by decide +kernel))) (by decide +kernel)
theorem kv_yX9_fault : Cond.selects RX9 yX9_fault yX9_fault ∈ WS := WS_of (List.mem_append_right _ (List.mem_of_getElem? (i := 404) (by decide +kernel))) (by decide +kernel)
theorem kk_yX9_place : Cond.code yX9_place cX9_place 1 (some .int) ∈ WS := WS_of (List.mem_append_right _ (List.mem_of_getElem? (i := 409) (by decide +kernel))) (by decide +kernel)
theorem ki_yX9_place : Cond.instanceMethod yX9_place ∈ WS := WS_of (List.mem_append_right _ (List.mem_of_getElem? (i := 407) (by decide +kernel))) (by decide +kernel)
theorem kv_yX9_place : Cond.selects RX9 yX9_place yX9_place ∈ WS := WS_of (List.mem_append_right _ (List.mem_of_getElem? (i := 408) (by decide +kernel))) (by decide +kernel)
theorem kk_yX9_size : Cond.code yX9_size cX9_size 1 (some .int) ∈ WS := WS_of (List.mem_append_right _ (List.mem_of_getElem? (i := 413) (by decide +kernel))) (by decide +kernel)
theorem ki_yX9_size : Cond.instanceMethod yX9_size ∈ WS := WS_of (List.mem_append_right _ (List.mem_of_getElem? (i := 411) (by decide +kernel))) (by decide +kernel)
theorem kv_yX9_size : Cond.selects RX9 yX9_size yX9_size ∈ WS := WS_of (List.mem_append_right _ (List.mem_of_getElem? (i := 412) (by decide +kernel))) (by decide +kernel)
theorem kk_yX9_out : Cond.code yX9_out cX9_out 2 (some .int) ∈ WS := WS_of (List.mem_append_right _ (List.mem_of_getElem? (i := 417) (by decide +kernel))) (by decide +kernel)
theorem ki_yX9_out : Cond.instanceMethod yX9_out ∈ WS := WS_of (List.mem_append_right _ (List.mem_of_getElem? (i := 415) (by decide +kernel))) (by decide +kernel)
theorem kv_yX9_out : Cond.selects RX9 yX9_out yX9_out ∈ WS := WS_of (List.mem_append_right _ (List.mem_of_getElem? (i := 416) (by decide +kernel))) (by decide +kernel)
theorem kk_yX9_count : Cond.code yX9_count cX9_count 2 (some .int) ∈ WS := WS_of (List.mem_append_right _ (List.mem_of_getElem? (i := 421) (by decide +kernel))) (by decide +kernel)
theorem ki_yX9_count : Cond.instanceMethod yX9_count ∈ WS := WS_of (List.mem_append_right _ (List.mem_of_getElem? (i := 419) (by decide +kernel))) (by decide +kernel)
theorem kv_yX9_count : Cond.selects RX9 yX9_count yX9_count ∈ WS := WS_of (List.mem_append_right _ (List.mem_of_getElem? (i := 420) (by decide +kernel))) (by decide +kernel)
theorem kk_yX10_init : Cond.code yX10_init cX10_init 4 none ∈ WS := WS_of (List.mem_append_right _ (List.mem_of_getElem? (i := 896) (by decide +kernel))) (by decide +kernel)
theorem ki_yX10_init : Cond.instanceMethod yX10_init ∈ WS := WS_of (List.mem_append_right _ (List.mem_of_getElem? (i := 895) (by decide +kernel))) (by decide +kernel)
theorem kk_yX10_digitOf : Cond.code yX10_digitOf cX10_digitOf 1 (some .int) ∈ WS := WS_of (List.mem_append_right _ (List.mem_of_getElem? (i := 906) (by decide +kernel))) (by decide +kernel)
theorem ks_yX10_digitOf : Cond.static yX10_digitOf ∈ WS := WS_of (List.mem_append_right _ (List.mem_of_getElem? (i := 905) (by decide +kernel))) (by decide +kernel)
theorem kk_yX10_known : Cond.code yX10_known cX10_known 7 none ∈ WS := WS_of (List.mem_append_right _ (List.mem_of_getElem? (i := 902) (by decide +kernel))) (by decide +kernel)
theorem ki_yX10_known : Cond.instanceMethod yX10_known ∈ WS := WS_of (List.mem_append_right _ (List.mem_of_getElem? (i := 901) (by decide +kernel))) (by decide +kernel)
theorem kv_yX10_known : Cond.selects RX10 yX10_known yX10_known ∈ WS := WS_of (List.mem_append_left _ (List.mem_of_getElem? (i := 49) (by decide +kernel))) (by decide +kernel)
theorem kk_yX10_isName : Cond.code yX10_isName cX10_isName 2 (some .boolean) ∈ WS := WS_of (List.mem_append_right _ (List.mem_of_getElem? (i := 1176) (by decide +kernel))) (by decide +kernel)
theorem ks_yX10_isName : Cond.static yX10_isName ∈ WS := WS_of (List.mem_append_right _ (List.mem_of_getElem? (i := 1175) (by decide +kernel))) (by decide +kernel)
theorem kk_yX10_isPair : Cond.code yX10_isPair cX10_isPair 2 (some .boolean) ∈ WS := WS_of (List.mem_append_right _ (List.mem_of_getElem? (i := 1137) (by decide +kernel))) (by decide +kernel)
theorem ks_yX10_isPair : Cond.static yX10_isPair ∈ WS := WS_of (List.mem_append_right _ (List.mem_of_getElem? (i := 1136) (by decide +kernel))) (by decide +kernel)
theorem kk_yX10_isNumber : Cond.code yX10_isNumber cX10_isNumber 2 (some .boolean) ∈ WS := WS_of (List.mem_append_right _ (List.mem_of_getElem? (i := 1168) (by decide +kernel))) (by decide +kernel)
theorem ks_yX10_isNumber : Cond.static yX10_isNumber ∈ WS := WS_of (List.mem_append_right _ (List.mem_of_getElem? (i := 1167) (by decide +kernel))) (by decide +kernel)
theorem kk_yX10_number : Cond.code yX10_number cX10_number 1 (some .long) ∈ WS := WS_of (List.mem_append_right _ (List.mem_of_getElem? (i := 1113) (by decide +kernel))) (by decide +kernel)
theorem ks_yX10_number : Cond.static yX10_number ∈ WS := WS_of (List.mem_append_right _ (List.mem_of_getElem? (i := 1112) (by decide +kernel))) (by decide +kernel)
theorem kk_yX10_first : Cond.code yX10_first cX10_first 3 (some .long) ∈ WS := WS_of (List.mem_append_right _ (List.mem_of_getElem? (i := 1145) (by decide +kernel))) (by decide +kernel)
theorem ki_yX10_first : Cond.instanceMethod yX10_first ∈ WS := WS_of (List.mem_append_right _ (List.mem_of_getElem? (i := 1144) (by decide +kernel))) (by decide +kernel)
theorem kv_yX10_first : Cond.selects RX10 yX10_first yX10_first ∈ WS := WS_of (List.mem_append_left _ (List.mem_of_getElem? (i := 62) (by decide +kernel))) (by decide +kernel)
theorem kk_yX10_behind : Cond.code yX10_behind cX10_behind 3 (some .long) ∈ WS := WS_of (List.mem_append_right _ (List.mem_of_getElem? (i := 1149) (by decide +kernel))) (by decide +kernel)
theorem ki_yX10_behind : Cond.instanceMethod yX10_behind ∈ WS := WS_of (List.mem_append_right _ (List.mem_of_getElem? (i := 1148) (by decide +kernel))) (by decide +kernel)
theorem kv_yX10_behind : Cond.selects RX10 yX10_behind yX10_behind ∈ WS := WS_of (List.mem_append_left _ (List.mem_of_getElem? (i := 63) (by decide +kernel))) (by decide +kernel)
theorem kk_yX10_hold : Cond.code yX10_hold cX10_hold 4 none ∈ WS := WS_of (List.mem_append_right _ (List.mem_of_getElem? (i := 1134) (by decide +kernel))) (by decide +kernel)
theorem ki_yX10_hold : Cond.instanceMethod yX10_hold ∈ WS := WS_of (List.mem_append_right _ (List.mem_of_getElem? (i := 1133) (by decide +kernel))) (by decide +kernel)
theorem kv_yX10_hold : Cond.selects RX10 yX10_hold yX10_hold ∈ WS := WS_of (List.mem_append_left _ (List.mem_of_getElem? (i := 60) (by decide +kernel))) (by decide +kernel)
theorem kk_yX10_holdAll : Cond.code yX10_holdAll cX10_holdAll 3 none ∈ WS := WS_of (List.mem_append_right _ (List.mem_of_getElem? (i := 1141) (by decide +kernel))) (by decide +kernel)
theorem ki_yX10_holdAll : Cond.instanceMethod yX10_holdAll ∈ WS := WS_of (List.mem_append_right _ (List.mem_of_getElem? (i := 1140) (by decide +kernel))) (by decide +kernel)
theorem kv_yX10_holdAll : Cond.selects RX10 yX10_holdAll yX10_holdAll ∈ WS := WS_of (List.mem_append_left _ (List.mem_of_getElem? (i := 61) (by decide +kernel))) (by decide +kernel)
theorem kk_yX10_holdGlobals : Cond.code yX10_holdGlobals cX10_holdGlobals 2 none ∈ WS := WS_of (List.mem_append_right _ (List.mem_of_getElem? (i := 1130) (by decide +kernel))) (by decide +kernel)
theorem ki_yX10_holdGlobals : Cond.instanceMethod yX10_holdGlobals ∈ WS := WS_of (List.mem_append_right _ (List.mem_of_getElem? (i := 1129) (by decide +kernel))) (by decide +kernel)
theorem kv_yX10_holdGlobals : Cond.selects RX10 yX10_holdGlobals yX10_holdGlobals ∈ WS := WS_of (List.mem_append_left _ (List.mem_of_getElem? (i := 59) (by decide +kernel))) (by decide +kernel)
theorem kk_yX10_holdWaiting : Cond.code yX10_holdWaiting cX10_holdWaiting 3 none ∈ WS := WS_of (List.mem_append_right _ (List.mem_of_getElem? (i := 1207) (by decide +kernel))) (by decide +kernel)
theorem ki_yX10_holdWaiting : Cond.instanceMethod yX10_holdWaiting ∈ WS := WS_of (List.mem_append_right _ (List.mem_of_getElem? (i := 1206) (by decide +kernel))) (by decide +kernel)
theorem kv_yX10_holdWaiting : Cond.selects RX10 yX10_holdWaiting yX10_holdWaiting ∈ WS := WS_of (List.mem_append_left _ (List.mem_of_getElem? (i := 75) (by decide +kernel))) (by decide +kernel)
theorem kk_yX10_room : Cond.code yX10_room cX10_room 2 (some .boolean) ∈ WS := WS_of (List.mem_append_right _ (List.mem_of_getElem? (i := 1153) (by decide +kernel))) (by decide +kernel)
theorem ki_yX10_room : Cond.instanceMethod yX10_room ∈ WS := WS_of (List.mem_append_right _ (List.mem_of_getElem? (i := 1152) (by decide +kernel))) (by decide +kernel)
theorem kv_yX10_room : Cond.selects RX10 yX10_room yX10_room ∈ WS := WS_of (List.mem_append_left _ (List.mem_of_getElem? (i := 64) (by decide +kernel))) (by decide +kernel)
theorem kk_yX10_pair : Cond.code yX10_pair cX10_pair 6 (some .long) ∈ WS := WS_of (List.mem_append_right _ (List.mem_of_getElem? (i := 1100) (by decide +kernel))) (by decide +kernel)
theorem ki_yX10_pair : Cond.instanceMethod yX10_pair ∈ WS := WS_of (List.mem_append_right _ (List.mem_of_getElem? (i := 1099) (by decide +kernel))) (by decide +kernel)
theorem kv_yX10_pair : Cond.selects RX10 yX10_pair yX10_pair ∈ WS := WS_of (List.mem_append_left _ (List.mem_of_getElem? (i := 54) (by decide +kernel))) (by decide +kernel)
theorem kk_yX10_charAt : Cond.code yX10_charAt cX10_charAt 2 (some .int) ∈ WS := WS_of (List.mem_append_right _ (List.mem_of_getElem? (i := 1091) (by decide +kernel))) (by decide +kernel)
theorem ki_yX10_charAt : Cond.instanceMethod yX10_charAt ∈ WS := WS_of (List.mem_append_right _ (List.mem_of_getElem? (i := 1090) (by decide +kernel))) (by decide +kernel)
theorem kv_yX10_charAt : Cond.selects RX10 yX10_charAt yX10_charAt ∈ WS := WS_of (List.mem_append_left _ (List.mem_of_getElem? (i := 52) (by decide +kernel))) (by decide +kernel)
theorem kk_yX10_blank : Cond.code yX10_blank cX10_blank 1 (some .boolean) ∈ WS := WS_of (List.mem_append_right _ (List.mem_of_getElem? (i := 1079) (by decide +kernel))) (by decide +kernel)
theorem ks_yX10_blank : Cond.static yX10_blank ∈ WS := WS_of (List.mem_append_right _ (List.mem_of_getElem? (i := 1078) (by decide +kernel))) (by decide +kernel)
theorem kk_yX10_digit : Cond.code yX10_digit cX10_digit 1 (some .boolean) ∈ WS := WS_of (List.mem_append_right _ (List.mem_of_getElem? (i := 1108) (by decide +kernel))) (by decide +kernel)
theorem ks_yX10_digit : Cond.static yX10_digit ∈ WS := WS_of (List.mem_append_right _ (List.mem_of_getElem? (i := 1107) (by decide +kernel))) (by decide +kernel)
theorem kk_yX10_atom : Cond.code yX10_atom cX10_atom 7 (some .int) ∈ WS := WS_of (List.mem_append_right _ (List.mem_of_getElem? (i := 1105) (by decide +kernel))) (by decide +kernel)
theorem ki_yX10_atom : Cond.instanceMethod yX10_atom ∈ WS := WS_of (List.mem_append_right _ (List.mem_of_getElem? (i := 1104) (by decide +kernel))) (by decide +kernel)
theorem kv_yX10_atom : Cond.selects RX10 yX10_atom yX10_atom ∈ WS := WS_of (List.mem_append_left _ (List.mem_of_getElem? (i := 55) (by decide +kernel))) (by decide +kernel)
theorem kk_yX10_placeOf : Cond.code yX10_placeOf cX10_placeOf 4 (some .int) ∈ WS := WS_of (List.mem_append_right _ (List.mem_of_getElem? (i := 1122) (by decide +kernel))) (by decide +kernel)
theorem ki_yX10_placeOf : Cond.instanceMethod yX10_placeOf ∈ WS := WS_of (List.mem_append_right _ (List.mem_of_getElem? (i := 1121) (by decide +kernel))) (by decide +kernel)
theorem kv_yX10_placeOf : Cond.selects RX10 yX10_placeOf yX10_placeOf ∈ WS := WS_of (List.mem_append_left _ (List.mem_of_getElem? (i := 57) (by decide +kernel))) (by decide +kernel)
theorem kk_yX10_meets : Cond.code yX10_meets cX10_meets 4 none ∈ WS := WS_of (List.mem_append_right _ (List.mem_of_getElem? (i := 1118) (by decide +kernel))) (by decide +kernel)
theorem ki_yX10_meets : Cond.instanceMethod yX10_meets ∈ WS := WS_of (List.mem_append_right _ (List.mem_of_getElem? (i := 1117) (by decide +kernel))) (by decide +kernel)
theorem kv_yX10_meets : Cond.selects RX10 yX10_meets yX10_meets ∈ WS := WS_of (List.mem_append_left _ (List.mem_of_getElem? (i := 56) (by decide +kernel))) (by decide +kernel)
theorem kk_yX10_comes : Cond.code yX10_comes cX10_comes 7 none ∈ WS := WS_of (List.mem_append_right _ (List.mem_of_getElem? (i := 1096) (by decide +kernel))) (by decide +kernel)
theorem ki_yX10_comes : Cond.instanceMethod yX10_comes ∈ WS := WS_of (List.mem_append_right _ (List.mem_of_getElem? (i := 1095) (by decide +kernel))) (by decide +kernel)
theorem kv_yX10_comes : Cond.selects RX10 yX10_comes yX10_comes ∈ WS := WS_of (List.mem_append_left _ (List.mem_of_getElem? (i := 53) (by decide +kernel))) (by decide +kernel)
theorem kk_yX10_reads : Cond.code yX10_reads cX10_reads 8 (some .int) ∈ WS := WS_of (List.mem_append_right _ (List.mem_of_getElem? (i := 1087) (by decide +kernel))) (by decide +kernel)
theorem ki_yX10_reads : Cond.instanceMethod yX10_reads ∈ WS := WS_of (List.mem_append_right _ (List.mem_of_getElem? (i := 1086) (by decide +kernel))) (by decide +kernel)
theorem kv_yX10_reads : Cond.selects RX10 yX10_reads yX10_reads ∈ WS := WS_of (List.mem_append_left _ (List.mem_of_getElem? (i := 51) (by decide +kernel))) (by decide +kernel)
theorem kk_yX10_readAll : Cond.code yX10_readAll cX10_readAll 4 (some .int) ∈ WS := WS_of (List.mem_append_right _ (List.mem_of_getElem? (i := 1083) (by decide +kernel))) (by decide +kernel)
theorem ki_yX10_readAll : Cond.instanceMethod yX10_readAll ∈ WS := WS_of (List.mem_append_right _ (List.mem_of_getElem? (i := 1082) (by decide +kernel))) (by decide +kernel)
theorem kv_yX10_readAll : Cond.selects RX10 yX10_readAll yX10_readAll ∈ WS := WS_of (List.mem_append_left _ (List.mem_of_getElem? (i := 50) (by decide +kernel))) (by decide +kernel)
theorem kk_yX10_fails : Cond.code yX10_fails cX10_fails 2 none ∈ WS := WS_of (List.mem_append_right _ (List.mem_of_getElem? (i := 1126) (by decide +kernel))) (by decide +kernel)
theorem ki_yX10_fails : Cond.instanceMethod yX10_fails ∈ WS := WS_of (List.mem_append_right _ (List.mem_of_getElem? (i := 1125) (by decide +kernel))) (by decide +kernel)
theorem kv_yX10_fails : Cond.selects RX10 yX10_fails yX10_fails ∈ WS := WS_of (List.mem_append_left _ (List.mem_of_getElem? (i := 58) (by decide +kernel))) (by decide +kernel)
theorem kk_yX10_begins : Cond.code yX10_begins cX10_begins 1 (some .boolean) ∈ WS := WS_of (List.mem_append_right _ (List.mem_of_getElem? (i := 1165) (by decide +kernel))) (by decide +kernel)
theorem ki_yX10_begins : Cond.instanceMethod yX10_begins ∈ WS := WS_of (List.mem_append_right _ (List.mem_of_getElem? (i := 1164) (by decide +kernel))) (by decide +kernel)
theorem kv_yX10_begins : Cond.selects RX10 yX10_begins yX10_begins ∈ WS := WS_of (List.mem_append_left _ (List.mem_of_getElem? (i := 67) (by decide +kernel))) (by decide +kernel)
theorem kk_yX10_waits : Cond.code yX10_waits cX10_waits 6 (some .boolean) ∈ WS := WS_of (List.mem_append_right _ (List.mem_of_getElem? (i := 1194) (by decide +kernel))) (by decide +kernel)
theorem ki_yX10_waits : Cond.instanceMethod yX10_waits ∈ WS := WS_of (List.mem_append_right _ (List.mem_of_getElem? (i := 1193) (by decide +kernel))) (by decide +kernel)
theorem kv_yX10_waits : Cond.selects RX10 yX10_waits yX10_waits ∈ WS := WS_of (List.mem_append_left _ (List.mem_of_getElem? (i := 72) (by decide +kernel))) (by decide +kernel)
theorem kk_yX10_gives : Cond.code yX10_gives cX10_gives 3 none ∈ WS := WS_of (List.mem_append_right _ (List.mem_of_getElem? (i := 1173) (by decide +kernel))) (by decide +kernel)
theorem ki_yX10_gives : Cond.instanceMethod yX10_gives ∈ WS := WS_of (List.mem_append_right _ (List.mem_of_getElem? (i := 1172) (by decide +kernel))) (by decide +kernel)
theorem kv_yX10_gives : Cond.selects RX10 yX10_gives yX10_gives ∈ WS := WS_of (List.mem_append_left _ (List.mem_of_getElem? (i := 68) (by decide +kernel))) (by decide +kernel)
theorem kk_yX10_lookUp : Cond.code yX10_lookUp cX10_lookUp 7 (some .long) ∈ WS := WS_of (List.mem_append_right _ (List.mem_of_getElem? (i := 1180) (by decide +kernel))) (by decide +kernel)
theorem ki_yX10_lookUp : Cond.instanceMethod yX10_lookUp ∈ WS := WS_of (List.mem_append_right _ (List.mem_of_getElem? (i := 1179) (by decide +kernel))) (by decide +kernel)
theorem kv_yX10_lookUp : Cond.selects RX10 yX10_lookUp yX10_lookUp ∈ WS := WS_of (List.mem_append_left _ (List.mem_of_getElem? (i := 69) (by decide +kernel))) (by decide +kernel)
theorem kk_yX10_listOf : Cond.code yX10_listOf cX10_listOf 7 (some .boolean) ∈ WS := WS_of (List.mem_append_right _ (List.mem_of_getElem? (i := 1185) (by decide +kernel))) (by decide +kernel)
theorem ki_yX10_listOf : Cond.instanceMethod yX10_listOf ∈ WS := WS_of (List.mem_append_right _ (List.mem_of_getElem? (i := 1184) (by decide +kernel))) (by decide +kernel)
theorem kv_yX10_listOf : Cond.selects RX10 yX10_listOf yX10_listOf ∈ WS := WS_of (List.mem_append_left _ (List.mem_of_getElem? (i := 70) (by decide +kernel))) (by decide +kernel)
theorem kk_yX10_condition : Cond.code yX10_condition cX10_condition 3 none ∈ WS := WS_of (List.mem_append_right _ (List.mem_of_getElem? (i := 1190) (by decide +kernel))) (by decide +kernel)
theorem ki_yX10_condition : Cond.instanceMethod yX10_condition ∈ WS := WS_of (List.mem_append_right _ (List.mem_of_getElem? (i := 1189) (by decide +kernel))) (by decide +kernel)
theorem kv_yX10_condition : Cond.selects RX10 yX10_condition yX10_condition ∈ WS := WS_of (List.mem_append_left _ (List.mem_of_getElem? (i := 71) (by decide +kernel))) (by decide +kernel)
theorem kk_yX10_evaluate : Cond.code yX10_evaluate cX10_evaluate 8 none ∈ WS := WS_of (List.mem_append_right _ (List.mem_of_getElem? (i := 1161) (by decide +kernel))) (by decide +kernel)
theorem ki_yX10_evaluate : Cond.instanceMethod yX10_evaluate ∈ WS := WS_of (List.mem_append_right _ (List.mem_of_getElem? (i := 1160) (by decide +kernel))) (by decide +kernel)
theorem kv_yX10_evaluate : Cond.selects RX10 yX10_evaluate yX10_evaluate ∈ WS := WS_of (List.mem_append_left _ (List.mem_of_getElem? (i := 66) (by decide +kernel))) (by decide +kernel)
theorem kk_yX10_back : Cond.code yX10_back cX10_back 4 none ∈ WS := WS_of (List.mem_append_right _ (List.mem_of_getElem? (i := 1229) (by decide +kernel))) (by decide +kernel)
theorem ki_yX10_back : Cond.instanceMethod yX10_back ∈ WS := WS_of (List.mem_append_right _ (List.mem_of_getElem? (i := 1228) (by decide +kernel))) (by decide +kernel)
theorem kv_yX10_back : Cond.selects RX10 yX10_back yX10_back ∈ WS := WS_of (List.mem_append_left _ (List.mem_of_getElem? (i := 80) (by decide +kernel))) (by decide +kernel)
theorem kk_yX10_primitive : Cond.code yX10_primitive cX10_primitive 9 none ∈ WS := WS_of (List.mem_append_right _ (List.mem_of_getElem? (i := 1203) (by decide +kernel))) (by decide +kernel)
theorem ki_yX10_primitive : Cond.instanceMethod yX10_primitive ∈ WS := WS_of (List.mem_append_right _ (List.mem_of_getElem? (i := 1202) (by decide +kernel))) (by decide +kernel)
theorem kv_yX10_primitive : Cond.selects RX10 yX10_primitive yX10_primitive ∈ WS := WS_of (List.mem_append_left _ (List.mem_of_getElem? (i := 74) (by decide +kernel))) (by decide +kernel)
theorem kk_yX10_namesIn : Cond.code yX10_namesIn cX10_namesIn 6 (some .int) ∈ WS := WS_of (List.mem_append_right _ (List.mem_of_getElem? (i := 1216) (by decide +kernel))) (by decide +kernel)
theorem ki_yX10_namesIn : Cond.instanceMethod yX10_namesIn ∈ WS := WS_of (List.mem_append_right _ (List.mem_of_getElem? (i := 1215) (by decide +kernel))) (by decide +kernel)
theorem kv_yX10_namesIn : Cond.selects RX10 yX10_namesIn yX10_namesIn ∈ WS := WS_of (List.mem_append_left _ (List.mem_of_getElem? (i := 77) (by decide +kernel))) (by decide +kernel)
theorem kk_yX10_holdForBinding : Cond.code yX10_holdForBinding cX10_holdForBinding 4 none ∈ WS := WS_of (List.mem_append_right _ (List.mem_of_getElem? (i := 1220) (by decide +kernel))) (by decide +kernel)
theorem ki_yX10_holdForBinding : Cond.instanceMethod yX10_holdForBinding ∈ WS := WS_of (List.mem_append_right _ (List.mem_of_getElem? (i := 1219) (by decide +kernel))) (by decide +kernel)
theorem kv_yX10_holdForBinding : Cond.selects RX10 yX10_holdForBinding yX10_holdForBinding ∈ WS := WS_of (List.mem_append_left _ (List.mem_of_getElem? (i := 78) (by decide +kernel))) (by decide +kernel)
theorem kk_yX10_lambda : Cond.code yX10_lambda cX10_lambda 11 none ∈ WS := WS_of (List.mem_append_right _ (List.mem_of_getElem? (i := 1212) (by decide +kernel))) (by decide +kernel)
theorem ki_yX10_lambda : Cond.instanceMethod yX10_lambda ∈ WS := WS_of (List.mem_append_right _ (List.mem_of_getElem? (i := 1211) (by decide +kernel))) (by decide +kernel)
theorem kv_yX10_lambda : Cond.selects RX10 yX10_lambda yX10_lambda ∈ WS := WS_of (List.mem_append_left _ (List.mem_of_getElem? (i := 76) (by decide +kernel))) (by decide +kernel)
theorem kk_yX10_label : Cond.code yX10_label cX10_label 5 none ∈ WS := WS_of (List.mem_append_right _ (List.mem_of_getElem? (i := 1225) (by decide +kernel))) (by decide +kernel)
theorem ki_yX10_label : Cond.instanceMethod yX10_label ∈ WS := WS_of (List.mem_append_right _ (List.mem_of_getElem? (i := 1224) (by decide +kernel))) (by decide +kernel)
theorem kv_yX10_label : Cond.selects RX10 yX10_label yX10_label ∈ WS := WS_of (List.mem_append_left _ (List.mem_of_getElem? (i := 79) (by decide +kernel))) (by decide +kernel)
theorem kk_yX10_apply : Cond.code yX10_apply cX10_apply 4 none ∈ WS := WS_of (List.mem_append_right _ (List.mem_of_getElem? (i := 1199) (by decide +kernel))) (by decide +kernel)
theorem ki_yX10_apply : Cond.instanceMethod yX10_apply ∈ WS := WS_of (List.mem_append_right _ (List.mem_of_getElem? (i := 1198) (by decide +kernel))) (by decide +kernel)
theorem kv_yX10_apply : Cond.selects RX10 yX10_apply yX10_apply ∈ WS := WS_of (List.mem_append_left _ (List.mem_of_getElem? (i := 73) (by decide +kernel))) (by decide +kernel)
theorem kk_yX10_evaluateAll : Cond.code yX10_evaluateAll cX10_evaluateAll 3 none ∈ WS := WS_of (List.mem_append_right _ (List.mem_of_getElem? (i := 1157) (by decide +kernel))) (by decide +kernel)
theorem ki_yX10_evaluateAll : Cond.instanceMethod yX10_evaluateAll ∈ WS := WS_of (List.mem_append_right _ (List.mem_of_getElem? (i := 1156) (by decide +kernel))) (by decide +kernel)
theorem kv_yX10_evaluateAll : Cond.selects RX10 yX10_evaluateAll yX10_evaluateAll ∈ WS := WS_of (List.mem_append_left _ (List.mem_of_getElem? (i := 65) (by decide +kernel))) (by decide +kernel)
theorem kk_yX10_put : Cond.code yX10_put cX10_put 2 none ∈ WS := WS_of (List.mem_append_right _ (List.mem_of_getElem? (i := 1237) (by decide +kernel))) (by decide +kernel)
theorem ki_yX10_put : Cond.instanceMethod yX10_put ∈ WS := WS_of (List.mem_append_right _ (List.mem_of_getElem? (i := 1236) (by decide +kernel))) (by decide +kernel)
theorem kv_yX10_put : Cond.selects RX10 yX10_put yX10_put ∈ WS := WS_of (List.mem_append_left _ (List.mem_of_getElem? (i := 82) (by decide +kernel))) (by decide +kernel)
theorem kk_yX10_putAtom : Cond.code yX10_putAtom cX10_putAtom 8 none ∈ WS := WS_of (List.mem_append_right _ (List.mem_of_getElem? (i := 1241) (by decide +kernel))) (by decide +kernel)
theorem ki_yX10_putAtom : Cond.instanceMethod yX10_putAtom ∈ WS := WS_of (List.mem_append_right _ (List.mem_of_getElem? (i := 1240) (by decide +kernel))) (by decide +kernel)
theorem kv_yX10_putAtom : Cond.selects RX10 yX10_putAtom yX10_putAtom ∈ WS := WS_of (List.mem_append_left _ (List.mem_of_getElem? (i := 83) (by decide +kernel))) (by decide +kernel)
theorem kk_yX10_printAll : Cond.code yX10_printAll cX10_printAll 10 none ∈ WS := WS_of (List.mem_append_right _ (List.mem_of_getElem? (i := 1233) (by decide +kernel))) (by decide +kernel)
theorem ki_yX10_printAll : Cond.instanceMethod yX10_printAll ∈ WS := WS_of (List.mem_append_right _ (List.mem_of_getElem? (i := 1232) (by decide +kernel))) (by decide +kernel)
theorem kv_yX10_printAll : Cond.selects RX10 yX10_printAll yX10_printAll ∈ WS := WS_of (List.mem_append_left _ (List.mem_of_getElem? (i := 81) (by decide +kernel))) (by decide +kernel)
theorem kk_yX10_thrown : Cond.code yX10_thrown cX10_thrown 1 (some .int) ∈ WS := WS_of (List.mem_append_right _ (List.mem_of_getElem? (i := 1064) (by decide +kernel))) (by decide +kernel)
theorem ki_yX10_thrown : Cond.instanceMethod yX10_thrown ∈ WS := WS_of (List.mem_append_right _ (List.mem_of_getElem? (i := 1062) (by decide +kernel))) (by decide +kernel)
theorem kv_yX10_thrown : Cond.selects RX10 yX10_thrown yX10_thrown ∈ WS := WS_of (List.mem_append_right _ (List.mem_of_getElem? (i := 1063) (by decide +kernel))) (by decide +kernel)
theorem kk_yX10_write : Cond.code yX10_write cX10_write 6 (some .boolean) ∈ WS := WS_of (List.mem_append_right _ (List.mem_of_getElem? (i := 1068) (by decide +kernel))) (by decide +kernel)
theorem ki_yX10_write : Cond.instanceMethod yX10_write ∈ WS := WS_of (List.mem_append_right _ (List.mem_of_getElem? (i := 1066) (by decide +kernel))) (by decide +kernel)
theorem kv_yX10_write : Cond.selects RX10 yX10_write yX10_write ∈ WS := WS_of (List.mem_append_right _ (List.mem_of_getElem? (i := 1067) (by decide +kernel))) (by decide +kernel)
theorem kk_yX10_clear : Cond.code yX10_clear cX10_clear 1 none ∈ WS := WS_of (List.mem_append_right _ (List.mem_of_getElem? (i := 1072) (by decide +kernel))) (by decide +kernel)
theorem ki_yX10_clear : Cond.instanceMethod yX10_clear ∈ WS := WS_of (List.mem_append_right _ (List.mem_of_getElem? (i := 1070) (by decide +kernel))) (by decide +kernel)
theorem kv_yX10_clear : Cond.selects RX10 yX10_clear yX10_clear ∈ WS := WS_of (List.mem_append_right _ (List.mem_of_getElem? (i := 1071) (by decide +kernel))) (by decide +kernel)
theorem kk_yX10_next : Cond.code yX10_next cX10_next 4 (some .int) ∈ WS := WS_of (List.mem_append_right _ (List.mem_of_getElem? (i := 1076) (by decide +kernel))) (by decide +kernel)
theorem ki_yX10_next : Cond.instanceMethod yX10_next ∈ WS := WS_of (List.mem_append_right _ (List.mem_of_getElem? (i := 1074) (by decide +kernel))) (by decide +kernel)
theorem kv_yX10_next : Cond.selects RX10 yX10_next yX10_next ∈ WS := WS_of (List.mem_append_right _ (List.mem_of_getElem? (i := 1075) (by decide +kernel))) (by decide +kernel)
theorem kk_yX10_fault : Cond.code yX10_fault cX10_fault 1 (some .int) ∈ WS := WS_of (List.mem_append_right _ (List.mem_of_getElem? (i := 1245) (by decide +kernel))) (by decide +kernel)
theorem ki_yX10_fault : Cond.instanceMethod yX10_fault ∈ WS := WS_of (List.mem_append_right _ (List.mem_of_getElem? (i := 1243) (by decide +kernel))) (by decide +kernel)
theorem kv_yX10_fault : Cond.selects RX10 yX10_fault yX10_fault ∈ WS := WS_of (List.mem_append_right _ (List.mem_of_getElem? (i := 1244) (by decide +kernel))) (by decide +kernel)
theorem kk_yX10_place : Cond.code yX10_place cX10_place 1 (some .int) ∈ WS := WS_of (List.mem_append_right _ (List.mem_of_getElem? (i := 1249) (by decide +kernel))) (by decide +kernel)
theorem ki_yX10_place : Cond.instanceMethod yX10_place ∈ WS := WS_of (List.mem_append_right _ (List.mem_of_getElem? (i := 1247) (by decide +kernel))) (by decide +kernel)
theorem kv_yX10_place : Cond.selects RX10 yX10_place yX10_place ∈ WS := WS_of (List.mem_append_right _ (List.mem_of_getElem? (i := 1248) (by decide +kernel))) (by decide +kernel)
theorem kk_yX10_size : Cond.code yX10_size cX10_size 1 (some .int) ∈ WS := WS_of (List.mem_append_right _ (List.mem_of_getElem? (i := 1253) (by decide +kernel))) (by decide +kernel)
theorem ki_yX10_size : Cond.instanceMethod yX10_size ∈ WS := WS_of (List.mem_append_right _ (List.mem_of_getElem? (i := 1251) (by decide +kernel))) (by decide +kernel)
theorem kv_yX10_size : Cond.selects RX10 yX10_size yX10_size ∈ WS := WS_of (List.mem_append_right _ (List.mem_of_getElem? (i := 1252) (by decide +kernel))) (by decide +kernel)
theorem kk_yX10_out : Cond.code yX10_out cX10_out 2 (some .int) ∈ WS := WS_of (List.mem_append_right _ (List.mem_of_getElem? (i := 1257) (by decide +kernel))) (by decide +kernel)
theorem ki_yX10_out : Cond.instanceMethod yX10_out ∈ WS := WS_of (List.mem_append_right _ (List.mem_of_getElem? (i := 1255) (by decide +kernel))) (by decide +kernel)
theorem kv_yX10_out : Cond.selects RX10 yX10_out yX10_out ∈ WS := WS_of (List.mem_append_right _ (List.mem_of_getElem? (i := 1256) (by decide +kernel))) (by decide +kernel)
theorem kk_yX10_count : Cond.code yX10_count cX10_count 2 (some .int) ∈ WS := WS_of (List.mem_append_right _ (List.mem_of_getElem? (i := 1261) (by decide +kernel))) (by decide +kernel)
theorem ki_yX10_count : Cond.instanceMethod yX10_count ∈ WS := WS_of (List.mem_append_right _ (List.mem_of_getElem? (i := 1259) (by decide +kernel))) (by decide +kernel)
theorem kv_yX10_count : Cond.selects RX10 yX10_count yX10_count ∈ WS := WS_of (List.mem_append_right _ (List.mem_of_getElem? (i := 1260) (by decide +kernel))) (by decide +kernel)
theorem kz_X0 : Cond.initialized RX0 ∈ WS := WS_of (List.mem_append_right _ (List.mem_of_getElem? (i := 2) (by decide +kernel))) (by decide +kernel)
theorem kt_X0 : Cond.instantiable RX0 8 ∈ WS := WS_of (List.mem_append_right _ (List.mem_of_getElem? (i := 32) (by decide +kernel))) (by decide +kernel)
theorem kz_X1 : Cond.initialized RX1 ∈ WS := WS_of (List.mem_append_right _ (List.mem_of_getElem? (i := 10) (by decide +kernel))) (by decide +kernel)
theorem kt_X1 : Cond.instantiable RX1 4 ∈ WS := WS_of (List.mem_append_right _ (List.mem_of_getElem? (i := 208) (by decide +kernel))) (by decide +kernel)
theorem kz_X2 : Cond.initialized RX2 ∈ WS := WS_of (List.mem_append_right _ (List.mem_of_getElem? (i := 12) (by decide +kernel))) (by decide +kernel)
theorem kt_X2 : Cond.instantiable RX2 15 ∈ WS := WS_of (List.mem_append_right _ (List.mem_of_getElem? (i := 278) (by decide +kernel))) (by decide +kernel)
theorem kz_X3 : Cond.initialized RX3 ∈ WS := WS_of (List.mem_append_right _ (List.mem_of_getElem? (i := 4) (by decide +kernel))) (by decide +kernel)
theorem kt_X3 : Cond.instantiable RX3 4 ∈ WS := WS_of (List.mem_append_right _ (List.mem_of_getElem? (i := 97) (by decide +kernel))) (by decide +kernel)
theorem kz_X4 : Cond.initialized RX4 ∈ WS := WS_of (List.mem_append_right _ (List.mem_of_getElem? (i := 13) (by decide +kernel))) (by decide +kernel)
theorem kt_X4 : Cond.instantiable RX4 7 ∈ WS := WS_of (List.mem_append_right _ (List.mem_of_getElem? (i := 333) (by decide +kernel))) (by decide +kernel)
theorem kz_X5 : Cond.initialized RX5 ∈ WS := WS_of (List.mem_append_right _ (List.mem_of_getElem? (i := 11) (by decide +kernel))) (by decide +kernel)
theorem kt_X5 : Cond.instantiable RX5 14 ∈ WS := WS_of (List.mem_append_right _ (List.mem_of_getElem? (i := 227) (by decide +kernel))) (by decide +kernel)
theorem kz_X6 : Cond.initialized RX6 ∈ WS := WS_of (List.mem_append_right _ (List.mem_of_getElem? (i := 3) (by decide +kernel))) (by decide +kernel)
theorem kt_X6 : Cond.instantiable RX6 4 ∈ WS := WS_of (List.mem_append_right _ (List.mem_of_getElem? (i := 71) (by decide +kernel))) (by decide +kernel)
theorem kz_X7 : Cond.initialized RX7 ∈ WS := WS_of (List.mem_append_right _ (List.mem_of_getElem? (i := 9) (by decide +kernel))) (by decide +kernel)
theorem kt_X7 : Cond.instantiable RX7 5 ∈ WS := WS_of (List.mem_append_right _ (List.mem_of_getElem? (i := 181) (by decide +kernel))) (by decide +kernel)
theorem kz_X8 : Cond.initialized RX8 ∈ WS := WS_of (List.mem_append_right _ (List.mem_of_getElem? (i := 20) (by decide +kernel))) (by decide +kernel)
theorem kz_X9 : Cond.initialized RX9 ∈ WS := WS_of (List.mem_append_right _ (List.mem_of_getElem? (i := 1) (by decide +kernel))) (by decide +kernel)
theorem kt_X9 : Cond.instantiable RX9 8 ∈ WS := WS_of (List.mem_append_right _ (List.mem_of_getElem? (i := 24) (by decide +kernel))) (by decide +kernel)
theorem kz_X10 : Cond.initialized RX10 ∈ WS := WS_of (List.mem_append_right _ (List.mem_of_getElem? (i := 14) (by decide +kernel))) (by decide +kernel)
theorem kt_X10 : Cond.instantiable RX10 44 ∈ WS := WS_of (List.mem_append_right _ (List.mem_of_getElem? (i := 893) (by decide +kernel))) (by decide +kernel)
theorem kz_System : Cond.initialized "java/lang/System" ∈ WS := WS_of (List.mem_append_right _ (List.mem_of_getElem? (i := 19) (by decide +kernel))) (by decide +kernel)
theorem kz_Math : Cond.initialized "java/lang/Math" ∈ WS := WS_of (List.mem_append_right _ (List.mem_of_getElem? (i := 21) (by decide +kernel))) (by decide +kernel)
theorem kx_acn : Cond.native arraycopyName ∈ WS := WS_of (List.mem_append_right _ (List.mem_of_getElem? (i := 656) (by decide +kernel))) (by decide +kernel)
theorem ks_acn : Cond.static arraycopyName ∈ WS := WS_of (List.mem_append_right _ (List.mem_of_getElem? (i := 655) (by decide +kernel))) (by decide +kernel)
theorem ks_max : Cond.static Lib.Math.max.name ∈ WS := WS_of (List.mem_append_right _ (List.mem_of_getElem? (i := 702) (by decide +kernel))) (by decide +kernel)
theorem kk_max : Cond.code Lib.Math.max.name Lib.Math.max.code 2 (some .int) ∈ WS := WS_of (List.mem_append_right _ (List.mem_of_getElem? (i := 703) (by decide +kernel))) (by decide +kernel)
theorem ka_long : Cond.arrayClass .long ∈ WS := WS_of (List.mem_append_right _ (List.mem_of_getElem? (i := 68) (by decide +kernel))) (by decide +kernel)
theorem ka_int : Cond.arrayClass .int ∈ WS := WS_of (List.mem_append_right _ (List.mem_of_getElem? (i := 69) (by decide +kernel))) (by decide +kernel)
theorem ka_char : Cond.arrayClass .char ∈ WS := WS_of (List.mem_append_right _ (List.mem_of_getElem? (i := 95) (by decide +kernel))) (by decide +kernel)
theorem ka_boolean : Cond.arrayClass .boolean ∈ WS := WS_of (List.mem_append_right _ (List.mem_of_getElem? (i := 1060) (by decide +kernel))) (by decide +kernel)
theorem ki_obj : Cond.instanceMethod objectInit ∈ WS := WS_of (List.mem_append_right _ (List.mem_of_getElem? (i := 29) (by decide +kernel))) (by decide +kernel)
theorem kk_obj : Cond.code objectInit ⟨#[0xb1]⟩ 1 none ∈ WS := WS_of (List.mem_append_right _ (List.mem_of_getElem? (i := 30) (by decide +kernel))) (by decide +kernel)
theorem kl_X0 : ∀ w ∈ u_ws RX0 TX0 8, w ∈ WS := fun w h => WS_of ((by decide +kernel : ∀ w ∈ u_ws RX0 TX0 8, w ∈ lw_tbl) w h) ((by decide +kernel : ∀ w ∈ u_ws RX0 TX0 8, goodWord w = true) w h)
theorem kl_X1 : ∀ w ∈ u_ws RX1 TX1 4, w ∈ WS := fun w h => WS_of ((by decide +kernel : ∀ w ∈ u_ws RX1 TX1 4, w ∈ lw_tbl) w h) ((by decide +kernel : ∀ w ∈ u_ws RX1 TX1 4, goodWord w = true) w h)
theorem kl_X2 : ∀ w ∈ u_ws RX2 TX2 15, w ∈ WS := fun w h => WS_of ((by decide +kernel : ∀ w ∈ u_ws RX2 TX2 15, w ∈ lw_tbl) w h) ((by decide +kernel : ∀ w ∈ u_ws RX2 TX2 15, goodWord w = true) w h)
theorem kl_X3 : ∀ w ∈ u_ws RX3 TX3 4, w ∈ WS := fun w h => WS_of ((by decide +kernel : ∀ w ∈ u_ws RX3 TX3 4, w ∈ lw_tbl) w h) ((by decide +kernel : ∀ w ∈ u_ws RX3 TX3 4, goodWord w = true) w h)
theorem kl_X4 : ∀ w ∈ u_ws RX4 TX4 7, w ∈ WS := fun w h => WS_of ((by decide +kernel : ∀ w ∈ u_ws RX4 TX4 7, w ∈ lw_tbl) w h) ((by decide +kernel : ∀ w ∈ u_ws RX4 TX4 7, goodWord w = true) w h)
theorem kl_X5 : ∀ w ∈ u_ws RX5 TX5 14, w ∈ WS := fun w h => WS_of ((by decide +kernel : ∀ w ∈ u_ws RX5 TX5 14, w ∈ lw_tbl) w h) ((by decide +kernel : ∀ w ∈ u_ws RX5 TX5 14, goodWord w = true) w h)
theorem kl_X6 : ∀ w ∈ u_ws RX6 TX6 4, w ∈ WS := fun w h => WS_of ((by decide +kernel : ∀ w ∈ u_ws RX6 TX6 4, w ∈ lw_tbl) w h) ((by decide +kernel : ∀ w ∈ u_ws RX6 TX6 4, goodWord w = true) w h)
theorem kl_X7 : ∀ w ∈ u_ws RX7 TX7 5, w ∈ WS := fun w h => WS_of ((by decide +kernel : ∀ w ∈ u_ws RX7 TX7 5, w ∈ lw_tbl) w h) ((by decide +kernel : ∀ w ∈ u_ws RX7 TX7 5, goodWord w = true) w h)
theorem kl_X9 : ∀ w ∈ u_ws RX9 TX9 8, w ∈ WS := fun w h => WS_of ((by decide +kernel : ∀ w ∈ u_ws RX9 TX9 8, w ∈ lw_tbl) w h) ((by decide +kernel : ∀ w ∈ u_ws RX9 TX9 8, goodWord w = true) w h)
theorem kl_X10 : ∀ w ∈ u_ws RX10 TX10 44, w ∈ WS := fun w h => WS_of ((by decide +kernel : ∀ w ∈ u_ws RX10 TX10 44, w ∈ lw_tbl) w h) ((by decide +kernel : ∀ w ∈ u_ws RX10 TX10 44, goodWord w = true) w h)
end
section
abbrev St : Type := (Nat → Int32) × (Nat → Int64) × (Nat → Nat → Int32) × (Nat → Nat → Int64)
abbrev Gd : Type := (Nat → Nat) × (Nat → Nat) × (Nat → ClassId)
def gI (u : St) (k : Nat) : Int32 := u.1 k
def gJ (u : St) (k : Nat) : Int64 := u.2.1 k
def gA (u : St) (k : Nat) : Nat → Int32 := u.2.2.1 k
def gB (u : St) (k : Nat) : Nat → Int64 := u.2.2.2 k
def sI (u : St) (k : Nat) (v : Int32) : St := (va_up u.1 k v, u.2)
def sJ (u : St) (k : Nat) (v : Int64) : St := (u.1, va_up u.2.1 k v, u.2.2)
def sA (u : St) (k : Nat) (f : Nat → Int32) : St := (u.1, u.2.1, va_up u.2.2.1 k f, u.2.2.2)
def sB (u : St) (k : Nat) (f : Nat → Int64) : St := (u.1, u.2.1, u.2.2.1, va_up u.2.2.2 k f)
def vz (r : Int32) : Prop := r = 0 ∨ r = 1
theorem vz_0 : vz 0 := Or.inl rfl
theorem vz_1 : vz 1 := Or.inr rfl
theorem vz_n {r : Int32} (h : vz r) : narrow .boolean (.int r) = .int r := by rcases h with rfl | rfl <;> rfl
theorem vz_f {r : Int32} (h : vz r) : fits .boolean (.int r) = true := by rcases h with rfl | rfl <;> rfl
def Ev (D : va_G) (tys : List (ClassId × FieldType)) (p : Program) (s : State) (m : MethodId) (c : Code) (cc : ByteArray) (own : String) (args : Array Value) : Prop :=
  p.tables.exec = Jvm.exec ∧ c.code = cc ∧ s.vm.findClass own = some m.cls ∧ (∀ w ∈ WS, w.before args s = true) ∧ va_K D vwCl tys s
def wC (G : Gd) (u : St) : va_W := [(G.1 0, .inr (8, [.ref (G.1 1), .ref (G.1 2), .ref (G.1 3), .ref (G.1 4), .ref (G.1 5), .ref (G.1 6), .ref (G.1 7), .int (gI u 7)])), (G.1 1, .inr (6, [.ref (G.1 9), .int (gI u 101), .int (gI u 102), .int (gI u 103)])), (G.1 2, .inr (3, [.ref (G.1 10), .ref (G.1 11), .int (gI u 202), .int (gI u 203)])), (G.1 3, .inr (7, [.ref (G.1 12), .ref (G.1 13), .ref (G.1 14), .int (gI u 303), .int (gI u 304)])), (G.1 4, .inr (1, [.ref (G.1 8), .ref (G.1 2), .ref (G.1 3), .ref (G.1 15)])), (G.1 5, .inr (5, [.ref (G.1 1), .ref (G.1 2), .ref (G.1 8), .ref (G.1 4), .ref (G.1 16), .ref (G.1 17), .ref (G.1 18), .ref (G.1 19), .ref (G.1 20), .int (gI u 509), .int (gI u 510), .int (gI u 511), .int (gI u 512), .long (gJ u 513)])), (G.1 6, .inr (2, [.ref (G.1 8), .ref (G.1 2), .ref (G.1 3), .ref (G.1 4), .int (gI u 604), .ref (G.1 21), .int (gI u 606), .int (gI u 607), .int (gI u 608), .int (gI u 609), .long (gJ u 610), .long (gJ u 611), .long (gJ u 612), .long (gJ u 613), .long (gJ u 614)])), (G.1 7, .inr (4, [.ref (G.1 8), .ref (G.1 2), .ref (G.1 22), .ref (G.1 23), .ref (G.1 24), .int (gI u 705), .int (gI u 706)])), (G.1 8, .inr (0, [.ref (G.1 25), .ref (G.1 26), .ref (G.1 27), .ref (G.1 28), .ref (G.1 29), .int (gI u 805), .int (gI u 806), .int (gI u 807)])), (G.1 9, .inl (G.2.2 9, 2000, .inl (gA u 100))), (G.1 10, .inl (G.2.2 10, 150, .inr (.inl (gB u 200)))), (G.1 11, .inl (G.2.2 11, 150, .inr (.inl (gB u 201)))), (G.1 12, .inl (G.2.2 12, G.2.1 300, .inl (gA u 300))), (G.1 13, .inl (G.2.2 13, G.2.1 301, .inl (gA u 301))), (G.1 14, .inl (G.2.2 14, G.2.1 302, .inr (.inl (gB u 302)))), (G.1 15, .inl (G.2.2 15, 2, .inr (.inl (gB u 403)))), (G.1 16, .inl (G.2.2 16, 2000, .inr (.inl (gB u 504)))), (G.1 17, .inl (G.2.2 17, 60, .inl (gA u 505))), (G.1 18, .inl (G.2.2 18, 60, .inr (.inl (gB u 506)))), (G.1 19, .inl (G.2.2 19, 60, .inr (.inl (gB u 507)))), (G.1 20, .inl (G.2.2 20, 0, .inr (.inl (gB u 508)))), (G.1 21, .inl (G.2.2 21, 8, .inr (.inl (gB u 605)))), (G.1 22, .inl (G.2.2 22, 400, .inl (gA u 702))), (G.1 23, .inl (G.2.2 23, 400, .inr (.inl (gB u 703)))), (G.1 24, .inl (G.2.2 24, 12, .inl (gA u 704))), (G.1 25, .inl (G.2.2 25, G.2.1 800, .inr (.inl (gB u 800)))), (G.1 26, .inl (G.2.2 26, G.2.1 801, .inr (.inl (gB u 801)))), (G.1 27, .inl (G.2.2 27, G.2.1 802, .inl (gA u 802))), (G.1 28, .inl (G.2.2 28, G.2.1 803, .inr (.inl (gB u 803)))), (G.1 29, .inl (G.2.2 29, G.2.1 804, .inl (gA u 804)))]
def tyC (G : Gd) : List (ClassId × FieldType) := [(G.2.2 9, .char), (G.2.2 10, .long), (G.2.2 11, .long), (G.2.2 12, .int), (G.2.2 13, .int), (G.2.2 14, .long), (G.2.2 15, .long), (G.2.2 16, .long), (G.2.2 17, .int), (G.2.2 18, .long), (G.2.2 19, .long), (G.2.2 20, .long), (G.2.2 21, .long), (G.2.2 22, .char), (G.2.2 23, .long), (G.2.2 24, .char), (G.2.2 25, .long), (G.2.2 26, .long), (G.2.2 27, .int), (G.2.2 28, .long), (G.2.2 29, .int)]
theorem wC_D {A : Nat → Prop} {G : Gd} {u v : St} (h : va_D A (wC G u)) : va_D A (wC G v) := by
  have e : (wC G v).map Prod.fst = (wC G u).map Prod.fst := rfl
  have key : ∀ (k : Nat) (q : Nat × va_E), (wC G v)[k]? = some q → ∃ q0, (wC G u)[k]? = some q0 ∧ q0.1 = q.1 := by
    intro k q hk
    have h1 : ((wC G v).map Prod.fst)[k]? = some q.1 := by rw [List.getElem?_map, hk]; rfl
    rw [e, List.getElem?_map] at h1
    cases h2 : (wC G u)[k]? with
    | none => rw [h2] at h1; cases h1
    | some q0 => rw [h2] at h1; exact ⟨q0, rfl, Option.some.inj h1⟩
  refine ⟨fun i j x y hi hj hxy => ?_, fun k q hk => ?_⟩
  · obtain ⟨x0, a1, a2⟩ := key i x hi
    obtain ⟨y0, b1, b2⟩ := key j y hj
    exact h.1 i j x0 y0 a1 b1 (a2.trans (hxy.trans b2.symm))
  · obtain ⟨q0, a1, a2⟩ := key k q hk
    rw [← a2]; exact h.2 k q0 a1
def wR (G : Gd) (u : St) : va_W := [(G.1 0, .inr (9, [.int (gI u 0), .int (gI u 1), .int (gI u 2), .int (gI u 3), .ref (G.1 1), .int (gI u 5), .int (gI u 6), .int (gI u 7), .int (gI u 8), .int (gI u 9), .int (gI u 10), .ref (G.1 2), .int (gI u 12), .ref (G.1 3), .ref (G.1 4), .ref (G.1 5), .int (gI u 16), .ref (G.1 6), .int (gI u 18), .ref (G.1 7), .ref (G.1 8), .int (gI u 21), .ref (G.1 9), .int (gI u 23), .int (gI u 24), .int (gI u 25), .ref (G.1 10), .ref (G.1 11), .ref (G.1 12), .int (gI u 29), .int (gI u 30), .long (gJ u 31), .int (gI u 32), .ref (G.1 13), .ref (G.1 14), .ref (G.1 15), .ref (G.1 16), .ref (G.1 17), .ref (G.1 18), .int (gI u 39), .long (gJ u 40), .long (gJ u 41), .ref (G.1 19), .int (gI u 43)])), (G.1 1, .inl (G.2.2 1, 2000, .inl (gA u 4))), (G.1 2, .inl (G.2.2 2, 400, .inl (gA u 11))), (G.1 3, .inl (G.2.2 3, 1000, .inr (.inl (gB u 13)))), (G.1 4, .inl (G.2.2 4, 1000, .inr (.inl (gB u 14)))), (G.1 5, .inl (G.2.2 5, 1000, .inl (gA u 15))), (G.1 6, .inl (G.2.2 6, 1000, .inr (.inl (gB u 17)))), (G.1 7, .inl (G.2.2 7, 150, .inr (.inl (gB u 19)))), (G.1 8, .inl (G.2.2 8, 150, .inr (.inl (gB u 20)))), (G.1 9, .inl (G.2.2 9, 150, .inr (.inl (gB u 22)))), (G.1 10, .inl (G.2.2 10, 61, .inl (gA u 26))), (G.1 11, .inl (G.2.2 11, 61, .inr (.inl (gB u 27)))), (G.1 12, .inl (G.2.2 12, 61, .inl (gA u 28))), (G.1 13, .inl (G.2.2 13, 200, .inl (gA u 33))), (G.1 14, .inl (G.2.2 14, 200, .inr (.inl (gB u 34)))), (G.1 15, .inl (G.2.2 15, 200, .inr (.inl (gB u 35)))), (G.1 16, .inl (G.2.2 16, 200, .inr (.inl (gB u 36)))), (G.1 17, .inl (G.2.2 17, 200, .inl (gA u 37))), (G.1 18, .inl (G.2.2 18, 1600, .inr (.inl (gB u 38)))), (G.1 19, .inl (G.2.2 19, 8, .inr (.inl (gB u 42))))]
def tyR (G : Gd) : List (ClassId × FieldType) := [(G.2.2 1, .int), (G.2.2 2, .int), (G.2.2 3, .long), (G.2.2 4, .long), (G.2.2 5, .boolean), (G.2.2 6, .long), (G.2.2 7, .long), (G.2.2 8, .long), (G.2.2 9, .long), (G.2.2 10, .int), (G.2.2 11, .long), (G.2.2 12, .int), (G.2.2 13, .int), (G.2.2 14, .long), (G.2.2 15, .long), (G.2.2 16, .long), (G.2.2 17, .int), (G.2.2 18, .long), (G.2.2 19, .long)]
theorem wR_D {A : Nat → Prop} {G : Gd} {u v : St} (h : va_D A (wR G u)) : va_D A (wR G v) := by
  have e : (wR G v).map Prod.fst = (wR G u).map Prod.fst := rfl
  have key : ∀ (k : Nat) (q : Nat × va_E), (wR G v)[k]? = some q → ∃ q0, (wR G u)[k]? = some q0 ∧ q0.1 = q.1 := by
    intro k q hk
    have h1 : ((wR G v).map Prod.fst)[k]? = some q.1 := by rw [List.getElem?_map, hk]; rfl
    rw [e, List.getElem?_map] at h1
    cases h2 : (wR G u)[k]? with
    | none => rw [h2] at h1; cases h1
    | some q0 => rw [h2] at h1; exact ⟨q0, rfl, Option.some.inj h1⟩
  refine ⟨fun i j x y hi hj hxy => ?_, fun k q hk => ?_⟩
  · obtain ⟨x0, a1, a2⟩ := key i x hi
    obtain ⟨y0, b1, b2⟩ := key j y hj
    exact h.1 i j x0 y0 a1 b1 (a2.trans (hxy.trans b2.symm))
  · obtain ⟨q0, a1, a2⟩ := key k q hk
    rw [← a2]; exact h.2 k q0 a1
def wN (G : Gd) (u : St) : va_W := [(G.1 0, .inr (3, [.ref (G.1 1), .ref (G.1 2), .int (gI u 2), .int (gI u 3)])), (G.1 1, .inl (G.2.2 1, 150, .inr (.inl (gB u 0)))), (G.1 2, .inl (G.2.2 2, 150, .inr (.inl (gB u 1))))]
def tyN (G : Gd) : List (ClassId × FieldType) := [(G.2.2 1, .long), (G.2.2 2, .long)]
theorem wN_D {A : Nat → Prop} {G : Gd} {u v : St} (h : va_D A (wN G u)) : va_D A (wN G v) := by
  have e : (wN G v).map Prod.fst = (wN G u).map Prod.fst := rfl
  have key : ∀ (k : Nat) (q : Nat × va_E), (wN G v)[k]? = some q → ∃ q0, (wN G u)[k]? = some q0 ∧ q0.1 = q.1 := by
    intro k q hk
    have h1 : ((wN G v).map Prod.fst)[k]? = some q.1 := by rw [List.getElem?_map, hk]; rfl
    rw [e, List.getElem?_map] at h1
    cases h2 : (wN G u)[k]? with
    | none => rw [h2] at h1; cases h1
    | some q0 => rw [h2] at h1; exact ⟨q0, rfl, Option.some.inj h1⟩
  refine ⟨fun i j x y hi hj hxy => ?_, fun k q hk => ?_⟩
  · obtain ⟨x0, a1, a2⟩ := key i x hi
    obtain ⟨y0, b1, b2⟩ := key j y hj
    exact h.1 i j x0 y0 a1 b1 (a2.trans (hxy.trans b2.symm))
  · obtain ⟨q0, a1, a2⟩ := key k q hk
    rw [← a2]; exact h.2 k q0 a1
end
section
section
variable {p : Program} {l : Launch} {e : Env} {R : Room} {s : State} {m : MethodId} {args : Array Value} {below : List Frame} {meth : Method} {c : Code} {H H0 : Heap} {locs : List Loc} {cells slots : Nat} {Q : State → Prop} {D : va_G} {A : Nat → Prop} {cc : ByteArray} {own : String} {pc : Nat} {ls : Array Slot} {rest : List Value} {G : Gd} {u : St} {tys : List (ClassId × FieldType)}
theorem gC_0 (E : Ev D (tyC G) p s m c cc own args) (hP : va_P D vwCl (wC G u) H) {ix : Nat} (hl : Cond.fieldLink own ix "ConsHouse" "text" "LConsHouse$Text;" ∈ WS) (hd : decode cc pc = .ok (.getfield ix, 3)) (kk : W p l e R s m args below meth c H locs cells slots Q (F0 m (pc + 3) ls (.ref (G.1 1) :: rest))) : W p l e R s m args below meth c H locs cells slots Q (F0 m pc ls (.ref (G.1 0) :: rest)) := by exact va_get (D := D) (ci := 8) (C := RX9) (T := TX9) (N := 8) E.1 E.2.1 E.2.2.2.1 kl_X9 E.2.2.1 E.2.2.2.2 hP 0 rfl rfl 0 (by decide) (E.2.2.2.1 _ hl) (fun _ h => h) rfl hd kk
theorem gC_1 (E : Ev D (tyC G) p s m c cc own args) (hP : va_P D vwCl (wC G u) H) {ix : Nat} (hl : Cond.fieldLink own ix "ConsHouse" "names" "LConsHouse$Names;" ∈ WS) (hd : decode cc pc = .ok (.getfield ix, 3)) (kk : W p l e R s m args below meth c H locs cells slots Q (F0 m (pc + 3) ls (.ref (G.1 2) :: rest))) : W p l e R s m args below meth c H locs cells slots Q (F0 m pc ls (.ref (G.1 0) :: rest)) := by exact va_get (D := D) (ci := 8) (C := RX9) (T := TX9) (N := 8) E.1 E.2.1 E.2.2.2.1 kl_X9 E.2.2.1 E.2.2.2.2 hP 0 rfl rfl 1 (by decide) (E.2.2.2.1 _ hl) (fun _ h => h) rfl hd kk
theorem gC_2 (E : Ev D (tyC G) p s m c cc own args) (hP : va_P D vwCl (wC G u) H) {ix : Nat} (hl : Cond.fieldLink own ix "ConsHouse" "waiting" "LConsHouse$Waiting;" ∈ WS) (hd : decode cc pc = .ok (.getfield ix, 3)) (kk : W p l e R s m args below meth c H locs cells slots Q (F0 m (pc + 3) ls (.ref (G.1 3) :: rest))) : W p l e R s m args below meth c H locs cells slots Q (F0 m pc ls (.ref (G.1 0) :: rest)) := by exact va_get (D := D) (ci := 8) (C := RX9) (T := TX9) (N := 8) E.1 E.2.1 E.2.2.2.1 kl_X9 E.2.2.1 E.2.2.2.2 hP 0 rfl rfl 2 (by decide) (E.2.2.2.1 _ hl) (fun _ h => h) rfl hd kk
theorem gC_3 (E : Ev D (tyC G) p s m c cc own args) (hP : va_P D vwCl (wC G u) H) {ix : Nat} (hl : Cond.fieldLink own ix "ConsHouse" "keeper" "LConsHouse$Keeper;" ∈ WS) (hd : decode cc pc = .ok (.getfield ix, 3)) (kk : W p l e R s m args below meth c H locs cells slots Q (F0 m (pc + 3) ls (.ref (G.1 4) :: rest))) : W p l e R s m args below meth c H locs cells slots Q (F0 m pc ls (.ref (G.1 0) :: rest)) := by exact va_get (D := D) (ci := 8) (C := RX9) (T := TX9) (N := 8) E.1 E.2.1 E.2.2.2.1 kl_X9 E.2.2.1 E.2.2.2.2 hP 0 rfl rfl 3 (by decide) (E.2.2.2.1 _ hl) (fun _ h => h) rfl hd kk
theorem gC_4 (E : Ev D (tyC G) p s m c cc own args) (hP : va_P D vwCl (wC G u) H) {ix : Nat} (hl : Cond.fieldLink own ix "ConsHouse" "reader" "LConsHouse$Reader;" ∈ WS) (hd : decode cc pc = .ok (.getfield ix, 3)) (kk : W p l e R s m args below meth c H locs cells slots Q (F0 m (pc + 3) ls (.ref (G.1 5) :: rest))) : W p l e R s m args below meth c H locs cells slots Q (F0 m pc ls (.ref (G.1 0) :: rest)) := by exact va_get (D := D) (ci := 8) (C := RX9) (T := TX9) (N := 8) E.1 E.2.1 E.2.2.2.1 kl_X9 E.2.2.1 E.2.2.2.2 hP 0 rfl rfl 4 (by decide) (E.2.2.2.1 _ hl) (fun _ h => h) rfl hd kk
theorem gC_5 (E : Ev D (tyC G) p s m c cc own args) (hP : va_P D vwCl (wC G u) H) {ix : Nat} (hl : Cond.fieldLink own ix "ConsHouse" "machine" "LConsHouse$Machine;" ∈ WS) (hd : decode cc pc = .ok (.getfield ix, 3)) (kk : W p l e R s m args below meth c H locs cells slots Q (F0 m (pc + 3) ls (.ref (G.1 6) :: rest))) : W p l e R s m args below meth c H locs cells slots Q (F0 m pc ls (.ref (G.1 0) :: rest)) := by exact va_get (D := D) (ci := 8) (C := RX9) (T := TX9) (N := 8) E.1 E.2.1 E.2.2.2.1 kl_X9 E.2.2.1 E.2.2.2.2 hP 0 rfl rfl 5 (by decide) (E.2.2.2.1 _ hl) (fun _ h => h) rfl hd kk
theorem gC_6 (E : Ev D (tyC G) p s m c cc own args) (hP : va_P D vwCl (wC G u) H) {ix : Nat} (hl : Cond.fieldLink own ix "ConsHouse" "printer" "LConsHouse$Printer;" ∈ WS) (hd : decode cc pc = .ok (.getfield ix, 3)) (kk : W p l e R s m args below meth c H locs cells slots Q (F0 m (pc + 3) ls (.ref (G.1 7) :: rest))) : W p l e R s m args below meth c H locs cells slots Q (F0 m pc ls (.ref (G.1 0) :: rest)) := by exact va_get (D := D) (ci := 8) (C := RX9) (T := TX9) (N := 8) E.1 E.2.1 E.2.2.2.1 kl_X9 E.2.2.1 E.2.2.2.2 hP 0 rfl rfl 6 (by decide) (E.2.2.2.1 _ hl) (fun _ h => h) rfl hd kk
theorem gC_7 (E : Ev D (tyC G) p s m c cc own args) (hP : va_P D vwCl (wC G u) H) {ix : Nat} (hl : Cond.fieldLink own ix "ConsHouse" "latestFault" "I" ∈ WS) {v : Int32} (hv : gI u 7 = v) (hd : decode cc pc = .ok (.getfield ix, 3)) (kk : W p l e R s m args below meth c H locs cells slots Q (F0 m (pc + 3) ls (.int v :: rest))) : W p l e R s m args below meth c H locs cells slots Q (F0 m pc ls (.ref (G.1 0) :: rest)) := by subst hv; exact va_get (D := D) (ci := 8) (C := RX9) (T := TX9) (N := 8) E.1 E.2.1 E.2.2.2.1 kl_X9 E.2.2.1 E.2.2.2.2 hP 0 rfl rfl 7 (by decide) (E.2.2.2.1 _ hl) (fun _ h => h) rfl hd kk
theorem pC_7 (E : Ev D (tyC G) p s m c cc own args) (hP : va_P D vwCl (wC G u) H) (hD : va_D A (wC G u)) (hS : va_S A H0 H locs) {ix : Nat} (hl : Cond.fieldLink own ix "ConsHouse" "latestFault" "I" ∈ WS) {v : Int32} (hd : decode cc pc = .ok (.putfield ix, 3)) (kk : ∀ (H1 : Heap) (locs1 : List Loc), va_P D vwCl (wC G (sI u 7 v)) H1 → va_D A (wC G (sI u 7 v)) → va_S A H0 H1 locs1 → W p l e R s m args below meth c H1 locs1 cells slots Q (F0 m (pc + 3) ls rest)) : W p l e R s m args below meth c H locs cells slots Q (F0 m pc ls (.int v :: .ref (G.1 0) :: rest)) := va_put (D := D) (ci := 8) (C := RX9) (T := TX9) (N := 8) (v := .int v) (ty := .int) E.1 E.2.1 E.2.2.2.1 kl_X9 tyX9 tyX9_ok nmX9 E.2.2.1 E.2.2.2.2 hP hD hS 0 rfl rfl 7 (by decide) (E.2.2.2.1 _ hl) (fun _ h => h) rfl (by decide +kernel) rfl rfl (Nat.le_of_ble_eq_true rfl) hd (fun H1 l1 a b d => kk H1 l1 a (wC_D hD) d)
theorem gC_100 (E : Ev D (tyC G) p s m c cc own args) (hP : va_P D vwCl (wC G u) H) {ix : Nat} (hl : Cond.fieldLink own ix "ConsHouse$Text" "characters" "[C" ∈ WS) (hd : decode cc pc = .ok (.getfield ix, 3)) (kk : W p l e R s m args below meth c H locs cells slots Q (F0 m (pc + 3) ls (.ref (G.1 9) :: rest))) : W p l e R s m args below meth c H locs cells slots Q (F0 m pc ls (.ref (G.1 1) :: rest)) := by exact va_get (D := D) (ci := 6) (C := RX6) (T := TX6) (N := 4) E.1 E.2.1 E.2.2.2.1 kl_X6 E.2.2.1 E.2.2.2.2 hP 1 rfl rfl 0 (by decide) (E.2.2.2.1 _ hl) (fun _ h => h) rfl hd kk
theorem gC_101 (E : Ev D (tyC G) p s m c cc own args) (hP : va_P D vwCl (wC G u) H) {ix : Nat} (hl : Cond.fieldLink own ix "ConsHouse$Text" "length" "I" ∈ WS) {v : Int32} (hv : gI u 101 = v) (hd : decode cc pc = .ok (.getfield ix, 3)) (kk : W p l e R s m args below meth c H locs cells slots Q (F0 m (pc + 3) ls (.int v :: rest))) : W p l e R s m args below meth c H locs cells slots Q (F0 m pc ls (.ref (G.1 1) :: rest)) := by subst hv; exact va_get (D := D) (ci := 6) (C := RX6) (T := TX6) (N := 4) E.1 E.2.1 E.2.2.2.1 kl_X6 E.2.2.1 E.2.2.2.2 hP 1 rfl rfl 1 (by decide) (E.2.2.2.1 _ hl) (fun _ h => h) rfl hd kk
theorem pC_101 (E : Ev D (tyC G) p s m c cc own args) (hP : va_P D vwCl (wC G u) H) (hD : va_D A (wC G u)) (hS : va_S A H0 H locs) {ix : Nat} (hl : Cond.fieldLink own ix "ConsHouse$Text" "length" "I" ∈ WS) {v : Int32} (hd : decode cc pc = .ok (.putfield ix, 3)) (kk : ∀ (H1 : Heap) (locs1 : List Loc), va_P D vwCl (wC G (sI u 101 v)) H1 → va_D A (wC G (sI u 101 v)) → va_S A H0 H1 locs1 → W p l e R s m args below meth c H1 locs1 cells slots Q (F0 m (pc + 3) ls rest)) : W p l e R s m args below meth c H locs cells slots Q (F0 m pc ls (.int v :: .ref (G.1 1) :: rest)) := va_put (D := D) (ci := 6) (C := RX6) (T := TX6) (N := 4) (v := .int v) (ty := .int) E.1 E.2.1 E.2.2.2.1 kl_X6 tyX6 tyX6_ok nmX6 E.2.2.1 E.2.2.2.2 hP hD hS 1 rfl rfl 1 (by decide) (E.2.2.2.1 _ hl) (fun _ h => h) rfl (by decide +kernel) rfl rfl (Nat.le_of_ble_eq_true rfl) hd (fun H1 l1 a b d => kk H1 l1 a (wC_D hD) d)
theorem gC_102 (E : Ev D (tyC G) p s m c cc own args) (hP : va_P D vwCl (wC G u) H) {ix : Nat} (hl : Cond.fieldLink own ix "ConsHouse$Text" "position" "I" ∈ WS) {v : Int32} (hv : gI u 102 = v) (hd : decode cc pc = .ok (.getfield ix, 3)) (kk : W p l e R s m args below meth c H locs cells slots Q (F0 m (pc + 3) ls (.int v :: rest))) : W p l e R s m args below meth c H locs cells slots Q (F0 m pc ls (.ref (G.1 1) :: rest)) := by subst hv; exact va_get (D := D) (ci := 6) (C := RX6) (T := TX6) (N := 4) E.1 E.2.1 E.2.2.2.1 kl_X6 E.2.2.1 E.2.2.2.2 hP 1 rfl rfl 2 (by decide) (E.2.2.2.1 _ hl) (fun _ h => h) rfl hd kk
theorem pC_102 (E : Ev D (tyC G) p s m c cc own args) (hP : va_P D vwCl (wC G u) H) (hD : va_D A (wC G u)) (hS : va_S A H0 H locs) {ix : Nat} (hl : Cond.fieldLink own ix "ConsHouse$Text" "position" "I" ∈ WS) {v : Int32} (hd : decode cc pc = .ok (.putfield ix, 3)) (kk : ∀ (H1 : Heap) (locs1 : List Loc), va_P D vwCl (wC G (sI u 102 v)) H1 → va_D A (wC G (sI u 102 v)) → va_S A H0 H1 locs1 → W p l e R s m args below meth c H1 locs1 cells slots Q (F0 m (pc + 3) ls rest)) : W p l e R s m args below meth c H locs cells slots Q (F0 m pc ls (.int v :: .ref (G.1 1) :: rest)) := va_put (D := D) (ci := 6) (C := RX6) (T := TX6) (N := 4) (v := .int v) (ty := .int) E.1 E.2.1 E.2.2.2.1 kl_X6 tyX6 tyX6_ok nmX6 E.2.2.1 E.2.2.2.2 hP hD hS 1 rfl rfl 2 (by decide) (E.2.2.2.1 _ hl) (fun _ h => h) rfl (by decide +kernel) rfl rfl (Nat.le_of_ble_eq_true rfl) hd (fun H1 l1 a b d => kk H1 l1 a (wC_D hD) d)
theorem gC_103 (E : Ev D (tyC G) p s m c cc own args) (hP : va_P D vwCl (wC G u) H) {ix : Nat} (hl : Cond.fieldLink own ix "ConsHouse$Text" "faultPlace" "I" ∈ WS) {v : Int32} (hv : gI u 103 = v) (hd : decode cc pc = .ok (.getfield ix, 3)) (kk : W p l e R s m args below meth c H locs cells slots Q (F0 m (pc + 3) ls (.int v :: rest))) : W p l e R s m args below meth c H locs cells slots Q (F0 m pc ls (.ref (G.1 1) :: rest)) := by subst hv; exact va_get (D := D) (ci := 6) (C := RX6) (T := TX6) (N := 4) E.1 E.2.1 E.2.2.2.1 kl_X6 E.2.2.1 E.2.2.2.2 hP 1 rfl rfl 3 (by decide) (E.2.2.2.1 _ hl) (fun _ h => h) rfl hd kk
theorem pC_103 (E : Ev D (tyC G) p s m c cc own args) (hP : va_P D vwCl (wC G u) H) (hD : va_D A (wC G u)) (hS : va_S A H0 H locs) {ix : Nat} (hl : Cond.fieldLink own ix "ConsHouse$Text" "faultPlace" "I" ∈ WS) {v : Int32} (hd : decode cc pc = .ok (.putfield ix, 3)) (kk : ∀ (H1 : Heap) (locs1 : List Loc), va_P D vwCl (wC G (sI u 103 v)) H1 → va_D A (wC G (sI u 103 v)) → va_S A H0 H1 locs1 → W p l e R s m args below meth c H1 locs1 cells slots Q (F0 m (pc + 3) ls rest)) : W p l e R s m args below meth c H locs cells slots Q (F0 m pc ls (.int v :: .ref (G.1 1) :: rest)) := va_put (D := D) (ci := 6) (C := RX6) (T := TX6) (N := 4) (v := .int v) (ty := .int) E.1 E.2.1 E.2.2.2.1 kl_X6 tyX6 tyX6_ok nmX6 E.2.2.1 E.2.2.2.2 hP hD hS 1 rfl rfl 3 (by decide) (E.2.2.2.1 _ hl) (fun _ h => h) rfl (by decide +kernel) rfl rfl (Nat.le_of_ble_eq_true rfl) hd (fun H1 l1 a b d => kk H1 l1 a (wC_D hD) d)
theorem gC_200 (E : Ev D (tyC G) p s m c cc own args) (hP : va_P D vwCl (wC G u) H) {ix : Nat} (hl : Cond.fieldLink own ix "ConsHouse$Names" "spelled" "[J" ∈ WS) (hd : decode cc pc = .ok (.getfield ix, 3)) (kk : W p l e R s m args below meth c H locs cells slots Q (F0 m (pc + 3) ls (.ref (G.1 10) :: rest))) : W p l e R s m args below meth c H locs cells slots Q (F0 m pc ls (.ref (G.1 2) :: rest)) := by exact va_get (D := D) (ci := 3) (C := RX3) (T := TX3) (N := 4) E.1 E.2.1 E.2.2.2.1 kl_X3 E.2.2.1 E.2.2.2.2 hP 2 rfl rfl 0 (by decide) (E.2.2.2.1 _ hl) (fun _ h => h) rfl hd kk
theorem gC_201 (E : Ev D (tyC G) p s m c cc own args) (hP : va_P D vwCl (wC G u) H) {ix : Nat} (hl : Cond.fieldLink own ix "ConsHouse$Names" "globals" "[J" ∈ WS) (hd : decode cc pc = .ok (.getfield ix, 3)) (kk : W p l e R s m args below meth c H locs cells slots Q (F0 m (pc + 3) ls (.ref (G.1 11) :: rest))) : W p l e R s m args below meth c H locs cells slots Q (F0 m pc ls (.ref (G.1 2) :: rest)) := by exact va_get (D := D) (ci := 3) (C := RX3) (T := TX3) (N := 4) E.1 E.2.1 E.2.2.2.1 kl_X3 E.2.2.1 E.2.2.2.2 hP 2 rfl rfl 1 (by decide) (E.2.2.2.1 _ hl) (fun _ h => h) rfl hd kk
theorem gC_202 (E : Ev D (tyC G) p s m c cc own args) (hP : va_P D vwCl (wC G u) H) {ix : Nat} (hl : Cond.fieldLink own ix "ConsHouse$Names" "total" "I" ∈ WS) {v : Int32} (hv : gI u 202 = v) (hd : decode cc pc = .ok (.getfield ix, 3)) (kk : W p l e R s m args below meth c H locs cells slots Q (F0 m (pc + 3) ls (.int v :: rest))) : W p l e R s m args below meth c H locs cells slots Q (F0 m pc ls (.ref (G.1 2) :: rest)) := by subst hv; exact va_get (D := D) (ci := 3) (C := RX3) (T := TX3) (N := 4) E.1 E.2.1 E.2.2.2.1 kl_X3 E.2.2.1 E.2.2.2.2 hP 2 rfl rfl 2 (by decide) (E.2.2.2.1 _ hl) (fun _ h => h) rfl hd kk
theorem pC_202 (E : Ev D (tyC G) p s m c cc own args) (hP : va_P D vwCl (wC G u) H) (hD : va_D A (wC G u)) (hS : va_S A H0 H locs) {ix : Nat} (hl : Cond.fieldLink own ix "ConsHouse$Names" "total" "I" ∈ WS) {v : Int32} (hd : decode cc pc = .ok (.putfield ix, 3)) (kk : ∀ (H1 : Heap) (locs1 : List Loc), va_P D vwCl (wC G (sI u 202 v)) H1 → va_D A (wC G (sI u 202 v)) → va_S A H0 H1 locs1 → W p l e R s m args below meth c H1 locs1 cells slots Q (F0 m (pc + 3) ls rest)) : W p l e R s m args below meth c H locs cells slots Q (F0 m pc ls (.int v :: .ref (G.1 2) :: rest)) := va_put (D := D) (ci := 3) (C := RX3) (T := TX3) (N := 4) (v := .int v) (ty := .int) E.1 E.2.1 E.2.2.2.1 kl_X3 tyX3 tyX3_ok nmX3 E.2.2.1 E.2.2.2.2 hP hD hS 2 rfl rfl 2 (by decide) (E.2.2.2.1 _ hl) (fun _ h => h) rfl (by decide +kernel) rfl rfl (Nat.le_of_ble_eq_true rfl) hd (fun H1 l1 a b d => kk H1 l1 a (wC_D hD) d)
theorem gC_203 (E : Ev D (tyC G) p s m c cc own args) (hP : va_P D vwCl (wC G u) H) {ix : Nat} (hl : Cond.fieldLink own ix "ConsHouse$Names" "crowded" "Z" ∈ WS) {v : Int32} (hv : gI u 203 = v) (hd : decode cc pc = .ok (.getfield ix, 3)) (kk : W p l e R s m args below meth c H locs cells slots Q (F0 m (pc + 3) ls (.int v :: rest))) : W p l e R s m args below meth c H locs cells slots Q (F0 m pc ls (.ref (G.1 2) :: rest)) := by subst hv; exact va_get (D := D) (ci := 3) (C := RX3) (T := TX3) (N := 4) E.1 E.2.1 E.2.2.2.1 kl_X3 E.2.2.1 E.2.2.2.2 hP 2 rfl rfl 3 (by decide) (E.2.2.2.1 _ hl) (fun _ h => h) rfl hd kk
theorem pC_203 (E : Ev D (tyC G) p s m c cc own args) (hP : va_P D vwCl (wC G u) H) (hD : va_D A (wC G u)) (hS : va_S A H0 H locs) {ix : Nat} (hl : Cond.fieldLink own ix "ConsHouse$Names" "crowded" "Z" ∈ WS) {v : Int32} (hz : vz v) (hd : decode cc pc = .ok (.putfield ix, 3)) (kk : ∀ (H1 : Heap) (locs1 : List Loc), va_P D vwCl (wC G (sI u 203 v)) H1 → va_D A (wC G (sI u 203 v)) → va_S A H0 H1 locs1 → W p l e R s m args below meth c H1 locs1 cells slots Q (F0 m (pc + 3) ls rest)) : W p l e R s m args below meth c H locs cells slots Q (F0 m pc ls (.int v :: .ref (G.1 2) :: rest)) := va_put (D := D) (ci := 3) (C := RX3) (T := TX3) (N := 4) (v := .int v) (ty := .boolean) E.1 E.2.1 E.2.2.2.1 kl_X3 tyX3 tyX3_ok nmX3 E.2.2.1 E.2.2.2.2 hP hD hS 2 rfl rfl 3 (by decide) (E.2.2.2.1 _ hl) (fun _ h => h) rfl (by decide +kernel) (vz_n hz) (vz_f hz) (Nat.le_of_ble_eq_true rfl) hd (fun H1 l1 a b d => kk H1 l1 a (wC_D hD) d)
theorem gC_300 (E : Ev D (tyC G) p s m c cc own args) (hP : va_P D vwCl (wC G u) H) {ix : Nat} (hl : Cond.fieldLink own ix "ConsHouse$Waiting" "kinds" "[I" ∈ WS) (hd : decode cc pc = .ok (.getfield ix, 3)) (kk : W p l e R s m args below meth c H locs cells slots Q (F0 m (pc + 3) ls (.ref (G.1 12) :: rest))) : W p l e R s m args below meth c H locs cells slots Q (F0 m pc ls (.ref (G.1 3) :: rest)) := by exact va_get (D := D) (ci := 7) (C := RX7) (T := TX7) (N := 5) E.1 E.2.1 E.2.2.2.1 kl_X7 E.2.2.1 E.2.2.2.2 hP 3 rfl rfl 0 (by decide) (E.2.2.2.1 _ hl) (fun _ h => h) rfl hd kk
theorem gC_301 (E : Ev D (tyC G) p s m c cc own args) (hP : va_P D vwCl (wC G u) H) {ix : Nat} (hl : Cond.fieldLink own ix "ConsHouse$Waiting" "valueCounts" "[I" ∈ WS) (hd : decode cc pc = .ok (.getfield ix, 3)) (kk : W p l e R s m args below meth c H locs cells slots Q (F0 m (pc + 3) ls (.ref (G.1 13) :: rest))) : W p l e R s m args below meth c H locs cells slots Q (F0 m pc ls (.ref (G.1 3) :: rest)) := by exact va_get (D := D) (ci := 7) (C := RX7) (T := TX7) (N := 5) E.1 E.2.1 E.2.2.2.1 kl_X7 E.2.2.1 E.2.2.2.2 hP 3 rfl rfl 1 (by decide) (E.2.2.2.1 _ hl) (fun _ h => h) rfl hd kk
theorem gC_302 (E : Ev D (tyC G) p s m c cc own args) (hP : va_P D vwCl (wC G u) H) {ix : Nat} (hl : Cond.fieldLink own ix "ConsHouse$Waiting" "words" "[J" ∈ WS) (hd : decode cc pc = .ok (.getfield ix, 3)) (kk : W p l e R s m args below meth c H locs cells slots Q (F0 m (pc + 3) ls (.ref (G.1 14) :: rest))) : W p l e R s m args below meth c H locs cells slots Q (F0 m pc ls (.ref (G.1 3) :: rest)) := by exact va_get (D := D) (ci := 7) (C := RX7) (T := TX7) (N := 5) E.1 E.2.1 E.2.2.2.1 kl_X7 E.2.2.1 E.2.2.2.2 hP 3 rfl rfl 2 (by decide) (E.2.2.2.1 _ hl) (fun _ h => h) rfl hd kk
theorem gC_303 (E : Ev D (tyC G) p s m c cc own args) (hP : va_P D vwCl (wC G u) H) {ix : Nat} (hl : Cond.fieldLink own ix "ConsHouse$Waiting" "depth" "I" ∈ WS) {v : Int32} (hv : gI u 303 = v) (hd : decode cc pc = .ok (.getfield ix, 3)) (kk : W p l e R s m args below meth c H locs cells slots Q (F0 m (pc + 3) ls (.int v :: rest))) : W p l e R s m args below meth c H locs cells slots Q (F0 m pc ls (.ref (G.1 3) :: rest)) := by subst hv; exact va_get (D := D) (ci := 7) (C := RX7) (T := TX7) (N := 5) E.1 E.2.1 E.2.2.2.1 kl_X7 E.2.2.1 E.2.2.2.2 hP 3 rfl rfl 3 (by decide) (E.2.2.2.1 _ hl) (fun _ h => h) rfl hd kk
theorem pC_303 (E : Ev D (tyC G) p s m c cc own args) (hP : va_P D vwCl (wC G u) H) (hD : va_D A (wC G u)) (hS : va_S A H0 H locs) {ix : Nat} (hl : Cond.fieldLink own ix "ConsHouse$Waiting" "depth" "I" ∈ WS) {v : Int32} (hd : decode cc pc = .ok (.putfield ix, 3)) (kk : ∀ (H1 : Heap) (locs1 : List Loc), va_P D vwCl (wC G (sI u 303 v)) H1 → va_D A (wC G (sI u 303 v)) → va_S A H0 H1 locs1 → W p l e R s m args below meth c H1 locs1 cells slots Q (F0 m (pc + 3) ls rest)) : W p l e R s m args below meth c H locs cells slots Q (F0 m pc ls (.int v :: .ref (G.1 3) :: rest)) := va_put (D := D) (ci := 7) (C := RX7) (T := TX7) (N := 5) (v := .int v) (ty := .int) E.1 E.2.1 E.2.2.2.1 kl_X7 tyX7 tyX7_ok nmX7 E.2.2.1 E.2.2.2.2 hP hD hS 3 rfl rfl 3 (by decide) (E.2.2.2.1 _ hl) (fun _ h => h) rfl (by decide +kernel) rfl rfl (Nat.le_of_ble_eq_true rfl) hd (fun H1 l1 a b d => kk H1 l1 a (wC_D hD) d)
theorem gC_304 (E : Ev D (tyC G) p s m c cc own args) (hP : va_P D vwCl (wC G u) H) {ix : Nat} (hl : Cond.fieldLink own ix "ConsHouse$Waiting" "greatest" "I" ∈ WS) {v : Int32} (hv : gI u 304 = v) (hd : decode cc pc = .ok (.getfield ix, 3)) (kk : W p l e R s m args below meth c H locs cells slots Q (F0 m (pc + 3) ls (.int v :: rest))) : W p l e R s m args below meth c H locs cells slots Q (F0 m pc ls (.ref (G.1 3) :: rest)) := by subst hv; exact va_get (D := D) (ci := 7) (C := RX7) (T := TX7) (N := 5) E.1 E.2.1 E.2.2.2.1 kl_X7 E.2.2.1 E.2.2.2.2 hP 3 rfl rfl 4 (by decide) (E.2.2.2.1 _ hl) (fun _ h => h) rfl hd kk
theorem pC_304 (E : Ev D (tyC G) p s m c cc own args) (hP : va_P D vwCl (wC G u) H) (hD : va_D A (wC G u)) (hS : va_S A H0 H locs) {ix : Nat} (hl : Cond.fieldLink own ix "ConsHouse$Waiting" "greatest" "I" ∈ WS) {v : Int32} (hd : decode cc pc = .ok (.putfield ix, 3)) (kk : ∀ (H1 : Heap) (locs1 : List Loc), va_P D vwCl (wC G (sI u 304 v)) H1 → va_D A (wC G (sI u 304 v)) → va_S A H0 H1 locs1 → W p l e R s m args below meth c H1 locs1 cells slots Q (F0 m (pc + 3) ls rest)) : W p l e R s m args below meth c H locs cells slots Q (F0 m pc ls (.int v :: .ref (G.1 3) :: rest)) := va_put (D := D) (ci := 7) (C := RX7) (T := TX7) (N := 5) (v := .int v) (ty := .int) E.1 E.2.1 E.2.2.2.1 kl_X7 tyX7 tyX7_ok nmX7 E.2.2.1 E.2.2.2.2 hP hD hS 3 rfl rfl 4 (by decide) (E.2.2.2.1 _ hl) (fun _ h => h) rfl (by decide +kernel) rfl rfl (Nat.le_of_ble_eq_true rfl) hd (fun H1 l1 a b d => kk H1 l1 a (wC_D hD) d)
theorem gC_400 (E : Ev D (tyC G) p s m c cc own args) (hP : va_P D vwCl (wC G u) H) {ix : Nat} (hl : Cond.fieldLink own ix "ConsHouse$Keeper" "heap" "LConsHouse$Heap;" ∈ WS) (hd : decode cc pc = .ok (.getfield ix, 3)) (kk : W p l e R s m args below meth c H locs cells slots Q (F0 m (pc + 3) ls (.ref (G.1 8) :: rest))) : W p l e R s m args below meth c H locs cells slots Q (F0 m pc ls (.ref (G.1 4) :: rest)) := by exact va_get (D := D) (ci := 1) (C := RX1) (T := TX1) (N := 4) E.1 E.2.1 E.2.2.2.1 kl_X1 E.2.2.1 E.2.2.2.2 hP 4 rfl rfl 0 (by decide) (E.2.2.2.1 _ hl) (fun _ h => h) rfl hd kk
theorem gC_401 (E : Ev D (tyC G) p s m c cc own args) (hP : va_P D vwCl (wC G u) H) {ix : Nat} (hl : Cond.fieldLink own ix "ConsHouse$Keeper" "names" "LConsHouse$Names;" ∈ WS) (hd : decode cc pc = .ok (.getfield ix, 3)) (kk : W p l e R s m args below meth c H locs cells slots Q (F0 m (pc + 3) ls (.ref (G.1 2) :: rest))) : W p l e R s m args below meth c H locs cells slots Q (F0 m pc ls (.ref (G.1 4) :: rest)) := by exact va_get (D := D) (ci := 1) (C := RX1) (T := TX1) (N := 4) E.1 E.2.1 E.2.2.2.1 kl_X1 E.2.2.1 E.2.2.2.2 hP 4 rfl rfl 1 (by decide) (E.2.2.2.1 _ hl) (fun _ h => h) rfl hd kk
theorem gC_402 (E : Ev D (tyC G) p s m c cc own args) (hP : va_P D vwCl (wC G u) H) {ix : Nat} (hl : Cond.fieldLink own ix "ConsHouse$Keeper" "waiting" "LConsHouse$Waiting;" ∈ WS) (hd : decode cc pc = .ok (.getfield ix, 3)) (kk : W p l e R s m args below meth c H locs cells slots Q (F0 m (pc + 3) ls (.ref (G.1 3) :: rest))) : W p l e R s m args below meth c H locs cells slots Q (F0 m pc ls (.ref (G.1 4) :: rest)) := by exact va_get (D := D) (ci := 1) (C := RX1) (T := TX1) (N := 4) E.1 E.2.1 E.2.2.2.1 kl_X1 E.2.2.1 E.2.2.2.2 hP 4 rfl rfl 2 (by decide) (E.2.2.2.1 _ hl) (fun _ h => h) rfl hd kk
theorem gC_403 (E : Ev D (tyC G) p s m c cc own args) (hP : va_P D vwCl (wC G u) H) {ix : Nat} (hl : Cond.fieldLink own ix "ConsHouse$Keeper" "others" "[J" ∈ WS) (hd : decode cc pc = .ok (.getfield ix, 3)) (kk : W p l e R s m args below meth c H locs cells slots Q (F0 m (pc + 3) ls (.ref (G.1 15) :: rest))) : W p l e R s m args below meth c H locs cells slots Q (F0 m pc ls (.ref (G.1 4) :: rest)) := by exact va_get (D := D) (ci := 1) (C := RX1) (T := TX1) (N := 4) E.1 E.2.1 E.2.2.2.1 kl_X1 E.2.2.1 E.2.2.2.2 hP 4 rfl rfl 3 (by decide) (E.2.2.2.1 _ hl) (fun _ h => h) rfl hd kk
theorem gC_500 (E : Ev D (tyC G) p s m c cc own args) (hP : va_P D vwCl (wC G u) H) {ix : Nat} (hl : Cond.fieldLink own ix "ConsHouse$Reader" "text" "LConsHouse$Text;" ∈ WS) (hd : decode cc pc = .ok (.getfield ix, 3)) (kk : W p l e R s m args below meth c H locs cells slots Q (F0 m (pc + 3) ls (.ref (G.1 1) :: rest))) : W p l e R s m args below meth c H locs cells slots Q (F0 m pc ls (.ref (G.1 5) :: rest)) := by exact va_get (D := D) (ci := 5) (C := RX5) (T := TX5) (N := 14) E.1 E.2.1 E.2.2.2.1 kl_X5 E.2.2.1 E.2.2.2.2 hP 5 rfl rfl 0 (by decide) (E.2.2.2.1 _ hl) (fun _ h => h) rfl hd kk
theorem gC_501 (E : Ev D (tyC G) p s m c cc own args) (hP : va_P D vwCl (wC G u) H) {ix : Nat} (hl : Cond.fieldLink own ix "ConsHouse$Reader" "names" "LConsHouse$Names;" ∈ WS) (hd : decode cc pc = .ok (.getfield ix, 3)) (kk : W p l e R s m args below meth c H locs cells slots Q (F0 m (pc + 3) ls (.ref (G.1 2) :: rest))) : W p l e R s m args below meth c H locs cells slots Q (F0 m pc ls (.ref (G.1 5) :: rest)) := by exact va_get (D := D) (ci := 5) (C := RX5) (T := TX5) (N := 14) E.1 E.2.1 E.2.2.2.1 kl_X5 E.2.2.1 E.2.2.2.2 hP 5 rfl rfl 1 (by decide) (E.2.2.2.1 _ hl) (fun _ h => h) rfl hd kk
theorem gC_502 (E : Ev D (tyC G) p s m c cc own args) (hP : va_P D vwCl (wC G u) H) {ix : Nat} (hl : Cond.fieldLink own ix "ConsHouse$Reader" "heap" "LConsHouse$Heap;" ∈ WS) (hd : decode cc pc = .ok (.getfield ix, 3)) (kk : W p l e R s m args below meth c H locs cells slots Q (F0 m (pc + 3) ls (.ref (G.1 8) :: rest))) : W p l e R s m args below meth c H locs cells slots Q (F0 m pc ls (.ref (G.1 5) :: rest)) := by exact va_get (D := D) (ci := 5) (C := RX5) (T := TX5) (N := 14) E.1 E.2.1 E.2.2.2.1 kl_X5 E.2.2.1 E.2.2.2.2 hP 5 rfl rfl 2 (by decide) (E.2.2.2.1 _ hl) (fun _ h => h) rfl hd kk
theorem gC_503 (E : Ev D (tyC G) p s m c cc own args) (hP : va_P D vwCl (wC G u) H) {ix : Nat} (hl : Cond.fieldLink own ix "ConsHouse$Reader" "keeper" "LConsHouse$Keeper;" ∈ WS) (hd : decode cc pc = .ok (.getfield ix, 3)) (kk : W p l e R s m args below meth c H locs cells slots Q (F0 m (pc + 3) ls (.ref (G.1 4) :: rest))) : W p l e R s m args below meth c H locs cells slots Q (F0 m pc ls (.ref (G.1 5) :: rest)) := by exact va_get (D := D) (ci := 5) (C := RX5) (T := TX5) (N := 14) E.1 E.2.1 E.2.2.2.1 kl_X5 E.2.2.1 E.2.2.2.2 hP 5 rfl rfl 3 (by decide) (E.2.2.2.1 _ hl) (fun _ h => h) rfl hd kk
theorem gC_504 (E : Ev D (tyC G) p s m c cc own args) (hP : va_P D vwCl (wC G u) H) {ix : Nat} (hl : Cond.fieldLink own ix "ConsHouse$Reader" "tokens" "[J" ∈ WS) (hd : decode cc pc = .ok (.getfield ix, 3)) (kk : W p l e R s m args below meth c H locs cells slots Q (F0 m (pc + 3) ls (.ref (G.1 16) :: rest))) : W p l e R s m args below meth c H locs cells slots Q (F0 m pc ls (.ref (G.1 5) :: rest)) := by exact va_get (D := D) (ci := 5) (C := RX5) (T := TX5) (N := 14) E.1 E.2.1 E.2.2.2.1 kl_X5 E.2.2.1 E.2.2.2.2 hP 5 rfl rfl 4 (by decide) (E.2.2.2.1 _ hl) (fun _ h => h) rfl hd kk
theorem gC_505 (E : Ev D (tyC G) p s m c cc own args) (hP : va_P D vwCl (wC G u) H) {ix : Nat} (hl : Cond.fieldLink own ix "ConsHouse$Reader" "states" "[I" ∈ WS) (hd : decode cc pc = .ok (.getfield ix, 3)) (kk : W p l e R s m args below meth c H locs cells slots Q (F0 m (pc + 3) ls (.ref (G.1 17) :: rest))) : W p l e R s m args below meth c H locs cells slots Q (F0 m pc ls (.ref (G.1 5) :: rest)) := by exact va_get (D := D) (ci := 5) (C := RX5) (T := TX5) (N := 14) E.1 E.2.1 E.2.2.2.1 kl_X5 E.2.2.1 E.2.2.2.2 hP 5 rfl rfl 5 (by decide) (E.2.2.2.1 _ hl) (fun _ h => h) rfl hd kk
theorem gC_506 (E : Ev D (tyC G) p s m c cc own args) (hP : va_P D vwCl (wC G u) H) {ix : Nat} (hl : Cond.fieldLink own ix "ConsHouse$Reader" "firsts" "[J" ∈ WS) (hd : decode cc pc = .ok (.getfield ix, 3)) (kk : W p l e R s m args below meth c H locs cells slots Q (F0 m (pc + 3) ls (.ref (G.1 18) :: rest))) : W p l e R s m args below meth c H locs cells slots Q (F0 m pc ls (.ref (G.1 5) :: rest)) := by exact va_get (D := D) (ci := 5) (C := RX5) (T := TX5) (N := 14) E.1 E.2.1 E.2.2.2.1 kl_X5 E.2.2.1 E.2.2.2.2 hP 5 rfl rfl 6 (by decide) (E.2.2.2.1 _ hl) (fun _ h => h) rfl hd kk
theorem gC_507 (E : Ev D (tyC G) p s m c cc own args) (hP : va_P D vwCl (wC G u) H) {ix : Nat} (hl : Cond.fieldLink own ix "ConsHouse$Reader" "lasts" "[J" ∈ WS) (hd : decode cc pc = .ok (.getfield ix, 3)) (kk : W p l e R s m args below meth c H locs cells slots Q (F0 m (pc + 3) ls (.ref (G.1 19) :: rest))) : W p l e R s m args below meth c H locs cells slots Q (F0 m pc ls (.ref (G.1 5) :: rest)) := by exact va_get (D := D) (ci := 5) (C := RX5) (T := TX5) (N := 14) E.1 E.2.1 E.2.2.2.1 kl_X5 E.2.2.1 E.2.2.2.2 hP 5 rfl rfl 7 (by decide) (E.2.2.2.1 _ hl) (fun _ h => h) rfl hd kk
theorem gC_508 (E : Ev D (tyC G) p s m c cc own args) (hP : va_P D vwCl (wC G u) H) {ix : Nat} (hl : Cond.fieldLink own ix "ConsHouse$Reader" "noValues" "[J" ∈ WS) (hd : decode cc pc = .ok (.getfield ix, 3)) (kk : W p l e R s m args below meth c H locs cells slots Q (F0 m (pc + 3) ls (.ref (G.1 20) :: rest))) : W p l e R s m args below meth c H locs cells slots Q (F0 m pc ls (.ref (G.1 5) :: rest)) := by exact va_get (D := D) (ci := 5) (C := RX5) (T := TX5) (N := 14) E.1 E.2.1 E.2.2.2.1 kl_X5 E.2.2.1 E.2.2.2.2 hP 5 rfl rfl 8 (by decide) (E.2.2.2.1 _ hl) (fun _ h => h) rfl hd kk
theorem gC_509 (E : Ev D (tyC G) p s m c cc own args) (hP : va_P D vwCl (wC G u) H) {ix : Nat} (hl : Cond.fieldLink own ix "ConsHouse$Reader" "tokenCount" "I" ∈ WS) {v : Int32} (hv : gI u 509 = v) (hd : decode cc pc = .ok (.getfield ix, 3)) (kk : W p l e R s m args below meth c H locs cells slots Q (F0 m (pc + 3) ls (.int v :: rest))) : W p l e R s m args below meth c H locs cells slots Q (F0 m pc ls (.ref (G.1 5) :: rest)) := by subst hv; exact va_get (D := D) (ci := 5) (C := RX5) (T := TX5) (N := 14) E.1 E.2.1 E.2.2.2.1 kl_X5 E.2.2.1 E.2.2.2.2 hP 5 rfl rfl 9 (by decide) (E.2.2.2.1 _ hl) (fun _ h => h) rfl hd kk
theorem pC_509 (E : Ev D (tyC G) p s m c cc own args) (hP : va_P D vwCl (wC G u) H) (hD : va_D A (wC G u)) (hS : va_S A H0 H locs) {ix : Nat} (hl : Cond.fieldLink own ix "ConsHouse$Reader" "tokenCount" "I" ∈ WS) {v : Int32} (hd : decode cc pc = .ok (.putfield ix, 3)) (kk : ∀ (H1 : Heap) (locs1 : List Loc), va_P D vwCl (wC G (sI u 509 v)) H1 → va_D A (wC G (sI u 509 v)) → va_S A H0 H1 locs1 → W p l e R s m args below meth c H1 locs1 cells slots Q (F0 m (pc + 3) ls rest)) : W p l e R s m args below meth c H locs cells slots Q (F0 m pc ls (.int v :: .ref (G.1 5) :: rest)) := va_put (D := D) (ci := 5) (C := RX5) (T := TX5) (N := 14) (v := .int v) (ty := .int) E.1 E.2.1 E.2.2.2.1 kl_X5 tyX5 tyX5_ok nmX5 E.2.2.1 E.2.2.2.2 hP hD hS 5 rfl rfl 9 (by decide) (E.2.2.2.1 _ hl) (fun _ h => h) rfl (by decide +kernel) rfl rfl (Nat.le_of_ble_eq_true rfl) hd (fun H1 l1 a b d => kk H1 l1 a (wC_D hD) d)
theorem gC_510 (E : Ev D (tyC G) p s m c cc own args) (hP : va_P D vwCl (wC G u) H) {ix : Nat} (hl : Cond.fieldLink own ix "ConsHouse$Reader" "depth" "I" ∈ WS) {v : Int32} (hv : gI u 510 = v) (hd : decode cc pc = .ok (.getfield ix, 3)) (kk : W p l e R s m args below meth c H locs cells slots Q (F0 m (pc + 3) ls (.int v :: rest))) : W p l e R s m args below meth c H locs cells slots Q (F0 m pc ls (.ref (G.1 5) :: rest)) := by subst hv; exact va_get (D := D) (ci := 5) (C := RX5) (T := TX5) (N := 14) E.1 E.2.1 E.2.2.2.1 kl_X5 E.2.2.1 E.2.2.2.2 hP 5 rfl rfl 10 (by decide) (E.2.2.2.1 _ hl) (fun _ h => h) rfl hd kk
theorem pC_510 (E : Ev D (tyC G) p s m c cc own args) (hP : va_P D vwCl (wC G u) H) (hD : va_D A (wC G u)) (hS : va_S A H0 H locs) {ix : Nat} (hl : Cond.fieldLink own ix "ConsHouse$Reader" "depth" "I" ∈ WS) {v : Int32} (hd : decode cc pc = .ok (.putfield ix, 3)) (kk : ∀ (H1 : Heap) (locs1 : List Loc), va_P D vwCl (wC G (sI u 510 v)) H1 → va_D A (wC G (sI u 510 v)) → va_S A H0 H1 locs1 → W p l e R s m args below meth c H1 locs1 cells slots Q (F0 m (pc + 3) ls rest)) : W p l e R s m args below meth c H locs cells slots Q (F0 m pc ls (.int v :: .ref (G.1 5) :: rest)) := va_put (D := D) (ci := 5) (C := RX5) (T := TX5) (N := 14) (v := .int v) (ty := .int) E.1 E.2.1 E.2.2.2.1 kl_X5 tyX5 tyX5_ok nmX5 E.2.2.1 E.2.2.2.2 hP hD hS 5 rfl rfl 10 (by decide) (E.2.2.2.1 _ hl) (fun _ h => h) rfl (by decide +kernel) rfl rfl (Nat.le_of_ble_eq_true rfl) hd (fun H1 l1 a b d => kk H1 l1 a (wC_D hD) d)
theorem gC_511 (E : Ev D (tyC G) p s m c cc own args) (hP : va_P D vwCl (wC G u) H) {ix : Nat} (hl : Cond.fieldLink own ix "ConsHouse$Reader" "pairs" "I" ∈ WS) {v : Int32} (hv : gI u 511 = v) (hd : decode cc pc = .ok (.getfield ix, 3)) (kk : W p l e R s m args below meth c H locs cells slots Q (F0 m (pc + 3) ls (.int v :: rest))) : W p l e R s m args below meth c H locs cells slots Q (F0 m pc ls (.ref (G.1 5) :: rest)) := by subst hv; exact va_get (D := D) (ci := 5) (C := RX5) (T := TX5) (N := 14) E.1 E.2.1 E.2.2.2.1 kl_X5 E.2.2.1 E.2.2.2.2 hP 5 rfl rfl 11 (by decide) (E.2.2.2.1 _ hl) (fun _ h => h) rfl hd kk
theorem pC_511 (E : Ev D (tyC G) p s m c cc own args) (hP : va_P D vwCl (wC G u) H) (hD : va_D A (wC G u)) (hS : va_S A H0 H locs) {ix : Nat} (hl : Cond.fieldLink own ix "ConsHouse$Reader" "pairs" "I" ∈ WS) {v : Int32} (hd : decode cc pc = .ok (.putfield ix, 3)) (kk : ∀ (H1 : Heap) (locs1 : List Loc), va_P D vwCl (wC G (sI u 511 v)) H1 → va_D A (wC G (sI u 511 v)) → va_S A H0 H1 locs1 → W p l e R s m args below meth c H1 locs1 cells slots Q (F0 m (pc + 3) ls rest)) : W p l e R s m args below meth c H locs cells slots Q (F0 m pc ls (.int v :: .ref (G.1 5) :: rest)) := va_put (D := D) (ci := 5) (C := RX5) (T := TX5) (N := 14) (v := .int v) (ty := .int) E.1 E.2.1 E.2.2.2.1 kl_X5 tyX5 tyX5_ok nmX5 E.2.2.1 E.2.2.2.2 hP hD hS 5 rfl rfl 11 (by decide) (E.2.2.2.1 _ hl) (fun _ h => h) rfl (by decide +kernel) rfl rfl (Nat.le_of_ble_eq_true rfl) hd (fun H1 l1 a b d => kk H1 l1 a (wC_D hD) d)
theorem gC_512 (E : Ev D (tyC G) p s m c cc own args) (hP : va_P D vwCl (wC G u) H) {ix : Nat} (hl : Cond.fieldLink own ix "ConsHouse$Reader" "at" "I" ∈ WS) {v : Int32} (hv : gI u 512 = v) (hd : decode cc pc = .ok (.getfield ix, 3)) (kk : W p l e R s m args below meth c H locs cells slots Q (F0 m (pc + 3) ls (.int v :: rest))) : W p l e R s m args below meth c H locs cells slots Q (F0 m pc ls (.ref (G.1 5) :: rest)) := by subst hv; exact va_get (D := D) (ci := 5) (C := RX5) (T := TX5) (N := 14) E.1 E.2.1 E.2.2.2.1 kl_X5 E.2.2.1 E.2.2.2.2 hP 5 rfl rfl 12 (by decide) (E.2.2.2.1 _ hl) (fun _ h => h) rfl hd kk
theorem pC_512 (E : Ev D (tyC G) p s m c cc own args) (hP : va_P D vwCl (wC G u) H) (hD : va_D A (wC G u)) (hS : va_S A H0 H locs) {ix : Nat} (hl : Cond.fieldLink own ix "ConsHouse$Reader" "at" "I" ∈ WS) {v : Int32} (hd : decode cc pc = .ok (.putfield ix, 3)) (kk : ∀ (H1 : Heap) (locs1 : List Loc), va_P D vwCl (wC G (sI u 512 v)) H1 → va_D A (wC G (sI u 512 v)) → va_S A H0 H1 locs1 → W p l e R s m args below meth c H1 locs1 cells slots Q (F0 m (pc + 3) ls rest)) : W p l e R s m args below meth c H locs cells slots Q (F0 m pc ls (.int v :: .ref (G.1 5) :: rest)) := va_put (D := D) (ci := 5) (C := RX5) (T := TX5) (N := 14) (v := .int v) (ty := .int) E.1 E.2.1 E.2.2.2.1 kl_X5 tyX5 tyX5_ok nmX5 E.2.2.1 E.2.2.2.2 hP hD hS 5 rfl rfl 12 (by decide) (E.2.2.2.1 _ hl) (fun _ h => h) rfl (by decide +kernel) rfl rfl (Nat.le_of_ble_eq_true rfl) hd (fun H1 l1 a b d => kk H1 l1 a (wC_D hD) d)
theorem gC_513 (E : Ev D (tyC G) p s m c cc own args) (hP : va_P D vwCl (wC G u) H) {ix : Nat} (hl : Cond.fieldLink own ix "ConsHouse$Reader" "expression" "J" ∈ WS) {v : Int64} (hv : gJ u 513 = v) (hd : decode cc pc = .ok (.getfield ix, 3)) (kk : W p l e R s m args below meth c H locs cells slots Q (F0 m (pc + 3) ls (.long v :: rest))) : W p l e R s m args below meth c H locs cells slots Q (F0 m pc ls (.ref (G.1 5) :: rest)) := by subst hv; exact va_get (D := D) (ci := 5) (C := RX5) (T := TX5) (N := 14) E.1 E.2.1 E.2.2.2.1 kl_X5 E.2.2.1 E.2.2.2.2 hP 5 rfl rfl 13 (by decide) (E.2.2.2.1 _ hl) (fun _ h => h) rfl hd kk
theorem pC_513 (E : Ev D (tyC G) p s m c cc own args) (hP : va_P D vwCl (wC G u) H) (hD : va_D A (wC G u)) (hS : va_S A H0 H locs) {ix : Nat} (hl : Cond.fieldLink own ix "ConsHouse$Reader" "expression" "J" ∈ WS) {v : Int64} (hd : decode cc pc = .ok (.putfield ix, 3)) (kk : ∀ (H1 : Heap) (locs1 : List Loc), va_P D vwCl (wC G (sJ u 513 v)) H1 → va_D A (wC G (sJ u 513 v)) → va_S A H0 H1 locs1 → W p l e R s m args below meth c H1 locs1 cells slots Q (F0 m (pc + 3) ls rest)) : W p l e R s m args below meth c H locs cells slots Q (F0 m pc ls (.long v :: .ref (G.1 5) :: rest)) := va_put (D := D) (ci := 5) (C := RX5) (T := TX5) (N := 14) (v := .long v) (ty := .long) E.1 E.2.1 E.2.2.2.1 kl_X5 tyX5 tyX5_ok nmX5 E.2.2.1 E.2.2.2.2 hP hD hS 5 rfl rfl 13 (by decide) (E.2.2.2.1 _ hl) (fun _ h => h) rfl (by decide +kernel) rfl rfl (Nat.le_of_ble_eq_true rfl) hd (fun H1 l1 a b d => kk H1 l1 a (wC_D hD) d)
theorem gC_600 (E : Ev D (tyC G) p s m c cc own args) (hP : va_P D vwCl (wC G u) H) {ix : Nat} (hl : Cond.fieldLink own ix "ConsHouse$Machine" "heap" "LConsHouse$Heap;" ∈ WS) (hd : decode cc pc = .ok (.getfield ix, 3)) (kk : W p l e R s m args below meth c H locs cells slots Q (F0 m (pc + 3) ls (.ref (G.1 8) :: rest))) : W p l e R s m args below meth c H locs cells slots Q (F0 m pc ls (.ref (G.1 6) :: rest)) := by exact va_get (D := D) (ci := 2) (C := RX2) (T := TX2) (N := 15) E.1 E.2.1 E.2.2.2.1 kl_X2 E.2.2.1 E.2.2.2.2 hP 6 rfl rfl 0 (by decide) (E.2.2.2.1 _ hl) (fun _ h => h) rfl hd kk
theorem gC_601 (E : Ev D (tyC G) p s m c cc own args) (hP : va_P D vwCl (wC G u) H) {ix : Nat} (hl : Cond.fieldLink own ix "ConsHouse$Machine" "names" "LConsHouse$Names;" ∈ WS) (hd : decode cc pc = .ok (.getfield ix, 3)) (kk : W p l e R s m args below meth c H locs cells slots Q (F0 m (pc + 3) ls (.ref (G.1 2) :: rest))) : W p l e R s m args below meth c H locs cells slots Q (F0 m pc ls (.ref (G.1 6) :: rest)) := by exact va_get (D := D) (ci := 2) (C := RX2) (T := TX2) (N := 15) E.1 E.2.1 E.2.2.2.1 kl_X2 E.2.2.1 E.2.2.2.2 hP 6 rfl rfl 1 (by decide) (E.2.2.2.1 _ hl) (fun _ h => h) rfl hd kk
theorem gC_602 (E : Ev D (tyC G) p s m c cc own args) (hP : va_P D vwCl (wC G u) H) {ix : Nat} (hl : Cond.fieldLink own ix "ConsHouse$Machine" "waiting" "LConsHouse$Waiting;" ∈ WS) (hd : decode cc pc = .ok (.getfield ix, 3)) (kk : W p l e R s m args below meth c H locs cells slots Q (F0 m (pc + 3) ls (.ref (G.1 3) :: rest))) : W p l e R s m args below meth c H locs cells slots Q (F0 m pc ls (.ref (G.1 6) :: rest)) := by exact va_get (D := D) (ci := 2) (C := RX2) (T := TX2) (N := 15) E.1 E.2.1 E.2.2.2.1 kl_X2 E.2.2.1 E.2.2.2.2 hP 6 rfl rfl 2 (by decide) (E.2.2.2.1 _ hl) (fun _ h => h) rfl hd kk
theorem gC_603 (E : Ev D (tyC G) p s m c cc own args) (hP : va_P D vwCl (wC G u) H) {ix : Nat} (hl : Cond.fieldLink own ix "ConsHouse$Machine" "keeper" "LConsHouse$Keeper;" ∈ WS) (hd : decode cc pc = .ok (.getfield ix, 3)) (kk : W p l e R s m args below meth c H locs cells slots Q (F0 m (pc + 3) ls (.ref (G.1 4) :: rest))) : W p l e R s m args below meth c H locs cells slots Q (F0 m pc ls (.ref (G.1 6) :: rest)) := by exact va_get (D := D) (ci := 2) (C := RX2) (T := TX2) (N := 15) E.1 E.2.1 E.2.2.2.1 kl_X2 E.2.2.1 E.2.2.2.2 hP 6 rfl rfl 3 (by decide) (E.2.2.2.1 _ hl) (fun _ h => h) rfl hd kk
theorem gC_604 (E : Ev D (tyC G) p s m c cc own args) (hP : va_P D vwCl (wC G u) H) {ix : Nat} (hl : Cond.fieldLink own ix "ConsHouse$Machine" "stepLimit" "I" ∈ WS) {v : Int32} (hv : gI u 604 = v) (hd : decode cc pc = .ok (.getfield ix, 3)) (kk : W p l e R s m args below meth c H locs cells slots Q (F0 m (pc + 3) ls (.int v :: rest))) : W p l e R s m args below meth c H locs cells slots Q (F0 m pc ls (.ref (G.1 6) :: rest)) := by subst hv; exact va_get (D := D) (ci := 2) (C := RX2) (T := TX2) (N := 15) E.1 E.2.1 E.2.2.2.1 kl_X2 E.2.2.1 E.2.2.2.2 hP 6 rfl rfl 4 (by decide) (E.2.2.2.1 _ hl) (fun _ h => h) rfl hd kk
theorem gC_605 (E : Ev D (tyC G) p s m c cc own args) (hP : va_P D vwCl (wC G u) H) {ix : Nat} (hl : Cond.fieldLink own ix "ConsHouse$Machine" "values" "[J" ∈ WS) (hd : decode cc pc = .ok (.getfield ix, 3)) (kk : W p l e R s m args below meth c H locs cells slots Q (F0 m (pc + 3) ls (.ref (G.1 21) :: rest))) : W p l e R s m args below meth c H locs cells slots Q (F0 m pc ls (.ref (G.1 6) :: rest)) := by exact va_get (D := D) (ci := 2) (C := RX2) (T := TX2) (N := 15) E.1 E.2.1 E.2.2.2.1 kl_X2 E.2.2.1 E.2.2.2.2 hP 6 rfl rfl 5 (by decide) (E.2.2.2.1 _ hl) (fun _ h => h) rfl hd kk
theorem gC_606 (E : Ev D (tyC G) p s m c cc own args) (hP : va_P D vwCl (wC G u) H) {ix : Nat} (hl : Cond.fieldLink own ix "ConsHouse$Machine" "valueCount" "I" ∈ WS) {v : Int32} (hv : gI u 606 = v) (hd : decode cc pc = .ok (.getfield ix, 3)) (kk : W p l e R s m args below meth c H locs cells slots Q (F0 m (pc + 3) ls (.int v :: rest))) : W p l e R s m args below meth c H locs cells slots Q (F0 m pc ls (.ref (G.1 6) :: rest)) := by subst hv; exact va_get (D := D) (ci := 2) (C := RX2) (T := TX2) (N := 15) E.1 E.2.1 E.2.2.2.1 kl_X2 E.2.2.1 E.2.2.2.2 hP 6 rfl rfl 6 (by decide) (E.2.2.2.1 _ hl) (fun _ h => h) rfl hd kk
theorem pC_606 (E : Ev D (tyC G) p s m c cc own args) (hP : va_P D vwCl (wC G u) H) (hD : va_D A (wC G u)) (hS : va_S A H0 H locs) {ix : Nat} (hl : Cond.fieldLink own ix "ConsHouse$Machine" "valueCount" "I" ∈ WS) {v : Int32} (hd : decode cc pc = .ok (.putfield ix, 3)) (kk : ∀ (H1 : Heap) (locs1 : List Loc), va_P D vwCl (wC G (sI u 606 v)) H1 → va_D A (wC G (sI u 606 v)) → va_S A H0 H1 locs1 → W p l e R s m args below meth c H1 locs1 cells slots Q (F0 m (pc + 3) ls rest)) : W p l e R s m args below meth c H locs cells slots Q (F0 m pc ls (.int v :: .ref (G.1 6) :: rest)) := va_put (D := D) (ci := 2) (C := RX2) (T := TX2) (N := 15) (v := .int v) (ty := .int) E.1 E.2.1 E.2.2.2.1 kl_X2 tyX2 tyX2_ok nmX2 E.2.2.1 E.2.2.2.2 hP hD hS 6 rfl rfl 6 (by decide) (E.2.2.2.1 _ hl) (fun _ h => h) rfl (by decide +kernel) rfl rfl (Nat.le_of_ble_eq_true rfl) hd (fun H1 l1 a b d => kk H1 l1 a (wC_D hD) d)
theorem gC_607 (E : Ev D (tyC G) p s m c cc own args) (hP : va_P D vwCl (wC G u) H) {ix : Nat} (hl : Cond.fieldLink own ix "ConsHouse$Machine" "steps" "I" ∈ WS) {v : Int32} (hv : gI u 607 = v) (hd : decode cc pc = .ok (.getfield ix, 3)) (kk : W p l e R s m args below meth c H locs cells slots Q (F0 m (pc + 3) ls (.int v :: rest))) : W p l e R s m args below meth c H locs cells slots Q (F0 m pc ls (.ref (G.1 6) :: rest)) := by subst hv; exact va_get (D := D) (ci := 2) (C := RX2) (T := TX2) (N := 15) E.1 E.2.1 E.2.2.2.1 kl_X2 E.2.2.1 E.2.2.2.2 hP 6 rfl rfl 7 (by decide) (E.2.2.2.1 _ hl) (fun _ h => h) rfl hd kk
theorem pC_607 (E : Ev D (tyC G) p s m c cc own args) (hP : va_P D vwCl (wC G u) H) (hD : va_D A (wC G u)) (hS : va_S A H0 H locs) {ix : Nat} (hl : Cond.fieldLink own ix "ConsHouse$Machine" "steps" "I" ∈ WS) {v : Int32} (hd : decode cc pc = .ok (.putfield ix, 3)) (kk : ∀ (H1 : Heap) (locs1 : List Loc), va_P D vwCl (wC G (sI u 607 v)) H1 → va_D A (wC G (sI u 607 v)) → va_S A H0 H1 locs1 → W p l e R s m args below meth c H1 locs1 cells slots Q (F0 m (pc + 3) ls rest)) : W p l e R s m args below meth c H locs cells slots Q (F0 m pc ls (.int v :: .ref (G.1 6) :: rest)) := va_put (D := D) (ci := 2) (C := RX2) (T := TX2) (N := 15) (v := .int v) (ty := .int) E.1 E.2.1 E.2.2.2.1 kl_X2 tyX2 tyX2_ok nmX2 E.2.2.1 E.2.2.2.2 hP hD hS 6 rfl rfl 7 (by decide) (E.2.2.2.1 _ hl) (fun _ h => h) rfl (by decide +kernel) rfl rfl (Nat.le_of_ble_eq_true rfl) hd (fun H1 l1 a b d => kk H1 l1 a (wC_D hD) d)
theorem gC_608 (E : Ev D (tyC G) p s m c cc own args) (hP : va_P D vwCl (wC G u) H) {ix : Nat} (hl : Cond.fieldLink own ix "ConsHouse$Machine" "mode" "I" ∈ WS) {v : Int32} (hv : gI u 608 = v) (hd : decode cc pc = .ok (.getfield ix, 3)) (kk : W p l e R s m args below meth c H locs cells slots Q (F0 m (pc + 3) ls (.int v :: rest))) : W p l e R s m args below meth c H locs cells slots Q (F0 m pc ls (.ref (G.1 6) :: rest)) := by subst hv; exact va_get (D := D) (ci := 2) (C := RX2) (T := TX2) (N := 15) E.1 E.2.1 E.2.2.2.1 kl_X2 E.2.2.1 E.2.2.2.2 hP 6 rfl rfl 8 (by decide) (E.2.2.2.1 _ hl) (fun _ h => h) rfl hd kk
theorem pC_608 (E : Ev D (tyC G) p s m c cc own args) (hP : va_P D vwCl (wC G u) H) (hD : va_D A (wC G u)) (hS : va_S A H0 H locs) {ix : Nat} (hl : Cond.fieldLink own ix "ConsHouse$Machine" "mode" "I" ∈ WS) {v : Int32} (hd : decode cc pc = .ok (.putfield ix, 3)) (kk : ∀ (H1 : Heap) (locs1 : List Loc), va_P D vwCl (wC G (sI u 608 v)) H1 → va_D A (wC G (sI u 608 v)) → va_S A H0 H1 locs1 → W p l e R s m args below meth c H1 locs1 cells slots Q (F0 m (pc + 3) ls rest)) : W p l e R s m args below meth c H locs cells slots Q (F0 m pc ls (.int v :: .ref (G.1 6) :: rest)) := va_put (D := D) (ci := 2) (C := RX2) (T := TX2) (N := 15) (v := .int v) (ty := .int) E.1 E.2.1 E.2.2.2.1 kl_X2 tyX2 tyX2_ok nmX2 E.2.2.1 E.2.2.2.2 hP hD hS 6 rfl rfl 8 (by decide) (E.2.2.2.1 _ hl) (fun _ h => h) rfl (by decide +kernel) rfl rfl (Nat.le_of_ble_eq_true rfl) hd (fun H1 l1 a b d => kk H1 l1 a (wC_D hD) d)
theorem gC_609 (E : Ev D (tyC G) p s m c cc own args) (hP : va_P D vwCl (wC G u) H) {ix : Nat} (hl : Cond.fieldLink own ix "ConsHouse$Machine" "failure" "I" ∈ WS) {v : Int32} (hv : gI u 609 = v) (hd : decode cc pc = .ok (.getfield ix, 3)) (kk : W p l e R s m args below meth c H locs cells slots Q (F0 m (pc + 3) ls (.int v :: rest))) : W p l e R s m args below meth c H locs cells slots Q (F0 m pc ls (.ref (G.1 6) :: rest)) := by subst hv; exact va_get (D := D) (ci := 2) (C := RX2) (T := TX2) (N := 15) E.1 E.2.1 E.2.2.2.1 kl_X2 E.2.2.1 E.2.2.2.2 hP 6 rfl rfl 9 (by decide) (E.2.2.2.1 _ hl) (fun _ h => h) rfl hd kk
theorem pC_609 (E : Ev D (tyC G) p s m c cc own args) (hP : va_P D vwCl (wC G u) H) (hD : va_D A (wC G u)) (hS : va_S A H0 H locs) {ix : Nat} (hl : Cond.fieldLink own ix "ConsHouse$Machine" "failure" "I" ∈ WS) {v : Int32} (hd : decode cc pc = .ok (.putfield ix, 3)) (kk : ∀ (H1 : Heap) (locs1 : List Loc), va_P D vwCl (wC G (sI u 609 v)) H1 → va_D A (wC G (sI u 609 v)) → va_S A H0 H1 locs1 → W p l e R s m args below meth c H1 locs1 cells slots Q (F0 m (pc + 3) ls rest)) : W p l e R s m args below meth c H locs cells slots Q (F0 m pc ls (.int v :: .ref (G.1 6) :: rest)) := va_put (D := D) (ci := 2) (C := RX2) (T := TX2) (N := 15) (v := .int v) (ty := .int) E.1 E.2.1 E.2.2.2.1 kl_X2 tyX2 tyX2_ok nmX2 E.2.2.1 E.2.2.2.2 hP hD hS 6 rfl rfl 9 (by decide) (E.2.2.2.1 _ hl) (fun _ h => h) rfl (by decide +kernel) rfl rfl (Nat.le_of_ble_eq_true rfl) hd (fun H1 l1 a b d => kk H1 l1 a (wC_D hD) d)
theorem gC_610 (E : Ev D (tyC G) p s m c cc own args) (hP : va_P D vwCl (wC G u) H) {ix : Nat} (hl : Cond.fieldLink own ix "ConsHouse$Machine" "expression" "J" ∈ WS) {v : Int64} (hv : gJ u 610 = v) (hd : decode cc pc = .ok (.getfield ix, 3)) (kk : W p l e R s m args below meth c H locs cells slots Q (F0 m (pc + 3) ls (.long v :: rest))) : W p l e R s m args below meth c H locs cells slots Q (F0 m pc ls (.ref (G.1 6) :: rest)) := by subst hv; exact va_get (D := D) (ci := 2) (C := RX2) (T := TX2) (N := 15) E.1 E.2.1 E.2.2.2.1 kl_X2 E.2.2.1 E.2.2.2.2 hP 6 rfl rfl 10 (by decide) (E.2.2.2.1 _ hl) (fun _ h => h) rfl hd kk
theorem pC_610 (E : Ev D (tyC G) p s m c cc own args) (hP : va_P D vwCl (wC G u) H) (hD : va_D A (wC G u)) (hS : va_S A H0 H locs) {ix : Nat} (hl : Cond.fieldLink own ix "ConsHouse$Machine" "expression" "J" ∈ WS) {v : Int64} (hd : decode cc pc = .ok (.putfield ix, 3)) (kk : ∀ (H1 : Heap) (locs1 : List Loc), va_P D vwCl (wC G (sJ u 610 v)) H1 → va_D A (wC G (sJ u 610 v)) → va_S A H0 H1 locs1 → W p l e R s m args below meth c H1 locs1 cells slots Q (F0 m (pc + 3) ls rest)) : W p l e R s m args below meth c H locs cells slots Q (F0 m pc ls (.long v :: .ref (G.1 6) :: rest)) := va_put (D := D) (ci := 2) (C := RX2) (T := TX2) (N := 15) (v := .long v) (ty := .long) E.1 E.2.1 E.2.2.2.1 kl_X2 tyX2 tyX2_ok nmX2 E.2.2.1 E.2.2.2.2 hP hD hS 6 rfl rfl 10 (by decide) (E.2.2.2.1 _ hl) (fun _ h => h) rfl (by decide +kernel) rfl rfl (Nat.le_of_ble_eq_true rfl) hd (fun H1 l1 a b d => kk H1 l1 a (wC_D hD) d)
theorem gC_611 (E : Ev D (tyC G) p s m c cc own args) (hP : va_P D vwCl (wC G u) H) {ix : Nat} (hl : Cond.fieldLink own ix "ConsHouse$Machine" "clauses" "J" ∈ WS) {v : Int64} (hv : gJ u 611 = v) (hd : decode cc pc = .ok (.getfield ix, 3)) (kk : W p l e R s m args below meth c H locs cells slots Q (F0 m (pc + 3) ls (.long v :: rest))) : W p l e R s m args below meth c H locs cells slots Q (F0 m pc ls (.ref (G.1 6) :: rest)) := by subst hv; exact va_get (D := D) (ci := 2) (C := RX2) (T := TX2) (N := 15) E.1 E.2.1 E.2.2.2.1 kl_X2 E.2.2.1 E.2.2.2.2 hP 6 rfl rfl 11 (by decide) (E.2.2.2.1 _ hl) (fun _ h => h) rfl hd kk
theorem pC_611 (E : Ev D (tyC G) p s m c cc own args) (hP : va_P D vwCl (wC G u) H) (hD : va_D A (wC G u)) (hS : va_S A H0 H locs) {ix : Nat} (hl : Cond.fieldLink own ix "ConsHouse$Machine" "clauses" "J" ∈ WS) {v : Int64} (hd : decode cc pc = .ok (.putfield ix, 3)) (kk : ∀ (H1 : Heap) (locs1 : List Loc), va_P D vwCl (wC G (sJ u 611 v)) H1 → va_D A (wC G (sJ u 611 v)) → va_S A H0 H1 locs1 → W p l e R s m args below meth c H1 locs1 cells slots Q (F0 m (pc + 3) ls rest)) : W p l e R s m args below meth c H locs cells slots Q (F0 m pc ls (.long v :: .ref (G.1 6) :: rest)) := va_put (D := D) (ci := 2) (C := RX2) (T := TX2) (N := 15) (v := .long v) (ty := .long) E.1 E.2.1 E.2.2.2.1 kl_X2 tyX2 tyX2_ok nmX2 E.2.2.1 E.2.2.2.2 hP hD hS 6 rfl rfl 11 (by decide) (E.2.2.2.1 _ hl) (fun _ h => h) rfl (by decide +kernel) rfl rfl (Nat.le_of_ble_eq_true rfl) hd (fun H1 l1 a b d => kk H1 l1 a (wC_D hD) d)
theorem gC_612 (E : Ev D (tyC G) p s m c cc own args) (hP : va_P D vwCl (wC G u) H) {ix : Nat} (hl : Cond.fieldLink own ix "ConsHouse$Machine" "function" "J" ∈ WS) {v : Int64} (hv : gJ u 612 = v) (hd : decode cc pc = .ok (.getfield ix, 3)) (kk : W p l e R s m args below meth c H locs cells slots Q (F0 m (pc + 3) ls (.long v :: rest))) : W p l e R s m args below meth c H locs cells slots Q (F0 m pc ls (.ref (G.1 6) :: rest)) := by subst hv; exact va_get (D := D) (ci := 2) (C := RX2) (T := TX2) (N := 15) E.1 E.2.1 E.2.2.2.1 kl_X2 E.2.2.1 E.2.2.2.2 hP 6 rfl rfl 12 (by decide) (E.2.2.2.1 _ hl) (fun _ h => h) rfl hd kk
theorem pC_612 (E : Ev D (tyC G) p s m c cc own args) (hP : va_P D vwCl (wC G u) H) (hD : va_D A (wC G u)) (hS : va_S A H0 H locs) {ix : Nat} (hl : Cond.fieldLink own ix "ConsHouse$Machine" "function" "J" ∈ WS) {v : Int64} (hd : decode cc pc = .ok (.putfield ix, 3)) (kk : ∀ (H1 : Heap) (locs1 : List Loc), va_P D vwCl (wC G (sJ u 612 v)) H1 → va_D A (wC G (sJ u 612 v)) → va_S A H0 H1 locs1 → W p l e R s m args below meth c H1 locs1 cells slots Q (F0 m (pc + 3) ls rest)) : W p l e R s m args below meth c H locs cells slots Q (F0 m pc ls (.long v :: .ref (G.1 6) :: rest)) := va_put (D := D) (ci := 2) (C := RX2) (T := TX2) (N := 15) (v := .long v) (ty := .long) E.1 E.2.1 E.2.2.2.1 kl_X2 tyX2 tyX2_ok nmX2 E.2.2.1 E.2.2.2.2 hP hD hS 6 rfl rfl 12 (by decide) (E.2.2.2.1 _ hl) (fun _ h => h) rfl (by decide +kernel) rfl rfl (Nat.le_of_ble_eq_true rfl) hd (fun H1 l1 a b d => kk H1 l1 a (wC_D hD) d)
theorem gC_613 (E : Ev D (tyC G) p s m c cc own args) (hP : va_P D vwCl (wC G u) H) {ix : Nat} (hl : Cond.fieldLink own ix "ConsHouse$Machine" "bindings" "J" ∈ WS) {v : Int64} (hv : gJ u 613 = v) (hd : decode cc pc = .ok (.getfield ix, 3)) (kk : W p l e R s m args below meth c H locs cells slots Q (F0 m (pc + 3) ls (.long v :: rest))) : W p l e R s m args below meth c H locs cells slots Q (F0 m pc ls (.ref (G.1 6) :: rest)) := by subst hv; exact va_get (D := D) (ci := 2) (C := RX2) (T := TX2) (N := 15) E.1 E.2.1 E.2.2.2.1 kl_X2 E.2.2.1 E.2.2.2.2 hP 6 rfl rfl 13 (by decide) (E.2.2.2.1 _ hl) (fun _ h => h) rfl hd kk
theorem pC_613 (E : Ev D (tyC G) p s m c cc own args) (hP : va_P D vwCl (wC G u) H) (hD : va_D A (wC G u)) (hS : va_S A H0 H locs) {ix : Nat} (hl : Cond.fieldLink own ix "ConsHouse$Machine" "bindings" "J" ∈ WS) {v : Int64} (hd : decode cc pc = .ok (.putfield ix, 3)) (kk : ∀ (H1 : Heap) (locs1 : List Loc), va_P D vwCl (wC G (sJ u 613 v)) H1 → va_D A (wC G (sJ u 613 v)) → va_S A H0 H1 locs1 → W p l e R s m args below meth c H1 locs1 cells slots Q (F0 m (pc + 3) ls rest)) : W p l e R s m args below meth c H locs cells slots Q (F0 m pc ls (.long v :: .ref (G.1 6) :: rest)) := va_put (D := D) (ci := 2) (C := RX2) (T := TX2) (N := 15) (v := .long v) (ty := .long) E.1 E.2.1 E.2.2.2.1 kl_X2 tyX2 tyX2_ok nmX2 E.2.2.1 E.2.2.2.2 hP hD hS 6 rfl rfl 13 (by decide) (E.2.2.2.1 _ hl) (fun _ h => h) rfl (by decide +kernel) rfl rfl (Nat.le_of_ble_eq_true rfl) hd (fun H1 l1 a b d => kk H1 l1 a (wC_D hD) d)
theorem gC_614 (E : Ev D (tyC G) p s m c cc own args) (hP : va_P D vwCl (wC G u) H) {ix : Nat} (hl : Cond.fieldLink own ix "ConsHouse$Machine" "result" "J" ∈ WS) {v : Int64} (hv : gJ u 614 = v) (hd : decode cc pc = .ok (.getfield ix, 3)) (kk : W p l e R s m args below meth c H locs cells slots Q (F0 m (pc + 3) ls (.long v :: rest))) : W p l e R s m args below meth c H locs cells slots Q (F0 m pc ls (.ref (G.1 6) :: rest)) := by subst hv; exact va_get (D := D) (ci := 2) (C := RX2) (T := TX2) (N := 15) E.1 E.2.1 E.2.2.2.1 kl_X2 E.2.2.1 E.2.2.2.2 hP 6 rfl rfl 14 (by decide) (E.2.2.2.1 _ hl) (fun _ h => h) rfl hd kk
theorem pC_614 (E : Ev D (tyC G) p s m c cc own args) (hP : va_P D vwCl (wC G u) H) (hD : va_D A (wC G u)) (hS : va_S A H0 H locs) {ix : Nat} (hl : Cond.fieldLink own ix "ConsHouse$Machine" "result" "J" ∈ WS) {v : Int64} (hd : decode cc pc = .ok (.putfield ix, 3)) (kk : ∀ (H1 : Heap) (locs1 : List Loc), va_P D vwCl (wC G (sJ u 614 v)) H1 → va_D A (wC G (sJ u 614 v)) → va_S A H0 H1 locs1 → W p l e R s m args below meth c H1 locs1 cells slots Q (F0 m (pc + 3) ls rest)) : W p l e R s m args below meth c H locs cells slots Q (F0 m pc ls (.long v :: .ref (G.1 6) :: rest)) := va_put (D := D) (ci := 2) (C := RX2) (T := TX2) (N := 15) (v := .long v) (ty := .long) E.1 E.2.1 E.2.2.2.1 kl_X2 tyX2 tyX2_ok nmX2 E.2.2.1 E.2.2.2.2 hP hD hS 6 rfl rfl 14 (by decide) (E.2.2.2.1 _ hl) (fun _ h => h) rfl (by decide +kernel) rfl rfl (Nat.le_of_ble_eq_true rfl) hd (fun H1 l1 a b d => kk H1 l1 a (wC_D hD) d)
theorem gC_700 (E : Ev D (tyC G) p s m c cc own args) (hP : va_P D vwCl (wC G u) H) {ix : Nat} (hl : Cond.fieldLink own ix "ConsHouse$Printer" "heap" "LConsHouse$Heap;" ∈ WS) (hd : decode cc pc = .ok (.getfield ix, 3)) (kk : W p l e R s m args below meth c H locs cells slots Q (F0 m (pc + 3) ls (.ref (G.1 8) :: rest))) : W p l e R s m args below meth c H locs cells slots Q (F0 m pc ls (.ref (G.1 7) :: rest)) := by exact va_get (D := D) (ci := 4) (C := RX4) (T := TX4) (N := 7) E.1 E.2.1 E.2.2.2.1 kl_X4 E.2.2.1 E.2.2.2.2 hP 7 rfl rfl 0 (by decide) (E.2.2.2.1 _ hl) (fun _ h => h) rfl hd kk
theorem gC_701 (E : Ev D (tyC G) p s m c cc own args) (hP : va_P D vwCl (wC G u) H) {ix : Nat} (hl : Cond.fieldLink own ix "ConsHouse$Printer" "names" "LConsHouse$Names;" ∈ WS) (hd : decode cc pc = .ok (.getfield ix, 3)) (kk : W p l e R s m args below meth c H locs cells slots Q (F0 m (pc + 3) ls (.ref (G.1 2) :: rest))) : W p l e R s m args below meth c H locs cells slots Q (F0 m pc ls (.ref (G.1 7) :: rest)) := by exact va_get (D := D) (ci := 4) (C := RX4) (T := TX4) (N := 7) E.1 E.2.1 E.2.2.2.1 kl_X4 E.2.2.1 E.2.2.2.2 hP 7 rfl rfl 1 (by decide) (E.2.2.2.1 _ hl) (fun _ h => h) rfl hd kk
theorem gC_702 (E : Ev D (tyC G) p s m c cc own args) (hP : va_P D vwCl (wC G u) H) {ix : Nat} (hl : Cond.fieldLink own ix "ConsHouse$Printer" "printed" "[C" ∈ WS) (hd : decode cc pc = .ok (.getfield ix, 3)) (kk : W p l e R s m args below meth c H locs cells slots Q (F0 m (pc + 3) ls (.ref (G.1 22) :: rest))) : W p l e R s m args below meth c H locs cells slots Q (F0 m pc ls (.ref (G.1 7) :: rest)) := by exact va_get (D := D) (ci := 4) (C := RX4) (T := TX4) (N := 7) E.1 E.2.1 E.2.2.2.1 kl_X4 E.2.2.1 E.2.2.2.2 hP 7 rfl rfl 2 (by decide) (E.2.2.2.1 _ hl) (fun _ h => h) rfl hd kk
theorem gC_703 (E : Ev D (tyC G) p s m c cc own args) (hP : va_P D vwCl (wC G u) H) {ix : Nat} (hl : Cond.fieldLink own ix "ConsHouse$Printer" "rests" "[J" ∈ WS) (hd : decode cc pc = .ok (.getfield ix, 3)) (kk : W p l e R s m args below meth c H locs cells slots Q (F0 m (pc + 3) ls (.ref (G.1 23) :: rest))) : W p l e R s m args below meth c H locs cells slots Q (F0 m pc ls (.ref (G.1 7) :: rest)) := by exact va_get (D := D) (ci := 4) (C := RX4) (T := TX4) (N := 7) E.1 E.2.1 E.2.2.2.1 kl_X4 E.2.2.1 E.2.2.2.2 hP 7 rfl rfl 3 (by decide) (E.2.2.2.1 _ hl) (fun _ h => h) rfl hd kk
theorem gC_704 (E : Ev D (tyC G) p s m c cc own args) (hP : va_P D vwCl (wC G u) H) {ix : Nat} (hl : Cond.fieldLink own ix "ConsHouse$Printer" "backwards" "[C" ∈ WS) (hd : decode cc pc = .ok (.getfield ix, 3)) (kk : W p l e R s m args below meth c H locs cells slots Q (F0 m (pc + 3) ls (.ref (G.1 24) :: rest))) : W p l e R s m args below meth c H locs cells slots Q (F0 m pc ls (.ref (G.1 7) :: rest)) := by exact va_get (D := D) (ci := 4) (C := RX4) (T := TX4) (N := 7) E.1 E.2.1 E.2.2.2.1 kl_X4 E.2.2.1 E.2.2.2.2 hP 7 rfl rfl 4 (by decide) (E.2.2.2.1 _ hl) (fun _ h => h) rfl hd kk
theorem gC_705 (E : Ev D (tyC G) p s m c cc own args) (hP : va_P D vwCl (wC G u) H) {ix : Nat} (hl : Cond.fieldLink own ix "ConsHouse$Printer" "depth" "I" ∈ WS) {v : Int32} (hv : gI u 705 = v) (hd : decode cc pc = .ok (.getfield ix, 3)) (kk : W p l e R s m args below meth c H locs cells slots Q (F0 m (pc + 3) ls (.int v :: rest))) : W p l e R s m args below meth c H locs cells slots Q (F0 m pc ls (.ref (G.1 7) :: rest)) := by subst hv; exact va_get (D := D) (ci := 4) (C := RX4) (T := TX4) (N := 7) E.1 E.2.1 E.2.2.2.1 kl_X4 E.2.2.1 E.2.2.2.2 hP 7 rfl rfl 5 (by decide) (E.2.2.2.1 _ hl) (fun _ h => h) rfl hd kk
theorem pC_705 (E : Ev D (tyC G) p s m c cc own args) (hP : va_P D vwCl (wC G u) H) (hD : va_D A (wC G u)) (hS : va_S A H0 H locs) {ix : Nat} (hl : Cond.fieldLink own ix "ConsHouse$Printer" "depth" "I" ∈ WS) {v : Int32} (hd : decode cc pc = .ok (.putfield ix, 3)) (kk : ∀ (H1 : Heap) (locs1 : List Loc), va_P D vwCl (wC G (sI u 705 v)) H1 → va_D A (wC G (sI u 705 v)) → va_S A H0 H1 locs1 → W p l e R s m args below meth c H1 locs1 cells slots Q (F0 m (pc + 3) ls rest)) : W p l e R s m args below meth c H locs cells slots Q (F0 m pc ls (.int v :: .ref (G.1 7) :: rest)) := va_put (D := D) (ci := 4) (C := RX4) (T := TX4) (N := 7) (v := .int v) (ty := .int) E.1 E.2.1 E.2.2.2.1 kl_X4 tyX4 tyX4_ok nmX4 E.2.2.1 E.2.2.2.2 hP hD hS 7 rfl rfl 5 (by decide) (E.2.2.2.1 _ hl) (fun _ h => h) rfl (by decide +kernel) rfl rfl (Nat.le_of_ble_eq_true rfl) hd (fun H1 l1 a b d => kk H1 l1 a (wC_D hD) d)
theorem gC_706 (E : Ev D (tyC G) p s m c cc own args) (hP : va_P D vwCl (wC G u) H) {ix : Nat} (hl : Cond.fieldLink own ix "ConsHouse$Printer" "length" "I" ∈ WS) {v : Int32} (hv : gI u 706 = v) (hd : decode cc pc = .ok (.getfield ix, 3)) (kk : W p l e R s m args below meth c H locs cells slots Q (F0 m (pc + 3) ls (.int v :: rest))) : W p l e R s m args below meth c H locs cells slots Q (F0 m pc ls (.ref (G.1 7) :: rest)) := by subst hv; exact va_get (D := D) (ci := 4) (C := RX4) (T := TX4) (N := 7) E.1 E.2.1 E.2.2.2.1 kl_X4 E.2.2.1 E.2.2.2.2 hP 7 rfl rfl 6 (by decide) (E.2.2.2.1 _ hl) (fun _ h => h) rfl hd kk
theorem pC_706 (E : Ev D (tyC G) p s m c cc own args) (hP : va_P D vwCl (wC G u) H) (hD : va_D A (wC G u)) (hS : va_S A H0 H locs) {ix : Nat} (hl : Cond.fieldLink own ix "ConsHouse$Printer" "length" "I" ∈ WS) {v : Int32} (hd : decode cc pc = .ok (.putfield ix, 3)) (kk : ∀ (H1 : Heap) (locs1 : List Loc), va_P D vwCl (wC G (sI u 706 v)) H1 → va_D A (wC G (sI u 706 v)) → va_S A H0 H1 locs1 → W p l e R s m args below meth c H1 locs1 cells slots Q (F0 m (pc + 3) ls rest)) : W p l e R s m args below meth c H locs cells slots Q (F0 m pc ls (.int v :: .ref (G.1 7) :: rest)) := va_put (D := D) (ci := 4) (C := RX4) (T := TX4) (N := 7) (v := .int v) (ty := .int) E.1 E.2.1 E.2.2.2.1 kl_X4 tyX4 tyX4_ok nmX4 E.2.2.1 E.2.2.2.2 hP hD hS 7 rfl rfl 6 (by decide) (E.2.2.2.1 _ hl) (fun _ h => h) rfl (by decide +kernel) rfl rfl (Nat.le_of_ble_eq_true rfl) hd (fun H1 l1 a b d => kk H1 l1 a (wC_D hD) d)
theorem gC_800 (E : Ev D (tyC G) p s m c cc own args) (hP : va_P D vwCl (wC G u) H) {ix : Nat} (hl : Cond.fieldLink own ix "ConsHouse$Heap" "cars" "[J" ∈ WS) (hd : decode cc pc = .ok (.getfield ix, 3)) (kk : W p l e R s m args below meth c H locs cells slots Q (F0 m (pc + 3) ls (.ref (G.1 25) :: rest))) : W p l e R s m args below meth c H locs cells slots Q (F0 m pc ls (.ref (G.1 8) :: rest)) := by exact va_get (D := D) (ci := 0) (C := RX0) (T := TX0) (N := 8) E.1 E.2.1 E.2.2.2.1 kl_X0 E.2.2.1 E.2.2.2.2 hP 8 rfl rfl 0 (by decide) (E.2.2.2.1 _ hl) (fun _ h => h) rfl hd kk
theorem gC_801 (E : Ev D (tyC G) p s m c cc own args) (hP : va_P D vwCl (wC G u) H) {ix : Nat} (hl : Cond.fieldLink own ix "ConsHouse$Heap" "cdrs" "[J" ∈ WS) (hd : decode cc pc = .ok (.getfield ix, 3)) (kk : W p l e R s m args below meth c H locs cells slots Q (F0 m (pc + 3) ls (.ref (G.1 26) :: rest))) : W p l e R s m args below meth c H locs cells slots Q (F0 m pc ls (.ref (G.1 8) :: rest)) := by exact va_get (D := D) (ci := 0) (C := RX0) (T := TX0) (N := 8) E.1 E.2.1 E.2.2.2.1 kl_X0 E.2.2.1 E.2.2.2.2 hP 8 rfl rfl 1 (by decide) (E.2.2.2.1 _ hl) (fun _ h => h) rfl hd kk
theorem gC_802 (E : Ev D (tyC G) p s m c cc own args) (hP : va_P D vwCl (wC G u) H) {ix : Nat} (hl : Cond.fieldLink own ix "ConsHouse$Heap" "marks" "[I" ∈ WS) (hd : decode cc pc = .ok (.getfield ix, 3)) (kk : W p l e R s m args below meth c H locs cells slots Q (F0 m (pc + 3) ls (.ref (G.1 27) :: rest))) : W p l e R s m args below meth c H locs cells slots Q (F0 m pc ls (.ref (G.1 8) :: rest)) := by exact va_get (D := D) (ci := 0) (C := RX0) (T := TX0) (N := 8) E.1 E.2.1 E.2.2.2.1 kl_X0 E.2.2.1 E.2.2.2.2 hP 8 rfl rfl 2 (by decide) (E.2.2.2.1 _ hl) (fun _ h => h) rfl hd kk
theorem gC_803 (E : Ev D (tyC G) p s m c cc own args) (hP : va_P D vwCl (wC G u) H) {ix : Nat} (hl : Cond.fieldLink own ix "ConsHouse$Heap" "pending" "[J" ∈ WS) (hd : decode cc pc = .ok (.getfield ix, 3)) (kk : W p l e R s m args below meth c H locs cells slots Q (F0 m (pc + 3) ls (.ref (G.1 28) :: rest))) : W p l e R s m args below meth c H locs cells slots Q (F0 m pc ls (.ref (G.1 8) :: rest)) := by exact va_get (D := D) (ci := 0) (C := RX0) (T := TX0) (N := 8) E.1 E.2.1 E.2.2.2.1 kl_X0 E.2.2.1 E.2.2.2.2 hP 8 rfl rfl 3 (by decide) (E.2.2.2.1 _ hl) (fun _ h => h) rfl hd kk
theorem gC_804 (E : Ev D (tyC G) p s m c cc own args) (hP : va_P D vwCl (wC G u) H) {ix : Nat} (hl : Cond.fieldLink own ix "ConsHouse$Heap" "free" "[I" ∈ WS) (hd : decode cc pc = .ok (.getfield ix, 3)) (kk : W p l e R s m args below meth c H locs cells slots Q (F0 m (pc + 3) ls (.ref (G.1 29) :: rest))) : W p l e R s m args below meth c H locs cells slots Q (F0 m pc ls (.ref (G.1 8) :: rest)) := by exact va_get (D := D) (ci := 0) (C := RX0) (T := TX0) (N := 8) E.1 E.2.1 E.2.2.2.1 kl_X0 E.2.2.1 E.2.2.2.2 hP 8 rfl rfl 4 (by decide) (E.2.2.2.1 _ hl) (fun _ h => h) rfl hd kk
theorem gC_805 (E : Ev D (tyC G) p s m c cc own args) (hP : va_P D vwCl (wC G u) H) {ix : Nat} (hl : Cond.fieldLink own ix "ConsHouse$Heap" "freeCount" "I" ∈ WS) {v : Int32} (hv : gI u 805 = v) (hd : decode cc pc = .ok (.getfield ix, 3)) (kk : W p l e R s m args below meth c H locs cells slots Q (F0 m (pc + 3) ls (.int v :: rest))) : W p l e R s m args below meth c H locs cells slots Q (F0 m pc ls (.ref (G.1 8) :: rest)) := by subst hv; exact va_get (D := D) (ci := 0) (C := RX0) (T := TX0) (N := 8) E.1 E.2.1 E.2.2.2.1 kl_X0 E.2.2.1 E.2.2.2.2 hP 8 rfl rfl 5 (by decide) (E.2.2.2.1 _ hl) (fun _ h => h) rfl hd kk
theorem pC_805 (E : Ev D (tyC G) p s m c cc own args) (hP : va_P D vwCl (wC G u) H) (hD : va_D A (wC G u)) (hS : va_S A H0 H locs) {ix : Nat} (hl : Cond.fieldLink own ix "ConsHouse$Heap" "freeCount" "I" ∈ WS) {v : Int32} (hd : decode cc pc = .ok (.putfield ix, 3)) (kk : ∀ (H1 : Heap) (locs1 : List Loc), va_P D vwCl (wC G (sI u 805 v)) H1 → va_D A (wC G (sI u 805 v)) → va_S A H0 H1 locs1 → W p l e R s m args below meth c H1 locs1 cells slots Q (F0 m (pc + 3) ls rest)) : W p l e R s m args below meth c H locs cells slots Q (F0 m pc ls (.int v :: .ref (G.1 8) :: rest)) := va_put (D := D) (ci := 0) (C := RX0) (T := TX0) (N := 8) (v := .int v) (ty := .int) E.1 E.2.1 E.2.2.2.1 kl_X0 tyX0 tyX0_ok nmX0 E.2.2.1 E.2.2.2.2 hP hD hS 8 rfl rfl 5 (by decide) (E.2.2.2.1 _ hl) (fun _ h => h) rfl (by decide +kernel) rfl rfl (Nat.le_of_ble_eq_true rfl) hd (fun H1 l1 a b d => kk H1 l1 a (wC_D hD) d)
theorem gC_806 (E : Ev D (tyC G) p s m c cc own args) (hP : va_P D vwCl (wC G u) H) {ix : Nat} (hl : Cond.fieldLink own ix "ConsHouse$Heap" "round" "I" ∈ WS) {v : Int32} (hv : gI u 806 = v) (hd : decode cc pc = .ok (.getfield ix, 3)) (kk : W p l e R s m args below meth c H locs cells slots Q (F0 m (pc + 3) ls (.int v :: rest))) : W p l e R s m args below meth c H locs cells slots Q (F0 m pc ls (.ref (G.1 8) :: rest)) := by subst hv; exact va_get (D := D) (ci := 0) (C := RX0) (T := TX0) (N := 8) E.1 E.2.1 E.2.2.2.1 kl_X0 E.2.2.1 E.2.2.2.2 hP 8 rfl rfl 6 (by decide) (E.2.2.2.1 _ hl) (fun _ h => h) rfl hd kk
theorem pC_806 (E : Ev D (tyC G) p s m c cc own args) (hP : va_P D vwCl (wC G u) H) (hD : va_D A (wC G u)) (hS : va_S A H0 H locs) {ix : Nat} (hl : Cond.fieldLink own ix "ConsHouse$Heap" "round" "I" ∈ WS) {v : Int32} (hd : decode cc pc = .ok (.putfield ix, 3)) (kk : ∀ (H1 : Heap) (locs1 : List Loc), va_P D vwCl (wC G (sI u 806 v)) H1 → va_D A (wC G (sI u 806 v)) → va_S A H0 H1 locs1 → W p l e R s m args below meth c H1 locs1 cells slots Q (F0 m (pc + 3) ls rest)) : W p l e R s m args below meth c H locs cells slots Q (F0 m pc ls (.int v :: .ref (G.1 8) :: rest)) := va_put (D := D) (ci := 0) (C := RX0) (T := TX0) (N := 8) (v := .int v) (ty := .int) E.1 E.2.1 E.2.2.2.1 kl_X0 tyX0 tyX0_ok nmX0 E.2.2.1 E.2.2.2.2 hP hD hS 8 rfl rfl 6 (by decide) (E.2.2.2.1 _ hl) (fun _ h => h) rfl (by decide +kernel) rfl rfl (Nat.le_of_ble_eq_true rfl) hd (fun H1 l1 a b d => kk H1 l1 a (wC_D hD) d)
theorem gC_807 (E : Ev D (tyC G) p s m c cc own args) (hP : va_P D vwCl (wC G u) H) {ix : Nat} (hl : Cond.fieldLink own ix "ConsHouse$Heap" "markedCount" "I" ∈ WS) {v : Int32} (hv : gI u 807 = v) (hd : decode cc pc = .ok (.getfield ix, 3)) (kk : W p l e R s m args below meth c H locs cells slots Q (F0 m (pc + 3) ls (.int v :: rest))) : W p l e R s m args below meth c H locs cells slots Q (F0 m pc ls (.ref (G.1 8) :: rest)) := by subst hv; exact va_get (D := D) (ci := 0) (C := RX0) (T := TX0) (N := 8) E.1 E.2.1 E.2.2.2.1 kl_X0 E.2.2.1 E.2.2.2.2 hP 8 rfl rfl 7 (by decide) (E.2.2.2.1 _ hl) (fun _ h => h) rfl hd kk
theorem pC_807 (E : Ev D (tyC G) p s m c cc own args) (hP : va_P D vwCl (wC G u) H) (hD : va_D A (wC G u)) (hS : va_S A H0 H locs) {ix : Nat} (hl : Cond.fieldLink own ix "ConsHouse$Heap" "markedCount" "I" ∈ WS) {v : Int32} (hd : decode cc pc = .ok (.putfield ix, 3)) (kk : ∀ (H1 : Heap) (locs1 : List Loc), va_P D vwCl (wC G (sI u 807 v)) H1 → va_D A (wC G (sI u 807 v)) → va_S A H0 H1 locs1 → W p l e R s m args below meth c H1 locs1 cells slots Q (F0 m (pc + 3) ls rest)) : W p l e R s m args below meth c H locs cells slots Q (F0 m pc ls (.int v :: .ref (G.1 8) :: rest)) := va_put (D := D) (ci := 0) (C := RX0) (T := TX0) (N := 8) (v := .int v) (ty := .int) E.1 E.2.1 E.2.2.2.1 kl_X0 tyX0 tyX0_ok nmX0 E.2.2.1 E.2.2.2.2 hP hD hS 8 rfl rfl 7 (by decide) (E.2.2.2.1 _ hl) (fun _ h => h) rfl (by decide +kernel) rfl rfl (Nat.le_of_ble_eq_true rfl) hd (fun H1 l1 a b d => kk H1 l1 a (wC_D hD) d)
theorem xC_100 (E : Ev D (tyC G) p s m c cc own args) (hP : va_P D vwCl (wC G u) H) {i : Int32} (hin : vp_in i 2000) {v : Int32} (hv : gA u 100 i.toNatClampNeg = v) (hd : decode cc pc = .ok (.caload, 1)) (kk : W p l e R s m args below meth c H locs cells slots Q (F0 m (pc + 1) ls (.int v :: rest))) : W p l e R s m args below meth c H locs cells slots Q (F0 m pc ls (.int i :: .ref (G.1 9) :: rest)) := by subst hv; exact va_cald E.1 E.2.1 E.2.2.2.2 hP 9 0 rfl rfl hin hd kk
theorem yC_100 (E : Ev D (tyC G) p s m c cc own args) (hP : va_P D vwCl (wC G u) H) (hD : va_D A (wC G u)) (hS : va_S A H0 H locs) {i : Int32} {x : Int32} (hin : vp_in i 2000) (hd : decode cc pc = .ok (.castore, 1)) (kk : ∀ (H1 : Heap) (locs1 : List Loc), va_P D vwCl (wC G (sA u 100 (upd (gA u 100) i.toNatClampNeg (vp_nar .char x)))) H1 → va_D A (wC G (sA u 100 (upd (gA u 100) i.toNatClampNeg (vp_nar .char x)))) → va_S A H0 H1 locs1 → W p l e R s m args below meth c H1 locs1 cells slots Q (F0 m (pc + 1) ls rest)) : W p l e R s m args below meth c H locs cells slots Q (F0 m pc ls (.int x :: .int i :: .ref (G.1 9) :: rest)) := va_cast E.1 E.2.1 E.2.2.2.2 hP hD hS 9 0 rfl rfl hin hd (fun H1 l1 a b d => kk H1 l1 a (wC_D hD) d)
theorem zC_100 (E : Ev D (tyC G) p s m c cc own args) (hP : va_P D vwCl (wC G u) H) (hd : decode cc pc = .ok (.arraylength, 1)) (kk : W p l e R s m args below meth c H locs cells slots Q (F0 m (pc + 1) ls (.int (Int32.ofNat 2000) :: rest))) : W p l e R s m args below meth c H locs cells slots Q (F0 m pc ls (.ref (G.1 9) :: rest)) := va_alen E.1 E.2.1 E.2.2.2.2 hP 9 0 rfl rfl rfl hd kk
theorem xC_200 (E : Ev D (tyC G) p s m c cc own args) (hP : va_P D vwCl (wC G u) H) {i : Int32} (hin : vp_in i 150) {v : Int64} (hv : gB u 200 i.toNatClampNeg = v) (hd : decode cc pc = .ok (.laload, 1)) (kk : W p l e R s m args below meth c H locs cells slots Q (F0 m (pc + 1) ls (.long v :: rest))) : W p l e R s m args below meth c H locs cells slots Q (F0 m pc ls (.int i :: .ref (G.1 10) :: rest)) := by subst hv; exact va_lald E.1 E.2.1 E.2.2.2.2 hP 10 1 rfl rfl hin hd kk
theorem yC_200 (E : Ev D (tyC G) p s m c cc own args) (hP : va_P D vwCl (wC G u) H) (hD : va_D A (wC G u)) (hS : va_S A H0 H locs) {i : Int32} {x : Int64} (hin : vp_in i 150) (hd : decode cc pc = .ok (.lastore, 1)) (kk : ∀ (H1 : Heap) (locs1 : List Loc), va_P D vwCl (wC G (sB u 200 (vp_updL (gB u 200) i.toNatClampNeg x))) H1 → va_D A (wC G (sB u 200 (vp_updL (gB u 200) i.toNatClampNeg x))) → va_S A H0 H1 locs1 → W p l e R s m args below meth c H1 locs1 cells slots Q (F0 m (pc + 1) ls rest)) : W p l e R s m args below meth c H locs cells slots Q (F0 m pc ls (.long x :: .int i :: .ref (G.1 10) :: rest)) := va_last E.1 E.2.1 E.2.2.2.2 hP hD hS 10 1 rfl rfl hin hd (fun H1 l1 a b d => kk H1 l1 a (wC_D hD) d)
theorem zC_200 (E : Ev D (tyC G) p s m c cc own args) (hP : va_P D vwCl (wC G u) H) (hd : decode cc pc = .ok (.arraylength, 1)) (kk : W p l e R s m args below meth c H locs cells slots Q (F0 m (pc + 1) ls (.int (Int32.ofNat 150) :: rest))) : W p l e R s m args below meth c H locs cells slots Q (F0 m pc ls (.ref (G.1 10) :: rest)) := va_alen E.1 E.2.1 E.2.2.2.2 hP 10 1 rfl rfl rfl hd kk
theorem xC_201 (E : Ev D (tyC G) p s m c cc own args) (hP : va_P D vwCl (wC G u) H) {i : Int32} (hin : vp_in i 150) {v : Int64} (hv : gB u 201 i.toNatClampNeg = v) (hd : decode cc pc = .ok (.laload, 1)) (kk : W p l e R s m args below meth c H locs cells slots Q (F0 m (pc + 1) ls (.long v :: rest))) : W p l e R s m args below meth c H locs cells slots Q (F0 m pc ls (.int i :: .ref (G.1 11) :: rest)) := by subst hv; exact va_lald E.1 E.2.1 E.2.2.2.2 hP 11 2 rfl rfl hin hd kk
theorem yC_201 (E : Ev D (tyC G) p s m c cc own args) (hP : va_P D vwCl (wC G u) H) (hD : va_D A (wC G u)) (hS : va_S A H0 H locs) {i : Int32} {x : Int64} (hin : vp_in i 150) (hd : decode cc pc = .ok (.lastore, 1)) (kk : ∀ (H1 : Heap) (locs1 : List Loc), va_P D vwCl (wC G (sB u 201 (vp_updL (gB u 201) i.toNatClampNeg x))) H1 → va_D A (wC G (sB u 201 (vp_updL (gB u 201) i.toNatClampNeg x))) → va_S A H0 H1 locs1 → W p l e R s m args below meth c H1 locs1 cells slots Q (F0 m (pc + 1) ls rest)) : W p l e R s m args below meth c H locs cells slots Q (F0 m pc ls (.long x :: .int i :: .ref (G.1 11) :: rest)) := va_last E.1 E.2.1 E.2.2.2.2 hP hD hS 11 2 rfl rfl hin hd (fun H1 l1 a b d => kk H1 l1 a (wC_D hD) d)
theorem zC_201 (E : Ev D (tyC G) p s m c cc own args) (hP : va_P D vwCl (wC G u) H) (hd : decode cc pc = .ok (.arraylength, 1)) (kk : W p l e R s m args below meth c H locs cells slots Q (F0 m (pc + 1) ls (.int (Int32.ofNat 150) :: rest))) : W p l e R s m args below meth c H locs cells slots Q (F0 m pc ls (.ref (G.1 11) :: rest)) := va_alen E.1 E.2.1 E.2.2.2.2 hP 11 2 rfl rfl rfl hd kk
theorem xC_300 (E : Ev D (tyC G) p s m c cc own args) (hP : va_P D vwCl (wC G u) H) {i : Int32} (hin : vp_in i (G.2.1 300)) {v : Int32} (hv : gA u 300 i.toNatClampNeg = v) (hd : decode cc pc = .ok (.iaload, 1)) (kk : W p l e R s m args below meth c H locs cells slots Q (F0 m (pc + 1) ls (.int v :: rest))) : W p l e R s m args below meth c H locs cells slots Q (F0 m pc ls (.int i :: .ref (G.1 12) :: rest)) := by subst hv; exact va_iald E.1 E.2.1 E.2.2.2.2 hP 12 3 rfl rfl hin hd kk
theorem yC_300 (E : Ev D (tyC G) p s m c cc own args) (hP : va_P D vwCl (wC G u) H) (hD : va_D A (wC G u)) (hS : va_S A H0 H locs) {i : Int32} {x : Int32} (hin : vp_in i (G.2.1 300)) (hd : decode cc pc = .ok (.iastore, 1)) (kk : ∀ (H1 : Heap) (locs1 : List Loc), va_P D vwCl (wC G (sA u 300 (upd (gA u 300) i.toNatClampNeg x))) H1 → va_D A (wC G (sA u 300 (upd (gA u 300) i.toNatClampNeg x))) → va_S A H0 H1 locs1 → W p l e R s m args below meth c H1 locs1 cells slots Q (F0 m (pc + 1) ls rest)) : W p l e R s m args below meth c H locs cells slots Q (F0 m pc ls (.int x :: .int i :: .ref (G.1 12) :: rest)) := va_iast E.1 E.2.1 E.2.2.2.2 hP hD hS 12 3 rfl rfl hin hd (fun H1 l1 a b d => kk H1 l1 a (wC_D hD) d)
theorem zC_300 (E : Ev D (tyC G) p s m c cc own args) (hP : va_P D vwCl (wC G u) H) (hd : decode cc pc = .ok (.arraylength, 1)) (kk : W p l e R s m args below meth c H locs cells slots Q (F0 m (pc + 1) ls (.int (Int32.ofNat (G.2.1 300)) :: rest))) : W p l e R s m args below meth c H locs cells slots Q (F0 m pc ls (.ref (G.1 12) :: rest)) := va_alen E.1 E.2.1 E.2.2.2.2 hP 12 3 rfl rfl rfl hd kk
theorem xC_301 (E : Ev D (tyC G) p s m c cc own args) (hP : va_P D vwCl (wC G u) H) {i : Int32} (hin : vp_in i (G.2.1 301)) {v : Int32} (hv : gA u 301 i.toNatClampNeg = v) (hd : decode cc pc = .ok (.iaload, 1)) (kk : W p l e R s m args below meth c H locs cells slots Q (F0 m (pc + 1) ls (.int v :: rest))) : W p l e R s m args below meth c H locs cells slots Q (F0 m pc ls (.int i :: .ref (G.1 13) :: rest)) := by subst hv; exact va_iald E.1 E.2.1 E.2.2.2.2 hP 13 4 rfl rfl hin hd kk
theorem yC_301 (E : Ev D (tyC G) p s m c cc own args) (hP : va_P D vwCl (wC G u) H) (hD : va_D A (wC G u)) (hS : va_S A H0 H locs) {i : Int32} {x : Int32} (hin : vp_in i (G.2.1 301)) (hd : decode cc pc = .ok (.iastore, 1)) (kk : ∀ (H1 : Heap) (locs1 : List Loc), va_P D vwCl (wC G (sA u 301 (upd (gA u 301) i.toNatClampNeg x))) H1 → va_D A (wC G (sA u 301 (upd (gA u 301) i.toNatClampNeg x))) → va_S A H0 H1 locs1 → W p l e R s m args below meth c H1 locs1 cells slots Q (F0 m (pc + 1) ls rest)) : W p l e R s m args below meth c H locs cells slots Q (F0 m pc ls (.int x :: .int i :: .ref (G.1 13) :: rest)) := va_iast E.1 E.2.1 E.2.2.2.2 hP hD hS 13 4 rfl rfl hin hd (fun H1 l1 a b d => kk H1 l1 a (wC_D hD) d)
theorem zC_301 (E : Ev D (tyC G) p s m c cc own args) (hP : va_P D vwCl (wC G u) H) (hd : decode cc pc = .ok (.arraylength, 1)) (kk : W p l e R s m args below meth c H locs cells slots Q (F0 m (pc + 1) ls (.int (Int32.ofNat (G.2.1 301)) :: rest))) : W p l e R s m args below meth c H locs cells slots Q (F0 m pc ls (.ref (G.1 13) :: rest)) := va_alen E.1 E.2.1 E.2.2.2.2 hP 13 4 rfl rfl rfl hd kk
theorem xC_302 (E : Ev D (tyC G) p s m c cc own args) (hP : va_P D vwCl (wC G u) H) {i : Int32} (hin : vp_in i (G.2.1 302)) {v : Int64} (hv : gB u 302 i.toNatClampNeg = v) (hd : decode cc pc = .ok (.laload, 1)) (kk : W p l e R s m args below meth c H locs cells slots Q (F0 m (pc + 1) ls (.long v :: rest))) : W p l e R s m args below meth c H locs cells slots Q (F0 m pc ls (.int i :: .ref (G.1 14) :: rest)) := by subst hv; exact va_lald E.1 E.2.1 E.2.2.2.2 hP 14 5 rfl rfl hin hd kk
theorem yC_302 (E : Ev D (tyC G) p s m c cc own args) (hP : va_P D vwCl (wC G u) H) (hD : va_D A (wC G u)) (hS : va_S A H0 H locs) {i : Int32} {x : Int64} (hin : vp_in i (G.2.1 302)) (hd : decode cc pc = .ok (.lastore, 1)) (kk : ∀ (H1 : Heap) (locs1 : List Loc), va_P D vwCl (wC G (sB u 302 (vp_updL (gB u 302) i.toNatClampNeg x))) H1 → va_D A (wC G (sB u 302 (vp_updL (gB u 302) i.toNatClampNeg x))) → va_S A H0 H1 locs1 → W p l e R s m args below meth c H1 locs1 cells slots Q (F0 m (pc + 1) ls rest)) : W p l e R s m args below meth c H locs cells slots Q (F0 m pc ls (.long x :: .int i :: .ref (G.1 14) :: rest)) := va_last E.1 E.2.1 E.2.2.2.2 hP hD hS 14 5 rfl rfl hin hd (fun H1 l1 a b d => kk H1 l1 a (wC_D hD) d)
theorem zC_302 (E : Ev D (tyC G) p s m c cc own args) (hP : va_P D vwCl (wC G u) H) (hd : decode cc pc = .ok (.arraylength, 1)) (kk : W p l e R s m args below meth c H locs cells slots Q (F0 m (pc + 1) ls (.int (Int32.ofNat (G.2.1 302)) :: rest))) : W p l e R s m args below meth c H locs cells slots Q (F0 m pc ls (.ref (G.1 14) :: rest)) := va_alen E.1 E.2.1 E.2.2.2.2 hP 14 5 rfl rfl rfl hd kk
theorem xC_403 (E : Ev D (tyC G) p s m c cc own args) (hP : va_P D vwCl (wC G u) H) {i : Int32} (hin : vp_in i 2) {v : Int64} (hv : gB u 403 i.toNatClampNeg = v) (hd : decode cc pc = .ok (.laload, 1)) (kk : W p l e R s m args below meth c H locs cells slots Q (F0 m (pc + 1) ls (.long v :: rest))) : W p l e R s m args below meth c H locs cells slots Q (F0 m pc ls (.int i :: .ref (G.1 15) :: rest)) := by subst hv; exact va_lald E.1 E.2.1 E.2.2.2.2 hP 15 6 rfl rfl hin hd kk
theorem yC_403 (E : Ev D (tyC G) p s m c cc own args) (hP : va_P D vwCl (wC G u) H) (hD : va_D A (wC G u)) (hS : va_S A H0 H locs) {i : Int32} {x : Int64} (hin : vp_in i 2) (hd : decode cc pc = .ok (.lastore, 1)) (kk : ∀ (H1 : Heap) (locs1 : List Loc), va_P D vwCl (wC G (sB u 403 (vp_updL (gB u 403) i.toNatClampNeg x))) H1 → va_D A (wC G (sB u 403 (vp_updL (gB u 403) i.toNatClampNeg x))) → va_S A H0 H1 locs1 → W p l e R s m args below meth c H1 locs1 cells slots Q (F0 m (pc + 1) ls rest)) : W p l e R s m args below meth c H locs cells slots Q (F0 m pc ls (.long x :: .int i :: .ref (G.1 15) :: rest)) := va_last E.1 E.2.1 E.2.2.2.2 hP hD hS 15 6 rfl rfl hin hd (fun H1 l1 a b d => kk H1 l1 a (wC_D hD) d)
theorem zC_403 (E : Ev D (tyC G) p s m c cc own args) (hP : va_P D vwCl (wC G u) H) (hd : decode cc pc = .ok (.arraylength, 1)) (kk : W p l e R s m args below meth c H locs cells slots Q (F0 m (pc + 1) ls (.int (Int32.ofNat 2) :: rest))) : W p l e R s m args below meth c H locs cells slots Q (F0 m pc ls (.ref (G.1 15) :: rest)) := va_alen E.1 E.2.1 E.2.2.2.2 hP 15 6 rfl rfl rfl hd kk
theorem xC_504 (E : Ev D (tyC G) p s m c cc own args) (hP : va_P D vwCl (wC G u) H) {i : Int32} (hin : vp_in i 2000) {v : Int64} (hv : gB u 504 i.toNatClampNeg = v) (hd : decode cc pc = .ok (.laload, 1)) (kk : W p l e R s m args below meth c H locs cells slots Q (F0 m (pc + 1) ls (.long v :: rest))) : W p l e R s m args below meth c H locs cells slots Q (F0 m pc ls (.int i :: .ref (G.1 16) :: rest)) := by subst hv; exact va_lald E.1 E.2.1 E.2.2.2.2 hP 16 7 rfl rfl hin hd kk
theorem yC_504 (E : Ev D (tyC G) p s m c cc own args) (hP : va_P D vwCl (wC G u) H) (hD : va_D A (wC G u)) (hS : va_S A H0 H locs) {i : Int32} {x : Int64} (hin : vp_in i 2000) (hd : decode cc pc = .ok (.lastore, 1)) (kk : ∀ (H1 : Heap) (locs1 : List Loc), va_P D vwCl (wC G (sB u 504 (vp_updL (gB u 504) i.toNatClampNeg x))) H1 → va_D A (wC G (sB u 504 (vp_updL (gB u 504) i.toNatClampNeg x))) → va_S A H0 H1 locs1 → W p l e R s m args below meth c H1 locs1 cells slots Q (F0 m (pc + 1) ls rest)) : W p l e R s m args below meth c H locs cells slots Q (F0 m pc ls (.long x :: .int i :: .ref (G.1 16) :: rest)) := va_last E.1 E.2.1 E.2.2.2.2 hP hD hS 16 7 rfl rfl hin hd (fun H1 l1 a b d => kk H1 l1 a (wC_D hD) d)
theorem zC_504 (E : Ev D (tyC G) p s m c cc own args) (hP : va_P D vwCl (wC G u) H) (hd : decode cc pc = .ok (.arraylength, 1)) (kk : W p l e R s m args below meth c H locs cells slots Q (F0 m (pc + 1) ls (.int (Int32.ofNat 2000) :: rest))) : W p l e R s m args below meth c H locs cells slots Q (F0 m pc ls (.ref (G.1 16) :: rest)) := va_alen E.1 E.2.1 E.2.2.2.2 hP 16 7 rfl rfl rfl hd kk
theorem xC_505 (E : Ev D (tyC G) p s m c cc own args) (hP : va_P D vwCl (wC G u) H) {i : Int32} (hin : vp_in i 60) {v : Int32} (hv : gA u 505 i.toNatClampNeg = v) (hd : decode cc pc = .ok (.iaload, 1)) (kk : W p l e R s m args below meth c H locs cells slots Q (F0 m (pc + 1) ls (.int v :: rest))) : W p l e R s m args below meth c H locs cells slots Q (F0 m pc ls (.int i :: .ref (G.1 17) :: rest)) := by subst hv; exact va_iald E.1 E.2.1 E.2.2.2.2 hP 17 8 rfl rfl hin hd kk
theorem yC_505 (E : Ev D (tyC G) p s m c cc own args) (hP : va_P D vwCl (wC G u) H) (hD : va_D A (wC G u)) (hS : va_S A H0 H locs) {i : Int32} {x : Int32} (hin : vp_in i 60) (hd : decode cc pc = .ok (.iastore, 1)) (kk : ∀ (H1 : Heap) (locs1 : List Loc), va_P D vwCl (wC G (sA u 505 (upd (gA u 505) i.toNatClampNeg x))) H1 → va_D A (wC G (sA u 505 (upd (gA u 505) i.toNatClampNeg x))) → va_S A H0 H1 locs1 → W p l e R s m args below meth c H1 locs1 cells slots Q (F0 m (pc + 1) ls rest)) : W p l e R s m args below meth c H locs cells slots Q (F0 m pc ls (.int x :: .int i :: .ref (G.1 17) :: rest)) := va_iast E.1 E.2.1 E.2.2.2.2 hP hD hS 17 8 rfl rfl hin hd (fun H1 l1 a b d => kk H1 l1 a (wC_D hD) d)
theorem zC_505 (E : Ev D (tyC G) p s m c cc own args) (hP : va_P D vwCl (wC G u) H) (hd : decode cc pc = .ok (.arraylength, 1)) (kk : W p l e R s m args below meth c H locs cells slots Q (F0 m (pc + 1) ls (.int (Int32.ofNat 60) :: rest))) : W p l e R s m args below meth c H locs cells slots Q (F0 m pc ls (.ref (G.1 17) :: rest)) := va_alen E.1 E.2.1 E.2.2.2.2 hP 17 8 rfl rfl rfl hd kk
theorem xC_506 (E : Ev D (tyC G) p s m c cc own args) (hP : va_P D vwCl (wC G u) H) {i : Int32} (hin : vp_in i 60) {v : Int64} (hv : gB u 506 i.toNatClampNeg = v) (hd : decode cc pc = .ok (.laload, 1)) (kk : W p l e R s m args below meth c H locs cells slots Q (F0 m (pc + 1) ls (.long v :: rest))) : W p l e R s m args below meth c H locs cells slots Q (F0 m pc ls (.int i :: .ref (G.1 18) :: rest)) := by subst hv; exact va_lald E.1 E.2.1 E.2.2.2.2 hP 18 9 rfl rfl hin hd kk
theorem yC_506 (E : Ev D (tyC G) p s m c cc own args) (hP : va_P D vwCl (wC G u) H) (hD : va_D A (wC G u)) (hS : va_S A H0 H locs) {i : Int32} {x : Int64} (hin : vp_in i 60) (hd : decode cc pc = .ok (.lastore, 1)) (kk : ∀ (H1 : Heap) (locs1 : List Loc), va_P D vwCl (wC G (sB u 506 (vp_updL (gB u 506) i.toNatClampNeg x))) H1 → va_D A (wC G (sB u 506 (vp_updL (gB u 506) i.toNatClampNeg x))) → va_S A H0 H1 locs1 → W p l e R s m args below meth c H1 locs1 cells slots Q (F0 m (pc + 1) ls rest)) : W p l e R s m args below meth c H locs cells slots Q (F0 m pc ls (.long x :: .int i :: .ref (G.1 18) :: rest)) := va_last E.1 E.2.1 E.2.2.2.2 hP hD hS 18 9 rfl rfl hin hd (fun H1 l1 a b d => kk H1 l1 a (wC_D hD) d)
theorem zC_506 (E : Ev D (tyC G) p s m c cc own args) (hP : va_P D vwCl (wC G u) H) (hd : decode cc pc = .ok (.arraylength, 1)) (kk : W p l e R s m args below meth c H locs cells slots Q (F0 m (pc + 1) ls (.int (Int32.ofNat 60) :: rest))) : W p l e R s m args below meth c H locs cells slots Q (F0 m pc ls (.ref (G.1 18) :: rest)) := va_alen E.1 E.2.1 E.2.2.2.2 hP 18 9 rfl rfl rfl hd kk
theorem xC_507 (E : Ev D (tyC G) p s m c cc own args) (hP : va_P D vwCl (wC G u) H) {i : Int32} (hin : vp_in i 60) {v : Int64} (hv : gB u 507 i.toNatClampNeg = v) (hd : decode cc pc = .ok (.laload, 1)) (kk : W p l e R s m args below meth c H locs cells slots Q (F0 m (pc + 1) ls (.long v :: rest))) : W p l e R s m args below meth c H locs cells slots Q (F0 m pc ls (.int i :: .ref (G.1 19) :: rest)) := by subst hv; exact va_lald E.1 E.2.1 E.2.2.2.2 hP 19 10 rfl rfl hin hd kk
theorem yC_507 (E : Ev D (tyC G) p s m c cc own args) (hP : va_P D vwCl (wC G u) H) (hD : va_D A (wC G u)) (hS : va_S A H0 H locs) {i : Int32} {x : Int64} (hin : vp_in i 60) (hd : decode cc pc = .ok (.lastore, 1)) (kk : ∀ (H1 : Heap) (locs1 : List Loc), va_P D vwCl (wC G (sB u 507 (vp_updL (gB u 507) i.toNatClampNeg x))) H1 → va_D A (wC G (sB u 507 (vp_updL (gB u 507) i.toNatClampNeg x))) → va_S A H0 H1 locs1 → W p l e R s m args below meth c H1 locs1 cells slots Q (F0 m (pc + 1) ls rest)) : W p l e R s m args below meth c H locs cells slots Q (F0 m pc ls (.long x :: .int i :: .ref (G.1 19) :: rest)) := va_last E.1 E.2.1 E.2.2.2.2 hP hD hS 19 10 rfl rfl hin hd (fun H1 l1 a b d => kk H1 l1 a (wC_D hD) d)
theorem zC_507 (E : Ev D (tyC G) p s m c cc own args) (hP : va_P D vwCl (wC G u) H) (hd : decode cc pc = .ok (.arraylength, 1)) (kk : W p l e R s m args below meth c H locs cells slots Q (F0 m (pc + 1) ls (.int (Int32.ofNat 60) :: rest))) : W p l e R s m args below meth c H locs cells slots Q (F0 m pc ls (.ref (G.1 19) :: rest)) := va_alen E.1 E.2.1 E.2.2.2.2 hP 19 10 rfl rfl rfl hd kk
theorem xC_508 (E : Ev D (tyC G) p s m c cc own args) (hP : va_P D vwCl (wC G u) H) {i : Int32} (hin : vp_in i 0) {v : Int64} (hv : gB u 508 i.toNatClampNeg = v) (hd : decode cc pc = .ok (.laload, 1)) (kk : W p l e R s m args below meth c H locs cells slots Q (F0 m (pc + 1) ls (.long v :: rest))) : W p l e R s m args below meth c H locs cells slots Q (F0 m pc ls (.int i :: .ref (G.1 20) :: rest)) := by subst hv; exact va_lald E.1 E.2.1 E.2.2.2.2 hP 20 11 rfl rfl hin hd kk
theorem yC_508 (E : Ev D (tyC G) p s m c cc own args) (hP : va_P D vwCl (wC G u) H) (hD : va_D A (wC G u)) (hS : va_S A H0 H locs) {i : Int32} {x : Int64} (hin : vp_in i 0) (hd : decode cc pc = .ok (.lastore, 1)) (kk : ∀ (H1 : Heap) (locs1 : List Loc), va_P D vwCl (wC G (sB u 508 (vp_updL (gB u 508) i.toNatClampNeg x))) H1 → va_D A (wC G (sB u 508 (vp_updL (gB u 508) i.toNatClampNeg x))) → va_S A H0 H1 locs1 → W p l e R s m args below meth c H1 locs1 cells slots Q (F0 m (pc + 1) ls rest)) : W p l e R s m args below meth c H locs cells slots Q (F0 m pc ls (.long x :: .int i :: .ref (G.1 20) :: rest)) := va_last E.1 E.2.1 E.2.2.2.2 hP hD hS 20 11 rfl rfl hin hd (fun H1 l1 a b d => kk H1 l1 a (wC_D hD) d)
theorem zC_508 (E : Ev D (tyC G) p s m c cc own args) (hP : va_P D vwCl (wC G u) H) (hd : decode cc pc = .ok (.arraylength, 1)) (kk : W p l e R s m args below meth c H locs cells slots Q (F0 m (pc + 1) ls (.int (Int32.ofNat 0) :: rest))) : W p l e R s m args below meth c H locs cells slots Q (F0 m pc ls (.ref (G.1 20) :: rest)) := va_alen E.1 E.2.1 E.2.2.2.2 hP 20 11 rfl rfl rfl hd kk
theorem xC_605 (E : Ev D (tyC G) p s m c cc own args) (hP : va_P D vwCl (wC G u) H) {i : Int32} (hin : vp_in i 8) {v : Int64} (hv : gB u 605 i.toNatClampNeg = v) (hd : decode cc pc = .ok (.laload, 1)) (kk : W p l e R s m args below meth c H locs cells slots Q (F0 m (pc + 1) ls (.long v :: rest))) : W p l e R s m args below meth c H locs cells slots Q (F0 m pc ls (.int i :: .ref (G.1 21) :: rest)) := by subst hv; exact va_lald E.1 E.2.1 E.2.2.2.2 hP 21 12 rfl rfl hin hd kk
theorem yC_605 (E : Ev D (tyC G) p s m c cc own args) (hP : va_P D vwCl (wC G u) H) (hD : va_D A (wC G u)) (hS : va_S A H0 H locs) {i : Int32} {x : Int64} (hin : vp_in i 8) (hd : decode cc pc = .ok (.lastore, 1)) (kk : ∀ (H1 : Heap) (locs1 : List Loc), va_P D vwCl (wC G (sB u 605 (vp_updL (gB u 605) i.toNatClampNeg x))) H1 → va_D A (wC G (sB u 605 (vp_updL (gB u 605) i.toNatClampNeg x))) → va_S A H0 H1 locs1 → W p l e R s m args below meth c H1 locs1 cells slots Q (F0 m (pc + 1) ls rest)) : W p l e R s m args below meth c H locs cells slots Q (F0 m pc ls (.long x :: .int i :: .ref (G.1 21) :: rest)) := va_last E.1 E.2.1 E.2.2.2.2 hP hD hS 21 12 rfl rfl hin hd (fun H1 l1 a b d => kk H1 l1 a (wC_D hD) d)
theorem zC_605 (E : Ev D (tyC G) p s m c cc own args) (hP : va_P D vwCl (wC G u) H) (hd : decode cc pc = .ok (.arraylength, 1)) (kk : W p l e R s m args below meth c H locs cells slots Q (F0 m (pc + 1) ls (.int (Int32.ofNat 8) :: rest))) : W p l e R s m args below meth c H locs cells slots Q (F0 m pc ls (.ref (G.1 21) :: rest)) := va_alen E.1 E.2.1 E.2.2.2.2 hP 21 12 rfl rfl rfl hd kk
theorem xC_702 (E : Ev D (tyC G) p s m c cc own args) (hP : va_P D vwCl (wC G u) H) {i : Int32} (hin : vp_in i 400) {v : Int32} (hv : gA u 702 i.toNatClampNeg = v) (hd : decode cc pc = .ok (.caload, 1)) (kk : W p l e R s m args below meth c H locs cells slots Q (F0 m (pc + 1) ls (.int v :: rest))) : W p l e R s m args below meth c H locs cells slots Q (F0 m pc ls (.int i :: .ref (G.1 22) :: rest)) := by subst hv; exact va_cald E.1 E.2.1 E.2.2.2.2 hP 22 13 rfl rfl hin hd kk
theorem yC_702 (E : Ev D (tyC G) p s m c cc own args) (hP : va_P D vwCl (wC G u) H) (hD : va_D A (wC G u)) (hS : va_S A H0 H locs) {i : Int32} {x : Int32} (hin : vp_in i 400) (hd : decode cc pc = .ok (.castore, 1)) (kk : ∀ (H1 : Heap) (locs1 : List Loc), va_P D vwCl (wC G (sA u 702 (upd (gA u 702) i.toNatClampNeg (vp_nar .char x)))) H1 → va_D A (wC G (sA u 702 (upd (gA u 702) i.toNatClampNeg (vp_nar .char x)))) → va_S A H0 H1 locs1 → W p l e R s m args below meth c H1 locs1 cells slots Q (F0 m (pc + 1) ls rest)) : W p l e R s m args below meth c H locs cells slots Q (F0 m pc ls (.int x :: .int i :: .ref (G.1 22) :: rest)) := va_cast E.1 E.2.1 E.2.2.2.2 hP hD hS 22 13 rfl rfl hin hd (fun H1 l1 a b d => kk H1 l1 a (wC_D hD) d)
theorem zC_702 (E : Ev D (tyC G) p s m c cc own args) (hP : va_P D vwCl (wC G u) H) (hd : decode cc pc = .ok (.arraylength, 1)) (kk : W p l e R s m args below meth c H locs cells slots Q (F0 m (pc + 1) ls (.int (Int32.ofNat 400) :: rest))) : W p l e R s m args below meth c H locs cells slots Q (F0 m pc ls (.ref (G.1 22) :: rest)) := va_alen E.1 E.2.1 E.2.2.2.2 hP 22 13 rfl rfl rfl hd kk
theorem xC_703 (E : Ev D (tyC G) p s m c cc own args) (hP : va_P D vwCl (wC G u) H) {i : Int32} (hin : vp_in i 400) {v : Int64} (hv : gB u 703 i.toNatClampNeg = v) (hd : decode cc pc = .ok (.laload, 1)) (kk : W p l e R s m args below meth c H locs cells slots Q (F0 m (pc + 1) ls (.long v :: rest))) : W p l e R s m args below meth c H locs cells slots Q (F0 m pc ls (.int i :: .ref (G.1 23) :: rest)) := by subst hv; exact va_lald E.1 E.2.1 E.2.2.2.2 hP 23 14 rfl rfl hin hd kk
theorem yC_703 (E : Ev D (tyC G) p s m c cc own args) (hP : va_P D vwCl (wC G u) H) (hD : va_D A (wC G u)) (hS : va_S A H0 H locs) {i : Int32} {x : Int64} (hin : vp_in i 400) (hd : decode cc pc = .ok (.lastore, 1)) (kk : ∀ (H1 : Heap) (locs1 : List Loc), va_P D vwCl (wC G (sB u 703 (vp_updL (gB u 703) i.toNatClampNeg x))) H1 → va_D A (wC G (sB u 703 (vp_updL (gB u 703) i.toNatClampNeg x))) → va_S A H0 H1 locs1 → W p l e R s m args below meth c H1 locs1 cells slots Q (F0 m (pc + 1) ls rest)) : W p l e R s m args below meth c H locs cells slots Q (F0 m pc ls (.long x :: .int i :: .ref (G.1 23) :: rest)) := va_last E.1 E.2.1 E.2.2.2.2 hP hD hS 23 14 rfl rfl hin hd (fun H1 l1 a b d => kk H1 l1 a (wC_D hD) d)
theorem zC_703 (E : Ev D (tyC G) p s m c cc own args) (hP : va_P D vwCl (wC G u) H) (hd : decode cc pc = .ok (.arraylength, 1)) (kk : W p l e R s m args below meth c H locs cells slots Q (F0 m (pc + 1) ls (.int (Int32.ofNat 400) :: rest))) : W p l e R s m args below meth c H locs cells slots Q (F0 m pc ls (.ref (G.1 23) :: rest)) := va_alen E.1 E.2.1 E.2.2.2.2 hP 23 14 rfl rfl rfl hd kk
theorem xC_704 (E : Ev D (tyC G) p s m c cc own args) (hP : va_P D vwCl (wC G u) H) {i : Int32} (hin : vp_in i 12) {v : Int32} (hv : gA u 704 i.toNatClampNeg = v) (hd : decode cc pc = .ok (.caload, 1)) (kk : W p l e R s m args below meth c H locs cells slots Q (F0 m (pc + 1) ls (.int v :: rest))) : W p l e R s m args below meth c H locs cells slots Q (F0 m pc ls (.int i :: .ref (G.1 24) :: rest)) := by subst hv; exact va_cald E.1 E.2.1 E.2.2.2.2 hP 24 15 rfl rfl hin hd kk
theorem yC_704 (E : Ev D (tyC G) p s m c cc own args) (hP : va_P D vwCl (wC G u) H) (hD : va_D A (wC G u)) (hS : va_S A H0 H locs) {i : Int32} {x : Int32} (hin : vp_in i 12) (hd : decode cc pc = .ok (.castore, 1)) (kk : ∀ (H1 : Heap) (locs1 : List Loc), va_P D vwCl (wC G (sA u 704 (upd (gA u 704) i.toNatClampNeg (vp_nar .char x)))) H1 → va_D A (wC G (sA u 704 (upd (gA u 704) i.toNatClampNeg (vp_nar .char x)))) → va_S A H0 H1 locs1 → W p l e R s m args below meth c H1 locs1 cells slots Q (F0 m (pc + 1) ls rest)) : W p l e R s m args below meth c H locs cells slots Q (F0 m pc ls (.int x :: .int i :: .ref (G.1 24) :: rest)) := va_cast E.1 E.2.1 E.2.2.2.2 hP hD hS 24 15 rfl rfl hin hd (fun H1 l1 a b d => kk H1 l1 a (wC_D hD) d)
theorem zC_704 (E : Ev D (tyC G) p s m c cc own args) (hP : va_P D vwCl (wC G u) H) (hd : decode cc pc = .ok (.arraylength, 1)) (kk : W p l e R s m args below meth c H locs cells slots Q (F0 m (pc + 1) ls (.int (Int32.ofNat 12) :: rest))) : W p l e R s m args below meth c H locs cells slots Q (F0 m pc ls (.ref (G.1 24) :: rest)) := va_alen E.1 E.2.1 E.2.2.2.2 hP 24 15 rfl rfl rfl hd kk
theorem xC_800 (E : Ev D (tyC G) p s m c cc own args) (hP : va_P D vwCl (wC G u) H) {i : Int32} (hin : vp_in i (G.2.1 800)) {v : Int64} (hv : gB u 800 i.toNatClampNeg = v) (hd : decode cc pc = .ok (.laload, 1)) (kk : W p l e R s m args below meth c H locs cells slots Q (F0 m (pc + 1) ls (.long v :: rest))) : W p l e R s m args below meth c H locs cells slots Q (F0 m pc ls (.int i :: .ref (G.1 25) :: rest)) := by subst hv; exact va_lald E.1 E.2.1 E.2.2.2.2 hP 25 16 rfl rfl hin hd kk
theorem yC_800 (E : Ev D (tyC G) p s m c cc own args) (hP : va_P D vwCl (wC G u) H) (hD : va_D A (wC G u)) (hS : va_S A H0 H locs) {i : Int32} {x : Int64} (hin : vp_in i (G.2.1 800)) (hd : decode cc pc = .ok (.lastore, 1)) (kk : ∀ (H1 : Heap) (locs1 : List Loc), va_P D vwCl (wC G (sB u 800 (vp_updL (gB u 800) i.toNatClampNeg x))) H1 → va_D A (wC G (sB u 800 (vp_updL (gB u 800) i.toNatClampNeg x))) → va_S A H0 H1 locs1 → W p l e R s m args below meth c H1 locs1 cells slots Q (F0 m (pc + 1) ls rest)) : W p l e R s m args below meth c H locs cells slots Q (F0 m pc ls (.long x :: .int i :: .ref (G.1 25) :: rest)) := va_last E.1 E.2.1 E.2.2.2.2 hP hD hS 25 16 rfl rfl hin hd (fun H1 l1 a b d => kk H1 l1 a (wC_D hD) d)
theorem zC_800 (E : Ev D (tyC G) p s m c cc own args) (hP : va_P D vwCl (wC G u) H) (hd : decode cc pc = .ok (.arraylength, 1)) (kk : W p l e R s m args below meth c H locs cells slots Q (F0 m (pc + 1) ls (.int (Int32.ofNat (G.2.1 800)) :: rest))) : W p l e R s m args below meth c H locs cells slots Q (F0 m pc ls (.ref (G.1 25) :: rest)) := va_alen E.1 E.2.1 E.2.2.2.2 hP 25 16 rfl rfl rfl hd kk
theorem xC_801 (E : Ev D (tyC G) p s m c cc own args) (hP : va_P D vwCl (wC G u) H) {i : Int32} (hin : vp_in i (G.2.1 801)) {v : Int64} (hv : gB u 801 i.toNatClampNeg = v) (hd : decode cc pc = .ok (.laload, 1)) (kk : W p l e R s m args below meth c H locs cells slots Q (F0 m (pc + 1) ls (.long v :: rest))) : W p l e R s m args below meth c H locs cells slots Q (F0 m pc ls (.int i :: .ref (G.1 26) :: rest)) := by subst hv; exact va_lald E.1 E.2.1 E.2.2.2.2 hP 26 17 rfl rfl hin hd kk
theorem yC_801 (E : Ev D (tyC G) p s m c cc own args) (hP : va_P D vwCl (wC G u) H) (hD : va_D A (wC G u)) (hS : va_S A H0 H locs) {i : Int32} {x : Int64} (hin : vp_in i (G.2.1 801)) (hd : decode cc pc = .ok (.lastore, 1)) (kk : ∀ (H1 : Heap) (locs1 : List Loc), va_P D vwCl (wC G (sB u 801 (vp_updL (gB u 801) i.toNatClampNeg x))) H1 → va_D A (wC G (sB u 801 (vp_updL (gB u 801) i.toNatClampNeg x))) → va_S A H0 H1 locs1 → W p l e R s m args below meth c H1 locs1 cells slots Q (F0 m (pc + 1) ls rest)) : W p l e R s m args below meth c H locs cells slots Q (F0 m pc ls (.long x :: .int i :: .ref (G.1 26) :: rest)) := va_last E.1 E.2.1 E.2.2.2.2 hP hD hS 26 17 rfl rfl hin hd (fun H1 l1 a b d => kk H1 l1 a (wC_D hD) d)
theorem zC_801 (E : Ev D (tyC G) p s m c cc own args) (hP : va_P D vwCl (wC G u) H) (hd : decode cc pc = .ok (.arraylength, 1)) (kk : W p l e R s m args below meth c H locs cells slots Q (F0 m (pc + 1) ls (.int (Int32.ofNat (G.2.1 801)) :: rest))) : W p l e R s m args below meth c H locs cells slots Q (F0 m pc ls (.ref (G.1 26) :: rest)) := va_alen E.1 E.2.1 E.2.2.2.2 hP 26 17 rfl rfl rfl hd kk
theorem xC_802 (E : Ev D (tyC G) p s m c cc own args) (hP : va_P D vwCl (wC G u) H) {i : Int32} (hin : vp_in i (G.2.1 802)) {v : Int32} (hv : gA u 802 i.toNatClampNeg = v) (hd : decode cc pc = .ok (.iaload, 1)) (kk : W p l e R s m args below meth c H locs cells slots Q (F0 m (pc + 1) ls (.int v :: rest))) : W p l e R s m args below meth c H locs cells slots Q (F0 m pc ls (.int i :: .ref (G.1 27) :: rest)) := by subst hv; exact va_iald E.1 E.2.1 E.2.2.2.2 hP 27 18 rfl rfl hin hd kk
theorem yC_802 (E : Ev D (tyC G) p s m c cc own args) (hP : va_P D vwCl (wC G u) H) (hD : va_D A (wC G u)) (hS : va_S A H0 H locs) {i : Int32} {x : Int32} (hin : vp_in i (G.2.1 802)) (hd : decode cc pc = .ok (.iastore, 1)) (kk : ∀ (H1 : Heap) (locs1 : List Loc), va_P D vwCl (wC G (sA u 802 (upd (gA u 802) i.toNatClampNeg x))) H1 → va_D A (wC G (sA u 802 (upd (gA u 802) i.toNatClampNeg x))) → va_S A H0 H1 locs1 → W p l e R s m args below meth c H1 locs1 cells slots Q (F0 m (pc + 1) ls rest)) : W p l e R s m args below meth c H locs cells slots Q (F0 m pc ls (.int x :: .int i :: .ref (G.1 27) :: rest)) := va_iast E.1 E.2.1 E.2.2.2.2 hP hD hS 27 18 rfl rfl hin hd (fun H1 l1 a b d => kk H1 l1 a (wC_D hD) d)
theorem zC_802 (E : Ev D (tyC G) p s m c cc own args) (hP : va_P D vwCl (wC G u) H) (hd : decode cc pc = .ok (.arraylength, 1)) (kk : W p l e R s m args below meth c H locs cells slots Q (F0 m (pc + 1) ls (.int (Int32.ofNat (G.2.1 802)) :: rest))) : W p l e R s m args below meth c H locs cells slots Q (F0 m pc ls (.ref (G.1 27) :: rest)) := va_alen E.1 E.2.1 E.2.2.2.2 hP 27 18 rfl rfl rfl hd kk
theorem xC_803 (E : Ev D (tyC G) p s m c cc own args) (hP : va_P D vwCl (wC G u) H) {i : Int32} (hin : vp_in i (G.2.1 803)) {v : Int64} (hv : gB u 803 i.toNatClampNeg = v) (hd : decode cc pc = .ok (.laload, 1)) (kk : W p l e R s m args below meth c H locs cells slots Q (F0 m (pc + 1) ls (.long v :: rest))) : W p l e R s m args below meth c H locs cells slots Q (F0 m pc ls (.int i :: .ref (G.1 28) :: rest)) := by subst hv; exact va_lald E.1 E.2.1 E.2.2.2.2 hP 28 19 rfl rfl hin hd kk
theorem yC_803 (E : Ev D (tyC G) p s m c cc own args) (hP : va_P D vwCl (wC G u) H) (hD : va_D A (wC G u)) (hS : va_S A H0 H locs) {i : Int32} {x : Int64} (hin : vp_in i (G.2.1 803)) (hd : decode cc pc = .ok (.lastore, 1)) (kk : ∀ (H1 : Heap) (locs1 : List Loc), va_P D vwCl (wC G (sB u 803 (vp_updL (gB u 803) i.toNatClampNeg x))) H1 → va_D A (wC G (sB u 803 (vp_updL (gB u 803) i.toNatClampNeg x))) → va_S A H0 H1 locs1 → W p l e R s m args below meth c H1 locs1 cells slots Q (F0 m (pc + 1) ls rest)) : W p l e R s m args below meth c H locs cells slots Q (F0 m pc ls (.long x :: .int i :: .ref (G.1 28) :: rest)) := va_last E.1 E.2.1 E.2.2.2.2 hP hD hS 28 19 rfl rfl hin hd (fun H1 l1 a b d => kk H1 l1 a (wC_D hD) d)
theorem zC_803 (E : Ev D (tyC G) p s m c cc own args) (hP : va_P D vwCl (wC G u) H) (hd : decode cc pc = .ok (.arraylength, 1)) (kk : W p l e R s m args below meth c H locs cells slots Q (F0 m (pc + 1) ls (.int (Int32.ofNat (G.2.1 803)) :: rest))) : W p l e R s m args below meth c H locs cells slots Q (F0 m pc ls (.ref (G.1 28) :: rest)) := va_alen E.1 E.2.1 E.2.2.2.2 hP 28 19 rfl rfl rfl hd kk
theorem xC_804 (E : Ev D (tyC G) p s m c cc own args) (hP : va_P D vwCl (wC G u) H) {i : Int32} (hin : vp_in i (G.2.1 804)) {v : Int32} (hv : gA u 804 i.toNatClampNeg = v) (hd : decode cc pc = .ok (.iaload, 1)) (kk : W p l e R s m args below meth c H locs cells slots Q (F0 m (pc + 1) ls (.int v :: rest))) : W p l e R s m args below meth c H locs cells slots Q (F0 m pc ls (.int i :: .ref (G.1 29) :: rest)) := by subst hv; exact va_iald E.1 E.2.1 E.2.2.2.2 hP 29 20 rfl rfl hin hd kk
theorem yC_804 (E : Ev D (tyC G) p s m c cc own args) (hP : va_P D vwCl (wC G u) H) (hD : va_D A (wC G u)) (hS : va_S A H0 H locs) {i : Int32} {x : Int32} (hin : vp_in i (G.2.1 804)) (hd : decode cc pc = .ok (.iastore, 1)) (kk : ∀ (H1 : Heap) (locs1 : List Loc), va_P D vwCl (wC G (sA u 804 (upd (gA u 804) i.toNatClampNeg x))) H1 → va_D A (wC G (sA u 804 (upd (gA u 804) i.toNatClampNeg x))) → va_S A H0 H1 locs1 → W p l e R s m args below meth c H1 locs1 cells slots Q (F0 m (pc + 1) ls rest)) : W p l e R s m args below meth c H locs cells slots Q (F0 m pc ls (.int x :: .int i :: .ref (G.1 29) :: rest)) := va_iast E.1 E.2.1 E.2.2.2.2 hP hD hS 29 20 rfl rfl hin hd (fun H1 l1 a b d => kk H1 l1 a (wC_D hD) d)
theorem zC_804 (E : Ev D (tyC G) p s m c cc own args) (hP : va_P D vwCl (wC G u) H) (hd : decode cc pc = .ok (.arraylength, 1)) (kk : W p l e R s m args below meth c H locs cells slots Q (F0 m (pc + 1) ls (.int (Int32.ofNat (G.2.1 804)) :: rest))) : W p l e R s m args below meth c H locs cells slots Q (F0 m pc ls (.ref (G.1 29) :: rest)) := va_alen E.1 E.2.1 E.2.2.2.2 hP 29 20 rfl rfl rfl hd kk
end
end
section
section
variable {p : Program} {l : Launch} {e : Env} {R : Room} {s : State} {m : MethodId} {args : Array Value} {below : List Frame} {meth : Method} {c : Code} {H H0 : Heap} {locs : List Loc} {cells slots : Nat} {Q : State → Prop} {D : va_G} {A : Nat → Prop} {cc : ByteArray} {own : String} {pc : Nat} {ls : Array Slot} {rest : List Value} {G : Gd} {u : St} {tys : List (ClassId × FieldType)}
theorem gR_0 (E : Ev D (tyR G) p s m c cc own args) (hP : va_P D vwCl (wR G u) H) {ix : Nat} (hl : Cond.fieldLink own ix "ConsHouseModel" "thrownCode" "I" ∈ WS) {v : Int32} (hv : gI u 0 = v) (hd : decode cc pc = .ok (.getfield ix, 3)) (kk : W p l e R s m args below meth c H locs cells slots Q (F0 m (pc + 3) ls (.int v :: rest))) : W p l e R s m args below meth c H locs cells slots Q (F0 m pc ls (.ref (G.1 0) :: rest)) := by subst hv; exact va_get (D := D) (ci := 9) (C := RX10) (T := TX10) (N := 44) E.1 E.2.1 E.2.2.2.1 kl_X10 E.2.2.1 E.2.2.2.2 hP 0 rfl rfl 0 (by decide) (E.2.2.2.1 _ hl) (fun _ h => h) rfl hd kk
theorem pR_0 (E : Ev D (tyR G) p s m c cc own args) (hP : va_P D vwCl (wR G u) H) (hD : va_D A (wR G u)) (hS : va_S A H0 H locs) {ix : Nat} (hl : Cond.fieldLink own ix "ConsHouseModel" "thrownCode" "I" ∈ WS) {v : Int32} (hd : decode cc pc = .ok (.putfield ix, 3)) (kk : ∀ (H1 : Heap) (locs1 : List Loc), va_P D vwCl (wR G (sI u 0 v)) H1 → va_D A (wR G (sI u 0 v)) → va_S A H0 H1 locs1 → W p l e R s m args below meth c H1 locs1 cells slots Q (F0 m (pc + 3) ls rest)) : W p l e R s m args below meth c H locs cells slots Q (F0 m pc ls (.int v :: .ref (G.1 0) :: rest)) := va_put (D := D) (ci := 9) (C := RX10) (T := TX10) (N := 44) (v := .int v) (ty := .int) E.1 E.2.1 E.2.2.2.1 kl_X10 tyX10 tyX10_ok nmX10 E.2.2.1 E.2.2.2.2 hP hD hS 0 rfl rfl 0 (by decide) (E.2.2.2.1 _ hl) (fun _ h => h) rfl (by decide +kernel) rfl rfl (Nat.le_of_ble_eq_true rfl) hd (fun H1 l1 a b d => kk H1 l1 a (wR_D hD) d)
theorem gR_1 (E : Ev D (tyR G) p s m c cc own args) (hP : va_P D vwCl (wR G u) H) {ix : Nat} (hl : Cond.fieldLink own ix "ConsHouseModel" "cells" "I" ∈ WS) {v : Int32} (hv : gI u 1 = v) (hd : decode cc pc = .ok (.getfield ix, 3)) (kk : W p l e R s m args below meth c H locs cells slots Q (F0 m (pc + 3) ls (.int v :: rest))) : W p l e R s m args below meth c H locs cells slots Q (F0 m pc ls (.ref (G.1 0) :: rest)) := by subst hv; exact va_get (D := D) (ci := 9) (C := RX10) (T := TX10) (N := 44) E.1 E.2.1 E.2.2.2.1 kl_X10 E.2.2.1 E.2.2.2.2 hP 0 rfl rfl 1 (by decide) (E.2.2.2.1 _ hl) (fun _ h => h) rfl hd kk
theorem pR_1 (E : Ev D (tyR G) p s m c cc own args) (hP : va_P D vwCl (wR G u) H) (hD : va_D A (wR G u)) (hS : va_S A H0 H locs) {ix : Nat} (hl : Cond.fieldLink own ix "ConsHouseModel" "cells" "I" ∈ WS) {v : Int32} (hd : decode cc pc = .ok (.putfield ix, 3)) (kk : ∀ (H1 : Heap) (locs1 : List Loc), va_P D vwCl (wR G (sI u 1 v)) H1 → va_D A (wR G (sI u 1 v)) → va_S A H0 H1 locs1 → W p l e R s m args below meth c H1 locs1 cells slots Q (F0 m (pc + 3) ls rest)) : W p l e R s m args below meth c H locs cells slots Q (F0 m pc ls (.int v :: .ref (G.1 0) :: rest)) := va_put (D := D) (ci := 9) (C := RX10) (T := TX10) (N := 44) (v := .int v) (ty := .int) E.1 E.2.1 E.2.2.2.1 kl_X10 tyX10 tyX10_ok nmX10 E.2.2.1 E.2.2.2.2 hP hD hS 0 rfl rfl 1 (by decide) (E.2.2.2.1 _ hl) (fun _ h => h) rfl (by decide +kernel) rfl rfl (Nat.le_of_ble_eq_true rfl) hd (fun H1 l1 a b d => kk H1 l1 a (wR_D hD) d)
theorem gR_2 (E : Ev D (tyR G) p s m c cc own args) (hP : va_P D vwCl (wR G u) H) {ix : Nat} (hl : Cond.fieldLink own ix "ConsHouseModel" "tasks" "I" ∈ WS) {v : Int32} (hv : gI u 2 = v) (hd : decode cc pc = .ok (.getfield ix, 3)) (kk : W p l e R s m args below meth c H locs cells slots Q (F0 m (pc + 3) ls (.int v :: rest))) : W p l e R s m args below meth c H locs cells slots Q (F0 m pc ls (.ref (G.1 0) :: rest)) := by subst hv; exact va_get (D := D) (ci := 9) (C := RX10) (T := TX10) (N := 44) E.1 E.2.1 E.2.2.2.1 kl_X10 E.2.2.1 E.2.2.2.2 hP 0 rfl rfl 2 (by decide) (E.2.2.2.1 _ hl) (fun _ h => h) rfl hd kk
theorem pR_2 (E : Ev D (tyR G) p s m c cc own args) (hP : va_P D vwCl (wR G u) H) (hD : va_D A (wR G u)) (hS : va_S A H0 H locs) {ix : Nat} (hl : Cond.fieldLink own ix "ConsHouseModel" "tasks" "I" ∈ WS) {v : Int32} (hd : decode cc pc = .ok (.putfield ix, 3)) (kk : ∀ (H1 : Heap) (locs1 : List Loc), va_P D vwCl (wR G (sI u 2 v)) H1 → va_D A (wR G (sI u 2 v)) → va_S A H0 H1 locs1 → W p l e R s m args below meth c H1 locs1 cells slots Q (F0 m (pc + 3) ls rest)) : W p l e R s m args below meth c H locs cells slots Q (F0 m pc ls (.int v :: .ref (G.1 0) :: rest)) := va_put (D := D) (ci := 9) (C := RX10) (T := TX10) (N := 44) (v := .int v) (ty := .int) E.1 E.2.1 E.2.2.2.1 kl_X10 tyX10 tyX10_ok nmX10 E.2.2.1 E.2.2.2.2 hP hD hS 0 rfl rfl 2 (by decide) (E.2.2.2.1 _ hl) (fun _ h => h) rfl (by decide +kernel) rfl rfl (Nat.le_of_ble_eq_true rfl) hd (fun H1 l1 a b d => kk H1 l1 a (wR_D hD) d)
theorem gR_3 (E : Ev D (tyR G) p s m c cc own args) (hP : va_P D vwCl (wR G u) H) {ix : Nat} (hl : Cond.fieldLink own ix "ConsHouseModel" "stepsMost" "I" ∈ WS) {v : Int32} (hv : gI u 3 = v) (hd : decode cc pc = .ok (.getfield ix, 3)) (kk : W p l e R s m args below meth c H locs cells slots Q (F0 m (pc + 3) ls (.int v :: rest))) : W p l e R s m args below meth c H locs cells slots Q (F0 m pc ls (.ref (G.1 0) :: rest)) := by subst hv; exact va_get (D := D) (ci := 9) (C := RX10) (T := TX10) (N := 44) E.1 E.2.1 E.2.2.2.1 kl_X10 E.2.2.1 E.2.2.2.2 hP 0 rfl rfl 3 (by decide) (E.2.2.2.1 _ hl) (fun _ h => h) rfl hd kk
theorem pR_3 (E : Ev D (tyR G) p s m c cc own args) (hP : va_P D vwCl (wR G u) H) (hD : va_D A (wR G u)) (hS : va_S A H0 H locs) {ix : Nat} (hl : Cond.fieldLink own ix "ConsHouseModel" "stepsMost" "I" ∈ WS) {v : Int32} (hd : decode cc pc = .ok (.putfield ix, 3)) (kk : ∀ (H1 : Heap) (locs1 : List Loc), va_P D vwCl (wR G (sI u 3 v)) H1 → va_D A (wR G (sI u 3 v)) → va_S A H0 H1 locs1 → W p l e R s m args below meth c H1 locs1 cells slots Q (F0 m (pc + 3) ls rest)) : W p l e R s m args below meth c H locs cells slots Q (F0 m pc ls (.int v :: .ref (G.1 0) :: rest)) := va_put (D := D) (ci := 9) (C := RX10) (T := TX10) (N := 44) (v := .int v) (ty := .int) E.1 E.2.1 E.2.2.2.1 kl_X10 tyX10 tyX10_ok nmX10 E.2.2.1 E.2.2.2.2 hP hD hS 0 rfl rfl 3 (by decide) (E.2.2.2.1 _ hl) (fun _ h => h) rfl (by decide +kernel) rfl rfl (Nat.le_of_ble_eq_true rfl) hd (fun H1 l1 a b d => kk H1 l1 a (wR_D hD) d)
theorem gR_4 (E : Ev D (tyR G) p s m c cc own args) (hP : va_P D vwCl (wR G u) H) {ix : Nat} (hl : Cond.fieldLink own ix "ConsHouseModel" "text" "[I" ∈ WS) (hd : decode cc pc = .ok (.getfield ix, 3)) (kk : W p l e R s m args below meth c H locs cells slots Q (F0 m (pc + 3) ls (.ref (G.1 1) :: rest))) : W p l e R s m args below meth c H locs cells slots Q (F0 m pc ls (.ref (G.1 0) :: rest)) := by exact va_get (D := D) (ci := 9) (C := RX10) (T := TX10) (N := 44) E.1 E.2.1 E.2.2.2.1 kl_X10 E.2.2.1 E.2.2.2.2 hP 0 rfl rfl 4 (by decide) (E.2.2.2.1 _ hl) (fun _ h => h) rfl hd kk
theorem gR_5 (E : Ev D (tyR G) p s m c cc own args) (hP : va_P D vwCl (wR G u) H) {ix : Nat} (hl : Cond.fieldLink own ix "ConsHouseModel" "typed" "I" ∈ WS) {v : Int32} (hv : gI u 5 = v) (hd : decode cc pc = .ok (.getfield ix, 3)) (kk : W p l e R s m args below meth c H locs cells slots Q (F0 m (pc + 3) ls (.int v :: rest))) : W p l e R s m args below meth c H locs cells slots Q (F0 m pc ls (.ref (G.1 0) :: rest)) := by subst hv; exact va_get (D := D) (ci := 9) (C := RX10) (T := TX10) (N := 44) E.1 E.2.1 E.2.2.2.1 kl_X10 E.2.2.1 E.2.2.2.2 hP 0 rfl rfl 5 (by decide) (E.2.2.2.1 _ hl) (fun _ h => h) rfl hd kk
theorem pR_5 (E : Ev D (tyR G) p s m c cc own args) (hP : va_P D vwCl (wR G u) H) (hD : va_D A (wR G u)) (hS : va_S A H0 H locs) {ix : Nat} (hl : Cond.fieldLink own ix "ConsHouseModel" "typed" "I" ∈ WS) {v : Int32} (hd : decode cc pc = .ok (.putfield ix, 3)) (kk : ∀ (H1 : Heap) (locs1 : List Loc), va_P D vwCl (wR G (sI u 5 v)) H1 → va_D A (wR G (sI u 5 v)) → va_S A H0 H1 locs1 → W p l e R s m args below meth c H1 locs1 cells slots Q (F0 m (pc + 3) ls rest)) : W p l e R s m args below meth c H locs cells slots Q (F0 m pc ls (.int v :: .ref (G.1 0) :: rest)) := va_put (D := D) (ci := 9) (C := RX10) (T := TX10) (N := 44) (v := .int v) (ty := .int) E.1 E.2.1 E.2.2.2.1 kl_X10 tyX10 tyX10_ok nmX10 E.2.2.1 E.2.2.2.2 hP hD hS 0 rfl rfl 5 (by decide) (E.2.2.2.1 _ hl) (fun _ h => h) rfl (by decide +kernel) rfl rfl (Nat.le_of_ble_eq_true rfl) hd (fun H1 l1 a b d => kk H1 l1 a (wR_D hD) d)
theorem gR_6 (E : Ev D (tyR G) p s m c cc own args) (hP : va_P D vwCl (wR G u) H) {ix : Nat} (hl : Cond.fieldLink own ix "ConsHouseModel" "at" "I" ∈ WS) {v : Int32} (hv : gI u 6 = v) (hd : decode cc pc = .ok (.getfield ix, 3)) (kk : W p l e R s m args below meth c H locs cells slots Q (F0 m (pc + 3) ls (.int v :: rest))) : W p l e R s m args below meth c H locs cells slots Q (F0 m pc ls (.ref (G.1 0) :: rest)) := by subst hv; exact va_get (D := D) (ci := 9) (C := RX10) (T := TX10) (N := 44) E.1 E.2.1 E.2.2.2.1 kl_X10 E.2.2.1 E.2.2.2.2 hP 0 rfl rfl 6 (by decide) (E.2.2.2.1 _ hl) (fun _ h => h) rfl hd kk
theorem pR_6 (E : Ev D (tyR G) p s m c cc own args) (hP : va_P D vwCl (wR G u) H) (hD : va_D A (wR G u)) (hS : va_S A H0 H locs) {ix : Nat} (hl : Cond.fieldLink own ix "ConsHouseModel" "at" "I" ∈ WS) {v : Int32} (hd : decode cc pc = .ok (.putfield ix, 3)) (kk : ∀ (H1 : Heap) (locs1 : List Loc), va_P D vwCl (wR G (sI u 6 v)) H1 → va_D A (wR G (sI u 6 v)) → va_S A H0 H1 locs1 → W p l e R s m args below meth c H1 locs1 cells slots Q (F0 m (pc + 3) ls rest)) : W p l e R s m args below meth c H locs cells slots Q (F0 m pc ls (.int v :: .ref (G.1 0) :: rest)) := va_put (D := D) (ci := 9) (C := RX10) (T := TX10) (N := 44) (v := .int v) (ty := .int) E.1 E.2.1 E.2.2.2.1 kl_X10 tyX10 tyX10_ok nmX10 E.2.2.1 E.2.2.2.2 hP hD hS 0 rfl rfl 6 (by decide) (E.2.2.2.1 _ hl) (fun _ h => h) rfl (by decide +kernel) rfl rfl (Nat.le_of_ble_eq_true rfl) hd (fun H1 l1 a b d => kk H1 l1 a (wR_D hD) d)
theorem gR_7 (E : Ev D (tyR G) p s m c cc own args) (hP : va_P D vwCl (wR G u) H) {ix : Nat} (hl : Cond.fieldLink own ix "ConsHouseModel" "placeNow" "I" ∈ WS) {v : Int32} (hv : gI u 7 = v) (hd : decode cc pc = .ok (.getfield ix, 3)) (kk : W p l e R s m args below meth c H locs cells slots Q (F0 m (pc + 3) ls (.int v :: rest))) : W p l e R s m args below meth c H locs cells slots Q (F0 m pc ls (.ref (G.1 0) :: rest)) := by subst hv; exact va_get (D := D) (ci := 9) (C := RX10) (T := TX10) (N := 44) E.1 E.2.1 E.2.2.2.1 kl_X10 E.2.2.1 E.2.2.2.2 hP 0 rfl rfl 7 (by decide) (E.2.2.2.1 _ hl) (fun _ h => h) rfl hd kk
theorem pR_7 (E : Ev D (tyR G) p s m c cc own args) (hP : va_P D vwCl (wR G u) H) (hD : va_D A (wR G u)) (hS : va_S A H0 H locs) {ix : Nat} (hl : Cond.fieldLink own ix "ConsHouseModel" "placeNow" "I" ∈ WS) {v : Int32} (hd : decode cc pc = .ok (.putfield ix, 3)) (kk : ∀ (H1 : Heap) (locs1 : List Loc), va_P D vwCl (wR G (sI u 7 v)) H1 → va_D A (wR G (sI u 7 v)) → va_S A H0 H1 locs1 → W p l e R s m args below meth c H1 locs1 cells slots Q (F0 m (pc + 3) ls rest)) : W p l e R s m args below meth c H locs cells slots Q (F0 m pc ls (.int v :: .ref (G.1 0) :: rest)) := va_put (D := D) (ci := 9) (C := RX10) (T := TX10) (N := 44) (v := .int v) (ty := .int) E.1 E.2.1 E.2.2.2.1 kl_X10 tyX10 tyX10_ok nmX10 E.2.2.1 E.2.2.2.2 hP hD hS 0 rfl rfl 7 (by decide) (E.2.2.2.1 _ hl) (fun _ h => h) rfl (by decide +kernel) rfl rfl (Nat.le_of_ble_eq_true rfl) hd (fun H1 l1 a b d => kk H1 l1 a (wR_D hD) d)
theorem gR_8 (E : Ev D (tyR G) p s m c cc own args) (hP : va_P D vwCl (wR G u) H) {ix : Nat} (hl : Cond.fieldLink own ix "ConsHouseModel" "faultNow" "I" ∈ WS) {v : Int32} (hv : gI u 8 = v) (hd : decode cc pc = .ok (.getfield ix, 3)) (kk : W p l e R s m args below meth c H locs cells slots Q (F0 m (pc + 3) ls (.int v :: rest))) : W p l e R s m args below meth c H locs cells slots Q (F0 m pc ls (.ref (G.1 0) :: rest)) := by subst hv; exact va_get (D := D) (ci := 9) (C := RX10) (T := TX10) (N := 44) E.1 E.2.1 E.2.2.2.1 kl_X10 E.2.2.1 E.2.2.2.2 hP 0 rfl rfl 8 (by decide) (E.2.2.2.1 _ hl) (fun _ h => h) rfl hd kk
theorem pR_8 (E : Ev D (tyR G) p s m c cc own args) (hP : va_P D vwCl (wR G u) H) (hD : va_D A (wR G u)) (hS : va_S A H0 H locs) {ix : Nat} (hl : Cond.fieldLink own ix "ConsHouseModel" "faultNow" "I" ∈ WS) {v : Int32} (hd : decode cc pc = .ok (.putfield ix, 3)) (kk : ∀ (H1 : Heap) (locs1 : List Loc), va_P D vwCl (wR G (sI u 8 v)) H1 → va_D A (wR G (sI u 8 v)) → va_S A H0 H1 locs1 → W p l e R s m args below meth c H1 locs1 cells slots Q (F0 m (pc + 3) ls rest)) : W p l e R s m args below meth c H locs cells slots Q (F0 m pc ls (.int v :: .ref (G.1 0) :: rest)) := va_put (D := D) (ci := 9) (C := RX10) (T := TX10) (N := 44) (v := .int v) (ty := .int) E.1 E.2.1 E.2.2.2.1 kl_X10 tyX10 tyX10_ok nmX10 E.2.2.1 E.2.2.2.2 hP hD hS 0 rfl rfl 8 (by decide) (E.2.2.2.1 _ hl) (fun _ h => h) rfl (by decide +kernel) rfl rfl (Nat.le_of_ble_eq_true rfl) hd (fun H1 l1 a b d => kk H1 l1 a (wR_D hD) d)
theorem gR_9 (E : Ev D (tyR G) p s m c cc own args) (hP : va_P D vwCl (wR G u) H) {ix : Nat} (hl : Cond.fieldLink own ix "ConsHouseModel" "steps" "I" ∈ WS) {v : Int32} (hv : gI u 9 = v) (hd : decode cc pc = .ok (.getfield ix, 3)) (kk : W p l e R s m args below meth c H locs cells slots Q (F0 m (pc + 3) ls (.int v :: rest))) : W p l e R s m args below meth c H locs cells slots Q (F0 m pc ls (.ref (G.1 0) :: rest)) := by subst hv; exact va_get (D := D) (ci := 9) (C := RX10) (T := TX10) (N := 44) E.1 E.2.1 E.2.2.2.1 kl_X10 E.2.2.1 E.2.2.2.2 hP 0 rfl rfl 9 (by decide) (E.2.2.2.1 _ hl) (fun _ h => h) rfl hd kk
theorem pR_9 (E : Ev D (tyR G) p s m c cc own args) (hP : va_P D vwCl (wR G u) H) (hD : va_D A (wR G u)) (hS : va_S A H0 H locs) {ix : Nat} (hl : Cond.fieldLink own ix "ConsHouseModel" "steps" "I" ∈ WS) {v : Int32} (hd : decode cc pc = .ok (.putfield ix, 3)) (kk : ∀ (H1 : Heap) (locs1 : List Loc), va_P D vwCl (wR G (sI u 9 v)) H1 → va_D A (wR G (sI u 9 v)) → va_S A H0 H1 locs1 → W p l e R s m args below meth c H1 locs1 cells slots Q (F0 m (pc + 3) ls rest)) : W p l e R s m args below meth c H locs cells slots Q (F0 m pc ls (.int v :: .ref (G.1 0) :: rest)) := va_put (D := D) (ci := 9) (C := RX10) (T := TX10) (N := 44) (v := .int v) (ty := .int) E.1 E.2.1 E.2.2.2.1 kl_X10 tyX10 tyX10_ok nmX10 E.2.2.1 E.2.2.2.2 hP hD hS 0 rfl rfl 9 (by decide) (E.2.2.2.1 _ hl) (fun _ h => h) rfl (by decide +kernel) rfl rfl (Nat.le_of_ble_eq_true rfl) hd (fun H1 l1 a b d => kk H1 l1 a (wR_D hD) d)
theorem gR_10 (E : Ev D (tyR G) p s m c cc own args) (hP : va_P D vwCl (wR G u) H) {ix : Nat} (hl : Cond.fieldLink own ix "ConsHouseModel" "mostWaiting" "I" ∈ WS) {v : Int32} (hv : gI u 10 = v) (hd : decode cc pc = .ok (.getfield ix, 3)) (kk : W p l e R s m args below meth c H locs cells slots Q (F0 m (pc + 3) ls (.int v :: rest))) : W p l e R s m args below meth c H locs cells slots Q (F0 m pc ls (.ref (G.1 0) :: rest)) := by subst hv; exact va_get (D := D) (ci := 9) (C := RX10) (T := TX10) (N := 44) E.1 E.2.1 E.2.2.2.1 kl_X10 E.2.2.1 E.2.2.2.2 hP 0 rfl rfl 10 (by decide) (E.2.2.2.1 _ hl) (fun _ h => h) rfl hd kk
theorem pR_10 (E : Ev D (tyR G) p s m c cc own args) (hP : va_P D vwCl (wR G u) H) (hD : va_D A (wR G u)) (hS : va_S A H0 H locs) {ix : Nat} (hl : Cond.fieldLink own ix "ConsHouseModel" "mostWaiting" "I" ∈ WS) {v : Int32} (hd : decode cc pc = .ok (.putfield ix, 3)) (kk : ∀ (H1 : Heap) (locs1 : List Loc), va_P D vwCl (wR G (sI u 10 v)) H1 → va_D A (wR G (sI u 10 v)) → va_S A H0 H1 locs1 → W p l e R s m args below meth c H1 locs1 cells slots Q (F0 m (pc + 3) ls rest)) : W p l e R s m args below meth c H locs cells slots Q (F0 m pc ls (.int v :: .ref (G.1 0) :: rest)) := va_put (D := D) (ci := 9) (C := RX10) (T := TX10) (N := 44) (v := .int v) (ty := .int) E.1 E.2.1 E.2.2.2.1 kl_X10 tyX10 tyX10_ok nmX10 E.2.2.1 E.2.2.2.2 hP hD hS 0 rfl rfl 10 (by decide) (E.2.2.2.1 _ hl) (fun _ h => h) rfl (by decide +kernel) rfl rfl (Nat.le_of_ble_eq_true rfl) hd (fun H1 l1 a b d => kk H1 l1 a (wR_D hD) d)
theorem gR_11 (E : Ev D (tyR G) p s m c cc own args) (hP : va_P D vwCl (wR G u) H) {ix : Nat} (hl : Cond.fieldLink own ix "ConsHouseModel" "print" "[I" ∈ WS) (hd : decode cc pc = .ok (.getfield ix, 3)) (kk : W p l e R s m args below meth c H locs cells slots Q (F0 m (pc + 3) ls (.ref (G.1 2) :: rest))) : W p l e R s m args below meth c H locs cells slots Q (F0 m pc ls (.ref (G.1 0) :: rest)) := by exact va_get (D := D) (ci := 9) (C := RX10) (T := TX10) (N := 44) E.1 E.2.1 E.2.2.2.1 kl_X10 E.2.2.1 E.2.2.2.2 hP 0 rfl rfl 11 (by decide) (E.2.2.2.1 _ hl) (fun _ h => h) rfl hd kk
theorem gR_12 (E : Ev D (tyR G) p s m c cc own args) (hP : va_P D vwCl (wR G u) H) {ix : Nat} (hl : Cond.fieldLink own ix "ConsHouseModel" "printed" "I" ∈ WS) {v : Int32} (hv : gI u 12 = v) (hd : decode cc pc = .ok (.getfield ix, 3)) (kk : W p l e R s m args below meth c H locs cells slots Q (F0 m (pc + 3) ls (.int v :: rest))) : W p l e R s m args below meth c H locs cells slots Q (F0 m pc ls (.ref (G.1 0) :: rest)) := by subst hv; exact va_get (D := D) (ci := 9) (C := RX10) (T := TX10) (N := 44) E.1 E.2.1 E.2.2.2.1 kl_X10 E.2.2.1 E.2.2.2.2 hP 0 rfl rfl 12 (by decide) (E.2.2.2.1 _ hl) (fun _ h => h) rfl hd kk
theorem pR_12 (E : Ev D (tyR G) p s m c cc own args) (hP : va_P D vwCl (wR G u) H) (hD : va_D A (wR G u)) (hS : va_S A H0 H locs) {ix : Nat} (hl : Cond.fieldLink own ix "ConsHouseModel" "printed" "I" ∈ WS) {v : Int32} (hd : decode cc pc = .ok (.putfield ix, 3)) (kk : ∀ (H1 : Heap) (locs1 : List Loc), va_P D vwCl (wR G (sI u 12 v)) H1 → va_D A (wR G (sI u 12 v)) → va_S A H0 H1 locs1 → W p l e R s m args below meth c H1 locs1 cells slots Q (F0 m (pc + 3) ls rest)) : W p l e R s m args below meth c H locs cells slots Q (F0 m pc ls (.int v :: .ref (G.1 0) :: rest)) := va_put (D := D) (ci := 9) (C := RX10) (T := TX10) (N := 44) (v := .int v) (ty := .int) E.1 E.2.1 E.2.2.2.1 kl_X10 tyX10 tyX10_ok nmX10 E.2.2.1 E.2.2.2.2 hP hD hS 0 rfl rfl 12 (by decide) (E.2.2.2.1 _ hl) (fun _ h => h) rfl (by decide +kernel) rfl rfl (Nat.le_of_ble_eq_true rfl) hd (fun H1 l1 a b d => kk H1 l1 a (wR_D hD) d)
theorem gR_13 (E : Ev D (tyR G) p s m c cc own args) (hP : va_P D vwCl (wR G u) H) {ix : Nat} (hl : Cond.fieldLink own ix "ConsHouseModel" "car" "[J" ∈ WS) (hd : decode cc pc = .ok (.getfield ix, 3)) (kk : W p l e R s m args below meth c H locs cells slots Q (F0 m (pc + 3) ls (.ref (G.1 3) :: rest))) : W p l e R s m args below meth c H locs cells slots Q (F0 m pc ls (.ref (G.1 0) :: rest)) := by exact va_get (D := D) (ci := 9) (C := RX10) (T := TX10) (N := 44) E.1 E.2.1 E.2.2.2.1 kl_X10 E.2.2.1 E.2.2.2.2 hP 0 rfl rfl 13 (by decide) (E.2.2.2.1 _ hl) (fun _ h => h) rfl hd kk
theorem gR_14 (E : Ev D (tyR G) p s m c cc own args) (hP : va_P D vwCl (wR G u) H) {ix : Nat} (hl : Cond.fieldLink own ix "ConsHouseModel" "cdr" "[J" ∈ WS) (hd : decode cc pc = .ok (.getfield ix, 3)) (kk : W p l e R s m args below meth c H locs cells slots Q (F0 m (pc + 3) ls (.ref (G.1 4) :: rest))) : W p l e R s m args below meth c H locs cells slots Q (F0 m pc ls (.ref (G.1 0) :: rest)) := by exact va_get (D := D) (ci := 9) (C := RX10) (T := TX10) (N := 44) E.1 E.2.1 E.2.2.2.1 kl_X10 E.2.2.1 E.2.2.2.2 hP 0 rfl rfl 14 (by decide) (E.2.2.2.1 _ hl) (fun _ h => h) rfl hd kk
theorem gR_15 (E : Ev D (tyR G) p s m c cc own args) (hP : va_P D vwCl (wR G u) H) {ix : Nat} (hl : Cond.fieldLink own ix "ConsHouseModel" "held" "[Z" ∈ WS) (hd : decode cc pc = .ok (.getfield ix, 3)) (kk : W p l e R s m args below meth c H locs cells slots Q (F0 m (pc + 3) ls (.ref (G.1 5) :: rest))) : W p l e R s m args below meth c H locs cells slots Q (F0 m pc ls (.ref (G.1 0) :: rest)) := by exact va_get (D := D) (ci := 9) (C := RX10) (T := TX10) (N := 44) E.1 E.2.1 E.2.2.2.1 kl_X10 E.2.2.1 E.2.2.2.2 hP 0 rfl rfl 15 (by decide) (E.2.2.2.1 _ hl) (fun _ h => h) rfl hd kk
theorem gR_16 (E : Ev D (tyR G) p s m c cc own args) (hP : va_P D vwCl (wR G u) H) {ix : Nat} (hl : Cond.fieldLink own ix "ConsHouseModel" "heldCount" "I" ∈ WS) {v : Int32} (hv : gI u 16 = v) (hd : decode cc pc = .ok (.getfield ix, 3)) (kk : W p l e R s m args below meth c H locs cells slots Q (F0 m (pc + 3) ls (.int v :: rest))) : W p l e R s m args below meth c H locs cells slots Q (F0 m pc ls (.ref (G.1 0) :: rest)) := by subst hv; exact va_get (D := D) (ci := 9) (C := RX10) (T := TX10) (N := 44) E.1 E.2.1 E.2.2.2.1 kl_X10 E.2.2.1 E.2.2.2.2 hP 0 rfl rfl 16 (by decide) (E.2.2.2.1 _ hl) (fun _ h => h) rfl hd kk
theorem pR_16 (E : Ev D (tyR G) p s m c cc own args) (hP : va_P D vwCl (wR G u) H) (hD : va_D A (wR G u)) (hS : va_S A H0 H locs) {ix : Nat} (hl : Cond.fieldLink own ix "ConsHouseModel" "heldCount" "I" ∈ WS) {v : Int32} (hd : decode cc pc = .ok (.putfield ix, 3)) (kk : ∀ (H1 : Heap) (locs1 : List Loc), va_P D vwCl (wR G (sI u 16 v)) H1 → va_D A (wR G (sI u 16 v)) → va_S A H0 H1 locs1 → W p l e R s m args below meth c H1 locs1 cells slots Q (F0 m (pc + 3) ls rest)) : W p l e R s m args below meth c H locs cells slots Q (F0 m pc ls (.int v :: .ref (G.1 0) :: rest)) := va_put (D := D) (ci := 9) (C := RX10) (T := TX10) (N := 44) (v := .int v) (ty := .int) E.1 E.2.1 E.2.2.2.1 kl_X10 tyX10 tyX10_ok nmX10 E.2.2.1 E.2.2.2.2 hP hD hS 0 rfl rfl 16 (by decide) (E.2.2.2.1 _ hl) (fun _ h => h) rfl (by decide +kernel) rfl rfl (Nat.le_of_ble_eq_true rfl) hd (fun H1 l1 a b d => kk H1 l1 a (wR_D hD) d)
theorem gR_17 (E : Ev D (tyR G) p s m c cc own args) (hP : va_P D vwCl (wR G u) H) {ix : Nat} (hl : Cond.fieldLink own ix "ConsHouseModel" "toMark" "[J" ∈ WS) (hd : decode cc pc = .ok (.getfield ix, 3)) (kk : W p l e R s m args below meth c H locs cells slots Q (F0 m (pc + 3) ls (.ref (G.1 6) :: rest))) : W p l e R s m args below meth c H locs cells slots Q (F0 m pc ls (.ref (G.1 0) :: rest)) := by exact va_get (D := D) (ci := 9) (C := RX10) (T := TX10) (N := 44) E.1 E.2.1 E.2.2.2.1 kl_X10 E.2.2.1 E.2.2.2.2 hP 0 rfl rfl 17 (by decide) (E.2.2.2.1 _ hl) (fun _ h => h) rfl hd kk
theorem gR_18 (E : Ev D (tyR G) p s m c cc own args) (hP : va_P D vwCl (wR G u) H) {ix : Nat} (hl : Cond.fieldLink own ix "ConsHouseModel" "marks" "I" ∈ WS) {v : Int32} (hv : gI u 18 = v) (hd : decode cc pc = .ok (.getfield ix, 3)) (kk : W p l e R s m args below meth c H locs cells slots Q (F0 m (pc + 3) ls (.int v :: rest))) : W p l e R s m args below meth c H locs cells slots Q (F0 m pc ls (.ref (G.1 0) :: rest)) := by subst hv; exact va_get (D := D) (ci := 9) (C := RX10) (T := TX10) (N := 44) E.1 E.2.1 E.2.2.2.1 kl_X10 E.2.2.1 E.2.2.2.2 hP 0 rfl rfl 18 (by decide) (E.2.2.2.1 _ hl) (fun _ h => h) rfl hd kk
theorem pR_18 (E : Ev D (tyR G) p s m c cc own args) (hP : va_P D vwCl (wR G u) H) (hD : va_D A (wR G u)) (hS : va_S A H0 H locs) {ix : Nat} (hl : Cond.fieldLink own ix "ConsHouseModel" "marks" "I" ∈ WS) {v : Int32} (hd : decode cc pc = .ok (.putfield ix, 3)) (kk : ∀ (H1 : Heap) (locs1 : List Loc), va_P D vwCl (wR G (sI u 18 v)) H1 → va_D A (wR G (sI u 18 v)) → va_S A H0 H1 locs1 → W p l e R s m args below meth c H1 locs1 cells slots Q (F0 m (pc + 3) ls rest)) : W p l e R s m args below meth c H locs cells slots Q (F0 m pc ls (.int v :: .ref (G.1 0) :: rest)) := va_put (D := D) (ci := 9) (C := RX10) (T := TX10) (N := 44) (v := .int v) (ty := .int) E.1 E.2.1 E.2.2.2.1 kl_X10 tyX10 tyX10_ok nmX10 E.2.2.1 E.2.2.2.2 hP hD hS 0 rfl rfl 18 (by decide) (E.2.2.2.1 _ hl) (fun _ h => h) rfl (by decide +kernel) rfl rfl (Nat.le_of_ble_eq_true rfl) hd (fun H1 l1 a b d => kk H1 l1 a (wR_D hD) d)
theorem gR_19 (E : Ev D (tyR G) p s m c cc own args) (hP : va_P D vwCl (wR G u) H) {ix : Nat} (hl : Cond.fieldLink own ix "ConsHouseModel" "name" "[J" ∈ WS) (hd : decode cc pc = .ok (.getfield ix, 3)) (kk : W p l e R s m args below meth c H locs cells slots Q (F0 m (pc + 3) ls (.ref (G.1 7) :: rest))) : W p l e R s m args below meth c H locs cells slots Q (F0 m pc ls (.ref (G.1 0) :: rest)) := by exact va_get (D := D) (ci := 9) (C := RX10) (T := TX10) (N := 44) E.1 E.2.1 E.2.2.2.1 kl_X10 E.2.2.1 E.2.2.2.2 hP 0 rfl rfl 19 (by decide) (E.2.2.2.1 _ hl) (fun _ h => h) rfl hd kk
theorem gR_20 (E : Ev D (tyR G) p s m c cc own args) (hP : va_P D vwCl (wR G u) H) {ix : Nat} (hl : Cond.fieldLink own ix "ConsHouseModel" "global" "[J" ∈ WS) (hd : decode cc pc = .ok (.getfield ix, 3)) (kk : W p l e R s m args below meth c H locs cells slots Q (F0 m (pc + 3) ls (.ref (G.1 8) :: rest))) : W p l e R s m args below meth c H locs cells slots Q (F0 m pc ls (.ref (G.1 0) :: rest)) := by exact va_get (D := D) (ci := 9) (C := RX10) (T := TX10) (N := 44) E.1 E.2.1 E.2.2.2.1 kl_X10 E.2.2.1 E.2.2.2.2 hP 0 rfl rfl 20 (by decide) (E.2.2.2.1 _ hl) (fun _ h => h) rfl hd kk
theorem gR_21 (E : Ev D (tyR G) p s m c cc own args) (hP : va_P D vwCl (wR G u) H) {ix : Nat} (hl : Cond.fieldLink own ix "ConsHouseModel" "names" "I" ∈ WS) {v : Int32} (hv : gI u 21 = v) (hd : decode cc pc = .ok (.getfield ix, 3)) (kk : W p l e R s m args below meth c H locs cells slots Q (F0 m (pc + 3) ls (.int v :: rest))) : W p l e R s m args below meth c H locs cells slots Q (F0 m pc ls (.ref (G.1 0) :: rest)) := by subst hv; exact va_get (D := D) (ci := 9) (C := RX10) (T := TX10) (N := 44) E.1 E.2.1 E.2.2.2.1 kl_X10 E.2.2.1 E.2.2.2.2 hP 0 rfl rfl 21 (by decide) (E.2.2.2.1 _ hl) (fun _ h => h) rfl hd kk
theorem pR_21 (E : Ev D (tyR G) p s m c cc own args) (hP : va_P D vwCl (wR G u) H) (hD : va_D A (wR G u)) (hS : va_S A H0 H locs) {ix : Nat} (hl : Cond.fieldLink own ix "ConsHouseModel" "names" "I" ∈ WS) {v : Int32} (hd : decode cc pc = .ok (.putfield ix, 3)) (kk : ∀ (H1 : Heap) (locs1 : List Loc), va_P D vwCl (wR G (sI u 21 v)) H1 → va_D A (wR G (sI u 21 v)) → va_S A H0 H1 locs1 → W p l e R s m args below meth c H1 locs1 cells slots Q (F0 m (pc + 3) ls rest)) : W p l e R s m args below meth c H locs cells slots Q (F0 m pc ls (.int v :: .ref (G.1 0) :: rest)) := va_put (D := D) (ci := 9) (C := RX10) (T := TX10) (N := 44) (v := .int v) (ty := .int) E.1 E.2.1 E.2.2.2.1 kl_X10 tyX10 tyX10_ok nmX10 E.2.2.1 E.2.2.2.2 hP hD hS 0 rfl rfl 21 (by decide) (E.2.2.2.1 _ hl) (fun _ h => h) rfl (by decide +kernel) rfl rfl (Nat.le_of_ble_eq_true rfl) hd (fun H1 l1 a b d => kk H1 l1 a (wR_D hD) d)
theorem gR_22 (E : Ev D (tyR G) p s m c cc own args) (hP : va_P D vwCl (wR G u) H) {ix : Nat} (hl : Cond.fieldLink own ix "ConsHouseModel" "newName" "[J" ∈ WS) (hd : decode cc pc = .ok (.getfield ix, 3)) (kk : W p l e R s m args below meth c H locs cells slots Q (F0 m (pc + 3) ls (.ref (G.1 9) :: rest))) : W p l e R s m args below meth c H locs cells slots Q (F0 m pc ls (.ref (G.1 0) :: rest)) := by exact va_get (D := D) (ci := 9) (C := RX10) (T := TX10) (N := 44) E.1 E.2.1 E.2.2.2.1 kl_X10 E.2.2.1 E.2.2.2.2 hP 0 rfl rfl 22 (by decide) (E.2.2.2.1 _ hl) (fun _ h => h) rfl hd kk
theorem gR_23 (E : Ev D (tyR G) p s m c cc own args) (hP : va_P D vwCl (wR G u) H) {ix : Nat} (hl : Cond.fieldLink own ix "ConsHouseModel" "newNames" "I" ∈ WS) {v : Int32} (hv : gI u 23 = v) (hd : decode cc pc = .ok (.getfield ix, 3)) (kk : W p l e R s m args below meth c H locs cells slots Q (F0 m (pc + 3) ls (.int v :: rest))) : W p l e R s m args below meth c H locs cells slots Q (F0 m pc ls (.ref (G.1 0) :: rest)) := by subst hv; exact va_get (D := D) (ci := 9) (C := RX10) (T := TX10) (N := 44) E.1 E.2.1 E.2.2.2.1 kl_X10 E.2.2.1 E.2.2.2.2 hP 0 rfl rfl 23 (by decide) (E.2.2.2.1 _ hl) (fun _ h => h) rfl hd kk
theorem pR_23 (E : Ev D (tyR G) p s m c cc own args) (hP : va_P D vwCl (wR G u) H) (hD : va_D A (wR G u)) (hS : va_S A H0 H locs) {ix : Nat} (hl : Cond.fieldLink own ix "ConsHouseModel" "newNames" "I" ∈ WS) {v : Int32} (hd : decode cc pc = .ok (.putfield ix, 3)) (kk : ∀ (H1 : Heap) (locs1 : List Loc), va_P D vwCl (wR G (sI u 23 v)) H1 → va_D A (wR G (sI u 23 v)) → va_S A H0 H1 locs1 → W p l e R s m args below meth c H1 locs1 cells slots Q (F0 m (pc + 3) ls rest)) : W p l e R s m args below meth c H locs cells slots Q (F0 m pc ls (.int v :: .ref (G.1 0) :: rest)) := va_put (D := D) (ci := 9) (C := RX10) (T := TX10) (N := 44) (v := .int v) (ty := .int) E.1 E.2.1 E.2.2.2.1 kl_X10 tyX10 tyX10_ok nmX10 E.2.2.1 E.2.2.2.2 hP hD hS 0 rfl rfl 23 (by decide) (E.2.2.2.1 _ hl) (fun _ h => h) rfl (by decide +kernel) rfl rfl (Nat.le_of_ble_eq_true rfl) hd (fun H1 l1 a b d => kk H1 l1 a (wR_D hD) d)
theorem gR_24 (E : Ev D (tyR G) p s m c cc own args) (hP : va_P D vwCl (wR G u) H) {ix : Nat} (hl : Cond.fieldLink own ix "ConsHouseModel" "tooMany" "Z" ∈ WS) {v : Int32} (hv : gI u 24 = v) (hd : decode cc pc = .ok (.getfield ix, 3)) (kk : W p l e R s m args below meth c H locs cells slots Q (F0 m (pc + 3) ls (.int v :: rest))) : W p l e R s m args below meth c H locs cells slots Q (F0 m pc ls (.ref (G.1 0) :: rest)) := by subst hv; exact va_get (D := D) (ci := 9) (C := RX10) (T := TX10) (N := 44) E.1 E.2.1 E.2.2.2.1 kl_X10 E.2.2.1 E.2.2.2.2 hP 0 rfl rfl 24 (by decide) (E.2.2.2.1 _ hl) (fun _ h => h) rfl hd kk
theorem pR_24 (E : Ev D (tyR G) p s m c cc own args) (hP : va_P D vwCl (wR G u) H) (hD : va_D A (wR G u)) (hS : va_S A H0 H locs) {ix : Nat} (hl : Cond.fieldLink own ix "ConsHouseModel" "tooMany" "Z" ∈ WS) {v : Int32} (hz : vz v) (hd : decode cc pc = .ok (.putfield ix, 3)) (kk : ∀ (H1 : Heap) (locs1 : List Loc), va_P D vwCl (wR G (sI u 24 v)) H1 → va_D A (wR G (sI u 24 v)) → va_S A H0 H1 locs1 → W p l e R s m args below meth c H1 locs1 cells slots Q (F0 m (pc + 3) ls rest)) : W p l e R s m args below meth c H locs cells slots Q (F0 m pc ls (.int v :: .ref (G.1 0) :: rest)) := va_put (D := D) (ci := 9) (C := RX10) (T := TX10) (N := 44) (v := .int v) (ty := .boolean) E.1 E.2.1 E.2.2.2.1 kl_X10 tyX10 tyX10_ok nmX10 E.2.2.1 E.2.2.2.2 hP hD hS 0 rfl rfl 24 (by decide) (E.2.2.2.1 _ hl) (fun _ h => h) rfl (by decide +kernel) (vz_n hz) (vz_f hz) (Nat.le_of_ble_eq_true rfl) hd (fun H1 l1 a b d => kk H1 l1 a (wR_D hD) d)
theorem gR_25 (E : Ev D (tyR G) p s m c cc own args) (hP : va_P D vwCl (wR G u) H) {ix : Nat} (hl : Cond.fieldLink own ix "ConsHouseModel" "readState" "I" ∈ WS) {v : Int32} (hv : gI u 25 = v) (hd : decode cc pc = .ok (.getfield ix, 3)) (kk : W p l e R s m args below meth c H locs cells slots Q (F0 m (pc + 3) ls (.int v :: rest))) : W p l e R s m args below meth c H locs cells slots Q (F0 m pc ls (.ref (G.1 0) :: rest)) := by subst hv; exact va_get (D := D) (ci := 9) (C := RX10) (T := TX10) (N := 44) E.1 E.2.1 E.2.2.2.1 kl_X10 E.2.2.1 E.2.2.2.2 hP 0 rfl rfl 25 (by decide) (E.2.2.2.1 _ hl) (fun _ h => h) rfl hd kk
theorem pR_25 (E : Ev D (tyR G) p s m c cc own args) (hP : va_P D vwCl (wR G u) H) (hD : va_D A (wR G u)) (hS : va_S A H0 H locs) {ix : Nat} (hl : Cond.fieldLink own ix "ConsHouseModel" "readState" "I" ∈ WS) {v : Int32} (hd : decode cc pc = .ok (.putfield ix, 3)) (kk : ∀ (H1 : Heap) (locs1 : List Loc), va_P D vwCl (wR G (sI u 25 v)) H1 → va_D A (wR G (sI u 25 v)) → va_S A H0 H1 locs1 → W p l e R s m args below meth c H1 locs1 cells slots Q (F0 m (pc + 3) ls rest)) : W p l e R s m args below meth c H locs cells slots Q (F0 m pc ls (.int v :: .ref (G.1 0) :: rest)) := va_put (D := D) (ci := 9) (C := RX10) (T := TX10) (N := 44) (v := .int v) (ty := .int) E.1 E.2.1 E.2.2.2.1 kl_X10 tyX10 tyX10_ok nmX10 E.2.2.1 E.2.2.2.2 hP hD hS 0 rfl rfl 25 (by decide) (E.2.2.2.1 _ hl) (fun _ h => h) rfl (by decide +kernel) rfl rfl (Nat.le_of_ble_eq_true rfl) hd (fun H1 l1 a b d => kk H1 l1 a (wR_D hD) d)
theorem gR_26 (E : Ev D (tyR G) p s m c cc own args) (hP : va_P D vwCl (wR G u) H) {ix : Nat} (hl : Cond.fieldLink own ix "ConsHouseModel" "openState" "[I" ∈ WS) (hd : decode cc pc = .ok (.getfield ix, 3)) (kk : W p l e R s m args below meth c H locs cells slots Q (F0 m (pc + 3) ls (.ref (G.1 10) :: rest))) : W p l e R s m args below meth c H locs cells slots Q (F0 m pc ls (.ref (G.1 0) :: rest)) := by exact va_get (D := D) (ci := 9) (C := RX10) (T := TX10) (N := 44) E.1 E.2.1 E.2.2.2.1 kl_X10 E.2.2.1 E.2.2.2.2 hP 0 rfl rfl 26 (by decide) (E.2.2.2.1 _ hl) (fun _ h => h) rfl hd kk
theorem gR_27 (E : Ev D (tyR G) p s m c cc own args) (hP : va_P D vwCl (wR G u) H) {ix : Nat} (hl : Cond.fieldLink own ix "ConsHouseModel" "openHead" "[J" ∈ WS) (hd : decode cc pc = .ok (.getfield ix, 3)) (kk : W p l e R s m args below meth c H locs cells slots Q (F0 m (pc + 3) ls (.ref (G.1 11) :: rest))) : W p l e R s m args below meth c H locs cells slots Q (F0 m pc ls (.ref (G.1 0) :: rest)) := by exact va_get (D := D) (ci := 9) (C := RX10) (T := TX10) (N := 44) E.1 E.2.1 E.2.2.2.1 kl_X10 E.2.2.1 E.2.2.2.2 hP 0 rfl rfl 27 (by decide) (E.2.2.2.1 _ hl) (fun _ h => h) rfl hd kk
theorem gR_28 (E : Ev D (tyR G) p s m c cc own args) (hP : va_P D vwCl (wR G u) H) {ix : Nat} (hl : Cond.fieldLink own ix "ConsHouseModel" "openTail" "[I" ∈ WS) (hd : decode cc pc = .ok (.getfield ix, 3)) (kk : W p l e R s m args below meth c H locs cells slots Q (F0 m (pc + 3) ls (.ref (G.1 12) :: rest))) : W p l e R s m args below meth c H locs cells slots Q (F0 m pc ls (.ref (G.1 0) :: rest)) := by exact va_get (D := D) (ci := 9) (C := RX10) (T := TX10) (N := 44) E.1 E.2.1 E.2.2.2.1 kl_X10 E.2.2.1 E.2.2.2.2 hP 0 rfl rfl 28 (by decide) (E.2.2.2.1 _ hl) (fun _ h => h) rfl hd kk
theorem gR_29 (E : Ev D (tyR G) p s m c cc own args) (hP : va_P D vwCl (wR G u) H) {ix : Nat} (hl : Cond.fieldLink own ix "ConsHouseModel" "opened" "I" ∈ WS) {v : Int32} (hv : gI u 29 = v) (hd : decode cc pc = .ok (.getfield ix, 3)) (kk : W p l e R s m args below meth c H locs cells slots Q (F0 m (pc + 3) ls (.int v :: rest))) : W p l e R s m args below meth c H locs cells slots Q (F0 m pc ls (.ref (G.1 0) :: rest)) := by subst hv; exact va_get (D := D) (ci := 9) (C := RX10) (T := TX10) (N := 44) E.1 E.2.1 E.2.2.2.1 kl_X10 E.2.2.1 E.2.2.2.2 hP 0 rfl rfl 29 (by decide) (E.2.2.2.1 _ hl) (fun _ h => h) rfl hd kk
theorem pR_29 (E : Ev D (tyR G) p s m c cc own args) (hP : va_P D vwCl (wR G u) H) (hD : va_D A (wR G u)) (hS : va_S A H0 H locs) {ix : Nat} (hl : Cond.fieldLink own ix "ConsHouseModel" "opened" "I" ∈ WS) {v : Int32} (hd : decode cc pc = .ok (.putfield ix, 3)) (kk : ∀ (H1 : Heap) (locs1 : List Loc), va_P D vwCl (wR G (sI u 29 v)) H1 → va_D A (wR G (sI u 29 v)) → va_S A H0 H1 locs1 → W p l e R s m args below meth c H1 locs1 cells slots Q (F0 m (pc + 3) ls rest)) : W p l e R s m args below meth c H locs cells slots Q (F0 m pc ls (.int v :: .ref (G.1 0) :: rest)) := va_put (D := D) (ci := 9) (C := RX10) (T := TX10) (N := 44) (v := .int v) (ty := .int) E.1 E.2.1 E.2.2.2.1 kl_X10 tyX10 tyX10_ok nmX10 E.2.2.1 E.2.2.2.2 hP hD hS 0 rfl rfl 29 (by decide) (E.2.2.2.1 _ hl) (fun _ h => h) rfl (by decide +kernel) rfl rfl (Nat.le_of_ble_eq_true rfl) hd (fun H1 l1 a b d => kk H1 l1 a (wR_D hD) d)
theorem gR_30 (E : Ev D (tyR G) p s m c cc own args) (hP : va_P D vwCl (wR G u) H) {ix : Nat} (hl : Cond.fieldLink own ix "ConsHouseModel" "pairs" "I" ∈ WS) {v : Int32} (hv : gI u 30 = v) (hd : decode cc pc = .ok (.getfield ix, 3)) (kk : W p l e R s m args below meth c H locs cells slots Q (F0 m (pc + 3) ls (.int v :: rest))) : W p l e R s m args below meth c H locs cells slots Q (F0 m pc ls (.ref (G.1 0) :: rest)) := by subst hv; exact va_get (D := D) (ci := 9) (C := RX10) (T := TX10) (N := 44) E.1 E.2.1 E.2.2.2.1 kl_X10 E.2.2.1 E.2.2.2.2 hP 0 rfl rfl 30 (by decide) (E.2.2.2.1 _ hl) (fun _ h => h) rfl hd kk
theorem pR_30 (E : Ev D (tyR G) p s m c cc own args) (hP : va_P D vwCl (wR G u) H) (hD : va_D A (wR G u)) (hS : va_S A H0 H locs) {ix : Nat} (hl : Cond.fieldLink own ix "ConsHouseModel" "pairs" "I" ∈ WS) {v : Int32} (hd : decode cc pc = .ok (.putfield ix, 3)) (kk : ∀ (H1 : Heap) (locs1 : List Loc), va_P D vwCl (wR G (sI u 30 v)) H1 → va_D A (wR G (sI u 30 v)) → va_S A H0 H1 locs1 → W p l e R s m args below meth c H1 locs1 cells slots Q (F0 m (pc + 3) ls rest)) : W p l e R s m args below meth c H locs cells slots Q (F0 m pc ls (.int v :: .ref (G.1 0) :: rest)) := va_put (D := D) (ci := 9) (C := RX10) (T := TX10) (N := 44) (v := .int v) (ty := .int) E.1 E.2.1 E.2.2.2.1 kl_X10 tyX10 tyX10_ok nmX10 E.2.2.1 E.2.2.2.2 hP hD hS 0 rfl rfl 30 (by decide) (E.2.2.2.1 _ hl) (fun _ h => h) rfl (by decide +kernel) rfl rfl (Nat.le_of_ble_eq_true rfl) hd (fun H1 l1 a b d => kk H1 l1 a (wR_D hD) d)
theorem gR_31 (E : Ev D (tyR G) p s m c cc own args) (hP : va_P D vwCl (wR G u) H) {ix : Nat} (hl : Cond.fieldLink own ix "ConsHouseModel" "tokenValue" "J" ∈ WS) {v : Int64} (hv : gJ u 31 = v) (hd : decode cc pc = .ok (.getfield ix, 3)) (kk : W p l e R s m args below meth c H locs cells slots Q (F0 m (pc + 3) ls (.long v :: rest))) : W p l e R s m args below meth c H locs cells slots Q (F0 m pc ls (.ref (G.1 0) :: rest)) := by subst hv; exact va_get (D := D) (ci := 9) (C := RX10) (T := TX10) (N := 44) E.1 E.2.1 E.2.2.2.1 kl_X10 E.2.2.1 E.2.2.2.2 hP 0 rfl rfl 31 (by decide) (E.2.2.2.1 _ hl) (fun _ h => h) rfl hd kk
theorem pR_31 (E : Ev D (tyR G) p s m c cc own args) (hP : va_P D vwCl (wR G u) H) (hD : va_D A (wR G u)) (hS : va_S A H0 H locs) {ix : Nat} (hl : Cond.fieldLink own ix "ConsHouseModel" "tokenValue" "J" ∈ WS) {v : Int64} (hd : decode cc pc = .ok (.putfield ix, 3)) (kk : ∀ (H1 : Heap) (locs1 : List Loc), va_P D vwCl (wR G (sJ u 31 v)) H1 → va_D A (wR G (sJ u 31 v)) → va_S A H0 H1 locs1 → W p l e R s m args below meth c H1 locs1 cells slots Q (F0 m (pc + 3) ls rest)) : W p l e R s m args below meth c H locs cells slots Q (F0 m pc ls (.long v :: .ref (G.1 0) :: rest)) := va_put (D := D) (ci := 9) (C := RX10) (T := TX10) (N := 44) (v := .long v) (ty := .long) E.1 E.2.1 E.2.2.2.1 kl_X10 tyX10 tyX10_ok nmX10 E.2.2.1 E.2.2.2.2 hP hD hS 0 rfl rfl 31 (by decide) (E.2.2.2.1 _ hl) (fun _ h => h) rfl (by decide +kernel) rfl rfl (Nat.le_of_ble_eq_true rfl) hd (fun H1 l1 a b d => kk H1 l1 a (wR_D hD) d)
theorem gR_32 (E : Ev D (tyR G) p s m c cc own args) (hP : va_P D vwCl (wR G u) H) {ix : Nat} (hl : Cond.fieldLink own ix "ConsHouseModel" "waiting" "I" ∈ WS) {v : Int32} (hv : gI u 32 = v) (hd : decode cc pc = .ok (.getfield ix, 3)) (kk : W p l e R s m args below meth c H locs cells slots Q (F0 m (pc + 3) ls (.int v :: rest))) : W p l e R s m args below meth c H locs cells slots Q (F0 m pc ls (.ref (G.1 0) :: rest)) := by subst hv; exact va_get (D := D) (ci := 9) (C := RX10) (T := TX10) (N := 44) E.1 E.2.1 E.2.2.2.1 kl_X10 E.2.2.1 E.2.2.2.2 hP 0 rfl rfl 32 (by decide) (E.2.2.2.1 _ hl) (fun _ h => h) rfl hd kk
theorem pR_32 (E : Ev D (tyR G) p s m c cc own args) (hP : va_P D vwCl (wR G u) H) (hD : va_D A (wR G u)) (hS : va_S A H0 H locs) {ix : Nat} (hl : Cond.fieldLink own ix "ConsHouseModel" "waiting" "I" ∈ WS) {v : Int32} (hd : decode cc pc = .ok (.putfield ix, 3)) (kk : ∀ (H1 : Heap) (locs1 : List Loc), va_P D vwCl (wR G (sI u 32 v)) H1 → va_D A (wR G (sI u 32 v)) → va_S A H0 H1 locs1 → W p l e R s m args below meth c H1 locs1 cells slots Q (F0 m (pc + 3) ls rest)) : W p l e R s m args below meth c H locs cells slots Q (F0 m pc ls (.int v :: .ref (G.1 0) :: rest)) := va_put (D := D) (ci := 9) (C := RX10) (T := TX10) (N := 44) (v := .int v) (ty := .int) E.1 E.2.1 E.2.2.2.1 kl_X10 tyX10 tyX10_ok nmX10 E.2.2.1 E.2.2.2.2 hP hD hS 0 rfl rfl 32 (by decide) (E.2.2.2.1 _ hl) (fun _ h => h) rfl (by decide +kernel) rfl rfl (Nat.le_of_ble_eq_true rfl) hd (fun H1 l1 a b d => kk H1 l1 a (wR_D hD) d)
theorem gR_33 (E : Ev D (tyR G) p s m c cc own args) (hP : va_P D vwCl (wR G u) H) {ix : Nat} (hl : Cond.fieldLink own ix "ConsHouseModel" "kind" "[I" ∈ WS) (hd : decode cc pc = .ok (.getfield ix, 3)) (kk : W p l e R s m args below meth c H locs cells slots Q (F0 m (pc + 3) ls (.ref (G.1 13) :: rest))) : W p l e R s m args below meth c H locs cells slots Q (F0 m pc ls (.ref (G.1 0) :: rest)) := by exact va_get (D := D) (ci := 9) (C := RX10) (T := TX10) (N := 44) E.1 E.2.1 E.2.2.2.1 kl_X10 E.2.2.1 E.2.2.2.2 hP 0 rfl rfl 33 (by decide) (E.2.2.2.1 _ hl) (fun _ h => h) rfl hd kk
theorem gR_34 (E : Ev D (tyR G) p s m c cc own args) (hP : va_P D vwCl (wR G u) H) {ix : Nat} (hl : Cond.fieldLink own ix "ConsHouseModel" "function" "[J" ∈ WS) (hd : decode cc pc = .ok (.getfield ix, 3)) (kk : W p l e R s m args below meth c H locs cells slots Q (F0 m (pc + 3) ls (.ref (G.1 14) :: rest))) : W p l e R s m args below meth c H locs cells slots Q (F0 m pc ls (.ref (G.1 0) :: rest)) := by exact va_get (D := D) (ci := 9) (C := RX10) (T := TX10) (N := 44) E.1 E.2.1 E.2.2.2.1 kl_X10 E.2.2.1 E.2.2.2.2 hP 0 rfl rfl 34 (by decide) (E.2.2.2.1 _ hl) (fun _ h => h) rfl hd kk
theorem gR_35 (E : Ev D (tyR G) p s m c cc own args) (hP : va_P D vwCl (wR G u) H) {ix : Nat} (hl : Cond.fieldLink own ix "ConsHouseModel" "rest" "[J" ∈ WS) (hd : decode cc pc = .ok (.getfield ix, 3)) (kk : W p l e R s m args below meth c H locs cells slots Q (F0 m (pc + 3) ls (.ref (G.1 15) :: rest))) : W p l e R s m args below meth c H locs cells slots Q (F0 m pc ls (.ref (G.1 0) :: rest)) := by exact va_get (D := D) (ci := 9) (C := RX10) (T := TX10) (N := 44) E.1 E.2.1 E.2.2.2.1 kl_X10 E.2.2.1 E.2.2.2.2 hP 0 rfl rfl 35 (by decide) (E.2.2.2.1 _ hl) (fun _ h => h) rfl hd kk
theorem gR_36 (E : Ev D (tyR G) p s m c cc own args) (hP : va_P D vwCl (wR G u) H) {ix : Nat} (hl : Cond.fieldLink own ix "ConsHouseModel" "bound" "[J" ∈ WS) (hd : decode cc pc = .ok (.getfield ix, 3)) (kk : W p l e R s m args below meth c H locs cells slots Q (F0 m (pc + 3) ls (.ref (G.1 16) :: rest))) : W p l e R s m args below meth c H locs cells slots Q (F0 m pc ls (.ref (G.1 0) :: rest)) := by exact va_get (D := D) (ci := 9) (C := RX10) (T := TX10) (N := 44) E.1 E.2.1 E.2.2.2.1 kl_X10 E.2.2.1 E.2.2.2.2 hP 0 rfl rfl 36 (by decide) (E.2.2.2.1 _ hl) (fun _ h => h) rfl hd kk
theorem gR_37 (E : Ev D (tyR G) p s m c cc own args) (hP : va_P D vwCl (wR G u) H) {ix : Nat} (hl : Cond.fieldLink own ix "ConsHouseModel" "count" "[I" ∈ WS) (hd : decode cc pc = .ok (.getfield ix, 3)) (kk : W p l e R s m args below meth c H locs cells slots Q (F0 m (pc + 3) ls (.ref (G.1 17) :: rest))) : W p l e R s m args below meth c H locs cells slots Q (F0 m pc ls (.ref (G.1 0) :: rest)) := by exact va_get (D := D) (ci := 9) (C := RX10) (T := TX10) (N := 44) E.1 E.2.1 E.2.2.2.1 kl_X10 E.2.2.1 E.2.2.2.2 hP 0 rfl rfl 37 (by decide) (E.2.2.2.1 _ hl) (fun _ h => h) rfl hd kk
theorem gR_38 (E : Ev D (tyR G) p s m c cc own args) (hP : va_P D vwCl (wR G u) H) {ix : Nat} (hl : Cond.fieldLink own ix "ConsHouseModel" "values" "[J" ∈ WS) (hd : decode cc pc = .ok (.getfield ix, 3)) (kk : W p l e R s m args below meth c H locs cells slots Q (F0 m (pc + 3) ls (.ref (G.1 18) :: rest))) : W p l e R s m args below meth c H locs cells slots Q (F0 m pc ls (.ref (G.1 0) :: rest)) := by exact va_get (D := D) (ci := 9) (C := RX10) (T := TX10) (N := 44) E.1 E.2.1 E.2.2.2.1 kl_X10 E.2.2.1 E.2.2.2.2 hP 0 rfl rfl 38 (by decide) (E.2.2.2.1 _ hl) (fun _ h => h) rfl hd kk
theorem gR_39 (E : Ev D (tyR G) p s m c cc own args) (hP : va_P D vwCl (wR G u) H) {ix : Nat} (hl : Cond.fieldLink own ix "ConsHouseModel" "mode" "I" ∈ WS) {v : Int32} (hv : gI u 39 = v) (hd : decode cc pc = .ok (.getfield ix, 3)) (kk : W p l e R s m args below meth c H locs cells slots Q (F0 m (pc + 3) ls (.int v :: rest))) : W p l e R s m args below meth c H locs cells slots Q (F0 m pc ls (.ref (G.1 0) :: rest)) := by subst hv; exact va_get (D := D) (ci := 9) (C := RX10) (T := TX10) (N := 44) E.1 E.2.1 E.2.2.2.1 kl_X10 E.2.2.1 E.2.2.2.2 hP 0 rfl rfl 39 (by decide) (E.2.2.2.1 _ hl) (fun _ h => h) rfl hd kk
theorem pR_39 (E : Ev D (tyR G) p s m c cc own args) (hP : va_P D vwCl (wR G u) H) (hD : va_D A (wR G u)) (hS : va_S A H0 H locs) {ix : Nat} (hl : Cond.fieldLink own ix "ConsHouseModel" "mode" "I" ∈ WS) {v : Int32} (hd : decode cc pc = .ok (.putfield ix, 3)) (kk : ∀ (H1 : Heap) (locs1 : List Loc), va_P D vwCl (wR G (sI u 39 v)) H1 → va_D A (wR G (sI u 39 v)) → va_S A H0 H1 locs1 → W p l e R s m args below meth c H1 locs1 cells slots Q (F0 m (pc + 3) ls rest)) : W p l e R s m args below meth c H locs cells slots Q (F0 m pc ls (.int v :: .ref (G.1 0) :: rest)) := va_put (D := D) (ci := 9) (C := RX10) (T := TX10) (N := 44) (v := .int v) (ty := .int) E.1 E.2.1 E.2.2.2.1 kl_X10 tyX10 tyX10_ok nmX10 E.2.2.1 E.2.2.2.2 hP hD hS 0 rfl rfl 39 (by decide) (E.2.2.2.1 _ hl) (fun _ h => h) rfl (by decide +kernel) rfl rfl (Nat.le_of_ble_eq_true rfl) hd (fun H1 l1 a b d => kk H1 l1 a (wR_D hD) d)
theorem gR_40 (E : Ev D (tyR G) p s m c cc own args) (hP : va_P D vwCl (wR G u) H) {ix : Nat} (hl : Cond.fieldLink own ix "ConsHouseModel" "thing" "J" ∈ WS) {v : Int64} (hv : gJ u 40 = v) (hd : decode cc pc = .ok (.getfield ix, 3)) (kk : W p l e R s m args below meth c H locs cells slots Q (F0 m (pc + 3) ls (.long v :: rest))) : W p l e R s m args below meth c H locs cells slots Q (F0 m pc ls (.ref (G.1 0) :: rest)) := by subst hv; exact va_get (D := D) (ci := 9) (C := RX10) (T := TX10) (N := 44) E.1 E.2.1 E.2.2.2.1 kl_X10 E.2.2.1 E.2.2.2.2 hP 0 rfl rfl 40 (by decide) (E.2.2.2.1 _ hl) (fun _ h => h) rfl hd kk
theorem pR_40 (E : Ev D (tyR G) p s m c cc own args) (hP : va_P D vwCl (wR G u) H) (hD : va_D A (wR G u)) (hS : va_S A H0 H locs) {ix : Nat} (hl : Cond.fieldLink own ix "ConsHouseModel" "thing" "J" ∈ WS) {v : Int64} (hd : decode cc pc = .ok (.putfield ix, 3)) (kk : ∀ (H1 : Heap) (locs1 : List Loc), va_P D vwCl (wR G (sJ u 40 v)) H1 → va_D A (wR G (sJ u 40 v)) → va_S A H0 H1 locs1 → W p l e R s m args below meth c H1 locs1 cells slots Q (F0 m (pc + 3) ls rest)) : W p l e R s m args below meth c H locs cells slots Q (F0 m pc ls (.long v :: .ref (G.1 0) :: rest)) := va_put (D := D) (ci := 9) (C := RX10) (T := TX10) (N := 44) (v := .long v) (ty := .long) E.1 E.2.1 E.2.2.2.1 kl_X10 tyX10 tyX10_ok nmX10 E.2.2.1 E.2.2.2.2 hP hD hS 0 rfl rfl 40 (by decide) (E.2.2.2.1 _ hl) (fun _ h => h) rfl (by decide +kernel) rfl rfl (Nat.le_of_ble_eq_true rfl) hd (fun H1 l1 a b d => kk H1 l1 a (wR_D hD) d)
theorem gR_41 (E : Ev D (tyR G) p s m c cc own args) (hP : va_P D vwCl (wR G u) H) {ix : Nat} (hl : Cond.fieldLink own ix "ConsHouseModel" "list" "J" ∈ WS) {v : Int64} (hv : gJ u 41 = v) (hd : decode cc pc = .ok (.getfield ix, 3)) (kk : W p l e R s m args below meth c H locs cells slots Q (F0 m (pc + 3) ls (.long v :: rest))) : W p l e R s m args below meth c H locs cells slots Q (F0 m pc ls (.ref (G.1 0) :: rest)) := by subst hv; exact va_get (D := D) (ci := 9) (C := RX10) (T := TX10) (N := 44) E.1 E.2.1 E.2.2.2.1 kl_X10 E.2.2.1 E.2.2.2.2 hP 0 rfl rfl 41 (by decide) (E.2.2.2.1 _ hl) (fun _ h => h) rfl hd kk
theorem pR_41 (E : Ev D (tyR G) p s m c cc own args) (hP : va_P D vwCl (wR G u) H) (hD : va_D A (wR G u)) (hS : va_S A H0 H locs) {ix : Nat} (hl : Cond.fieldLink own ix "ConsHouseModel" "list" "J" ∈ WS) {v : Int64} (hd : decode cc pc = .ok (.putfield ix, 3)) (kk : ∀ (H1 : Heap) (locs1 : List Loc), va_P D vwCl (wR G (sJ u 41 v)) H1 → va_D A (wR G (sJ u 41 v)) → va_S A H0 H1 locs1 → W p l e R s m args below meth c H1 locs1 cells slots Q (F0 m (pc + 3) ls rest)) : W p l e R s m args below meth c H locs cells slots Q (F0 m pc ls (.long v :: .ref (G.1 0) :: rest)) := va_put (D := D) (ci := 9) (C := RX10) (T := TX10) (N := 44) (v := .long v) (ty := .long) E.1 E.2.1 E.2.2.2.1 kl_X10 tyX10 tyX10_ok nmX10 E.2.2.1 E.2.2.2.2 hP hD hS 0 rfl rfl 41 (by decide) (E.2.2.2.1 _ hl) (fun _ h => h) rfl (by decide +kernel) rfl rfl (Nat.le_of_ble_eq_true rfl) hd (fun H1 l1 a b d => kk H1 l1 a (wR_D hD) d)
theorem gR_42 (E : Ev D (tyR G) p s m c cc own args) (hP : va_P D vwCl (wR G u) H) {ix : Nat} (hl : Cond.fieldLink own ix "ConsHouseModel" "value" "[J" ∈ WS) (hd : decode cc pc = .ok (.getfield ix, 3)) (kk : W p l e R s m args below meth c H locs cells slots Q (F0 m (pc + 3) ls (.ref (G.1 19) :: rest))) : W p l e R s m args below meth c H locs cells slots Q (F0 m pc ls (.ref (G.1 0) :: rest)) := by exact va_get (D := D) (ci := 9) (C := RX10) (T := TX10) (N := 44) E.1 E.2.1 E.2.2.2.1 kl_X10 E.2.2.1 E.2.2.2.2 hP 0 rfl rfl 42 (by decide) (E.2.2.2.1 _ hl) (fun _ h => h) rfl hd kk
theorem gR_43 (E : Ev D (tyR G) p s m c cc own args) (hP : va_P D vwCl (wR G u) H) {ix : Nat} (hl : Cond.fieldLink own ix "ConsHouseModel" "many" "I" ∈ WS) {v : Int32} (hv : gI u 43 = v) (hd : decode cc pc = .ok (.getfield ix, 3)) (kk : W p l e R s m args below meth c H locs cells slots Q (F0 m (pc + 3) ls (.int v :: rest))) : W p l e R s m args below meth c H locs cells slots Q (F0 m pc ls (.ref (G.1 0) :: rest)) := by subst hv; exact va_get (D := D) (ci := 9) (C := RX10) (T := TX10) (N := 44) E.1 E.2.1 E.2.2.2.1 kl_X10 E.2.2.1 E.2.2.2.2 hP 0 rfl rfl 43 (by decide) (E.2.2.2.1 _ hl) (fun _ h => h) rfl hd kk
theorem pR_43 (E : Ev D (tyR G) p s m c cc own args) (hP : va_P D vwCl (wR G u) H) (hD : va_D A (wR G u)) (hS : va_S A H0 H locs) {ix : Nat} (hl : Cond.fieldLink own ix "ConsHouseModel" "many" "I" ∈ WS) {v : Int32} (hd : decode cc pc = .ok (.putfield ix, 3)) (kk : ∀ (H1 : Heap) (locs1 : List Loc), va_P D vwCl (wR G (sI u 43 v)) H1 → va_D A (wR G (sI u 43 v)) → va_S A H0 H1 locs1 → W p l e R s m args below meth c H1 locs1 cells slots Q (F0 m (pc + 3) ls rest)) : W p l e R s m args below meth c H locs cells slots Q (F0 m pc ls (.int v :: .ref (G.1 0) :: rest)) := va_put (D := D) (ci := 9) (C := RX10) (T := TX10) (N := 44) (v := .int v) (ty := .int) E.1 E.2.1 E.2.2.2.1 kl_X10 tyX10 tyX10_ok nmX10 E.2.2.1 E.2.2.2.2 hP hD hS 0 rfl rfl 43 (by decide) (E.2.2.2.1 _ hl) (fun _ h => h) rfl (by decide +kernel) rfl rfl (Nat.le_of_ble_eq_true rfl) hd (fun H1 l1 a b d => kk H1 l1 a (wR_D hD) d)
theorem xR_4 (E : Ev D (tyR G) p s m c cc own args) (hP : va_P D vwCl (wR G u) H) {i : Int32} (hin : vp_in i 2000) {v : Int32} (hv : gA u 4 i.toNatClampNeg = v) (hd : decode cc pc = .ok (.iaload, 1)) (kk : W p l e R s m args below meth c H locs cells slots Q (F0 m (pc + 1) ls (.int v :: rest))) : W p l e R s m args below meth c H locs cells slots Q (F0 m pc ls (.int i :: .ref (G.1 1) :: rest)) := by subst hv; exact va_iald E.1 E.2.1 E.2.2.2.2 hP 1 0 rfl rfl hin hd kk
theorem yR_4 (E : Ev D (tyR G) p s m c cc own args) (hP : va_P D vwCl (wR G u) H) (hD : va_D A (wR G u)) (hS : va_S A H0 H locs) {i : Int32} {x : Int32} (hin : vp_in i 2000) (hd : decode cc pc = .ok (.iastore, 1)) (kk : ∀ (H1 : Heap) (locs1 : List Loc), va_P D vwCl (wR G (sA u 4 (upd (gA u 4) i.toNatClampNeg x))) H1 → va_D A (wR G (sA u 4 (upd (gA u 4) i.toNatClampNeg x))) → va_S A H0 H1 locs1 → W p l e R s m args below meth c H1 locs1 cells slots Q (F0 m (pc + 1) ls rest)) : W p l e R s m args below meth c H locs cells slots Q (F0 m pc ls (.int x :: .int i :: .ref (G.1 1) :: rest)) := va_iast E.1 E.2.1 E.2.2.2.2 hP hD hS 1 0 rfl rfl hin hd (fun H1 l1 a b d => kk H1 l1 a (wR_D hD) d)
theorem zR_4 (E : Ev D (tyR G) p s m c cc own args) (hP : va_P D vwCl (wR G u) H) (hd : decode cc pc = .ok (.arraylength, 1)) (kk : W p l e R s m args below meth c H locs cells slots Q (F0 m (pc + 1) ls (.int (Int32.ofNat 2000) :: rest))) : W p l e R s m args below meth c H locs cells slots Q (F0 m pc ls (.ref (G.1 1) :: rest)) := va_alen E.1 E.2.1 E.2.2.2.2 hP 1 0 rfl rfl rfl hd kk
theorem xR_11 (E : Ev D (tyR G) p s m c cc own args) (hP : va_P D vwCl (wR G u) H) {i : Int32} (hin : vp_in i 400) {v : Int32} (hv : gA u 11 i.toNatClampNeg = v) (hd : decode cc pc = .ok (.iaload, 1)) (kk : W p l e R s m args below meth c H locs cells slots Q (F0 m (pc + 1) ls (.int v :: rest))) : W p l e R s m args below meth c H locs cells slots Q (F0 m pc ls (.int i :: .ref (G.1 2) :: rest)) := by subst hv; exact va_iald E.1 E.2.1 E.2.2.2.2 hP 2 1 rfl rfl hin hd kk
theorem yR_11 (E : Ev D (tyR G) p s m c cc own args) (hP : va_P D vwCl (wR G u) H) (hD : va_D A (wR G u)) (hS : va_S A H0 H locs) {i : Int32} {x : Int32} (hin : vp_in i 400) (hd : decode cc pc = .ok (.iastore, 1)) (kk : ∀ (H1 : Heap) (locs1 : List Loc), va_P D vwCl (wR G (sA u 11 (upd (gA u 11) i.toNatClampNeg x))) H1 → va_D A (wR G (sA u 11 (upd (gA u 11) i.toNatClampNeg x))) → va_S A H0 H1 locs1 → W p l e R s m args below meth c H1 locs1 cells slots Q (F0 m (pc + 1) ls rest)) : W p l e R s m args below meth c H locs cells slots Q (F0 m pc ls (.int x :: .int i :: .ref (G.1 2) :: rest)) := va_iast E.1 E.2.1 E.2.2.2.2 hP hD hS 2 1 rfl rfl hin hd (fun H1 l1 a b d => kk H1 l1 a (wR_D hD) d)
theorem zR_11 (E : Ev D (tyR G) p s m c cc own args) (hP : va_P D vwCl (wR G u) H) (hd : decode cc pc = .ok (.arraylength, 1)) (kk : W p l e R s m args below meth c H locs cells slots Q (F0 m (pc + 1) ls (.int (Int32.ofNat 400) :: rest))) : W p l e R s m args below meth c H locs cells slots Q (F0 m pc ls (.ref (G.1 2) :: rest)) := va_alen E.1 E.2.1 E.2.2.2.2 hP 2 1 rfl rfl rfl hd kk
theorem xR_13 (E : Ev D (tyR G) p s m c cc own args) (hP : va_P D vwCl (wR G u) H) {i : Int32} (hin : vp_in i 1000) {v : Int64} (hv : gB u 13 i.toNatClampNeg = v) (hd : decode cc pc = .ok (.laload, 1)) (kk : W p l e R s m args below meth c H locs cells slots Q (F0 m (pc + 1) ls (.long v :: rest))) : W p l e R s m args below meth c H locs cells slots Q (F0 m pc ls (.int i :: .ref (G.1 3) :: rest)) := by subst hv; exact va_lald E.1 E.2.1 E.2.2.2.2 hP 3 2 rfl rfl hin hd kk
theorem yR_13 (E : Ev D (tyR G) p s m c cc own args) (hP : va_P D vwCl (wR G u) H) (hD : va_D A (wR G u)) (hS : va_S A H0 H locs) {i : Int32} {x : Int64} (hin : vp_in i 1000) (hd : decode cc pc = .ok (.lastore, 1)) (kk : ∀ (H1 : Heap) (locs1 : List Loc), va_P D vwCl (wR G (sB u 13 (vp_updL (gB u 13) i.toNatClampNeg x))) H1 → va_D A (wR G (sB u 13 (vp_updL (gB u 13) i.toNatClampNeg x))) → va_S A H0 H1 locs1 → W p l e R s m args below meth c H1 locs1 cells slots Q (F0 m (pc + 1) ls rest)) : W p l e R s m args below meth c H locs cells slots Q (F0 m pc ls (.long x :: .int i :: .ref (G.1 3) :: rest)) := va_last E.1 E.2.1 E.2.2.2.2 hP hD hS 3 2 rfl rfl hin hd (fun H1 l1 a b d => kk H1 l1 a (wR_D hD) d)
theorem zR_13 (E : Ev D (tyR G) p s m c cc own args) (hP : va_P D vwCl (wR G u) H) (hd : decode cc pc = .ok (.arraylength, 1)) (kk : W p l e R s m args below meth c H locs cells slots Q (F0 m (pc + 1) ls (.int (Int32.ofNat 1000) :: rest))) : W p l e R s m args below meth c H locs cells slots Q (F0 m pc ls (.ref (G.1 3) :: rest)) := va_alen E.1 E.2.1 E.2.2.2.2 hP 3 2 rfl rfl rfl hd kk
theorem xR_14 (E : Ev D (tyR G) p s m c cc own args) (hP : va_P D vwCl (wR G u) H) {i : Int32} (hin : vp_in i 1000) {v : Int64} (hv : gB u 14 i.toNatClampNeg = v) (hd : decode cc pc = .ok (.laload, 1)) (kk : W p l e R s m args below meth c H locs cells slots Q (F0 m (pc + 1) ls (.long v :: rest))) : W p l e R s m args below meth c H locs cells slots Q (F0 m pc ls (.int i :: .ref (G.1 4) :: rest)) := by subst hv; exact va_lald E.1 E.2.1 E.2.2.2.2 hP 4 3 rfl rfl hin hd kk
theorem yR_14 (E : Ev D (tyR G) p s m c cc own args) (hP : va_P D vwCl (wR G u) H) (hD : va_D A (wR G u)) (hS : va_S A H0 H locs) {i : Int32} {x : Int64} (hin : vp_in i 1000) (hd : decode cc pc = .ok (.lastore, 1)) (kk : ∀ (H1 : Heap) (locs1 : List Loc), va_P D vwCl (wR G (sB u 14 (vp_updL (gB u 14) i.toNatClampNeg x))) H1 → va_D A (wR G (sB u 14 (vp_updL (gB u 14) i.toNatClampNeg x))) → va_S A H0 H1 locs1 → W p l e R s m args below meth c H1 locs1 cells slots Q (F0 m (pc + 1) ls rest)) : W p l e R s m args below meth c H locs cells slots Q (F0 m pc ls (.long x :: .int i :: .ref (G.1 4) :: rest)) := va_last E.1 E.2.1 E.2.2.2.2 hP hD hS 4 3 rfl rfl hin hd (fun H1 l1 a b d => kk H1 l1 a (wR_D hD) d)
theorem zR_14 (E : Ev D (tyR G) p s m c cc own args) (hP : va_P D vwCl (wR G u) H) (hd : decode cc pc = .ok (.arraylength, 1)) (kk : W p l e R s m args below meth c H locs cells slots Q (F0 m (pc + 1) ls (.int (Int32.ofNat 1000) :: rest))) : W p l e R s m args below meth c H locs cells slots Q (F0 m pc ls (.ref (G.1 4) :: rest)) := va_alen E.1 E.2.1 E.2.2.2.2 hP 4 3 rfl rfl rfl hd kk
theorem xR_15 (E : Ev D (tyR G) p s m c cc own args) (hP : va_P D vwCl (wR G u) H) {i : Int32} (hin : vp_in i 1000) {v : Int32} (hv : gA u 15 i.toNatClampNeg = v) (hd : decode cc pc = .ok (.baload, 1)) (kk : W p l e R s m args below meth c H locs cells slots Q (F0 m (pc + 1) ls (.int v :: rest))) : W p l e R s m args below meth c H locs cells slots Q (F0 m pc ls (.int i :: .ref (G.1 5) :: rest)) := by subst hv; exact va_zald E.1 E.2.1 E.2.2.2.2 hP 5 4 rfl rfl hin hd kk
theorem yR_15 (E : Ev D (tyR G) p s m c cc own args) (hP : va_P D vwCl (wR G u) H) (hD : va_D A (wR G u)) (hS : va_S A H0 H locs) {i : Int32} {x : Int32} (hin : vp_in i 1000) (hd : decode cc pc = .ok (.bastore, 1)) (kk : ∀ (H1 : Heap) (locs1 : List Loc), va_P D vwCl (wR G (sA u 15 (upd (gA u 15) i.toNatClampNeg (vp_nar .boolean x)))) H1 → va_D A (wR G (sA u 15 (upd (gA u 15) i.toNatClampNeg (vp_nar .boolean x)))) → va_S A H0 H1 locs1 → W p l e R s m args below meth c H1 locs1 cells slots Q (F0 m (pc + 1) ls rest)) : W p l e R s m args below meth c H locs cells slots Q (F0 m pc ls (.int x :: .int i :: .ref (G.1 5) :: rest)) := va_zast E.1 E.2.1 E.2.2.2.2 hP hD hS 5 4 rfl rfl hin hd (fun H1 l1 a b d => kk H1 l1 a (wR_D hD) d)
theorem zR_15 (E : Ev D (tyR G) p s m c cc own args) (hP : va_P D vwCl (wR G u) H) (hd : decode cc pc = .ok (.arraylength, 1)) (kk : W p l e R s m args below meth c H locs cells slots Q (F0 m (pc + 1) ls (.int (Int32.ofNat 1000) :: rest))) : W p l e R s m args below meth c H locs cells slots Q (F0 m pc ls (.ref (G.1 5) :: rest)) := va_alen E.1 E.2.1 E.2.2.2.2 hP 5 4 rfl rfl rfl hd kk
theorem xR_17 (E : Ev D (tyR G) p s m c cc own args) (hP : va_P D vwCl (wR G u) H) {i : Int32} (hin : vp_in i 1000) {v : Int64} (hv : gB u 17 i.toNatClampNeg = v) (hd : decode cc pc = .ok (.laload, 1)) (kk : W p l e R s m args below meth c H locs cells slots Q (F0 m (pc + 1) ls (.long v :: rest))) : W p l e R s m args below meth c H locs cells slots Q (F0 m pc ls (.int i :: .ref (G.1 6) :: rest)) := by subst hv; exact va_lald E.1 E.2.1 E.2.2.2.2 hP 6 5 rfl rfl hin hd kk
theorem yR_17 (E : Ev D (tyR G) p s m c cc own args) (hP : va_P D vwCl (wR G u) H) (hD : va_D A (wR G u)) (hS : va_S A H0 H locs) {i : Int32} {x : Int64} (hin : vp_in i 1000) (hd : decode cc pc = .ok (.lastore, 1)) (kk : ∀ (H1 : Heap) (locs1 : List Loc), va_P D vwCl (wR G (sB u 17 (vp_updL (gB u 17) i.toNatClampNeg x))) H1 → va_D A (wR G (sB u 17 (vp_updL (gB u 17) i.toNatClampNeg x))) → va_S A H0 H1 locs1 → W p l e R s m args below meth c H1 locs1 cells slots Q (F0 m (pc + 1) ls rest)) : W p l e R s m args below meth c H locs cells slots Q (F0 m pc ls (.long x :: .int i :: .ref (G.1 6) :: rest)) := va_last E.1 E.2.1 E.2.2.2.2 hP hD hS 6 5 rfl rfl hin hd (fun H1 l1 a b d => kk H1 l1 a (wR_D hD) d)
theorem zR_17 (E : Ev D (tyR G) p s m c cc own args) (hP : va_P D vwCl (wR G u) H) (hd : decode cc pc = .ok (.arraylength, 1)) (kk : W p l e R s m args below meth c H locs cells slots Q (F0 m (pc + 1) ls (.int (Int32.ofNat 1000) :: rest))) : W p l e R s m args below meth c H locs cells slots Q (F0 m pc ls (.ref (G.1 6) :: rest)) := va_alen E.1 E.2.1 E.2.2.2.2 hP 6 5 rfl rfl rfl hd kk
theorem xR_19 (E : Ev D (tyR G) p s m c cc own args) (hP : va_P D vwCl (wR G u) H) {i : Int32} (hin : vp_in i 150) {v : Int64} (hv : gB u 19 i.toNatClampNeg = v) (hd : decode cc pc = .ok (.laload, 1)) (kk : W p l e R s m args below meth c H locs cells slots Q (F0 m (pc + 1) ls (.long v :: rest))) : W p l e R s m args below meth c H locs cells slots Q (F0 m pc ls (.int i :: .ref (G.1 7) :: rest)) := by subst hv; exact va_lald E.1 E.2.1 E.2.2.2.2 hP 7 6 rfl rfl hin hd kk
theorem yR_19 (E : Ev D (tyR G) p s m c cc own args) (hP : va_P D vwCl (wR G u) H) (hD : va_D A (wR G u)) (hS : va_S A H0 H locs) {i : Int32} {x : Int64} (hin : vp_in i 150) (hd : decode cc pc = .ok (.lastore, 1)) (kk : ∀ (H1 : Heap) (locs1 : List Loc), va_P D vwCl (wR G (sB u 19 (vp_updL (gB u 19) i.toNatClampNeg x))) H1 → va_D A (wR G (sB u 19 (vp_updL (gB u 19) i.toNatClampNeg x))) → va_S A H0 H1 locs1 → W p l e R s m args below meth c H1 locs1 cells slots Q (F0 m (pc + 1) ls rest)) : W p l e R s m args below meth c H locs cells slots Q (F0 m pc ls (.long x :: .int i :: .ref (G.1 7) :: rest)) := va_last E.1 E.2.1 E.2.2.2.2 hP hD hS 7 6 rfl rfl hin hd (fun H1 l1 a b d => kk H1 l1 a (wR_D hD) d)
theorem zR_19 (E : Ev D (tyR G) p s m c cc own args) (hP : va_P D vwCl (wR G u) H) (hd : decode cc pc = .ok (.arraylength, 1)) (kk : W p l e R s m args below meth c H locs cells slots Q (F0 m (pc + 1) ls (.int (Int32.ofNat 150) :: rest))) : W p l e R s m args below meth c H locs cells slots Q (F0 m pc ls (.ref (G.1 7) :: rest)) := va_alen E.1 E.2.1 E.2.2.2.2 hP 7 6 rfl rfl rfl hd kk
theorem xR_20 (E : Ev D (tyR G) p s m c cc own args) (hP : va_P D vwCl (wR G u) H) {i : Int32} (hin : vp_in i 150) {v : Int64} (hv : gB u 20 i.toNatClampNeg = v) (hd : decode cc pc = .ok (.laload, 1)) (kk : W p l e R s m args below meth c H locs cells slots Q (F0 m (pc + 1) ls (.long v :: rest))) : W p l e R s m args below meth c H locs cells slots Q (F0 m pc ls (.int i :: .ref (G.1 8) :: rest)) := by subst hv; exact va_lald E.1 E.2.1 E.2.2.2.2 hP 8 7 rfl rfl hin hd kk
theorem yR_20 (E : Ev D (tyR G) p s m c cc own args) (hP : va_P D vwCl (wR G u) H) (hD : va_D A (wR G u)) (hS : va_S A H0 H locs) {i : Int32} {x : Int64} (hin : vp_in i 150) (hd : decode cc pc = .ok (.lastore, 1)) (kk : ∀ (H1 : Heap) (locs1 : List Loc), va_P D vwCl (wR G (sB u 20 (vp_updL (gB u 20) i.toNatClampNeg x))) H1 → va_D A (wR G (sB u 20 (vp_updL (gB u 20) i.toNatClampNeg x))) → va_S A H0 H1 locs1 → W p l e R s m args below meth c H1 locs1 cells slots Q (F0 m (pc + 1) ls rest)) : W p l e R s m args below meth c H locs cells slots Q (F0 m pc ls (.long x :: .int i :: .ref (G.1 8) :: rest)) := va_last E.1 E.2.1 E.2.2.2.2 hP hD hS 8 7 rfl rfl hin hd (fun H1 l1 a b d => kk H1 l1 a (wR_D hD) d)
theorem zR_20 (E : Ev D (tyR G) p s m c cc own args) (hP : va_P D vwCl (wR G u) H) (hd : decode cc pc = .ok (.arraylength, 1)) (kk : W p l e R s m args below meth c H locs cells slots Q (F0 m (pc + 1) ls (.int (Int32.ofNat 150) :: rest))) : W p l e R s m args below meth c H locs cells slots Q (F0 m pc ls (.ref (G.1 8) :: rest)) := va_alen E.1 E.2.1 E.2.2.2.2 hP 8 7 rfl rfl rfl hd kk
theorem xR_22 (E : Ev D (tyR G) p s m c cc own args) (hP : va_P D vwCl (wR G u) H) {i : Int32} (hin : vp_in i 150) {v : Int64} (hv : gB u 22 i.toNatClampNeg = v) (hd : decode cc pc = .ok (.laload, 1)) (kk : W p l e R s m args below meth c H locs cells slots Q (F0 m (pc + 1) ls (.long v :: rest))) : W p l e R s m args below meth c H locs cells slots Q (F0 m pc ls (.int i :: .ref (G.1 9) :: rest)) := by subst hv; exact va_lald E.1 E.2.1 E.2.2.2.2 hP 9 8 rfl rfl hin hd kk
theorem yR_22 (E : Ev D (tyR G) p s m c cc own args) (hP : va_P D vwCl (wR G u) H) (hD : va_D A (wR G u)) (hS : va_S A H0 H locs) {i : Int32} {x : Int64} (hin : vp_in i 150) (hd : decode cc pc = .ok (.lastore, 1)) (kk : ∀ (H1 : Heap) (locs1 : List Loc), va_P D vwCl (wR G (sB u 22 (vp_updL (gB u 22) i.toNatClampNeg x))) H1 → va_D A (wR G (sB u 22 (vp_updL (gB u 22) i.toNatClampNeg x))) → va_S A H0 H1 locs1 → W p l e R s m args below meth c H1 locs1 cells slots Q (F0 m (pc + 1) ls rest)) : W p l e R s m args below meth c H locs cells slots Q (F0 m pc ls (.long x :: .int i :: .ref (G.1 9) :: rest)) := va_last E.1 E.2.1 E.2.2.2.2 hP hD hS 9 8 rfl rfl hin hd (fun H1 l1 a b d => kk H1 l1 a (wR_D hD) d)
theorem zR_22 (E : Ev D (tyR G) p s m c cc own args) (hP : va_P D vwCl (wR G u) H) (hd : decode cc pc = .ok (.arraylength, 1)) (kk : W p l e R s m args below meth c H locs cells slots Q (F0 m (pc + 1) ls (.int (Int32.ofNat 150) :: rest))) : W p l e R s m args below meth c H locs cells slots Q (F0 m pc ls (.ref (G.1 9) :: rest)) := va_alen E.1 E.2.1 E.2.2.2.2 hP 9 8 rfl rfl rfl hd kk
theorem xR_26 (E : Ev D (tyR G) p s m c cc own args) (hP : va_P D vwCl (wR G u) H) {i : Int32} (hin : vp_in i 61) {v : Int32} (hv : gA u 26 i.toNatClampNeg = v) (hd : decode cc pc = .ok (.iaload, 1)) (kk : W p l e R s m args below meth c H locs cells slots Q (F0 m (pc + 1) ls (.int v :: rest))) : W p l e R s m args below meth c H locs cells slots Q (F0 m pc ls (.int i :: .ref (G.1 10) :: rest)) := by subst hv; exact va_iald E.1 E.2.1 E.2.2.2.2 hP 10 9 rfl rfl hin hd kk
theorem yR_26 (E : Ev D (tyR G) p s m c cc own args) (hP : va_P D vwCl (wR G u) H) (hD : va_D A (wR G u)) (hS : va_S A H0 H locs) {i : Int32} {x : Int32} (hin : vp_in i 61) (hd : decode cc pc = .ok (.iastore, 1)) (kk : ∀ (H1 : Heap) (locs1 : List Loc), va_P D vwCl (wR G (sA u 26 (upd (gA u 26) i.toNatClampNeg x))) H1 → va_D A (wR G (sA u 26 (upd (gA u 26) i.toNatClampNeg x))) → va_S A H0 H1 locs1 → W p l e R s m args below meth c H1 locs1 cells slots Q (F0 m (pc + 1) ls rest)) : W p l e R s m args below meth c H locs cells slots Q (F0 m pc ls (.int x :: .int i :: .ref (G.1 10) :: rest)) := va_iast E.1 E.2.1 E.2.2.2.2 hP hD hS 10 9 rfl rfl hin hd (fun H1 l1 a b d => kk H1 l1 a (wR_D hD) d)
theorem zR_26 (E : Ev D (tyR G) p s m c cc own args) (hP : va_P D vwCl (wR G u) H) (hd : decode cc pc = .ok (.arraylength, 1)) (kk : W p l e R s m args below meth c H locs cells slots Q (F0 m (pc + 1) ls (.int (Int32.ofNat 61) :: rest))) : W p l e R s m args below meth c H locs cells slots Q (F0 m pc ls (.ref (G.1 10) :: rest)) := va_alen E.1 E.2.1 E.2.2.2.2 hP 10 9 rfl rfl rfl hd kk
theorem xR_27 (E : Ev D (tyR G) p s m c cc own args) (hP : va_P D vwCl (wR G u) H) {i : Int32} (hin : vp_in i 61) {v : Int64} (hv : gB u 27 i.toNatClampNeg = v) (hd : decode cc pc = .ok (.laload, 1)) (kk : W p l e R s m args below meth c H locs cells slots Q (F0 m (pc + 1) ls (.long v :: rest))) : W p l e R s m args below meth c H locs cells slots Q (F0 m pc ls (.int i :: .ref (G.1 11) :: rest)) := by subst hv; exact va_lald E.1 E.2.1 E.2.2.2.2 hP 11 10 rfl rfl hin hd kk
theorem yR_27 (E : Ev D (tyR G) p s m c cc own args) (hP : va_P D vwCl (wR G u) H) (hD : va_D A (wR G u)) (hS : va_S A H0 H locs) {i : Int32} {x : Int64} (hin : vp_in i 61) (hd : decode cc pc = .ok (.lastore, 1)) (kk : ∀ (H1 : Heap) (locs1 : List Loc), va_P D vwCl (wR G (sB u 27 (vp_updL (gB u 27) i.toNatClampNeg x))) H1 → va_D A (wR G (sB u 27 (vp_updL (gB u 27) i.toNatClampNeg x))) → va_S A H0 H1 locs1 → W p l e R s m args below meth c H1 locs1 cells slots Q (F0 m (pc + 1) ls rest)) : W p l e R s m args below meth c H locs cells slots Q (F0 m pc ls (.long x :: .int i :: .ref (G.1 11) :: rest)) := va_last E.1 E.2.1 E.2.2.2.2 hP hD hS 11 10 rfl rfl hin hd (fun H1 l1 a b d => kk H1 l1 a (wR_D hD) d)
theorem zR_27 (E : Ev D (tyR G) p s m c cc own args) (hP : va_P D vwCl (wR G u) H) (hd : decode cc pc = .ok (.arraylength, 1)) (kk : W p l e R s m args below meth c H locs cells slots Q (F0 m (pc + 1) ls (.int (Int32.ofNat 61) :: rest))) : W p l e R s m args below meth c H locs cells slots Q (F0 m pc ls (.ref (G.1 11) :: rest)) := va_alen E.1 E.2.1 E.2.2.2.2 hP 11 10 rfl rfl rfl hd kk
theorem xR_28 (E : Ev D (tyR G) p s m c cc own args) (hP : va_P D vwCl (wR G u) H) {i : Int32} (hin : vp_in i 61) {v : Int32} (hv : gA u 28 i.toNatClampNeg = v) (hd : decode cc pc = .ok (.iaload, 1)) (kk : W p l e R s m args below meth c H locs cells slots Q (F0 m (pc + 1) ls (.int v :: rest))) : W p l e R s m args below meth c H locs cells slots Q (F0 m pc ls (.int i :: .ref (G.1 12) :: rest)) := by subst hv; exact va_iald E.1 E.2.1 E.2.2.2.2 hP 12 11 rfl rfl hin hd kk
theorem yR_28 (E : Ev D (tyR G) p s m c cc own args) (hP : va_P D vwCl (wR G u) H) (hD : va_D A (wR G u)) (hS : va_S A H0 H locs) {i : Int32} {x : Int32} (hin : vp_in i 61) (hd : decode cc pc = .ok (.iastore, 1)) (kk : ∀ (H1 : Heap) (locs1 : List Loc), va_P D vwCl (wR G (sA u 28 (upd (gA u 28) i.toNatClampNeg x))) H1 → va_D A (wR G (sA u 28 (upd (gA u 28) i.toNatClampNeg x))) → va_S A H0 H1 locs1 → W p l e R s m args below meth c H1 locs1 cells slots Q (F0 m (pc + 1) ls rest)) : W p l e R s m args below meth c H locs cells slots Q (F0 m pc ls (.int x :: .int i :: .ref (G.1 12) :: rest)) := va_iast E.1 E.2.1 E.2.2.2.2 hP hD hS 12 11 rfl rfl hin hd (fun H1 l1 a b d => kk H1 l1 a (wR_D hD) d)
theorem zR_28 (E : Ev D (tyR G) p s m c cc own args) (hP : va_P D vwCl (wR G u) H) (hd : decode cc pc = .ok (.arraylength, 1)) (kk : W p l e R s m args below meth c H locs cells slots Q (F0 m (pc + 1) ls (.int (Int32.ofNat 61) :: rest))) : W p l e R s m args below meth c H locs cells slots Q (F0 m pc ls (.ref (G.1 12) :: rest)) := va_alen E.1 E.2.1 E.2.2.2.2 hP 12 11 rfl rfl rfl hd kk
theorem xR_33 (E : Ev D (tyR G) p s m c cc own args) (hP : va_P D vwCl (wR G u) H) {i : Int32} (hin : vp_in i 200) {v : Int32} (hv : gA u 33 i.toNatClampNeg = v) (hd : decode cc pc = .ok (.iaload, 1)) (kk : W p l e R s m args below meth c H locs cells slots Q (F0 m (pc + 1) ls (.int v :: rest))) : W p l e R s m args below meth c H locs cells slots Q (F0 m pc ls (.int i :: .ref (G.1 13) :: rest)) := by subst hv; exact va_iald E.1 E.2.1 E.2.2.2.2 hP 13 12 rfl rfl hin hd kk
theorem yR_33 (E : Ev D (tyR G) p s m c cc own args) (hP : va_P D vwCl (wR G u) H) (hD : va_D A (wR G u)) (hS : va_S A H0 H locs) {i : Int32} {x : Int32} (hin : vp_in i 200) (hd : decode cc pc = .ok (.iastore, 1)) (kk : ∀ (H1 : Heap) (locs1 : List Loc), va_P D vwCl (wR G (sA u 33 (upd (gA u 33) i.toNatClampNeg x))) H1 → va_D A (wR G (sA u 33 (upd (gA u 33) i.toNatClampNeg x))) → va_S A H0 H1 locs1 → W p l e R s m args below meth c H1 locs1 cells slots Q (F0 m (pc + 1) ls rest)) : W p l e R s m args below meth c H locs cells slots Q (F0 m pc ls (.int x :: .int i :: .ref (G.1 13) :: rest)) := va_iast E.1 E.2.1 E.2.2.2.2 hP hD hS 13 12 rfl rfl hin hd (fun H1 l1 a b d => kk H1 l1 a (wR_D hD) d)
theorem zR_33 (E : Ev D (tyR G) p s m c cc own args) (hP : va_P D vwCl (wR G u) H) (hd : decode cc pc = .ok (.arraylength, 1)) (kk : W p l e R s m args below meth c H locs cells slots Q (F0 m (pc + 1) ls (.int (Int32.ofNat 200) :: rest))) : W p l e R s m args below meth c H locs cells slots Q (F0 m pc ls (.ref (G.1 13) :: rest)) := va_alen E.1 E.2.1 E.2.2.2.2 hP 13 12 rfl rfl rfl hd kk
theorem xR_34 (E : Ev D (tyR G) p s m c cc own args) (hP : va_P D vwCl (wR G u) H) {i : Int32} (hin : vp_in i 200) {v : Int64} (hv : gB u 34 i.toNatClampNeg = v) (hd : decode cc pc = .ok (.laload, 1)) (kk : W p l e R s m args below meth c H locs cells slots Q (F0 m (pc + 1) ls (.long v :: rest))) : W p l e R s m args below meth c H locs cells slots Q (F0 m pc ls (.int i :: .ref (G.1 14) :: rest)) := by subst hv; exact va_lald E.1 E.2.1 E.2.2.2.2 hP 14 13 rfl rfl hin hd kk
theorem yR_34 (E : Ev D (tyR G) p s m c cc own args) (hP : va_P D vwCl (wR G u) H) (hD : va_D A (wR G u)) (hS : va_S A H0 H locs) {i : Int32} {x : Int64} (hin : vp_in i 200) (hd : decode cc pc = .ok (.lastore, 1)) (kk : ∀ (H1 : Heap) (locs1 : List Loc), va_P D vwCl (wR G (sB u 34 (vp_updL (gB u 34) i.toNatClampNeg x))) H1 → va_D A (wR G (sB u 34 (vp_updL (gB u 34) i.toNatClampNeg x))) → va_S A H0 H1 locs1 → W p l e R s m args below meth c H1 locs1 cells slots Q (F0 m (pc + 1) ls rest)) : W p l e R s m args below meth c H locs cells slots Q (F0 m pc ls (.long x :: .int i :: .ref (G.1 14) :: rest)) := va_last E.1 E.2.1 E.2.2.2.2 hP hD hS 14 13 rfl rfl hin hd (fun H1 l1 a b d => kk H1 l1 a (wR_D hD) d)
theorem zR_34 (E : Ev D (tyR G) p s m c cc own args) (hP : va_P D vwCl (wR G u) H) (hd : decode cc pc = .ok (.arraylength, 1)) (kk : W p l e R s m args below meth c H locs cells slots Q (F0 m (pc + 1) ls (.int (Int32.ofNat 200) :: rest))) : W p l e R s m args below meth c H locs cells slots Q (F0 m pc ls (.ref (G.1 14) :: rest)) := va_alen E.1 E.2.1 E.2.2.2.2 hP 14 13 rfl rfl rfl hd kk
theorem xR_35 (E : Ev D (tyR G) p s m c cc own args) (hP : va_P D vwCl (wR G u) H) {i : Int32} (hin : vp_in i 200) {v : Int64} (hv : gB u 35 i.toNatClampNeg = v) (hd : decode cc pc = .ok (.laload, 1)) (kk : W p l e R s m args below meth c H locs cells slots Q (F0 m (pc + 1) ls (.long v :: rest))) : W p l e R s m args below meth c H locs cells slots Q (F0 m pc ls (.int i :: .ref (G.1 15) :: rest)) := by subst hv; exact va_lald E.1 E.2.1 E.2.2.2.2 hP 15 14 rfl rfl hin hd kk
theorem yR_35 (E : Ev D (tyR G) p s m c cc own args) (hP : va_P D vwCl (wR G u) H) (hD : va_D A (wR G u)) (hS : va_S A H0 H locs) {i : Int32} {x : Int64} (hin : vp_in i 200) (hd : decode cc pc = .ok (.lastore, 1)) (kk : ∀ (H1 : Heap) (locs1 : List Loc), va_P D vwCl (wR G (sB u 35 (vp_updL (gB u 35) i.toNatClampNeg x))) H1 → va_D A (wR G (sB u 35 (vp_updL (gB u 35) i.toNatClampNeg x))) → va_S A H0 H1 locs1 → W p l e R s m args below meth c H1 locs1 cells slots Q (F0 m (pc + 1) ls rest)) : W p l e R s m args below meth c H locs cells slots Q (F0 m pc ls (.long x :: .int i :: .ref (G.1 15) :: rest)) := va_last E.1 E.2.1 E.2.2.2.2 hP hD hS 15 14 rfl rfl hin hd (fun H1 l1 a b d => kk H1 l1 a (wR_D hD) d)
theorem zR_35 (E : Ev D (tyR G) p s m c cc own args) (hP : va_P D vwCl (wR G u) H) (hd : decode cc pc = .ok (.arraylength, 1)) (kk : W p l e R s m args below meth c H locs cells slots Q (F0 m (pc + 1) ls (.int (Int32.ofNat 200) :: rest))) : W p l e R s m args below meth c H locs cells slots Q (F0 m pc ls (.ref (G.1 15) :: rest)) := va_alen E.1 E.2.1 E.2.2.2.2 hP 15 14 rfl rfl rfl hd kk
theorem xR_36 (E : Ev D (tyR G) p s m c cc own args) (hP : va_P D vwCl (wR G u) H) {i : Int32} (hin : vp_in i 200) {v : Int64} (hv : gB u 36 i.toNatClampNeg = v) (hd : decode cc pc = .ok (.laload, 1)) (kk : W p l e R s m args below meth c H locs cells slots Q (F0 m (pc + 1) ls (.long v :: rest))) : W p l e R s m args below meth c H locs cells slots Q (F0 m pc ls (.int i :: .ref (G.1 16) :: rest)) := by subst hv; exact va_lald E.1 E.2.1 E.2.2.2.2 hP 16 15 rfl rfl hin hd kk
theorem yR_36 (E : Ev D (tyR G) p s m c cc own args) (hP : va_P D vwCl (wR G u) H) (hD : va_D A (wR G u)) (hS : va_S A H0 H locs) {i : Int32} {x : Int64} (hin : vp_in i 200) (hd : decode cc pc = .ok (.lastore, 1)) (kk : ∀ (H1 : Heap) (locs1 : List Loc), va_P D vwCl (wR G (sB u 36 (vp_updL (gB u 36) i.toNatClampNeg x))) H1 → va_D A (wR G (sB u 36 (vp_updL (gB u 36) i.toNatClampNeg x))) → va_S A H0 H1 locs1 → W p l e R s m args below meth c H1 locs1 cells slots Q (F0 m (pc + 1) ls rest)) : W p l e R s m args below meth c H locs cells slots Q (F0 m pc ls (.long x :: .int i :: .ref (G.1 16) :: rest)) := va_last E.1 E.2.1 E.2.2.2.2 hP hD hS 16 15 rfl rfl hin hd (fun H1 l1 a b d => kk H1 l1 a (wR_D hD) d)
theorem zR_36 (E : Ev D (tyR G) p s m c cc own args) (hP : va_P D vwCl (wR G u) H) (hd : decode cc pc = .ok (.arraylength, 1)) (kk : W p l e R s m args below meth c H locs cells slots Q (F0 m (pc + 1) ls (.int (Int32.ofNat 200) :: rest))) : W p l e R s m args below meth c H locs cells slots Q (F0 m pc ls (.ref (G.1 16) :: rest)) := va_alen E.1 E.2.1 E.2.2.2.2 hP 16 15 rfl rfl rfl hd kk
theorem xR_37 (E : Ev D (tyR G) p s m c cc own args) (hP : va_P D vwCl (wR G u) H) {i : Int32} (hin : vp_in i 200) {v : Int32} (hv : gA u 37 i.toNatClampNeg = v) (hd : decode cc pc = .ok (.iaload, 1)) (kk : W p l e R s m args below meth c H locs cells slots Q (F0 m (pc + 1) ls (.int v :: rest))) : W p l e R s m args below meth c H locs cells slots Q (F0 m pc ls (.int i :: .ref (G.1 17) :: rest)) := by subst hv; exact va_iald E.1 E.2.1 E.2.2.2.2 hP 17 16 rfl rfl hin hd kk
theorem yR_37 (E : Ev D (tyR G) p s m c cc own args) (hP : va_P D vwCl (wR G u) H) (hD : va_D A (wR G u)) (hS : va_S A H0 H locs) {i : Int32} {x : Int32} (hin : vp_in i 200) (hd : decode cc pc = .ok (.iastore, 1)) (kk : ∀ (H1 : Heap) (locs1 : List Loc), va_P D vwCl (wR G (sA u 37 (upd (gA u 37) i.toNatClampNeg x))) H1 → va_D A (wR G (sA u 37 (upd (gA u 37) i.toNatClampNeg x))) → va_S A H0 H1 locs1 → W p l e R s m args below meth c H1 locs1 cells slots Q (F0 m (pc + 1) ls rest)) : W p l e R s m args below meth c H locs cells slots Q (F0 m pc ls (.int x :: .int i :: .ref (G.1 17) :: rest)) := va_iast E.1 E.2.1 E.2.2.2.2 hP hD hS 17 16 rfl rfl hin hd (fun H1 l1 a b d => kk H1 l1 a (wR_D hD) d)
theorem zR_37 (E : Ev D (tyR G) p s m c cc own args) (hP : va_P D vwCl (wR G u) H) (hd : decode cc pc = .ok (.arraylength, 1)) (kk : W p l e R s m args below meth c H locs cells slots Q (F0 m (pc + 1) ls (.int (Int32.ofNat 200) :: rest))) : W p l e R s m args below meth c H locs cells slots Q (F0 m pc ls (.ref (G.1 17) :: rest)) := va_alen E.1 E.2.1 E.2.2.2.2 hP 17 16 rfl rfl rfl hd kk
theorem xR_38 (E : Ev D (tyR G) p s m c cc own args) (hP : va_P D vwCl (wR G u) H) {i : Int32} (hin : vp_in i 1600) {v : Int64} (hv : gB u 38 i.toNatClampNeg = v) (hd : decode cc pc = .ok (.laload, 1)) (kk : W p l e R s m args below meth c H locs cells slots Q (F0 m (pc + 1) ls (.long v :: rest))) : W p l e R s m args below meth c H locs cells slots Q (F0 m pc ls (.int i :: .ref (G.1 18) :: rest)) := by subst hv; exact va_lald E.1 E.2.1 E.2.2.2.2 hP 18 17 rfl rfl hin hd kk
theorem yR_38 (E : Ev D (tyR G) p s m c cc own args) (hP : va_P D vwCl (wR G u) H) (hD : va_D A (wR G u)) (hS : va_S A H0 H locs) {i : Int32} {x : Int64} (hin : vp_in i 1600) (hd : decode cc pc = .ok (.lastore, 1)) (kk : ∀ (H1 : Heap) (locs1 : List Loc), va_P D vwCl (wR G (sB u 38 (vp_updL (gB u 38) i.toNatClampNeg x))) H1 → va_D A (wR G (sB u 38 (vp_updL (gB u 38) i.toNatClampNeg x))) → va_S A H0 H1 locs1 → W p l e R s m args below meth c H1 locs1 cells slots Q (F0 m (pc + 1) ls rest)) : W p l e R s m args below meth c H locs cells slots Q (F0 m pc ls (.long x :: .int i :: .ref (G.1 18) :: rest)) := va_last E.1 E.2.1 E.2.2.2.2 hP hD hS 18 17 rfl rfl hin hd (fun H1 l1 a b d => kk H1 l1 a (wR_D hD) d)
theorem zR_38 (E : Ev D (tyR G) p s m c cc own args) (hP : va_P D vwCl (wR G u) H) (hd : decode cc pc = .ok (.arraylength, 1)) (kk : W p l e R s m args below meth c H locs cells slots Q (F0 m (pc + 1) ls (.int (Int32.ofNat 1600) :: rest))) : W p l e R s m args below meth c H locs cells slots Q (F0 m pc ls (.ref (G.1 18) :: rest)) := va_alen E.1 E.2.1 E.2.2.2.2 hP 18 17 rfl rfl rfl hd kk
theorem xR_42 (E : Ev D (tyR G) p s m c cc own args) (hP : va_P D vwCl (wR G u) H) {i : Int32} (hin : vp_in i 8) {v : Int64} (hv : gB u 42 i.toNatClampNeg = v) (hd : decode cc pc = .ok (.laload, 1)) (kk : W p l e R s m args below meth c H locs cells slots Q (F0 m (pc + 1) ls (.long v :: rest))) : W p l e R s m args below meth c H locs cells slots Q (F0 m pc ls (.int i :: .ref (G.1 19) :: rest)) := by subst hv; exact va_lald E.1 E.2.1 E.2.2.2.2 hP 19 18 rfl rfl hin hd kk
theorem yR_42 (E : Ev D (tyR G) p s m c cc own args) (hP : va_P D vwCl (wR G u) H) (hD : va_D A (wR G u)) (hS : va_S A H0 H locs) {i : Int32} {x : Int64} (hin : vp_in i 8) (hd : decode cc pc = .ok (.lastore, 1)) (kk : ∀ (H1 : Heap) (locs1 : List Loc), va_P D vwCl (wR G (sB u 42 (vp_updL (gB u 42) i.toNatClampNeg x))) H1 → va_D A (wR G (sB u 42 (vp_updL (gB u 42) i.toNatClampNeg x))) → va_S A H0 H1 locs1 → W p l e R s m args below meth c H1 locs1 cells slots Q (F0 m (pc + 1) ls rest)) : W p l e R s m args below meth c H locs cells slots Q (F0 m pc ls (.long x :: .int i :: .ref (G.1 19) :: rest)) := va_last E.1 E.2.1 E.2.2.2.2 hP hD hS 19 18 rfl rfl hin hd (fun H1 l1 a b d => kk H1 l1 a (wR_D hD) d)
theorem zR_42 (E : Ev D (tyR G) p s m c cc own args) (hP : va_P D vwCl (wR G u) H) (hd : decode cc pc = .ok (.arraylength, 1)) (kk : W p l e R s m args below meth c H locs cells slots Q (F0 m (pc + 1) ls (.int (Int32.ofNat 8) :: rest))) : W p l e R s m args below meth c H locs cells slots Q (F0 m pc ls (.ref (G.1 19) :: rest)) := va_alen E.1 E.2.1 E.2.2.2.2 hP 19 18 rfl rfl rfl hd kk
end
end
section
section
variable {p : Program} {l : Launch} {e : Env} {R : Room} {s : State} {m : MethodId} {args : Array Value} {below : List Frame} {meth : Method} {c : Code} {H H0 : Heap} {locs : List Loc} {cells slots : Nat} {Q : State → Prop} {D : va_G} {A : Nat → Prop} {cc : ByteArray} {own : String} {pc : Nat} {ls : Array Slot} {rest : List Value} {G : Gd} {u : St} {tys : List (ClassId × FieldType)}
theorem gN_0 (E : Ev D (tyN G) p s m c cc own args) (hP : va_P D vwCl (wN G u) H) {ix : Nat} (hl : Cond.fieldLink own ix "ConsHouse$Names" "spelled" "[J" ∈ WS) (hd : decode cc pc = .ok (.getfield ix, 3)) (kk : W p l e R s m args below meth c H locs cells slots Q (F0 m (pc + 3) ls (.ref (G.1 1) :: rest))) : W p l e R s m args below meth c H locs cells slots Q (F0 m pc ls (.ref (G.1 0) :: rest)) := by exact va_get (D := D) (ci := 3) (C := RX3) (T := TX3) (N := 4) E.1 E.2.1 E.2.2.2.1 kl_X3 E.2.2.1 E.2.2.2.2 hP 0 rfl rfl 0 (by decide) (E.2.2.2.1 _ hl) (fun _ h => h) rfl hd kk
theorem gN_1 (E : Ev D (tyN G) p s m c cc own args) (hP : va_P D vwCl (wN G u) H) {ix : Nat} (hl : Cond.fieldLink own ix "ConsHouse$Names" "globals" "[J" ∈ WS) (hd : decode cc pc = .ok (.getfield ix, 3)) (kk : W p l e R s m args below meth c H locs cells slots Q (F0 m (pc + 3) ls (.ref (G.1 2) :: rest))) : W p l e R s m args below meth c H locs cells slots Q (F0 m pc ls (.ref (G.1 0) :: rest)) := by exact va_get (D := D) (ci := 3) (C := RX3) (T := TX3) (N := 4) E.1 E.2.1 E.2.2.2.1 kl_X3 E.2.2.1 E.2.2.2.2 hP 0 rfl rfl 1 (by decide) (E.2.2.2.1 _ hl) (fun _ h => h) rfl hd kk
theorem gN_2 (E : Ev D (tyN G) p s m c cc own args) (hP : va_P D vwCl (wN G u) H) {ix : Nat} (hl : Cond.fieldLink own ix "ConsHouse$Names" "total" "I" ∈ WS) {v : Int32} (hv : gI u 2 = v) (hd : decode cc pc = .ok (.getfield ix, 3)) (kk : W p l e R s m args below meth c H locs cells slots Q (F0 m (pc + 3) ls (.int v :: rest))) : W p l e R s m args below meth c H locs cells slots Q (F0 m pc ls (.ref (G.1 0) :: rest)) := by subst hv; exact va_get (D := D) (ci := 3) (C := RX3) (T := TX3) (N := 4) E.1 E.2.1 E.2.2.2.1 kl_X3 E.2.2.1 E.2.2.2.2 hP 0 rfl rfl 2 (by decide) (E.2.2.2.1 _ hl) (fun _ h => h) rfl hd kk
theorem pN_2 (E : Ev D (tyN G) p s m c cc own args) (hP : va_P D vwCl (wN G u) H) (hD : va_D A (wN G u)) (hS : va_S A H0 H locs) {ix : Nat} (hl : Cond.fieldLink own ix "ConsHouse$Names" "total" "I" ∈ WS) {v : Int32} (hd : decode cc pc = .ok (.putfield ix, 3)) (kk : ∀ (H1 : Heap) (locs1 : List Loc), va_P D vwCl (wN G (sI u 2 v)) H1 → va_D A (wN G (sI u 2 v)) → va_S A H0 H1 locs1 → W p l e R s m args below meth c H1 locs1 cells slots Q (F0 m (pc + 3) ls rest)) : W p l e R s m args below meth c H locs cells slots Q (F0 m pc ls (.int v :: .ref (G.1 0) :: rest)) := va_put (D := D) (ci := 3) (C := RX3) (T := TX3) (N := 4) (v := .int v) (ty := .int) E.1 E.2.1 E.2.2.2.1 kl_X3 tyX3 tyX3_ok nmX3 E.2.2.1 E.2.2.2.2 hP hD hS 0 rfl rfl 2 (by decide) (E.2.2.2.1 _ hl) (fun _ h => h) rfl (by decide +kernel) rfl rfl (Nat.le_of_ble_eq_true rfl) hd (fun H1 l1 a b d => kk H1 l1 a (wN_D hD) d)
theorem gN_3 (E : Ev D (tyN G) p s m c cc own args) (hP : va_P D vwCl (wN G u) H) {ix : Nat} (hl : Cond.fieldLink own ix "ConsHouse$Names" "crowded" "Z" ∈ WS) {v : Int32} (hv : gI u 3 = v) (hd : decode cc pc = .ok (.getfield ix, 3)) (kk : W p l e R s m args below meth c H locs cells slots Q (F0 m (pc + 3) ls (.int v :: rest))) : W p l e R s m args below meth c H locs cells slots Q (F0 m pc ls (.ref (G.1 0) :: rest)) := by subst hv; exact va_get (D := D) (ci := 3) (C := RX3) (T := TX3) (N := 4) E.1 E.2.1 E.2.2.2.1 kl_X3 E.2.2.1 E.2.2.2.2 hP 0 rfl rfl 3 (by decide) (E.2.2.2.1 _ hl) (fun _ h => h) rfl hd kk
theorem pN_3 (E : Ev D (tyN G) p s m c cc own args) (hP : va_P D vwCl (wN G u) H) (hD : va_D A (wN G u)) (hS : va_S A H0 H locs) {ix : Nat} (hl : Cond.fieldLink own ix "ConsHouse$Names" "crowded" "Z" ∈ WS) {v : Int32} (hz : vz v) (hd : decode cc pc = .ok (.putfield ix, 3)) (kk : ∀ (H1 : Heap) (locs1 : List Loc), va_P D vwCl (wN G (sI u 3 v)) H1 → va_D A (wN G (sI u 3 v)) → va_S A H0 H1 locs1 → W p l e R s m args below meth c H1 locs1 cells slots Q (F0 m (pc + 3) ls rest)) : W p l e R s m args below meth c H locs cells slots Q (F0 m pc ls (.int v :: .ref (G.1 0) :: rest)) := va_put (D := D) (ci := 3) (C := RX3) (T := TX3) (N := 4) (v := .int v) (ty := .boolean) E.1 E.2.1 E.2.2.2.1 kl_X3 tyX3 tyX3_ok nmX3 E.2.2.1 E.2.2.2.2 hP hD hS 0 rfl rfl 3 (by decide) (E.2.2.2.1 _ hl) (fun _ h => h) rfl (by decide +kernel) (vz_n hz) (vz_f hz) (Nat.le_of_ble_eq_true rfl) hd (fun H1 l1 a b d => kk H1 l1 a (wN_D hD) d)
theorem xN_0 (E : Ev D (tyN G) p s m c cc own args) (hP : va_P D vwCl (wN G u) H) {i : Int32} (hin : vp_in i 150) {v : Int64} (hv : gB u 0 i.toNatClampNeg = v) (hd : decode cc pc = .ok (.laload, 1)) (kk : W p l e R s m args below meth c H locs cells slots Q (F0 m (pc + 1) ls (.long v :: rest))) : W p l e R s m args below meth c H locs cells slots Q (F0 m pc ls (.int i :: .ref (G.1 1) :: rest)) := by subst hv; exact va_lald E.1 E.2.1 E.2.2.2.2 hP 1 0 rfl rfl hin hd kk
theorem yN_0 (E : Ev D (tyN G) p s m c cc own args) (hP : va_P D vwCl (wN G u) H) (hD : va_D A (wN G u)) (hS : va_S A H0 H locs) {i : Int32} {x : Int64} (hin : vp_in i 150) (hd : decode cc pc = .ok (.lastore, 1)) (kk : ∀ (H1 : Heap) (locs1 : List Loc), va_P D vwCl (wN G (sB u 0 (vp_updL (gB u 0) i.toNatClampNeg x))) H1 → va_D A (wN G (sB u 0 (vp_updL (gB u 0) i.toNatClampNeg x))) → va_S A H0 H1 locs1 → W p l e R s m args below meth c H1 locs1 cells slots Q (F0 m (pc + 1) ls rest)) : W p l e R s m args below meth c H locs cells slots Q (F0 m pc ls (.long x :: .int i :: .ref (G.1 1) :: rest)) := va_last E.1 E.2.1 E.2.2.2.2 hP hD hS 1 0 rfl rfl hin hd (fun H1 l1 a b d => kk H1 l1 a (wN_D hD) d)
theorem zN_0 (E : Ev D (tyN G) p s m c cc own args) (hP : va_P D vwCl (wN G u) H) (hd : decode cc pc = .ok (.arraylength, 1)) (kk : W p l e R s m args below meth c H locs cells slots Q (F0 m (pc + 1) ls (.int (Int32.ofNat 150) :: rest))) : W p l e R s m args below meth c H locs cells slots Q (F0 m pc ls (.ref (G.1 1) :: rest)) := va_alen E.1 E.2.1 E.2.2.2.2 hP 1 0 rfl rfl rfl hd kk
theorem xN_1 (E : Ev D (tyN G) p s m c cc own args) (hP : va_P D vwCl (wN G u) H) {i : Int32} (hin : vp_in i 150) {v : Int64} (hv : gB u 1 i.toNatClampNeg = v) (hd : decode cc pc = .ok (.laload, 1)) (kk : W p l e R s m args below meth c H locs cells slots Q (F0 m (pc + 1) ls (.long v :: rest))) : W p l e R s m args below meth c H locs cells slots Q (F0 m pc ls (.int i :: .ref (G.1 2) :: rest)) := by subst hv; exact va_lald E.1 E.2.1 E.2.2.2.2 hP 2 1 rfl rfl hin hd kk
theorem yN_1 (E : Ev D (tyN G) p s m c cc own args) (hP : va_P D vwCl (wN G u) H) (hD : va_D A (wN G u)) (hS : va_S A H0 H locs) {i : Int32} {x : Int64} (hin : vp_in i 150) (hd : decode cc pc = .ok (.lastore, 1)) (kk : ∀ (H1 : Heap) (locs1 : List Loc), va_P D vwCl (wN G (sB u 1 (vp_updL (gB u 1) i.toNatClampNeg x))) H1 → va_D A (wN G (sB u 1 (vp_updL (gB u 1) i.toNatClampNeg x))) → va_S A H0 H1 locs1 → W p l e R s m args below meth c H1 locs1 cells slots Q (F0 m (pc + 1) ls rest)) : W p l e R s m args below meth c H locs cells slots Q (F0 m pc ls (.long x :: .int i :: .ref (G.1 2) :: rest)) := va_last E.1 E.2.1 E.2.2.2.2 hP hD hS 2 1 rfl rfl hin hd (fun H1 l1 a b d => kk H1 l1 a (wN_D hD) d)
theorem zN_1 (E : Ev D (tyN G) p s m c cc own args) (hP : va_P D vwCl (wN G u) H) (hd : decode cc pc = .ok (.arraylength, 1)) (kk : W p l e R s m args below meth c H locs cells slots Q (F0 m (pc + 1) ls (.int (Int32.ofNat 150) :: rest))) : W p l e R s m args below meth c H locs cells slots Q (F0 m pc ls (.ref (G.1 2) :: rest)) := va_alen E.1 E.2.1 E.2.2.2.2 hP 2 1 rfl rfl rfl hd kk
end
end
