section
-- ===== PART A: goes FIRST, ahead of the names: the tables' words, and 'selects' of the private methods out of them =====
/-- a private method of a class that the tables say can be made, by its rows of tables_1 -/
def lw_okq (q : MethodName × Nat) : Prop := (q.1.cls ≠ "java/lang/invoke/MethodHandle" ∧ q.1.cls ≠ "java/lang/invoke/VarHandle") ∧ Cond.instantiable q.1.cls q.2 ∈ tables_1 ∧ Cond.privateMethod q.1 ∈ tables_1 ∧ Cond.instanceMethod q.1 ∈ tables_1
theorem lw_p0 : lw_okq (⟨"ShellMoney$Strand", "append", "(III)V"⟩, 5) := ⟨⟨by decide +kernel, by decide +kernel⟩, List.mem_of_getElem? (i := 197) (by decide +kernel), List.mem_of_getElem? (i := 222) (by decide +kernel), List.mem_of_getElem? (i := 223) (by decide +kernel)⟩
theorem lw_p1 : lw_okq (⟨"ShellMoney$Rates", "flowIn", "(II)V"⟩, 5) := ⟨⟨by decide +kernel, by decide +kernel⟩, List.mem_of_getElem? (i := 26) (by decide +kernel), List.mem_of_getElem? (i := 226) (by decide +kernel), List.mem_of_getElem? (i := 227) (by decide +kernel)⟩
theorem lw_p2 : lw_okq (⟨"ShellMoney", "keepStrand", "(LShellMoney$Strand;)I"⟩, 12) := ⟨⟨by decide +kernel, by decide +kernel⟩, List.mem_of_getElem? (i := 16) (by decide +kernel), List.mem_of_getElem? (i := 231) (by decide +kernel), List.mem_of_getElem? (i := 232) (by decide +kernel)⟩
theorem lw_p3 : lw_okq (⟨"ShellMoney", "livingStrand", "(I)LShellMoney$Strand;"⟩, 12) := ⟨⟨by decide +kernel, by decide +kernel⟩, List.mem_of_getElem? (i := 16) (by decide +kernel), List.mem_of_getElem? (i := 239) (by decide +kernel), List.mem_of_getElem? (i := 240) (by decide +kernel)⟩
theorem lw_p4 : lw_okq (⟨"ShellMoney", "strandAt", "(I)LShellMoney$Strand;"⟩, 12) := ⟨⟨by decide +kernel, by decide +kernel⟩, List.mem_of_getElem? (i := 16) (by decide +kernel), List.mem_of_getElem? (i := 243) (by decide +kernel), List.mem_of_getElem? (i := 244) (by decide +kernel)⟩
theorem lw_p5 : lw_okq (⟨"ShellMoney$Tales", "hasRoom", "(I)Z"⟩, 5) := ⟨⟨by decide +kernel, by decide +kernel⟩, List.mem_of_getElem? (i := 66) (by decide +kernel), List.mem_of_getElem? (i := 254) (by decide +kernel), List.mem_of_getElem? (i := 255) (by decide +kernel)⟩
theorem lw_p6 : lw_okq (⟨"ShellMoney$Strand", "appendFrom", "(LShellMoney$Strand;I)V"⟩, 5) := ⟨⟨by decide +kernel, by decide +kernel⟩, List.mem_of_getElem? (i := 197) (by decide +kernel), List.mem_of_getElem? (i := 258) (by decide +kernel), List.mem_of_getElem? (i := 259) (by decide +kernel)⟩
theorem lw_p7 : lw_okq (⟨"ShellMoney$Strand", "gradeAt", "(I)I"⟩, 5) := ⟨⟨by decide +kernel, by decide +kernel⟩, List.mem_of_getElem? (i := 197) (by decide +kernel), List.mem_of_getElem? (i := 262) (by decide +kernel), List.mem_of_getElem? (i := 263) (by decide +kernel)⟩
theorem lw_p8 : lw_okq (⟨"ShellMoney$Strand", "has", "(I)Z"⟩, 5) := ⟨⟨by decide +kernel, by decide +kernel⟩, List.mem_of_getElem? (i := 197) (by decide +kernel), List.mem_of_getElem? (i := 266) (by decide +kernel), List.mem_of_getElem? (i := 267) (by decide +kernel)⟩
theorem lw_p9 : lw_okq (⟨"ShellMoney$Strand", "makerAt", "(I)I"⟩, 5) := ⟨⟨by decide +kernel, by decide +kernel⟩, List.mem_of_getElem? (i := 197) (by decide +kernel), List.mem_of_getElem? (i := 270) (by decide +kernel), List.mem_of_getElem? (i := 271) (by decide +kernel)⟩
theorem lw_p10 : lw_okq (⟨"ShellMoney", "settleNameOfCut", "(LShellMoney$Strand;LShellMoney$Strand;)V"⟩, 12) := ⟨⟨by decide +kernel, by decide +kernel⟩, List.mem_of_getElem? (i := 16) (by decide +kernel), List.mem_of_getElem? (i := 275) (by decide +kernel), List.mem_of_getElem? (i := 276) (by decide +kernel)⟩
theorem lw_p11 : lw_okq (⟨"ShellMoney", "loseName", "(LShellMoney$Strand;)V"⟩, 12) := ⟨⟨by decide +kernel, by decide +kernel⟩, List.mem_of_getElem? (i := 16) (by decide +kernel), List.mem_of_getElem? (i := 279) (by decide +kernel), List.mem_of_getElem? (i := 280) (by decide +kernel)⟩
theorem lw_p12 : lw_okq (⟨"ShellMoney$Tales", "tell", "(IIII)V"⟩, 5) := ⟨⟨by decide +kernel, by decide +kernel⟩, List.mem_of_getElem? (i := 66) (by decide +kernel), List.mem_of_getElem? (i := 283) (by decide +kernel), List.mem_of_getElem? (i := 284) (by decide +kernel)⟩
theorem lw_p13 : lw_okq (⟨"ShellMoney", "settleNameOfJoined", "(LShellMoney$Strand;LShellMoney$Strand;)V"⟩, 12) := ⟨⟨by decide +kernel, by decide +kernel⟩, List.mem_of_getElem? (i := 16) (by decide +kernel), List.mem_of_getElem? (i := 291) (by decide +kernel), List.mem_of_getElem? (i := 292) (by decide +kernel)⟩
theorem lw_p14 : lw_okq (⟨"ShellMoney$Strand", "reverse", "()V"⟩, 5) := ⟨⟨by decide +kernel, by decide +kernel⟩, List.mem_of_getElem? (i := 197) (by decide +kernel), List.mem_of_getElem? (i := 299) (by decide +kernel), List.mem_of_getElem? (i := 300) (by decide +kernel)⟩
theorem lw_p15 : lw_okq (⟨"ShellMoney$Strand", "exchange", "(II)V"⟩, 5) := ⟨⟨by decide +kernel, by decide +kernel⟩, List.mem_of_getElem? (i := 197) (by decide +kernel), List.mem_of_getElem? (i := 303) (by decide +kernel), List.mem_of_getElem? (i := 304) (by decide +kernel)⟩
def lw_privs_1 : List (MethodName × Nat) := [(⟨"ShellMoney$Strand", "append", "(III)V"⟩, 5), (⟨"ShellMoney$Rates", "flowIn", "(II)V"⟩, 5), (⟨"ShellMoney", "keepStrand", "(LShellMoney$Strand;)I"⟩, 12), (⟨"ShellMoney", "livingStrand", "(I)LShellMoney$Strand;"⟩, 12), (⟨"ShellMoney", "strandAt", "(I)LShellMoney$Strand;"⟩, 12), (⟨"ShellMoney$Tales", "hasRoom", "(I)Z"⟩, 5), (⟨"ShellMoney$Strand", "appendFrom", "(LShellMoney$Strand;I)V"⟩, 5), (⟨"ShellMoney$Strand", "gradeAt", "(I)I"⟩, 5), (⟨"ShellMoney$Strand", "has", "(I)Z"⟩, 5), (⟨"ShellMoney$Strand", "makerAt", "(I)I"⟩, 5), (⟨"ShellMoney", "settleNameOfCut", "(LShellMoney$Strand;LShellMoney$Strand;)V"⟩, 12), (⟨"ShellMoney", "loseName", "(LShellMoney$Strand;)V"⟩, 12), (⟨"ShellMoney$Tales", "tell", "(IIII)V"⟩, 5), (⟨"ShellMoney", "settleNameOfJoined", "(LShellMoney$Strand;LShellMoney$Strand;)V"⟩, 12), (⟨"ShellMoney$Strand", "reverse", "()V"⟩, 5), (⟨"ShellMoney$Strand", "exchange", "(II)V"⟩, 5)]
theorem lw_r1 : ∀ q ∈ lw_privs_1, lw_okq q := List.forall_mem_cons.mpr ⟨lw_p0, List.forall_mem_cons.mpr ⟨lw_p1, List.forall_mem_cons.mpr ⟨lw_p2, List.forall_mem_cons.mpr ⟨lw_p3, List.forall_mem_cons.mpr ⟨lw_p4, List.forall_mem_cons.mpr ⟨lw_p5, List.forall_mem_cons.mpr ⟨lw_p6, List.forall_mem_cons.mpr ⟨lw_p7, List.forall_mem_cons.mpr ⟨lw_p8, List.forall_mem_cons.mpr ⟨lw_p9, List.forall_mem_cons.mpr ⟨lw_p10, List.forall_mem_cons.mpr ⟨lw_p11, List.forall_mem_cons.mpr ⟨lw_p12, List.forall_mem_cons.mpr ⟨lw_p13, List.forall_mem_cons.mpr ⟨lw_p14, List.forall_mem_cons.mpr ⟨lw_p15, fun _ h => absurd h List.not_mem_nil⟩⟩⟩⟩⟩⟩⟩⟩⟩⟩⟩⟩⟩⟩⟩⟩
theorem lw_p16 : lw_okq (⟨"ShellMoney", "handOver", "(LShellMoney$Strand;I)V"⟩, 12) := ⟨⟨by decide +kernel, by decide +kernel⟩, List.mem_of_getElem? (i := 16) (by decide +kernel), List.mem_of_getElem? (i := 322) (by decide +kernel), List.mem_of_getElem? (i := 323) (by decide +kernel)⟩
theorem lw_p17 : lw_okq (⟨"ShellMoney$Tales", "placeOf", "(II)I"⟩, 5) := ⟨⟨by decide +kernel, by decide +kernel⟩, List.mem_of_getElem? (i := 66) (by decide +kernel), List.mem_of_getElem? (i := 337) (by decide +kernel), List.mem_of_getElem? (i := 338) (by decide +kernel)⟩
theorem lw_p18 : lw_okq (⟨"ShellMoney$Tales", "about", "(II)I"⟩, 5) := ⟨⟨by decide +kernel, by decide +kernel⟩, List.mem_of_getElem? (i := 66) (by decide +kernel), List.mem_of_getElem? (i := 341) (by decide +kernel), List.mem_of_getElem? (i := 342) (by decide +kernel)⟩
theorem lw_p19 : lw_okq (⟨"ShellMoney", "replacedFame", "(I)I"⟩, 12) := ⟨⟨by decide +kernel, by decide +kernel⟩, List.mem_of_getElem? (i := 16) (by decide +kernel), List.mem_of_getElem? (i := 352) (by decide +kernel), List.mem_of_getElem? (i := 353) (by decide +kernel)⟩
theorem lw_p20 : lw_okq (⟨"ShellMoney", "replacedCustom", "(I)I"⟩, 12) := ⟨⟨by decide +kernel, by decide +kernel⟩, List.mem_of_getElem? (i := 16) (by decide +kernel), List.mem_of_getElem? (i := 356) (by decide +kernel), List.mem_of_getElem? (i := 357) (by decide +kernel)⟩
theorem lw_p21 : lw_okq (⟨"ShellMoney", "replacedInterest", "(I)I"⟩, 12) := ⟨⟨by decide +kernel, by decide +kernel⟩, List.mem_of_getElem? (i := 16) (by decide +kernel), List.mem_of_getElem? (i := 360) (by decide +kernel), List.mem_of_getElem? (i := 361) (by decide +kernel)⟩
theorem lw_p22 : lw_okq (⟨"ShellMoney$Rates", "rateNow", "(I)I"⟩, 5) := ⟨⟨by decide +kernel, by decide +kernel⟩, List.mem_of_getElem? (i := 26) (by decide +kernel), List.mem_of_getElem? (i := 368) (by decide +kernel), List.mem_of_getElem? (i := 369) (by decide +kernel)⟩
theorem lw_p23 : lw_okq (⟨"ShellMoney", "worthOf", "(LShellMoney$Strand;)I"⟩, 12) := ⟨⟨by decide +kernel, by decide +kernel⟩, List.mem_of_getElem? (i := 16) (by decide +kernel), List.mem_of_getElem? (i := 379) (by decide +kernel), List.mem_of_getElem? (i := 380) (by decide +kernel)⟩
theorem lw_p24 : lw_okq (⟨"ShellMoney$Strand", "leastGrade", "()I"⟩, 5) := ⟨⟨by decide +kernel, by decide +kernel⟩, List.mem_of_getElem? (i := 197) (by decide +kernel), List.mem_of_getElem? (i := 383) (by decide +kernel), List.mem_of_getElem? (i := 384) (by decide +kernel)⟩
theorem lw_p25 : lw_okq (⟨"ShellMoney$Strand", "leastGradeWithin", "(II)I"⟩, 5) := ⟨⟨by decide +kernel, by decide +kernel⟩, List.mem_of_getElem? (i := 197) (by decide +kernel), List.mem_of_getElem? (i := 387) (by decide +kernel), List.mem_of_getElem? (i := 388) (by decide +kernel)⟩
theorem lw_p26 : lw_okq (⟨"ShellMoney$Rates", "worthByLength", "(II)I"⟩, 5) := ⟨⟨by decide +kernel, by decide +kernel⟩, List.mem_of_getElem? (i := 26) (by decide +kernel), List.mem_of_getElem? (i := 391) (by decide +kernel), List.mem_of_getElem? (i := 392) (by decide +kernel)⟩
theorem lw_p27 : lw_okq (⟨"ShellMoney", "tallyMakersBelow", "(I)V"⟩, 12) := ⟨⟨by decide +kernel, by decide +kernel⟩, List.mem_of_getElem? (i := 16) (by decide +kernel), List.mem_of_getElem? (i := 409) (by decide +kernel), List.mem_of_getElem? (i := 410) (by decide +kernel)⟩
theorem lw_p28 : lw_okq (⟨"ShellMoney$Strand", "tallyMakersBelow", "(I[I)V"⟩, 5) := ⟨⟨by decide +kernel, by decide +kernel⟩, List.mem_of_getElem? (i := 197) (by decide +kernel), List.mem_of_getElem? (i := 413) (by decide +kernel), List.mem_of_getElem? (i := 414) (by decide +kernel)⟩
theorem lw_p29 : lw_okq (⟨"ShellMoney", "choosePayment", "(II)I"⟩, 12) := ⟨⟨by decide +kernel, by decide +kernel⟩, List.mem_of_getElem? (i := 16) (by decide +kernel), List.mem_of_getElem? (i := 421) (by decide +kernel), List.mem_of_getElem? (i := 422) (by decide +kernel)⟩
theorem lw_p30 : lw_okq (⟨"ShellMoney", "fillPurse", "(I)Z"⟩, 12) := ⟨⟨by decide +kernel, by decide +kernel⟩, List.mem_of_getElem? (i := 16) (by decide +kernel), List.mem_of_getElem? (i := 426) (by decide +kernel), List.mem_of_getElem? (i := 427) (by decide +kernel)⟩
theorem lw_p31 : lw_okq (⟨"ShellMoney$Purse", "clear", "()V"⟩, 7) := ⟨⟨by decide +kernel, by decide +kernel⟩, List.mem_of_getElem? (i := 89) (by decide +kernel), List.mem_of_getElem? (i := 430) (by decide +kernel), List.mem_of_getElem? (i := 431) (by decide +kernel)⟩
def lw_privs_2 : List (MethodName × Nat) := [(⟨"ShellMoney", "handOver", "(LShellMoney$Strand;I)V"⟩, 12), (⟨"ShellMoney$Tales", "placeOf", "(II)I"⟩, 5), (⟨"ShellMoney$Tales", "about", "(II)I"⟩, 5), (⟨"ShellMoney", "replacedFame", "(I)I"⟩, 12), (⟨"ShellMoney", "replacedCustom", "(I)I"⟩, 12), (⟨"ShellMoney", "replacedInterest", "(I)I"⟩, 12), (⟨"ShellMoney$Rates", "rateNow", "(I)I"⟩, 5), (⟨"ShellMoney", "worthOf", "(LShellMoney$Strand;)I"⟩, 12), (⟨"ShellMoney$Strand", "leastGrade", "()I"⟩, 5), (⟨"ShellMoney$Strand", "leastGradeWithin", "(II)I"⟩, 5), (⟨"ShellMoney$Rates", "worthByLength", "(II)I"⟩, 5), (⟨"ShellMoney", "tallyMakersBelow", "(I)V"⟩, 12), (⟨"ShellMoney$Strand", "tallyMakersBelow", "(I[I)V"⟩, 5), (⟨"ShellMoney", "choosePayment", "(II)I"⟩, 12), (⟨"ShellMoney", "fillPurse", "(I)Z"⟩, 12), (⟨"ShellMoney$Purse", "clear", "()V"⟩, 7)]
theorem lw_r2 : ∀ q ∈ lw_privs_2, lw_okq q := List.forall_mem_cons.mpr ⟨lw_p16, List.forall_mem_cons.mpr ⟨lw_p17, List.forall_mem_cons.mpr ⟨lw_p18, List.forall_mem_cons.mpr ⟨lw_p19, List.forall_mem_cons.mpr ⟨lw_p20, List.forall_mem_cons.mpr ⟨lw_p21, List.forall_mem_cons.mpr ⟨lw_p22, List.forall_mem_cons.mpr ⟨lw_p23, List.forall_mem_cons.mpr ⟨lw_p24, List.forall_mem_cons.mpr ⟨lw_p25, List.forall_mem_cons.mpr ⟨lw_p26, List.forall_mem_cons.mpr ⟨lw_p27, List.forall_mem_cons.mpr ⟨lw_p28, List.forall_mem_cons.mpr ⟨lw_p29, List.forall_mem_cons.mpr ⟨lw_p30, List.forall_mem_cons.mpr ⟨lw_p31, fun _ h => absurd h List.not_mem_nil⟩⟩⟩⟩⟩⟩⟩⟩⟩⟩⟩⟩⟩⟩⟩⟩
theorem lw_p32 : lw_okq (⟨"ShellMoney$Purse", "put", "(II)Z"⟩, 7) := ⟨⟨by decide +kernel, by decide +kernel⟩, List.mem_of_getElem? (i := 89) (by decide +kernel), List.mem_of_getElem? (i := 434) (by decide +kernel), List.mem_of_getElem? (i := 435) (by decide +kernel)⟩
theorem lw_p33 : lw_okq (⟨"ShellMoney$Purse", "choose", "(I)V"⟩, 7) := ⟨⟨by decide +kernel, by decide +kernel⟩, List.mem_of_getElem? (i := 89) (by decide +kernel), List.mem_of_getElem? (i := 438) (by decide +kernel), List.mem_of_getElem? (i := 439) (by decide +kernel)⟩
theorem lw_p34 : lw_okq (⟨"ShellMoney$Purse", "worthAt", "(I)I"⟩, 7) := ⟨⟨by decide +kernel, by decide +kernel⟩, List.mem_of_getElem? (i := 89) (by decide +kernel), List.mem_of_getElem? (i := 442) (by decide +kernel), List.mem_of_getElem? (i := 443) (by decide +kernel)⟩
theorem lw_p35 : lw_okq (⟨"ShellMoney$Purse", "isBetter", "(II)Z"⟩, 7) := ⟨⟨by decide +kernel, by decide +kernel⟩, List.mem_of_getElem? (i := 89) (by decide +kernel), List.mem_of_getElem? (i := 446) (by decide +kernel), List.mem_of_getElem? (i := 447) (by decide +kernel)⟩
theorem lw_p36 : lw_okq (⟨"ShellMoney", "chosenNames", "()I"⟩, 12) := ⟨⟨by decide +kernel, by decide +kernel⟩, List.mem_of_getElem? (i := 16) (by decide +kernel), List.mem_of_getElem? (i := 454) (by decide +kernel), List.mem_of_getElem? (i := 455) (by decide +kernel)⟩
theorem lw_p37 : lw_okq (⟨"ShellMoney$Purse", "chosenAt", "(I)I"⟩, 7) := ⟨⟨by decide +kernel, by decide +kernel⟩, List.mem_of_getElem? (i := 89) (by decide +kernel), List.mem_of_getElem? (i := 458) (by decide +kernel), List.mem_of_getElem? (i := 459) (by decide +kernel)⟩
theorem lw_p38 : lw_okq (⟨"ShellMoney", "handOverChosen", "(I)V"⟩, 12) := ⟨⟨by decide +kernel, by decide +kernel⟩, List.mem_of_getElem? (i := 16) (by decide +kernel), List.mem_of_getElem? (i := 462) (by decide +kernel), List.mem_of_getElem? (i := 463) (by decide +kernel)⟩
theorem lw_p39 : lw_okq (⟨"ShellMoney", "debtAt", "(I)LShellMoney$Debt;"⟩, 12) := ⟨⟨by decide +kernel, by decide +kernel⟩, List.mem_of_getElem? (i := 16) (by decide +kernel), List.mem_of_getElem? (i := 500) (by decide +kernel), List.mem_of_getElem? (i := 501) (by decide +kernel)⟩
theorem lw_p40 : lw_okq (⟨"ShellMoney$Debt", "isPaid", "()Z"⟩, 5) := ⟨⟨by decide +kernel, by decide +kernel⟩, List.mem_of_getElem? (i := 469) (by decide +kernel), List.mem_of_getElem? (i := 504) (by decide +kernel), List.mem_of_getElem? (i := 505) (by decide +kernel)⟩
theorem lw_p41 : lw_okq (⟨"ShellMoney$Strand", "spans", "()I"⟩, 5) := ⟨⟨by decide +kernel, by decide +kernel⟩, List.mem_of_getElem? (i := 197) (by decide +kernel), List.mem_of_getElem? (i := 508) (by decide +kernel), List.mem_of_getElem? (i := 509) (by decide +kernel)⟩
theorem lw_p42 : lw_okq (⟨"ShellMoney$Debt", "grow", "(I)V"⟩, 5) := ⟨⟨by decide +kernel, by decide +kernel⟩, List.mem_of_getElem? (i := 469) (by decide +kernel), List.mem_of_getElem? (i := 520) (by decide +kernel), List.mem_of_getElem? (i := 521) (by decide +kernel)⟩
theorem lw_p43 : lw_okq (⟨"ShellMoney", "goneCount", "()I"⟩, 12) := ⟨⟨by decide +kernel, by decide +kernel⟩, List.mem_of_getElem? (i := 16) (by decide +kernel), List.mem_of_getElem? (i := 531) (by decide +kernel), List.mem_of_getElem? (i := 532) (by decide +kernel)⟩
theorem lw_p44 : lw_okq (⟨"ShellMoney", "paidCount", "()I"⟩, 12) := ⟨⟨by decide +kernel, by decide +kernel⟩, List.mem_of_getElem? (i := 16) (by decide +kernel), List.mem_of_getElem? (i := 535) (by decide +kernel), List.mem_of_getElem? (i := 536) (by decide +kernel)⟩
theorem lw_p45 : lw_okq (⟨"ShellMoney$Rates", "allBeads", "()I"⟩, 5) := ⟨⟨by decide +kernel, by decide +kernel⟩, List.mem_of_getElem? (i := 26) (by decide +kernel), List.mem_of_getElem? (i := 539) (by decide +kernel), List.mem_of_getElem? (i := 540) (by decide +kernel)⟩
theorem lw_p46 : lw_okq (⟨"ShellMoney$Heap", "put", "(II)Z"⟩, 6) := ⟨⟨by decide +kernel, by decide +kernel⟩, List.mem_of_getElem? (i := 122) (by decide +kernel), List.mem_of_getElem? (i := 547) (by decide +kernel), List.mem_of_getElem? (i := 548) (by decide +kernel)⟩
theorem lw_p47 : lw_okq (⟨"ShellMoney$Heap", "plan", "(LShellMoney$Rates;)V"⟩, 6) := ⟨⟨by decide +kernel, by decide +kernel⟩, List.mem_of_getElem? (i := 122) (by decide +kernel), List.mem_of_getElem? (i := 556) (by decide +kernel), List.mem_of_getElem? (i := 557) (by decide +kernel)⟩
def lw_privs_3 : List (MethodName × Nat) := [(⟨"ShellMoney$Purse", "put", "(II)Z"⟩, 7), (⟨"ShellMoney$Purse", "choose", "(I)V"⟩, 7), (⟨"ShellMoney$Purse", "worthAt", "(I)I"⟩, 7), (⟨"ShellMoney$Purse", "isBetter", "(II)Z"⟩, 7), (⟨"ShellMoney", "chosenNames", "()I"⟩, 12), (⟨"ShellMoney$Purse", "chosenAt", "(I)I"⟩, 7), (⟨"ShellMoney", "handOverChosen", "(I)V"⟩, 12), (⟨"ShellMoney", "debtAt", "(I)LShellMoney$Debt;"⟩, 12), (⟨"ShellMoney$Debt", "isPaid", "()Z"⟩, 5), (⟨"ShellMoney$Strand", "spans", "()I"⟩, 5), (⟨"ShellMoney$Debt", "grow", "(I)V"⟩, 5), (⟨"ShellMoney", "goneCount", "()I"⟩, 12), (⟨"ShellMoney", "paidCount", "()I"⟩, 12), (⟨"ShellMoney$Rates", "allBeads", "()I"⟩, 5), (⟨"ShellMoney$Heap", "put", "(II)Z"⟩, 6), (⟨"ShellMoney$Heap", "plan", "(LShellMoney$Rates;)V"⟩, 6)]
theorem lw_r3 : ∀ q ∈ lw_privs_3, lw_okq q := List.forall_mem_cons.mpr ⟨lw_p32, List.forall_mem_cons.mpr ⟨lw_p33, List.forall_mem_cons.mpr ⟨lw_p34, List.forall_mem_cons.mpr ⟨lw_p35, List.forall_mem_cons.mpr ⟨lw_p36, List.forall_mem_cons.mpr ⟨lw_p37, List.forall_mem_cons.mpr ⟨lw_p38, List.forall_mem_cons.mpr ⟨lw_p39, List.forall_mem_cons.mpr ⟨lw_p40, List.forall_mem_cons.mpr ⟨lw_p41, List.forall_mem_cons.mpr ⟨lw_p42, List.forall_mem_cons.mpr ⟨lw_p43, List.forall_mem_cons.mpr ⟨lw_p44, List.forall_mem_cons.mpr ⟨lw_p45, List.forall_mem_cons.mpr ⟨lw_p46, List.forall_mem_cons.mpr ⟨lw_p47, fun _ h => absurd h List.not_mem_nil⟩⟩⟩⟩⟩⟩⟩⟩⟩⟩⟩⟩⟩⟩⟩⟩
theorem lw_p48 : lw_okq (⟨"ShellMoney$Heap", "layRow", "()V"⟩, 6) := ⟨⟨by decide +kernel, by decide +kernel⟩, List.mem_of_getElem? (i := 122) (by decide +kernel), List.mem_of_getElem? (i := 560) (by decide +kernel), List.mem_of_getElem? (i := 561) (by decide +kernel)⟩
theorem lw_p49 : lw_okq (⟨"ShellMoney$Heap", "clearFrom", "(I)V"⟩, 6) := ⟨⟨by decide +kernel, by decide +kernel⟩, List.mem_of_getElem? (i := 122) (by decide +kernel), List.mem_of_getElem? (i := 564) (by decide +kernel), List.mem_of_getElem? (i := 565) (by decide +kernel)⟩
theorem lw_p50 : lw_okq (⟨"ShellMoney$Heap", "tryFirst", "(LShellMoney$Rates;II)V"⟩, 6) := ⟨⟨by decide +kernel, by decide +kernel⟩, List.mem_of_getElem? (i := 122) (by decide +kernel), List.mem_of_getElem? (i := 568) (by decide +kernel), List.mem_of_getElem? (i := 569) (by decide +kernel)⟩
theorem lw_p51 : lw_okq (⟨"ShellMoney$Heap", "bestWorth", "()I"⟩, 6) := ⟨⟨by decide +kernel, by decide +kernel⟩, List.mem_of_getElem? (i := 122) (by decide +kernel), List.mem_of_getElem? (i := 573) (by decide +kernel), List.mem_of_getElem? (i := 574) (by decide +kernel)⟩
theorem lw_p52 : lw_okq (⟨"ShellMoney$Heap", "bestParts", "()I"⟩, 6) := ⟨⟨by decide +kernel, by decide +kernel⟩, List.mem_of_getElem? (i := 122) (by decide +kernel), List.mem_of_getElem? (i := 581) (by decide +kernel), List.mem_of_getElem? (i := 582) (by decide +kernel)⟩
theorem lw_p53 : lw_okq (⟨"ShellMoney$Heap", "lengthOfPart", "(I)I"⟩, 6) := ⟨⟨by decide +kernel, by decide +kernel⟩, List.mem_of_getElem? (i := 122) (by decide +kernel), List.mem_of_getElem? (i := 589) (by decide +kernel), List.mem_of_getElem? (i := 590) (by decide +kernel)⟩
theorem lw_p54 : lw_okq (⟨"java/lang/Throwable", "fillInStackTrace", "(I)Ljava/lang/Throwable;"⟩, 6) := ⟨⟨by decide +kernel, by decide +kernel⟩, List.mem_of_getElem? (i := 638) (by decide +kernel), List.mem_of_getElem? (i := 636) (by decide +kernel), List.mem_of_getElem? (i := 637) (by decide +kernel)⟩
theorem lw_p55 : lw_okq (⟨"ShellMoney$Strand", "makerCount", "()I"⟩, 5) := ⟨⟨by decide +kernel, by decide +kernel⟩, List.mem_of_getElem? (i := 197) (by decide +kernel), List.mem_of_getElem? (i := 663) (by decide +kernel), List.mem_of_getElem? (i := 664) (by decide +kernel)⟩
theorem lw_p56 : lw_okq (⟨"ShellMoneyModel", "newString", "(I)I"⟩, 25) := ⟨⟨by decide +kernel, by decide +kernel⟩, List.mem_of_getElem? (i := 673) (by decide +kernel), List.mem_of_getElem? (i := 769) (by decide +kernel), List.mem_of_getElem? (i := 770) (by decide +kernel)⟩
theorem lw_p57 : lw_okq (⟨"ShellMoneyModel", "put", "(IIII)V"⟩, 25) := ⟨⟨by decide +kernel, by decide +kernel⟩, List.mem_of_getElem? (i := 673) (by decide +kernel), List.mem_of_getElem? (i := 773) (by decide +kernel), List.mem_of_getElem? (i := 774) (by decide +kernel)⟩
theorem lw_p58 : lw_okq (⟨"ShellMoneyModel", "isThere", "(I)Z"⟩, 25) := ⟨⟨by decide +kernel, by decide +kernel⟩, List.mem_of_getElem? (i := 673) (by decide +kernel), List.mem_of_getElem? (i := 781) (by decide +kernel), List.mem_of_getElem? (i := 782) (by decide +kernel)⟩
theorem lw_p59 : lw_okq (⟨"ShellMoneyModel", "hasRoom", "(I)Z"⟩, 25) := ⟨⟨by decide +kernel, by decide +kernel⟩, List.mem_of_getElem? (i := 673) (by decide +kernel), List.mem_of_getElem? (i := 789) (by decide +kernel), List.mem_of_getElem? (i := 790) (by decide +kernel)⟩
theorem lw_p60 : lw_okq (⟨"ShellMoneyModel", "say", "(III)V"⟩, 25) := ⟨⟨by decide +kernel, by decide +kernel⟩, List.mem_of_getElem? (i := 673) (by decide +kernel), List.mem_of_getElem? (i := 793) (by decide +kernel), List.mem_of_getElem? (i := 794) (by decide +kernel)⟩
theorem lw_p61 : lw_okq (⟨"ShellMoneyModel", "whose", "(I)I"⟩, 25) := ⟨⟨by decide +kernel, by decide +kernel⟩, List.mem_of_getElem? (i := 673) (by decide +kernel), List.mem_of_getElem? (i := 809) (by decide +kernel), List.mem_of_getElem? (i := 810) (by decide +kernel)⟩
theorem lw_p62 : lw_okq (⟨"ShellMoneyModel", "hand", "(II)V"⟩, 25) := ⟨⟨by decide +kernel, by decide +kernel⟩, List.mem_of_getElem? (i := 673) (by decide +kernel), List.mem_of_getElem? (i := 817) (by decide +kernel), List.mem_of_getElem? (i := 818) (by decide +kernel)⟩
theorem lw_p63 : lw_okq (⟨"ShellMoneyModel", "leastOf", "(III)I"⟩, 25) := ⟨⟨by decide +kernel, by decide +kernel⟩, List.mem_of_getElem? (i := 673) (by decide +kernel), List.mem_of_getElem? (i := 825) (by decide +kernel), List.mem_of_getElem? (i := 826) (by decide +kernel)⟩
def lw_privs_4 : List (MethodName × Nat) := [(⟨"ShellMoney$Heap", "layRow", "()V"⟩, 6), (⟨"ShellMoney$Heap", "clearFrom", "(I)V"⟩, 6), (⟨"ShellMoney$Heap", "tryFirst", "(LShellMoney$Rates;II)V"⟩, 6), (⟨"ShellMoney$Heap", "bestWorth", "()I"⟩, 6), (⟨"ShellMoney$Heap", "bestParts", "()I"⟩, 6), (⟨"ShellMoney$Heap", "lengthOfPart", "(I)I"⟩, 6), (⟨"java/lang/Throwable", "fillInStackTrace", "(I)Ljava/lang/Throwable;"⟩, 6), (⟨"ShellMoney$Strand", "makerCount", "()I"⟩, 5), (⟨"ShellMoneyModel", "newString", "(I)I"⟩, 25), (⟨"ShellMoneyModel", "put", "(IIII)V"⟩, 25), (⟨"ShellMoneyModel", "isThere", "(I)Z"⟩, 25), (⟨"ShellMoneyModel", "hasRoom", "(I)Z"⟩, 25), (⟨"ShellMoneyModel", "say", "(III)V"⟩, 25), (⟨"ShellMoneyModel", "whose", "(I)I"⟩, 25), (⟨"ShellMoneyModel", "hand", "(II)V"⟩, 25), (⟨"ShellMoneyModel", "leastOf", "(III)I"⟩, 25)]
theorem lw_r4 : ∀ q ∈ lw_privs_4, lw_okq q := List.forall_mem_cons.mpr ⟨lw_p48, List.forall_mem_cons.mpr ⟨lw_p49, List.forall_mem_cons.mpr ⟨lw_p50, List.forall_mem_cons.mpr ⟨lw_p51, List.forall_mem_cons.mpr ⟨lw_p52, List.forall_mem_cons.mpr ⟨lw_p53, List.forall_mem_cons.mpr ⟨lw_p54, List.forall_mem_cons.mpr ⟨lw_p55, List.forall_mem_cons.mpr ⟨lw_p56, List.forall_mem_cons.mpr ⟨lw_p57, List.forall_mem_cons.mpr ⟨lw_p58, List.forall_mem_cons.mpr ⟨lw_p59, List.forall_mem_cons.mpr ⟨lw_p60, List.forall_mem_cons.mpr ⟨lw_p61, List.forall_mem_cons.mpr ⟨lw_p62, List.forall_mem_cons.mpr ⟨lw_p63, fun _ h => absurd h List.not_mem_nil⟩⟩⟩⟩⟩⟩⟩⟩⟩⟩⟩⟩⟩⟩⟩⟩
theorem lw_p64 : lw_okq (⟨"ShellMoneyModel", "worth", "(I)I"⟩, 25) := ⟨⟨by decide +kernel, by decide +kernel⟩, List.mem_of_getElem? (i := 673) (by decide +kernel), List.mem_of_getElem? (i := 829) (by decide +kernel), List.mem_of_getElem? (i := 830) (by decide +kernel)⟩
theorem lw_p65 : lw_okq (⟨"ShellMoneyModel", "beadsWorth", "(II)I"⟩, 25) := ⟨⟨by decide +kernel, by decide +kernel⟩, List.mem_of_getElem? (i := 673) (by decide +kernel), List.mem_of_getElem? (i := 833) (by decide +kernel), List.mem_of_getElem? (i := 834) (by decide +kernel)⟩
theorem lw_p66 : lw_okq (⟨"ShellMoneyModel", "rateOf", "(I)I"⟩, 25) := ⟨⟨by decide +kernel, by decide +kernel⟩, List.mem_of_getElem? (i := 673) (by decide +kernel), List.mem_of_getElem? (i := 837) (by decide +kernel), List.mem_of_getElem? (i := 838) (by decide +kernel)⟩
theorem lw_p67 : lw_okq (⟨"ShellMoneyModel", "makersOf", "(I)I"⟩, 25) := ⟨⟨by decide +kernel, by decide +kernel⟩, List.mem_of_getElem? (i := 673) (by decide +kernel), List.mem_of_getElem? (i := 841) (by decide +kernel), List.mem_of_getElem? (i := 842) (by decide +kernel)⟩
theorem lw_p68 : lw_okq (⟨"ShellMoneyModel", "gather", "(I)Z"⟩, 25) := ⟨⟨by decide +kernel, by decide +kernel⟩, List.mem_of_getElem? (i := 673) (by decide +kernel), List.mem_of_getElem? (i := 887) (by decide +kernel), List.mem_of_getElem? (i := 888) (by decide +kernel)⟩
theorem lw_p69 : lw_okq (⟨"ShellMoneyModel", "serving", "(I)I"⟩, 25) := ⟨⟨by decide +kernel, by decide +kernel⟩, List.mem_of_getElem? (i := 673) (by decide +kernel), List.mem_of_getElem? (i := 891) (by decide +kernel), List.mem_of_getElem? (i := 892) (by decide +kernel)⟩
theorem lw_p70 : lw_okq (⟨"ShellMoneyModel", "worthOf", "(I)I"⟩, 25) := ⟨⟨by decide +kernel, by decide +kernel⟩, List.mem_of_getElem? (i := 673) (by decide +kernel), List.mem_of_getElem? (i := 895) (by decide +kernel), List.mem_of_getElem? (i := 896) (by decide +kernel)⟩
theorem lw_p71 : lw_okq (⟨"ShellMoneyModel", "heaped", "()I"⟩, 25) := ⟨⟨by decide +kernel, by decide +kernel⟩, List.mem_of_getElem? (i := 673) (by decide +kernel), List.mem_of_getElem? (i := 923) (by decide +kernel), List.mem_of_getElem? (i := 924) (by decide +kernel)⟩
theorem lw_p72 : lw_okq (⟨"ShellMoneyModel", "string", "()V"⟩, 25) := ⟨⟨by decide +kernel, by decide +kernel⟩, List.mem_of_getElem? (i := 673) (by decide +kernel), List.mem_of_getElem? (i := 935) (by decide +kernel), List.mem_of_getElem? (i := 936) (by decide +kernel)⟩
theorem lw_p73 : lw_okq (⟨"ShellMoneyModel", "gradeAt", "(I)I"⟩, 25) := ⟨⟨by decide +kernel, by decide +kernel⟩, List.mem_of_getElem? (i := 673) (by decide +kernel), List.mem_of_getElem? (i := 939) (by decide +kernel), List.mem_of_getElem? (i := 940) (by decide +kernel)⟩
def lw_privs_5 : List (MethodName × Nat) := [(⟨"ShellMoneyModel", "worth", "(I)I"⟩, 25), (⟨"ShellMoneyModel", "beadsWorth", "(II)I"⟩, 25), (⟨"ShellMoneyModel", "rateOf", "(I)I"⟩, 25), (⟨"ShellMoneyModel", "makersOf", "(I)I"⟩, 25), (⟨"ShellMoneyModel", "gather", "(I)Z"⟩, 25), (⟨"ShellMoneyModel", "serving", "(I)I"⟩, 25), (⟨"ShellMoneyModel", "worthOf", "(I)I"⟩, 25), (⟨"ShellMoneyModel", "heaped", "()I"⟩, 25), (⟨"ShellMoneyModel", "string", "()V"⟩, 25), (⟨"ShellMoneyModel", "gradeAt", "(I)I"⟩, 25)]
theorem lw_r5 : ∀ q ∈ lw_privs_5, lw_okq q := List.forall_mem_cons.mpr ⟨lw_p64, List.forall_mem_cons.mpr ⟨lw_p65, List.forall_mem_cons.mpr ⟨lw_p66, List.forall_mem_cons.mpr ⟨lw_p67, List.forall_mem_cons.mpr ⟨lw_p68, List.forall_mem_cons.mpr ⟨lw_p69, List.forall_mem_cons.mpr ⟨lw_p70, List.forall_mem_cons.mpr ⟨lw_p71, List.forall_mem_cons.mpr ⟨lw_p72, List.forall_mem_cons.mpr ⟨lw_p73, fun _ h => absurd h List.not_mem_nil⟩⟩⟩⟩⟩⟩⟩⟩⟩⟩
def lw_privs : List (MethodName × Nat) := lw_privs_1 ++ (lw_privs_2 ++ (lw_privs_3 ++ (lw_privs_4 ++ (lw_privs_5))))
def lw_tbl : List Cond := k2_sels lw_privs ++ tables_1
theorem lw_privs_ok : ∀ q ∈ lw_privs, lw_okq q := by
  show ∀ q ∈ lw_privs_1 ++ (lw_privs_2 ++ (lw_privs_3 ++ (lw_privs_4 ++ (lw_privs_5)))), lw_okq q
  exact List.forall_mem_append.mpr ⟨lw_r1, List.forall_mem_append.mpr ⟨lw_r2, List.forall_mem_append.mpr ⟨lw_r3, List.forall_mem_append.mpr ⟨lw_r4, lw_r5⟩⟩⟩⟩
end
section
def RX0 : String := "ShellMoney$Debt"
def TX0 : u_T := fun k => match k with
  | 0 => ("ShellMoney$Debt", "owes", "I", true)
  | 1 => ("ShellMoney$Debt", "to", "I", true)
  | 2 => ("ShellMoney$Debt", "grade", "I", true)
  | 3 => ("ShellMoney$Debt", "spans", "I", false)
  | _ => ("ShellMoney$Debt", "paidIn", "I", false)
def tyX0 : Nat → FieldType := fun k => match k with
  | 0 => .int
  | 1 => .int
  | 2 => .int
  | 3 => .int
  | _ => .int
abbrev wsX00 : List Cond := u_ws RX0 TX0 5
theorem nmX0 : ∀ a, a < 5 → ∀ b, b < 5 → a ≠ b → (TX0 a).2.1 ≠ (TX0 b).2.1 := by decide +kernel
theorem tyX0_ok : ∀ k, k < 5 → parseFieldDescriptor (TX0 k).2.2.1 = some (tyX0 k) := by decide +kernel
abbrev cX0_init : ByteArray := prog_2_method_1_code
def yX0_init : MethodName := ⟨RX0, "<init>", "(IIII)V"⟩
abbrev cX0_isPaid : ByteArray := prog_2_method_2_code
def yX0_isPaid : MethodName := ⟨RX0, "isPaid", "()Z"⟩
abbrev cX0_grow : ByteArray := prog_2_method_3_code
def yX0_grow : MethodName := ⟨RX0, "grow", "(I)V"⟩
def RX1 : String := "ShellMoney$Heap"
def TX1 : u_T := fun k => match k with
  | 0 => ("ShellMoney$Heap", "beadRow", "[I", true)
  | 1 => ("ShellMoney$Heap", "size", "I", false)
  | 2 => ("ShellMoney$Heap", "gradeOf", "[I", true)
  | 3 => ("ShellMoney$Heap", "worthFrom", "[I", true)
  | 4 => ("ShellMoney$Heap", "partsFrom", "[I", true)
  | _ => ("ShellMoney$Heap", "firstFrom", "[I", true)
def tyX1 : Nat → FieldType := fun k => match k with
  | 0 => .array .int
  | 1 => .int
  | 2 => .array .int
  | 3 => .array .int
  | 4 => .array .int
  | _ => .array .int
abbrev wsX10 : List Cond := u_ws RX1 TX1 6
theorem nmX1 : ∀ a, a < 6 → ∀ b, b < 6 → a ≠ b → (TX1 a).2.1 ≠ (TX1 b).2.1 := by decide +kernel
theorem tyX1_ok : ∀ k, k < 6 → parseFieldDescriptor (TX1 k).2.2.1 = some (tyX1 k) := by decide +kernel
abbrev cX1_init : ByteArray := prog_3_method_1_code
def yX1_init : MethodName := ⟨RX1, "<init>", "()V"⟩
abbrev cX1_put : ByteArray := prog_3_method_2_code
def yX1_put : MethodName := ⟨RX1, "put", "(II)Z"⟩
abbrev cX1_bestWorth : ByteArray := prog_3_method_3_code
def yX1_bestWorth : MethodName := ⟨RX1, "bestWorth", "()I"⟩
abbrev cX1_bestParts : ByteArray := prog_3_method_4_code
def yX1_bestParts : MethodName := ⟨RX1, "bestParts", "()I"⟩
abbrev cX1_plan : ByteArray := prog_3_method_5_code
def yX1_plan : MethodName := ⟨RX1, "plan", "(LShellMoney$Rates;)V"⟩
abbrev cX1_layRow : ByteArray := prog_3_method_6_code
def yX1_layRow : MethodName := ⟨RX1, "layRow", "()V"⟩
abbrev cX1_clearFrom : ByteArray := prog_3_method_7_code
def yX1_clearFrom : MethodName := ⟨RX1, "clearFrom", "(I)V"⟩
abbrev cX1_tryFirst : ByteArray := prog_3_method_8_code
def yX1_tryFirst : MethodName := ⟨RX1, "tryFirst", "(LShellMoney$Rates;II)V"⟩
abbrev cX1_lengthOfPart : ByteArray := prog_3_method_9_code
def yX1_lengthOfPart : MethodName := ⟨RX1, "lengthOfPart", "(I)I"⟩
def RX2 : String := "ShellMoney$Purse"
def TX2 : u_T := fun k => match k with
  | 0 => ("ShellMoney$Purse", "numbers", "[I", true)
  | 1 => ("ShellMoney$Purse", "worths", "[I", true)
  | 2 => ("ShellMoney$Purse", "size", "I", false)
  | 3 => ("ShellMoney$Purse", "total", "I", false)
  | 4 => ("ShellMoney$Purse", "chosen", "I", false)
  | 5 => ("ShellMoney$Purse", "chosenSize", "I", false)
  | _ => ("ShellMoney$Purse", "chosenWorth", "I", false)
def tyX2 : Nat → FieldType := fun k => match k with
  | 0 => .array .int
  | 1 => .array .int
  | 2 => .int
  | 3 => .int
  | 4 => .int
  | 5 => .int
  | _ => .int
abbrev wsX20 : List Cond := u_ws RX2 TX2 7
theorem nmX2 : ∀ a, a < 7 → ∀ b, b < 7 → a ≠ b → (TX2 a).2.1 ≠ (TX2 b).2.1 := by decide +kernel
theorem tyX2_ok : ∀ k, k < 7 → parseFieldDescriptor (TX2 k).2.2.1 = some (tyX2 k) := by decide +kernel
abbrev cX2_init : ByteArray := prog_4_method_1_code
def yX2_init : MethodName := ⟨RX2, "<init>", "()V"⟩
abbrev cX2_clear : ByteArray := prog_4_method_2_code
def yX2_clear : MethodName := ⟨RX2, "clear", "()V"⟩
abbrev cX2_put : ByteArray := prog_4_method_3_code
def yX2_put : MethodName := ⟨RX2, "put", "(II)Z"⟩
abbrev cX2_choose : ByteArray := prog_4_method_4_code
def yX2_choose : MethodName := ⟨RX2, "choose", "(I)V"⟩
abbrev cX2_isBetter : ByteArray := prog_4_method_5_code
def yX2_isBetter : MethodName := ⟨RX2, "isBetter", "(II)Z"⟩
abbrev cX2_worthAt : ByteArray := prog_4_method_6_code
def yX2_worthAt : MethodName := ⟨RX2, "worthAt", "(I)I"⟩
abbrev cX2_chosenAt : ByteArray := prog_4_method_7_code
def yX2_chosenAt : MethodName := ⟨RX2, "chosenAt", "(I)I"⟩
def RX3 : String := "ShellMoney$Rates"
def TX3 : u_T := fun k => match k with
  | 0 => ("ShellMoney$Rates", "rateRow", "[I", true)
  | 1 => ("ShellMoney$Rates", "bonusRow", "[I", true)
  | 2 => ("ShellMoney$Rates", "floodRow", "[I", true)
  | 3 => ("ShellMoney$Rates", "beadRow", "[I", true)
  | _ => ("ShellMoney$Rates", "fame", "I", false)
def tyX3 : Nat → FieldType := fun k => match k with
  | 0 => .array .int
  | 1 => .array .int
  | 2 => .array .int
  | 3 => .array .int
  | _ => .int
abbrev wsX30 : List Cond := u_ws RX3 TX3 5
theorem nmX3 : ∀ a, a < 5 → ∀ b, b < 5 → a ≠ b → (TX3 a).2.1 ≠ (TX3 b).2.1 := by decide +kernel
theorem tyX3_ok : ∀ k, k < 5 → parseFieldDescriptor (TX3 k).2.2.1 = some (tyX3 k) := by decide +kernel
abbrev cX3_init : ByteArray := prog_5_method_1_code
def yX3_init : MethodName := ⟨RX3, "<init>", "()V"⟩
abbrev cX3_flowIn : ByteArray := prog_5_method_2_code
def yX3_flowIn : MethodName := ⟨RX3, "flowIn", "(II)V"⟩
abbrev cX3_allBeads : ByteArray := prog_5_method_3_code
def yX3_allBeads : MethodName := ⟨RX3, "allBeads", "()I"⟩
abbrev cX3_rateNow : ByteArray := prog_5_method_4_code
def yX3_rateNow : MethodName := ⟨RX3, "rateNow", "(I)I"⟩
abbrev cX3_worthByLength : ByteArray := prog_5_method_5_code
def yX3_worthByLength : MethodName := ⟨RX3, "worthByLength", "(II)I"⟩
def RX4 : String := "ShellMoney$Strand"
def TX4 : u_T := fun k => match k with
  | 0 => ("ShellMoney$Strand", "grades", "[I", true)
  | 1 => ("ShellMoney$Strand", "makers", "[I", true)
  | 2 => ("ShellMoney$Strand", "length", "I", false)
  | 3 => ("ShellMoney$Strand", "owner", "I", false)
  | _ => ("ShellMoney$Strand", "name", "I", false)
def tyX4 : Nat → FieldType := fun k => match k with
  | 0 => .array .int
  | 1 => .array .int
  | 2 => .int
  | 3 => .int
  | _ => .int
abbrev wsX40 : List Cond := u_ws RX4 TX4 5
theorem nmX4 : ∀ a, a < 5 → ∀ b, b < 5 → a ≠ b → (TX4 a).2.1 ≠ (TX4 b).2.1 := by decide +kernel
theorem tyX4_ok : ∀ k, k < 5 → parseFieldDescriptor (TX4 k).2.2.1 = some (tyX4 k) := by decide +kernel
abbrev cX4_init : ByteArray := prog_6_method_1_code
def yX4_init : MethodName := ⟨RX4, "<init>", "(I)V"⟩
abbrev cX4_has : ByteArray := prog_6_method_2_code
def yX4_has : MethodName := ⟨RX4, "has", "(I)Z"⟩
abbrev cX4_gradeAt : ByteArray := prog_6_method_3_code
def yX4_gradeAt : MethodName := ⟨RX4, "gradeAt", "(I)I"⟩
abbrev cX4_makerAt : ByteArray := prog_6_method_4_code
def yX4_makerAt : MethodName := ⟨RX4, "makerAt", "(I)I"⟩
abbrev cX4_append : ByteArray := prog_6_method_5_code
def yX4_append : MethodName := ⟨RX4, "append", "(III)V"⟩
abbrev cX4_appendFrom : ByteArray := prog_6_method_6_code
def yX4_appendFrom : MethodName := ⟨RX4, "appendFrom", "(LShellMoney$Strand;I)V"⟩
abbrev cX4_reverse : ByteArray := prog_6_method_7_code
def yX4_reverse : MethodName := ⟨RX4, "reverse", "()V"⟩
abbrev cX4_exchange : ByteArray := prog_6_method_8_code
def yX4_exchange : MethodName := ⟨RX4, "exchange", "(II)V"⟩
abbrev cX4_leastGrade : ByteArray := prog_6_method_9_code
def yX4_leastGrade : MethodName := ⟨RX4, "leastGrade", "()I"⟩
abbrev cX4_leastGradeWithin : ByteArray := prog_6_method_10_code
def yX4_leastGradeWithin : MethodName := ⟨RX4, "leastGradeWithin", "(II)I"⟩
abbrev cX4_spans : ByteArray := prog_6_method_11_code
def yX4_spans : MethodName := ⟨RX4, "spans", "()I"⟩
abbrev cX4_makerCount : ByteArray := prog_6_method_12_code
def yX4_makerCount : MethodName := ⟨RX4, "makerCount", "()I"⟩
abbrev cX4_tallyMakersBelow : ByteArray := prog_6_method_13_code
def yX4_tallyMakersBelow : MethodName := ⟨RX4, "tallyMakersBelow", "(I[I)V"⟩
def RX5 : String := "ShellMoney$Tales"
def TX5 : u_T := fun k => match k with
  | 0 => ("ShellMoney$Tales", "names", "[I", true)
  | 1 => ("ShellMoney$Tales", "kinds", "[I", true)
  | 2 => ("ShellMoney$Tales", "numbers", "[I", true)
  | 3 => ("ShellMoney$Tales", "years", "[I", true)
  | _ => ("ShellMoney$Tales", "size", "I", false)
def tyX5 : Nat → FieldType := fun k => match k with
  | 0 => .array .int
  | 1 => .array .int
  | 2 => .array .int
  | 3 => .array .int
  | _ => .int
abbrev wsX50 : List Cond := u_ws RX5 TX5 5
theorem nmX5 : ∀ a, a < 5 → ∀ b, b < 5 → a ≠ b → (TX5 a).2.1 ≠ (TX5 b).2.1 := by decide +kernel
theorem tyX5_ok : ∀ k, k < 5 → parseFieldDescriptor (TX5 k).2.2.1 = some (tyX5 k) := by decide +kernel
abbrev cX5_init : ByteArray := prog_7_method_1_code
def yX5_init : MethodName := ⟨RX5, "<init>", "()V"⟩
abbrev cX5_hasRoom : ByteArray := prog_7_method_2_code
def yX5_hasRoom : MethodName := ⟨RX5, "hasRoom", "(I)Z"⟩
abbrev cX5_tell : ByteArray := prog_7_method_3_code
def yX5_tell : MethodName := ⟨RX5, "tell", "(IIII)V"⟩
abbrev cX5_placeOf : ByteArray := prog_7_method_4_code
def yX5_placeOf : MethodName := ⟨RX5, "placeOf", "(II)I"⟩
abbrev cX5_about : ByteArray := prog_7_method_5_code
def yX5_about : MethodName := ⟨RX5, "about", "(II)I"⟩
def RX6 : String := "ShellMoney"
def TX6 : u_T := fun k => match k with
  | 0 => ("ShellMoney", "strands", "[LShellMoney$Strand;", true)
  | 1 => ("ShellMoney", "strandCount", "I", false)
  | 2 => ("ShellMoney", "madeBelow", "[I", true)
  | 3 => ("ShellMoney", "rates", "LShellMoney$Rates;", true)
  | 4 => ("ShellMoney", "tales", "LShellMoney$Tales;", true)
  | 5 => ("ShellMoney", "purse", "LShellMoney$Purse;", true)
  | 6 => ("ShellMoney", "debts", "[LShellMoney$Debt;", true)
  | 7 => ("ShellMoney", "debtCount", "I", false)
  | 8 => ("ShellMoney", "theHeap", "LShellMoney$Heap;", true)
  | 9 => ("ShellMoney", "custom", "I", false)
  | 10 => ("ShellMoney", "interest", "I", false)
  | _ => ("ShellMoney", "yearNow", "I", false)
def tyX6 : Nat → FieldType := fun k => match k with
  | 0 => .array (.object "ShellMoney$Strand")
  | 1 => .int
  | 2 => .array .int
  | 3 => .object "ShellMoney$Rates"
  | 4 => .object "ShellMoney$Tales"
  | 5 => .object "ShellMoney$Purse"
  | 6 => .array (.object "ShellMoney$Debt")
  | 7 => .int
  | 8 => .object "ShellMoney$Heap"
  | 9 => .int
  | 10 => .int
  | _ => .int
abbrev wsX60 : List Cond := u_ws RX6 TX6 12
theorem nmX6 : ∀ a, a < 12 → ∀ b, b < 12 → a ≠ b → (TX6 a).2.1 ≠ (TX6 b).2.1 := by decide +kernel
theorem tyX6_ok : ∀ k, k < 12 → parseFieldDescriptor (TX6 k).2.2.1 = some (tyX6 k) := by decide +kernel
abbrev cX6_init : ByteArray := prog_1_method_1_code
def yX6_init : MethodName := ⟨RX6, "<init>", "()V"⟩
abbrev cX6_string : ByteArray := prog_1_method_2_code
def yX6_string : MethodName := ⟨RX6, "string", "(IIII)I"⟩
abbrev cX6_add : ByteArray := prog_1_method_3_code
def yX6_add : MethodName := ⟨RX6, "add", "(IIII)I"⟩
abbrev cX6_cut : ByteArray := prog_1_method_4_code
def yX6_cut : MethodName := ⟨RX6, "cut", "(II)I"⟩
abbrev cX6_join : ByteArray := prog_1_method_5_code
def yX6_join : MethodName := ⟨RX6, "join", "(II)I"⟩
abbrev cX6_turn : ByteArray := prog_1_method_6_code
def yX6_turn : MethodName := ⟨RX6, "turn", "(I)Z"⟩
abbrev cX6_name : ByteArray := prog_1_method_7_code
def yX6_name : MethodName := ⟨RX6, "name", "(II)Z"⟩
abbrev cX6_give : ByteArray := prog_1_method_8_code
def yX6_give : MethodName := ⟨RX6, "give", "(II)Z"⟩
abbrev cX6_of : ByteArray := prog_1_method_9_code
def yX6_of : MethodName := ⟨RX6, "of", "(II)I"⟩
abbrev cX6_bead : ByteArray := prog_1_method_10_code
def yX6_bead : MethodName := ⟨RX6, "bead", "(III)I"⟩
abbrev cX6_named : ByteArray := prog_1_method_11_code
def yX6_named : MethodName := ⟨RX6, "named", "(I)I"⟩
abbrev cX6_tale : ByteArray := prog_1_method_12_code
def yX6_tale : MethodName := ⟨RX6, "tale", "(III)I"⟩
abbrev cX6_set : ByteArray := prog_1_method_13_code
def yX6_set : MethodName := ⟨RX6, "set", "(III)I"⟩
abbrev cX6_rate : ByteArray := prog_1_method_14_code
def yX6_rate : MethodName := ⟨RX6, "rate", "(I)I"⟩
abbrev cX6_rich : ByteArray := prog_1_method_15_code
def yX6_rich : MethodName := ⟨RX6, "rich", "(I)I"⟩
abbrev cX6_drawn : ByteArray := prog_1_method_16_code
def yX6_drawn : MethodName := ⟨RX6, "drawn", "(III)I"⟩
abbrev cX6_cheat : ByteArray := prog_1_method_17_code
def yX6_cheat : MethodName := ⟨RX6, "cheat", "(II)I"⟩
abbrev cX6_blame : ByteArray := prog_1_method_18_code
def yX6_blame : MethodName := ⟨RX6, "blame", "(I)I"⟩
abbrev cX6_serves : ByteArray := prog_1_method_19_code
def yX6_serves : MethodName := ⟨RX6, "serves", "(II)I"⟩
abbrev cX6_pay : ByteArray := prog_1_method_20_code
def yX6_pay : MethodName := ⟨RX6, "pay", "(III)I"⟩
abbrev cX6_owe : ByteArray := prog_1_method_21_code
def yX6_owe : MethodName := ⟨RX6, "owe", "(IIII)I"⟩
abbrev cX6_settle : ByteArray := prog_1_method_22_code
def yX6_settle : MethodName := ⟨RX6, "settle", "(II)Z"⟩
abbrev cX6_debt : ByteArray := prog_1_method_23_code
def yX6_debt : MethodName := ⟨RX6, "debt", "(II)I"⟩
abbrev cX6_year : ByteArray := prog_1_method_24_code
def yX6_year : MethodName := ⟨RX6, "year", "()I"⟩
abbrev cX6_count : ByteArray := prog_1_method_25_code
def yX6_count : MethodName := ⟨RX6, "count", "(I)I"⟩
abbrev cX6_heap : ByteArray := prog_1_method_26_code
def yX6_heap : MethodName := ⟨RX6, "heap", "(II)Z"⟩
abbrev cX6_strung : ByteArray := prog_1_method_27_code
def yX6_strung : MethodName := ⟨RX6, "strung", "()I"⟩
abbrev cX6_strings : ByteArray := prog_1_method_28_code
def yX6_strings : MethodName := ⟨RX6, "strings", "()I"⟩
abbrev cX6_part : ByteArray := prog_1_method_29_code
def yX6_part : MethodName := ⟨RX6, "part", "(I)I"⟩
abbrev cX6_isOwner : ByteArray := prog_1_method_30_code
def yX6_isOwner : MethodName := ⟨RX6, "isOwner", "(I)Z"⟩
abbrev cX6_isGrade : ByteArray := prog_1_method_31_code
def yX6_isGrade : MethodName := ⟨RX6, "isGrade", "(I)Z"⟩
abbrev cX6_isName : ByteArray := prog_1_method_32_code
def yX6_isName : MethodName := ⟨RX6, "isName", "(I)Z"⟩
abbrev cX6_areBeads : ByteArray := prog_1_method_33_code
def yX6_areBeads : MethodName := ⟨RX6, "areBeads", "(III)Z"⟩
abbrev cX6_strandAt : ByteArray := prog_1_method_34_code
def yX6_strandAt : MethodName := ⟨RX6, "strandAt", "(I)LShellMoney$Strand;"⟩
abbrev cX6_livingStrand : ByteArray := prog_1_method_35_code
def yX6_livingStrand : MethodName := ⟨RX6, "livingStrand", "(I)LShellMoney$Strand;"⟩
abbrev cX6_keepStrand : ByteArray := prog_1_method_36_code
def yX6_keepStrand : MethodName := ⟨RX6, "keepStrand", "(LShellMoney$Strand;)I"⟩
abbrev cX6_debtAt : ByteArray := prog_1_method_37_code
def yX6_debtAt : MethodName := ⟨RX6, "debtAt", "(I)LShellMoney$Debt;"⟩
abbrev cX6_goneCount : ByteArray := prog_1_method_38_code
def yX6_goneCount : MethodName := ⟨RX6, "goneCount", "()I"⟩
abbrev cX6_paidCount : ByteArray := prog_1_method_39_code
def yX6_paidCount : MethodName := ⟨RX6, "paidCount", "()I"⟩
abbrev cX6_tallyMakersBelow : ByteArray := prog_1_method_40_code
def yX6_tallyMakersBelow : MethodName := ⟨RX6, "tallyMakersBelow", "(I)V"⟩
abbrev cX6_nameCount : ByteArray := prog_1_method_41_code
def yX6_nameCount : MethodName := ⟨RX6, "nameCount", "(LShellMoney$Strand;)I"⟩
abbrev cX6_loseName : ByteArray := prog_1_method_42_code
def yX6_loseName : MethodName := ⟨RX6, "loseName", "(LShellMoney$Strand;)V"⟩
abbrev cX6_settleNameOfCut : ByteArray := prog_1_method_43_code
def yX6_settleNameOfCut : MethodName := ⟨RX6, "settleNameOfCut", "(LShellMoney$Strand;LShellMoney$Strand;)V"⟩
abbrev cX6_settleNameOfJoined : ByteArray := prog_1_method_44_code
def yX6_settleNameOfJoined : MethodName := ⟨RX6, "settleNameOfJoined", "(LShellMoney$Strand;LShellMoney$Strand;)V"⟩
abbrev cX6_handOver : ByteArray := prog_1_method_45_code
def yX6_handOver : MethodName := ⟨RX6, "handOver", "(LShellMoney$Strand;I)V"⟩
abbrev cX6_worthOf : ByteArray := prog_1_method_46_code
def yX6_worthOf : MethodName := ⟨RX6, "worthOf", "(LShellMoney$Strand;)I"⟩
abbrev cX6_replaced : ByteArray := prog_1_method_47_code
def yX6_replaced : MethodName := ⟨RX6, "replaced", "([IIIII)I"⟩
abbrev cX6_replacedFame : ByteArray := prog_1_method_48_code
def yX6_replacedFame : MethodName := ⟨RX6, "replacedFame", "(I)I"⟩
abbrev cX6_replacedCustom : ByteArray := prog_1_method_49_code
def yX6_replacedCustom : MethodName := ⟨RX6, "replacedCustom", "(I)I"⟩
abbrev cX6_replacedInterest : ByteArray := prog_1_method_50_code
def yX6_replacedInterest : MethodName := ⟨RX6, "replacedInterest", "(I)I"⟩
abbrev cX6_choosePayment : ByteArray := prog_1_method_51_code
def yX6_choosePayment : MethodName := ⟨RX6, "choosePayment", "(II)I"⟩
abbrev cX6_fillPurse : ByteArray := prog_1_method_52_code
def yX6_fillPurse : MethodName := ⟨RX6, "fillPurse", "(I)Z"⟩
abbrev cX6_chosenNames : ByteArray := prog_1_method_53_code
def yX6_chosenNames : MethodName := ⟨RX6, "chosenNames", "()I"⟩
abbrev cX6_handOverChosen : ByteArray := prog_1_method_54_code
def yX6_handOverChosen : MethodName := ⟨RX6, "handOverChosen", "(I)V"⟩
def RX7 : String := "ShellMoneyModel"
def TX7 : u_T := fun k => match k with
  | 0 => ("ShellMoneyModel", "grade", "[I", true)
  | 1 => ("ShellMoneyModel", "maker", "[I", true)
  | 2 => ("ShellMoneyModel", "many", "[I", true)
  | 3 => ("ShellMoneyModel", "owner", "[I", true)
  | 4 => ("ShellMoneyModel", "name", "[I", true)
  | 5 => ("ShellMoneyModel", "strings", "I", false)
  | 6 => ("ShellMoneyModel", "rates", "[I", true)
  | 7 => ("ShellMoneyModel", "bonuses", "[I", true)
  | 8 => ("ShellMoneyModel", "floods", "[I", true)
  | 9 => ("ShellMoneyModel", "fame", "I", false)
  | 10 => ("ShellMoneyModel", "custom", "I", false)
  | 11 => ("ShellMoneyModel", "interest", "I", false)
  | 12 => ("ShellMoneyModel", "events", "[I", true)
  | 13 => ("ShellMoneyModel", "eventMany", "I", false)
  | 14 => ("ShellMoneyModel", "year", "I", false)
  | 15 => ("ShellMoneyModel", "debts", "[I", true)
  | 16 => ("ShellMoneyModel", "debtMany", "I", false)
  | 17 => ("ShellMoneyModel", "heap", "[I", true)
  | 18 => ("ShellMoneyModel", "thrown", "I", false)
  | 19 => ("ShellMoneyModel", "mine", "[I", true)
  | 20 => ("ShellMoneyModel", "worths", "[I", true)
  | 21 => ("ShellMoneyModel", "mineMany", "I", false)
  | 22 => ("ShellMoneyModel", "rest", "[I", true)
  | 23 => ("ShellMoneyModel", "restMany", "[I", true)
  | _ => ("ShellMoneyModel", "restEnd", "[I", true)
def tyX7 : Nat → FieldType := fun k => match k with
  | 0 => .array .int
  | 1 => .array .int
  | 2 => .array .int
  | 3 => .array .int
  | 4 => .array .int
  | 5 => .int
  | 6 => .array .int
  | 7 => .array .int
  | 8 => .array .int
  | 9 => .int
  | 10 => .int
  | 11 => .int
  | 12 => .array .int
  | 13 => .int
  | 14 => .int
  | 15 => .array .int
  | 16 => .int
  | 17 => .array .int
  | 18 => .int
  | 19 => .array .int
  | 20 => .array .int
  | 21 => .int
  | 22 => .array .int
  | 23 => .array .int
  | _ => .array .int
abbrev wsX70 : List Cond := u_ws RX7 TX7 25
theorem nmX7 : ∀ a, a < 25 → ∀ b, b < 25 → a ≠ b → (TX7 a).2.1 ≠ (TX7 b).2.1 := by decide +kernel
theorem tyX7_ok : ∀ k, k < 25 → parseFieldDescriptor (TX7 k).2.2.1 = some (tyX7 k) := by decide +kernel
abbrev cX7_init : ByteArray := prog_9_method_1_code
def yX7_init : MethodName := ⟨RX7, "<init>", "()V"⟩
abbrev cX7_thrown : ByteArray := prog_9_method_2_code
def yX7_thrown : MethodName := ⟨RX7, "thrown", "()I"⟩
abbrev cX7_in : ByteArray := prog_9_method_3_code
def yX7_in : MethodName := ⟨RX7, "in", "(III)Z"⟩
abbrev cX7_isThere : ByteArray := prog_9_method_4_code
def yX7_isThere : MethodName := ⟨RX7, "isThere", "(I)Z"⟩
abbrev cX7_hasRoom : ByteArray := prog_9_method_5_code
def yX7_hasRoom : MethodName := ⟨RX7, "hasRoom", "(I)Z"⟩
abbrev cX7_say : ByteArray := prog_9_method_6_code
def yX7_say : MethodName := ⟨RX7, "say", "(III)V"⟩
abbrev cX7_put : ByteArray := prog_9_method_7_code
def yX7_put : MethodName := ⟨RX7, "put", "(IIII)V"⟩
abbrev cX7_areBeads : ByteArray := prog_9_method_8_code
def yX7_areBeads : MethodName := ⟨RX7, "areBeads", "(III)Z"⟩
abbrev cX7_newString : ByteArray := prog_9_method_9_code
def yX7_newString : MethodName := ⟨RX7, "newString", "(I)I"⟩
abbrev cX7_string : ByteArray := prog_9_method_10_code
def yX7_string : MethodName := ⟨RX7, "string", "(IIII)I"⟩
abbrev cX7_add : ByteArray := prog_9_method_11_code
def yX7_add : MethodName := ⟨RX7, "add", "(IIII)I"⟩
abbrev cX7_cut : ByteArray := prog_9_method_12_code
def yX7_cut : MethodName := ⟨RX7, "cut", "(II)I"⟩
abbrev cX7_join : ByteArray := prog_9_method_13_code
def yX7_join : MethodName := ⟨RX7, "join", "(II)I"⟩
abbrev cX7_turn : ByteArray := prog_9_method_14_code
def yX7_turn : MethodName := ⟨RX7, "turn", "(I)Z"⟩
abbrev cX7_whose : ByteArray := prog_9_method_15_code
def yX7_whose : MethodName := ⟨RX7, "whose", "(I)I"⟩
abbrev cX7_name : ByteArray := prog_9_method_16_code
def yX7_name : MethodName := ⟨RX7, "name", "(II)Z"⟩
abbrev cX7_hand : ByteArray := prog_9_method_17_code
def yX7_hand : MethodName := ⟨RX7, "hand", "(II)V"⟩
abbrev cX7_give : ByteArray := prog_9_method_18_code
def yX7_give : MethodName := ⟨RX7, "give", "(II)Z"⟩
abbrev cX7_leastOf : ByteArray := prog_9_method_19_code
def yX7_leastOf : MethodName := ⟨RX7, "leastOf", "(III)I"⟩
abbrev cX7_rateOf : ByteArray := prog_9_method_20_code
def yX7_rateOf : MethodName := ⟨RX7, "rateOf", "(I)I"⟩
abbrev cX7_beadsWorth : ByteArray := prog_9_method_21_code
def yX7_beadsWorth : MethodName := ⟨RX7, "beadsWorth", "(II)I"⟩
abbrev cX7_worth : ByteArray := prog_9_method_22_code
def yX7_worth : MethodName := ⟨RX7, "worth", "(I)I"⟩
abbrev cX7_makersOf : ByteArray := prog_9_method_23_code
def yX7_makersOf : MethodName := ⟨RX7, "makersOf", "(I)I"⟩
abbrev cX7_of : ByteArray := prog_9_method_24_code
def yX7_of : MethodName := ⟨RX7, "of", "(II)I"⟩
abbrev cX7_bead : ByteArray := prog_9_method_25_code
def yX7_bead : MethodName := ⟨RX7, "bead", "(III)I"⟩
abbrev cX7_named : ByteArray := prog_9_method_26_code
def yX7_named : MethodName := ⟨RX7, "named", "(I)I"⟩
abbrev cX7_tale : ByteArray := prog_9_method_27_code
def yX7_tale : MethodName := ⟨RX7, "tale", "(III)I"⟩
abbrev cX7_set : ByteArray := prog_9_method_28_code
def yX7_set : MethodName := ⟨RX7, "set", "(III)I"⟩
abbrev cX7_rate : ByteArray := prog_9_method_29_code
def yX7_rate : MethodName := ⟨RX7, "rate", "(I)I"⟩
abbrev cX7_rich : ByteArray := prog_9_method_30_code
def yX7_rich : MethodName := ⟨RX7, "rich", "(I)I"⟩
abbrev cX7_drawn : ByteArray := prog_9_method_31_code
def yX7_drawn : MethodName := ⟨RX7, "drawn", "(III)I"⟩
abbrev cX7_cheat : ByteArray := prog_9_method_32_code
def yX7_cheat : MethodName := ⟨RX7, "cheat", "(II)I"⟩
abbrev cX7_blame : ByteArray := prog_9_method_33_code
def yX7_blame : MethodName := ⟨RX7, "blame", "(I)I"⟩
abbrev cX7_gather : ByteArray := prog_9_method_34_code
def yX7_gather : MethodName := ⟨RX7, "gather", "(I)Z"⟩
abbrev cX7_worthOf : ByteArray := prog_9_method_35_code
def yX7_worthOf : MethodName := ⟨RX7, "worthOf", "(I)I"⟩
abbrev cX7_serving : ByteArray := prog_9_method_36_code
def yX7_serving : MethodName := ⟨RX7, "serving", "(I)I"⟩
abbrev cX7_serves : ByteArray := prog_9_method_37_code
def yX7_serves : MethodName := ⟨RX7, "serves", "(II)I"⟩
abbrev cX7_pay : ByteArray := prog_9_method_38_code
def yX7_pay : MethodName := ⟨RX7, "pay", "(III)I"⟩
abbrev cX7_owe : ByteArray := prog_9_method_39_code
def yX7_owe : MethodName := ⟨RX7, "owe", "(IIII)I"⟩
abbrev cX7_settle : ByteArray := prog_9_method_40_code
def yX7_settle : MethodName := ⟨RX7, "settle", "(II)Z"⟩
abbrev cX7_debt : ByteArray := prog_9_method_41_code
def yX7_debt : MethodName := ⟨RX7, "debt", "(II)I"⟩
abbrev cX7_year : ByteArray := prog_9_method_42_code
def yX7_year : MethodName := ⟨RX7, "year", "()I"⟩
abbrev cX7_count : ByteArray := prog_9_method_43_code
def yX7_count : MethodName := ⟨RX7, "count", "(I)I"⟩
abbrev cX7_heaped : ByteArray := prog_9_method_44_code
def yX7_heaped : MethodName := ⟨RX7, "heaped", "()I"⟩
abbrev cX7_heap : ByteArray := prog_9_method_45_code
def yX7_heap : MethodName := ⟨RX7, "heap", "(II)Z"⟩
abbrev cX7_gradeAt : ByteArray := prog_9_method_46_code
def yX7_gradeAt : MethodName := ⟨RX7, "gradeAt", "(I)I"⟩
abbrev cX7_string_ : ByteArray := prog_9_method_47_code
def yX7_string_ : MethodName := ⟨RX7, "string", "()V"⟩
abbrev cX7_strung : ByteArray := prog_9_method_48_code
def yX7_strung : MethodName := ⟨RX7, "strung", "()I"⟩
abbrev cX7_strings : ByteArray := prog_9_method_49_code
def yX7_strings : MethodName := ⟨RX7, "strings", "()I"⟩
abbrev cX7_part : ByteArray := prog_9_method_50_code
def yX7_part : MethodName := ⟨RX7, "part", "(I)I"⟩
def RJ6 : String := "java/lang/Integer"
abbrev cJ6_bitCount_0f7a4 : ByteArray := prog_12_method_49_code
def yJ6_bitCount_0f7a4 : MethodName := ⟨RJ6, "bitCount", "(I)I"⟩
def RJ9 : String := "java/lang/Math"
abbrev cJ9_max_7cf53 : ByteArray := prog_13_method_65_code
def yJ9_max_7cf53 : MethodName := ⟨RJ9, "max", "(II)I"⟩
abbrev cJ9_min_7cf53 : ByteArray := prog_13_method_69_code
def yJ9_min_7cf53 : MethodName := ⟨RJ9, "min", "(II)I"⟩
def RL : String := "ShellMoneyLaw"
abbrev cL_of : ByteArray := method_3_code
def yL_of : MethodName := ⟨RL, "of", "(LShellMoney;II[J)I"⟩
abbrev cL_law : ByteArray := code
def yL_law : MethodName := ⟨RL, "law", "([I)Z"⟩
abbrev vwCl : List vw_C := [(RX0, TX0, 5), (RX1, TX1, 6), (RX2, TX2, 7), (RX3, TX3, 5), (RX4, TX4, 5), (RX5, TX5, 5), (RX6, TX6, 12), (RX7, TX7, 25)]
end
section
theorem dX0_init_0 : decode cX0_init 0 = .ok (.aload_n 0, 1) := by decide +kernel
theorem dX0_init_1 : decode cX0_init 1 = .ok (.invokespecial 3, 3) := by decide +kernel
theorem dX0_init_4 : decode cX0_init 4 = .ok (.aload_n 0, 1) := by decide +kernel
theorem dX0_init_5 : decode cX0_init 5 = .ok (.iconst (-1), 1) := by decide +kernel
theorem dX0_init_6 : decode cX0_init 6 = .ok (.putfield 9, 3) := by decide +kernel
theorem dX0_init_9 : decode cX0_init 9 = .ok (.aload_n 0, 1) := by decide +kernel
theorem dX0_init_10 : decode cX0_init 10 = .ok (.iload_n 1, 1) := by decide +kernel
theorem dX0_init_11 : decode cX0_init 11 = .ok (.putfield 15, 3) := by decide +kernel
theorem dX0_init_14 : decode cX0_init 14 = .ok (.aload_n 0, 1) := by decide +kernel
theorem dX0_init_15 : decode cX0_init 15 = .ok (.iload_n 2, 1) := by decide +kernel
theorem dX0_init_16 : decode cX0_init 16 = .ok (.putfield 18, 3) := by decide +kernel
theorem dX0_init_19 : decode cX0_init 19 = .ok (.aload_n 0, 1) := by decide +kernel
theorem dX0_init_20 : decode cX0_init 20 = .ok (.iload_n 3, 1) := by decide +kernel
theorem dX0_init_21 : decode cX0_init 21 = .ok (.putfield 21, 3) := by decide +kernel
theorem dX0_init_24 : decode cX0_init 24 = .ok (.aload_n 0, 1) := by decide +kernel
theorem dX0_init_25 : decode cX0_init 25 = .ok (.iload 4, 2) := by decide +kernel
theorem dX0_init_27 : decode cX0_init 27 = .ok (.putfield 24, 3) := by decide +kernel
theorem dX0_init_30 : decode cX0_init 30 = .ok (.return_, 1) := by decide +kernel
theorem dX0_isPaid_0 : decode cX0_isPaid 0 = .ok (.aload_n 0, 1) := by decide +kernel
theorem dX0_isPaid_1 : decode cX0_isPaid 1 = .ok (.getfield 9, 3) := by decide +kernel
theorem dX0_isPaid_4 : decode cX0_isPaid 4 = .ok (.iconst (-1), 1) := by decide +kernel
theorem dX0_isPaid_5 : decode cX0_isPaid 5 = .ok (.if_icmp .eq 7, 3) := by decide +kernel
theorem dX0_isPaid_8 : decode cX0_isPaid 8 = .ok (.iconst 1, 1) := by decide +kernel
theorem dX0_isPaid_9 : decode cX0_isPaid 9 = .ok (.goto 4, 3) := by decide +kernel
theorem dX0_isPaid_12 : decode cX0_isPaid 12 = .ok (.iconst 0, 1) := by decide +kernel
theorem dX0_isPaid_13 : decode cX0_isPaid 13 = .ok (.ireturn, 1) := by decide +kernel
theorem dX0_grow_0 : decode cX0_grow 0 = .ok (.aload_n 0, 1) := by decide +kernel
theorem dX0_grow_1 : decode cX0_grow 1 = .ok (.sipush 10000, 3) := by decide +kernel
theorem dX0_grow_4 : decode cX0_grow 4 = .ok (.aload_n 0, 1) := by decide +kernel
theorem dX0_grow_5 : decode cX0_grow 5 = .ok (.getfield 21, 3) := by decide +kernel
theorem dX0_grow_8 : decode cX0_grow 8 = .ok (.aload_n 0, 1) := by decide +kernel
theorem dX0_grow_9 : decode cX0_grow 9 = .ok (.getfield 21, 3) := by decide +kernel
theorem dX0_grow_12 : decode cX0_grow 12 = .ok (.iload_n 1, 1) := by decide +kernel
theorem dX0_grow_13 : decode cX0_grow 13 = .ok (.imul, 1) := by decide +kernel
theorem dX0_grow_14 : decode cX0_grow 14 = .ok (.bipush 100, 2) := by decide +kernel
theorem dX0_grow_16 : decode cX0_grow 16 = .ok (.idiv, 1) := by decide +kernel
theorem dX0_grow_17 : decode cX0_grow 17 = .ok (.iadd, 1) := by decide +kernel
theorem dX0_grow_18 : decode cX0_grow 18 = .ok (.invokestatic 27, 3) := by decide +kernel
theorem dX0_grow_21 : decode cX0_grow 21 = .ok (.putfield 21, 3) := by decide +kernel
theorem dX0_grow_24 : decode cX0_grow 24 = .ok (.return_, 1) := by decide +kernel
theorem dX1_init_0 : decode cX1_init 0 = .ok (.aload_n 0, 1) := by decide +kernel
theorem dX1_init_1 : decode cX1_init 1 = .ok (.invokespecial 3, 3) := by decide +kernel
theorem dX1_init_4 : decode cX1_init 4 = .ok (.aload_n 0, 1) := by decide +kernel
theorem dX1_init_5 : decode cX1_init 5 = .ok (.iconst 5, 1) := by decide +kernel
theorem dX1_init_6 : decode cX1_init 6 = .ok (.newarray .int, 2) := by decide +kernel
theorem dX1_init_8 : decode cX1_init 8 = .ok (.putfield 9, 3) := by decide +kernel
theorem dX1_init_11 : decode cX1_init 11 = .ok (.aload_n 0, 1) := by decide +kernel
theorem dX1_init_12 : decode cX1_init 12 = .ok (.iconst 0, 1) := by decide +kernel
theorem dX1_init_13 : decode cX1_init 13 = .ok (.putfield 15, 3) := by decide +kernel
theorem dX1_init_16 : decode cX1_init 16 = .ok (.aload_n 0, 1) := by decide +kernel
theorem dX1_init_17 : decode cX1_init 17 = .ok (.bipush 60, 2) := by decide +kernel
theorem dX1_init_19 : decode cX1_init 19 = .ok (.newarray .int, 2) := by decide +kernel
theorem dX1_init_21 : decode cX1_init 21 = .ok (.putfield 19, 3) := by decide +kernel
theorem dX1_init_24 : decode cX1_init 24 = .ok (.aload_n 0, 1) := by decide +kernel
theorem dX1_init_25 : decode cX1_init 25 = .ok (.bipush 61, 2) := by decide +kernel
theorem dX1_init_27 : decode cX1_init 27 = .ok (.newarray .int, 2) := by decide +kernel
theorem dX1_init_29 : decode cX1_init 29 = .ok (.putfield 22, 3) := by decide +kernel
theorem dX1_init_32 : decode cX1_init 32 = .ok (.aload_n 0, 1) := by decide +kernel
theorem dX1_init_33 : decode cX1_init 33 = .ok (.bipush 61, 2) := by decide +kernel
theorem dX1_init_35 : decode cX1_init 35 = .ok (.newarray .int, 2) := by decide +kernel
theorem dX1_init_37 : decode cX1_init 37 = .ok (.putfield 25, 3) := by decide +kernel
theorem dX1_init_40 : decode cX1_init 40 = .ok (.aload_n 0, 1) := by decide +kernel
theorem dX1_init_41 : decode cX1_init 41 = .ok (.bipush 61, 2) := by decide +kernel
theorem dX1_init_43 : decode cX1_init 43 = .ok (.newarray .int, 2) := by decide +kernel
theorem dX1_init_45 : decode cX1_init 45 = .ok (.putfield 28, 3) := by decide +kernel
theorem dX1_init_48 : decode cX1_init 48 = .ok (.return_, 1) := by decide +kernel
theorem dX1_put_0 : decode cX1_put 0 = .ok (.iload_n 1, 1) := by decide +kernel
theorem dX1_put_1 : decode cX1_put 1 = .ok (.invokestatic 31, 3) := by decide +kernel
theorem dX1_put_4 : decode cX1_put 4 = .ok (.ifCond .eq 13, 3) := by decide +kernel
theorem dX1_put_7 : decode cX1_put 7 = .ok (.iload_n 2, 1) := by decide +kernel
theorem dX1_put_8 : decode cX1_put 8 = .ok (.ifCond .lt 9, 3) := by decide +kernel
theorem dX1_put_11 : decode cX1_put 11 = .ok (.iload_n 2, 1) := by decide +kernel
theorem dX1_put_12 : decode cX1_put 12 = .ok (.bipush 60, 2) := by decide +kernel
theorem dX1_put_14 : decode cX1_put 14 = .ok (.if_icmp .le 5, 3) := by decide +kernel
theorem dX1_put_17 : decode cX1_put 17 = .ok (.iconst 0, 1) := by decide +kernel
theorem dX1_put_18 : decode cX1_put 18 = .ok (.ireturn, 1) := by decide +kernel
theorem dX1_put_19 : decode cX1_put 19 = .ok (.aload_n 0, 1) := by decide +kernel
theorem dX1_put_20 : decode cX1_put 20 = .ok (.getfield 15, 3) := by decide +kernel
theorem dX1_put_23 : decode cX1_put 23 = .ok (.aload_n 0, 1) := by decide +kernel
theorem dX1_put_24 : decode cX1_put 24 = .ok (.getfield 9, 3) := by decide +kernel
theorem dX1_put_27 : decode cX1_put 27 = .ok (.iload_n 1, 1) := by decide +kernel
theorem dX1_put_28 : decode cX1_put 28 = .ok (.iaload, 1) := by decide +kernel
theorem dX1_put_29 : decode cX1_put 29 = .ok (.isub, 1) := by decide +kernel
theorem dX1_put_30 : decode cX1_put 30 = .ok (.istore_n 3, 1) := by decide +kernel
theorem dX1_put_31 : decode cX1_put 31 = .ok (.iload_n 3, 1) := by decide +kernel
theorem dX1_put_32 : decode cX1_put 32 = .ok (.iload_n 2, 1) := by decide +kernel
theorem dX1_put_33 : decode cX1_put 33 = .ok (.iadd, 1) := by decide +kernel
theorem dX1_put_34 : decode cX1_put 34 = .ok (.bipush 60, 2) := by decide +kernel
theorem dX1_put_36 : decode cX1_put 36 = .ok (.if_icmp .le 5, 3) := by decide +kernel
theorem dX1_put_39 : decode cX1_put 39 = .ok (.iconst 0, 1) := by decide +kernel
theorem dX1_put_40 : decode cX1_put 40 = .ok (.ireturn, 1) := by decide +kernel
theorem dX1_put_41 : decode cX1_put 41 = .ok (.aload_n 0, 1) := by decide +kernel
theorem dX1_put_42 : decode cX1_put 42 = .ok (.getfield 9, 3) := by decide +kernel
theorem dX1_put_45 : decode cX1_put 45 = .ok (.iload_n 1, 1) := by decide +kernel
theorem dX1_put_46 : decode cX1_put 46 = .ok (.iload_n 2, 1) := by decide +kernel
theorem dX1_put_47 : decode cX1_put 47 = .ok (.iastore, 1) := by decide +kernel
theorem dX1_put_48 : decode cX1_put 48 = .ok (.aload_n 0, 1) := by decide +kernel
theorem dX1_put_49 : decode cX1_put 49 = .ok (.iload_n 3, 1) := by decide +kernel
theorem dX1_put_50 : decode cX1_put 50 = .ok (.iload_n 2, 1) := by decide +kernel
theorem dX1_put_51 : decode cX1_put 51 = .ok (.iadd, 1) := by decide +kernel
theorem dX1_put_52 : decode cX1_put 52 = .ok (.putfield 15, 3) := by decide +kernel
theorem dX1_put_55 : decode cX1_put 55 = .ok (.iconst 1, 1) := by decide +kernel
theorem dX1_put_56 : decode cX1_put 56 = .ok (.ireturn, 1) := by decide +kernel
theorem dX1_bestWorth_0 : decode cX1_bestWorth 0 = .ok (.aload_n 0, 1) := by decide +kernel
theorem dX1_bestWorth_1 : decode cX1_bestWorth 1 = .ok (.getfield 22, 3) := by decide +kernel
theorem dX1_bestWorth_4 : decode cX1_bestWorth 4 = .ok (.iconst 0, 1) := by decide +kernel
theorem dX1_bestWorth_5 : decode cX1_bestWorth 5 = .ok (.iaload, 1) := by decide +kernel
theorem dX1_bestWorth_6 : decode cX1_bestWorth 6 = .ok (.ireturn, 1) := by decide +kernel
theorem dX1_bestParts_0 : decode cX1_bestParts 0 = .ok (.aload_n 0, 1) := by decide +kernel
theorem dX1_bestParts_1 : decode cX1_bestParts 1 = .ok (.getfield 25, 3) := by decide +kernel
theorem dX1_bestParts_4 : decode cX1_bestParts 4 = .ok (.iconst 0, 1) := by decide +kernel
theorem dX1_bestParts_5 : decode cX1_bestParts 5 = .ok (.iaload, 1) := by decide +kernel
theorem dX1_bestParts_6 : decode cX1_bestParts 6 = .ok (.ireturn, 1) := by decide +kernel
theorem dX1_plan_0 : decode cX1_plan 0 = .ok (.aload_n 0, 1) := by decide +kernel
theorem dX1_plan_1 : decode cX1_plan 1 = .ok (.invokevirtual 35, 3) := by decide +kernel
theorem dX1_plan_4 : decode cX1_plan 4 = .ok (.aload_n 0, 1) := by decide +kernel
theorem dX1_plan_5 : decode cX1_plan 5 = .ok (.aload_n 0, 1) := by decide +kernel
theorem dX1_plan_6 : decode cX1_plan 6 = .ok (.getfield 15, 3) := by decide +kernel
theorem dX1_plan_9 : decode cX1_plan 9 = .ok (.invokevirtual 38, 3) := by decide +kernel
theorem dX1_plan_12 : decode cX1_plan 12 = .ok (.aload_n 0, 1) := by decide +kernel
theorem dX1_plan_13 : decode cX1_plan 13 = .ok (.getfield 15, 3) := by decide +kernel
theorem dX1_plan_16 : decode cX1_plan 16 = .ok (.iconst 1, 1) := by decide +kernel
theorem dX1_plan_17 : decode cX1_plan 17 = .ok (.isub, 1) := by decide +kernel
theorem dX1_plan_18 : decode cX1_plan 18 = .ok (.istore_n 2, 1) := by decide +kernel
theorem dX1_plan_19 : decode cX1_plan 19 = .ok (.iload_n 2, 1) := by decide +kernel
theorem dX1_plan_20 : decode cX1_plan 20 = .ok (.ifCond .lt 45, 3) := by decide +kernel
theorem dX1_plan_23 : decode cX1_plan 23 = .ok (.aload_n 0, 1) := by decide +kernel
theorem dX1_plan_24 : decode cX1_plan 24 = .ok (.iload_n 2, 1) := by decide +kernel
theorem dX1_plan_25 : decode cX1_plan 25 = .ok (.invokevirtual 38, 3) := by decide +kernel
theorem dX1_plan_28 : decode cX1_plan 28 = .ok (.iconst 1, 1) := by decide +kernel
theorem dX1_plan_29 : decode cX1_plan 29 = .ok (.istore_n 3, 1) := by decide +kernel
theorem dX1_plan_30 : decode cX1_plan 30 = .ok (.iload_n 3, 1) := by decide +kernel
theorem dX1_plan_31 : decode cX1_plan 31 = .ok (.bipush 80, 2) := by decide +kernel
theorem dX1_plan_33 : decode cX1_plan 33 = .ok (.if_icmp .gt 26, 3) := by decide +kernel
theorem dX1_plan_36 : decode cX1_plan 36 = .ok (.iload_n 2, 1) := by decide +kernel
theorem dX1_plan_37 : decode cX1_plan 37 = .ok (.iload_n 3, 1) := by decide +kernel
theorem dX1_plan_38 : decode cX1_plan 38 = .ok (.iadd, 1) := by decide +kernel
theorem dX1_plan_39 : decode cX1_plan 39 = .ok (.aload_n 0, 1) := by decide +kernel
theorem dX1_plan_40 : decode cX1_plan 40 = .ok (.getfield 15, 3) := by decide +kernel
theorem dX1_plan_43 : decode cX1_plan 43 = .ok (.if_icmp .gt 16, 3) := by decide +kernel
theorem dX1_plan_46 : decode cX1_plan 46 = .ok (.aload_n 0, 1) := by decide +kernel
theorem dX1_plan_47 : decode cX1_plan 47 = .ok (.aload_n 1, 1) := by decide +kernel
theorem dX1_plan_48 : decode cX1_plan 48 = .ok (.iload_n 2, 1) := by decide +kernel
theorem dX1_plan_49 : decode cX1_plan 49 = .ok (.iload_n 3, 1) := by decide +kernel
theorem dX1_plan_50 : decode cX1_plan 50 = .ok (.invokevirtual 42, 3) := by decide +kernel
theorem dX1_plan_53 : decode cX1_plan 53 = .ok (.iinc 3 1, 3) := by decide +kernel
theorem dX1_plan_56 : decode cX1_plan 56 = .ok (.goto (-26), 3) := by decide +kernel
theorem dX1_plan_59 : decode cX1_plan 59 = .ok (.iinc 2 (-1), 3) := by decide +kernel
theorem dX1_plan_62 : decode cX1_plan 62 = .ok (.goto (-43), 3) := by decide +kernel
theorem dX1_plan_65 : decode cX1_plan 65 = .ok (.return_, 1) := by decide +kernel
theorem dX1_layRow_0 : decode cX1_layRow 0 = .ok (.iconst 0, 1) := by decide +kernel
theorem dX1_layRow_1 : decode cX1_layRow 1 = .ok (.istore_n 1, 1) := by decide +kernel
theorem dX1_layRow_2 : decode cX1_layRow 2 = .ok (.iconst 4, 1) := by decide +kernel
theorem dX1_layRow_3 : decode cX1_layRow 3 = .ok (.istore_n 2, 1) := by decide +kernel
theorem dX1_layRow_4 : decode cX1_layRow 4 = .ok (.iload_n 2, 1) := by decide +kernel
theorem dX1_layRow_5 : decode cX1_layRow 5 = .ok (.ifCond .lt 43, 3) := by decide +kernel
theorem dX1_layRow_8 : decode cX1_layRow 8 = .ok (.iconst 0, 1) := by decide +kernel
theorem dX1_layRow_9 : decode cX1_layRow 9 = .ok (.istore_n 3, 1) := by decide +kernel
theorem dX1_layRow_10 : decode cX1_layRow 10 = .ok (.iload_n 3, 1) := by decide +kernel
theorem dX1_layRow_11 : decode cX1_layRow 11 = .ok (.aload_n 0, 1) := by decide +kernel
theorem dX1_layRow_12 : decode cX1_layRow 12 = .ok (.getfield 9, 3) := by decide +kernel
theorem dX1_layRow_15 : decode cX1_layRow 15 = .ok (.iload_n 2, 1) := by decide +kernel
theorem dX1_layRow_16 : decode cX1_layRow 16 = .ok (.iaload, 1) := by decide +kernel
theorem dX1_layRow_17 : decode cX1_layRow 17 = .ok (.if_icmp .ge 25, 3) := by decide +kernel
theorem dX1_layRow_20 : decode cX1_layRow 20 = .ok (.iload_n 1, 1) := by decide +kernel
theorem dX1_layRow_21 : decode cX1_layRow 21 = .ok (.bipush 60, 2) := by decide +kernel
theorem dX1_layRow_23 : decode cX1_layRow 23 = .ok (.if_icmp .ge 19, 3) := by decide +kernel
theorem dX1_layRow_26 : decode cX1_layRow 26 = .ok (.aload_n 0, 1) := by decide +kernel
theorem dX1_layRow_27 : decode cX1_layRow 27 = .ok (.getfield 19, 3) := by decide +kernel
theorem dX1_layRow_30 : decode cX1_layRow 30 = .ok (.iload_n 1, 1) := by decide +kernel
theorem dX1_layRow_31 : decode cX1_layRow 31 = .ok (.iload_n 2, 1) := by decide +kernel
theorem dX1_layRow_32 : decode cX1_layRow 32 = .ok (.iastore, 1) := by decide +kernel
theorem dX1_layRow_33 : decode cX1_layRow 33 = .ok (.iinc 1 1, 3) := by decide +kernel
theorem dX1_layRow_36 : decode cX1_layRow 36 = .ok (.iinc 3 1, 3) := by decide +kernel
theorem dX1_layRow_39 : decode cX1_layRow 39 = .ok (.goto (-29), 3) := by decide +kernel
theorem dX1_layRow_42 : decode cX1_layRow 42 = .ok (.iinc 2 (-1), 3) := by decide +kernel
theorem dX1_layRow_45 : decode cX1_layRow 45 = .ok (.goto (-41), 3) := by decide +kernel
theorem dX1_layRow_48 : decode cX1_layRow 48 = .ok (.return_, 1) := by decide +kernel
theorem dX1_clearFrom_0 : decode cX1_clearFrom 0 = .ok (.iload_n 1, 1) := by decide +kernel
theorem dX1_clearFrom_1 : decode cX1_clearFrom 1 = .ok (.ifCond .lt 30, 3) := by decide +kernel
theorem dX1_clearFrom_4 : decode cX1_clearFrom 4 = .ok (.iload_n 1, 1) := by decide +kernel
theorem dX1_clearFrom_5 : decode cX1_clearFrom 5 = .ok (.bipush 60, 2) := by decide +kernel
theorem dX1_clearFrom_7 : decode cX1_clearFrom 7 = .ok (.if_icmp .gt 24, 3) := by decide +kernel
theorem dX1_clearFrom_10 : decode cX1_clearFrom 10 = .ok (.aload_n 0, 1) := by decide +kernel
theorem dX1_clearFrom_11 : decode cX1_clearFrom 11 = .ok (.getfield 22, 3) := by decide +kernel
theorem dX1_clearFrom_14 : decode cX1_clearFrom 14 = .ok (.iload_n 1, 1) := by decide +kernel
theorem dX1_clearFrom_15 : decode cX1_clearFrom 15 = .ok (.iconst 0, 1) := by decide +kernel
theorem dX1_clearFrom_16 : decode cX1_clearFrom 16 = .ok (.iastore, 1) := by decide +kernel
theorem dX1_clearFrom_17 : decode cX1_clearFrom 17 = .ok (.aload_n 0, 1) := by decide +kernel
theorem dX1_clearFrom_18 : decode cX1_clearFrom 18 = .ok (.getfield 25, 3) := by decide +kernel
theorem dX1_clearFrom_21 : decode cX1_clearFrom 21 = .ok (.iload_n 1, 1) := by decide +kernel
theorem dX1_clearFrom_22 : decode cX1_clearFrom 22 = .ok (.iconst 0, 1) := by decide +kernel
theorem dX1_clearFrom_23 : decode cX1_clearFrom 23 = .ok (.iastore, 1) := by decide +kernel
theorem dX1_clearFrom_24 : decode cX1_clearFrom 24 = .ok (.aload_n 0, 1) := by decide +kernel
theorem dX1_clearFrom_25 : decode cX1_clearFrom 25 = .ok (.getfield 28, 3) := by decide +kernel
theorem dX1_clearFrom_28 : decode cX1_clearFrom 28 = .ok (.iload_n 1, 1) := by decide +kernel
theorem dX1_clearFrom_29 : decode cX1_clearFrom 29 = .ok (.iconst 0, 1) := by decide +kernel
theorem dX1_clearFrom_30 : decode cX1_clearFrom 30 = .ok (.iastore, 1) := by decide +kernel
theorem dX1_clearFrom_31 : decode cX1_clearFrom 31 = .ok (.return_, 1) := by decide +kernel
theorem dX1_tryFirst_0 : decode cX1_tryFirst 0 = .ok (.iload_n 2, 1) := by decide +kernel
theorem dX1_tryFirst_1 : decode cX1_tryFirst 1 = .ok (.iload_n 3, 1) := by decide +kernel
theorem dX1_tryFirst_2 : decode cX1_tryFirst 2 = .ok (.iadd, 1) := by decide +kernel
theorem dX1_tryFirst_3 : decode cX1_tryFirst 3 = .ok (.istore 4, 2) := by decide +kernel
theorem dX1_tryFirst_5 : decode cX1_tryFirst 5 = .ok (.iload_n 2, 1) := by decide +kernel
theorem dX1_tryFirst_6 : decode cX1_tryFirst 6 = .ok (.ifCond .lt 24, 3) := by decide +kernel
theorem dX1_tryFirst_9 : decode cX1_tryFirst 9 = .ok (.iload_n 3, 1) := by decide +kernel
theorem dX1_tryFirst_10 : decode cX1_tryFirst 10 = .ok (.iconst 1, 1) := by decide +kernel
theorem dX1_tryFirst_11 : decode cX1_tryFirst 11 = .ok (.if_icmp .lt 19, 3) := by decide +kernel
theorem dX1_tryFirst_14 : decode cX1_tryFirst 14 = .ok (.iload 4, 2) := by decide +kernel
theorem dX1_tryFirst_16 : decode cX1_tryFirst 16 = .ok (.aload_n 0, 1) := by decide +kernel
theorem dX1_tryFirst_17 : decode cX1_tryFirst 17 = .ok (.getfield 15, 3) := by decide +kernel
theorem dX1_tryFirst_20 : decode cX1_tryFirst 20 = .ok (.if_icmp .gt 10, 3) := by decide +kernel
theorem dX1_tryFirst_23 : decode cX1_tryFirst 23 = .ok (.iload 4, 2) := by decide +kernel
theorem dX1_tryFirst_25 : decode cX1_tryFirst 25 = .ok (.bipush 60, 2) := by decide +kernel
theorem dX1_tryFirst_27 : decode cX1_tryFirst 27 = .ok (.if_icmp .le 4, 3) := by decide +kernel
theorem dX1_tryFirst_30 : decode cX1_tryFirst 30 = .ok (.return_, 1) := by decide +kernel
theorem dX1_tryFirst_31 : decode cX1_tryFirst 31 = .ok (.aload_n 1, 1) := by decide +kernel
theorem dX1_tryFirst_32 : decode cX1_tryFirst 32 = .ok (.aload_n 0, 1) := by decide +kernel
theorem dX1_tryFirst_33 : decode cX1_tryFirst 33 = .ok (.getfield 19, 3) := by decide +kernel
theorem dX1_tryFirst_36 : decode cX1_tryFirst 36 = .ok (.iload 4, 2) := by decide +kernel
theorem dX1_tryFirst_38 : decode cX1_tryFirst 38 = .ok (.iconst 1, 1) := by decide +kernel
theorem dX1_tryFirst_39 : decode cX1_tryFirst 39 = .ok (.isub, 1) := by decide +kernel
theorem dX1_tryFirst_40 : decode cX1_tryFirst 40 = .ok (.iaload, 1) := by decide +kernel
theorem dX1_tryFirst_41 : decode cX1_tryFirst 41 = .ok (.iload_n 3, 1) := by decide +kernel
theorem dX1_tryFirst_42 : decode cX1_tryFirst 42 = .ok (.invokevirtual 46, 3) := by decide +kernel
theorem dX1_tryFirst_45 : decode cX1_tryFirst 45 = .ok (.aload_n 0, 1) := by decide +kernel
theorem dX1_tryFirst_46 : decode cX1_tryFirst 46 = .ok (.getfield 22, 3) := by decide +kernel
theorem dX1_tryFirst_49 : decode cX1_tryFirst 49 = .ok (.iload 4, 2) := by decide +kernel
theorem dX1_tryFirst_51 : decode cX1_tryFirst 51 = .ok (.iaload, 1) := by decide +kernel
theorem dX1_tryFirst_52 : decode cX1_tryFirst 52 = .ok (.iadd, 1) := by decide +kernel
theorem dX1_tryFirst_53 : decode cX1_tryFirst 53 = .ok (.istore 5, 2) := by decide +kernel
theorem dX1_tryFirst_55 : decode cX1_tryFirst 55 = .ok (.iconst 1, 1) := by decide +kernel
theorem dX1_tryFirst_56 : decode cX1_tryFirst 56 = .ok (.aload_n 0, 1) := by decide +kernel
theorem dX1_tryFirst_57 : decode cX1_tryFirst 57 = .ok (.getfield 25, 3) := by decide +kernel
theorem dX1_tryFirst_60 : decode cX1_tryFirst 60 = .ok (.iload 4, 2) := by decide +kernel
theorem dX1_tryFirst_62 : decode cX1_tryFirst 62 = .ok (.iaload, 1) := by decide +kernel
theorem dX1_tryFirst_63 : decode cX1_tryFirst 63 = .ok (.iadd, 1) := by decide +kernel
theorem dX1_tryFirst_64 : decode cX1_tryFirst 64 = .ok (.istore 6, 2) := by decide +kernel
theorem dX1_tryFirst_66 : decode cX1_tryFirst 66 = .ok (.iload 5, 2) := by decide +kernel
theorem dX1_tryFirst_68 : decode cX1_tryFirst 68 = .ok (.aload_n 0, 1) := by decide +kernel
theorem dX1_tryFirst_69 : decode cX1_tryFirst 69 = .ok (.getfield 22, 3) := by decide +kernel
theorem dX1_tryFirst_72 : decode cX1_tryFirst 72 = .ok (.iload_n 2, 1) := by decide +kernel
theorem dX1_tryFirst_73 : decode cX1_tryFirst 73 = .ok (.iaload, 1) := by decide +kernel
theorem dX1_tryFirst_74 : decode cX1_tryFirst 74 = .ok (.if_icmp .gt 25, 3) := by decide +kernel
theorem dX1_tryFirst_77 : decode cX1_tryFirst 77 = .ok (.iload 5, 2) := by decide +kernel
theorem dX1_tryFirst_79 : decode cX1_tryFirst 79 = .ok (.aload_n 0, 1) := by decide +kernel
theorem dX1_tryFirst_80 : decode cX1_tryFirst 80 = .ok (.getfield 22, 3) := by decide +kernel
theorem dX1_tryFirst_83 : decode cX1_tryFirst 83 = .ok (.iload_n 2, 1) := by decide +kernel
theorem dX1_tryFirst_84 : decode cX1_tryFirst 84 = .ok (.iaload, 1) := by decide +kernel
theorem dX1_tryFirst_85 : decode cX1_tryFirst 85 = .ok (.if_icmp .ne 18, 3) := by decide +kernel
theorem dX1_tryFirst_88 : decode cX1_tryFirst 88 = .ok (.iload 6, 2) := by decide +kernel
theorem dX1_tryFirst_90 : decode cX1_tryFirst 90 = .ok (.aload_n 0, 1) := by decide +kernel
theorem dX1_tryFirst_91 : decode cX1_tryFirst 91 = .ok (.getfield 25, 3) := by decide +kernel
theorem dX1_tryFirst_94 : decode cX1_tryFirst 94 = .ok (.iload_n 2, 1) := by decide +kernel
theorem dX1_tryFirst_95 : decode cX1_tryFirst 95 = .ok (.iaload, 1) := by decide +kernel
theorem dX1_tryFirst_96 : decode cX1_tryFirst 96 = .ok (.if_icmp .gt 7, 3) := by decide +kernel
theorem dX1_tryFirst_99 : decode cX1_tryFirst 99 = .ok (.iconst 1, 1) := by decide +kernel
theorem dX1_tryFirst_100 : decode cX1_tryFirst 100 = .ok (.goto 4, 3) := by decide +kernel
theorem dX1_tryFirst_103 : decode cX1_tryFirst 103 = .ok (.iconst 0, 1) := by decide +kernel
theorem dX1_tryFirst_104 : decode cX1_tryFirst 104 = .ok (.istore 7, 2) := by decide +kernel
theorem dX1_tryFirst_106 : decode cX1_tryFirst 106 = .ok (.iload 7, 2) := by decide +kernel
theorem dX1_tryFirst_108 : decode cX1_tryFirst 108 = .ok (.ifCond .eq 26, 3) := by decide +kernel
theorem dX1_tryFirst_111 : decode cX1_tryFirst 111 = .ok (.aload_n 0, 1) := by decide +kernel
theorem dX1_tryFirst_112 : decode cX1_tryFirst 112 = .ok (.getfield 22, 3) := by decide +kernel
theorem dX1_tryFirst_115 : decode cX1_tryFirst 115 = .ok (.iload_n 2, 1) := by decide +kernel
theorem dX1_tryFirst_116 : decode cX1_tryFirst 116 = .ok (.iload 5, 2) := by decide +kernel
theorem dX1_tryFirst_118 : decode cX1_tryFirst 118 = .ok (.iastore, 1) := by decide +kernel
theorem dX1_tryFirst_119 : decode cX1_tryFirst 119 = .ok (.aload_n 0, 1) := by decide +kernel
theorem dX1_tryFirst_120 : decode cX1_tryFirst 120 = .ok (.getfield 25, 3) := by decide +kernel
theorem dX1_tryFirst_123 : decode cX1_tryFirst 123 = .ok (.iload_n 2, 1) := by decide +kernel
theorem dX1_tryFirst_124 : decode cX1_tryFirst 124 = .ok (.iload 6, 2) := by decide +kernel
theorem dX1_tryFirst_126 : decode cX1_tryFirst 126 = .ok (.iastore, 1) := by decide +kernel
theorem dX1_tryFirst_127 : decode cX1_tryFirst 127 = .ok (.aload_n 0, 1) := by decide +kernel
theorem dX1_tryFirst_128 : decode cX1_tryFirst 128 = .ok (.getfield 28, 3) := by decide +kernel
theorem dX1_tryFirst_131 : decode cX1_tryFirst 131 = .ok (.iload_n 2, 1) := by decide +kernel
theorem dX1_tryFirst_132 : decode cX1_tryFirst 132 = .ok (.iload_n 3, 1) := by decide +kernel
theorem dX1_tryFirst_133 : decode cX1_tryFirst 133 = .ok (.iastore, 1) := by decide +kernel
theorem dX1_tryFirst_134 : decode cX1_tryFirst 134 = .ok (.return_, 1) := by decide +kernel
theorem dX1_lengthOfPart_0 : decode cX1_lengthOfPart 0 = .ok (.iconst 0, 1) := by decide +kernel
theorem dX1_lengthOfPart_1 : decode cX1_lengthOfPart 1 = .ok (.istore_n 2, 1) := by decide +kernel
theorem dX1_lengthOfPart_2 : decode cX1_lengthOfPart 2 = .ok (.iconst 0, 1) := by decide +kernel
theorem dX1_lengthOfPart_3 : decode cX1_lengthOfPart 3 = .ok (.istore_n 3, 1) := by decide +kernel
theorem dX1_lengthOfPart_4 : decode cX1_lengthOfPart 4 = .ok (.iload_n 3, 1) := by decide +kernel
theorem dX1_lengthOfPart_5 : decode cX1_lengthOfPart 5 = .ok (.iload_n 1, 1) := by decide +kernel
theorem dX1_lengthOfPart_6 : decode cX1_lengthOfPart 6 = .ok (.if_icmp .ge 32, 3) := by decide +kernel
theorem dX1_lengthOfPart_9 : decode cX1_lengthOfPart 9 = .ok (.iload_n 3, 1) := by decide +kernel
theorem dX1_lengthOfPart_10 : decode cX1_lengthOfPart 10 = .ok (.bipush 60, 2) := by decide +kernel
theorem dX1_lengthOfPart_12 : decode cX1_lengthOfPart 12 = .ok (.if_icmp .ge 26, 3) := by decide +kernel
theorem dX1_lengthOfPart_15 : decode cX1_lengthOfPart 15 = .ok (.iload_n 2, 1) := by decide +kernel
theorem dX1_lengthOfPart_16 : decode cX1_lengthOfPart 16 = .ok (.aload_n 0, 1) := by decide +kernel
theorem dX1_lengthOfPart_17 : decode cX1_lengthOfPart 17 = .ok (.getfield 15, 3) := by decide +kernel
theorem dX1_lengthOfPart_20 : decode cX1_lengthOfPart 20 = .ok (.if_icmp .ge 18, 3) := by decide +kernel
theorem dX1_lengthOfPart_23 : decode cX1_lengthOfPart 23 = .ok (.iload_n 2, 1) := by decide +kernel
theorem dX1_lengthOfPart_24 : decode cX1_lengthOfPart 24 = .ok (.aload_n 0, 1) := by decide +kernel
theorem dX1_lengthOfPart_25 : decode cX1_lengthOfPart 25 = .ok (.getfield 28, 3) := by decide +kernel
theorem dX1_lengthOfPart_28 : decode cX1_lengthOfPart 28 = .ok (.iload_n 2, 1) := by decide +kernel
theorem dX1_lengthOfPart_29 : decode cX1_lengthOfPart 29 = .ok (.iaload, 1) := by decide +kernel
theorem dX1_lengthOfPart_30 : decode cX1_lengthOfPart 30 = .ok (.iadd, 1) := by decide +kernel
theorem dX1_lengthOfPart_31 : decode cX1_lengthOfPart 31 = .ok (.istore_n 2, 1) := by decide +kernel
theorem dX1_lengthOfPart_32 : decode cX1_lengthOfPart 32 = .ok (.iinc 3 1, 3) := by decide +kernel
theorem dX1_lengthOfPart_35 : decode cX1_lengthOfPart 35 = .ok (.goto (-31), 3) := by decide +kernel
theorem dX1_lengthOfPart_38 : decode cX1_lengthOfPart 38 = .ok (.iload_n 1, 1) := by decide +kernel
theorem dX1_lengthOfPart_39 : decode cX1_lengthOfPart 39 = .ok (.ifCond .lt 28, 3) := by decide +kernel
theorem dX1_lengthOfPart_42 : decode cX1_lengthOfPart 42 = .ok (.iload_n 1, 1) := by decide +kernel
theorem dX1_lengthOfPart_43 : decode cX1_lengthOfPart 43 = .ok (.aload_n 0, 1) := by decide +kernel
theorem dX1_lengthOfPart_44 : decode cX1_lengthOfPart 44 = .ok (.invokevirtual 52, 3) := by decide +kernel
theorem dX1_lengthOfPart_47 : decode cX1_lengthOfPart 47 = .ok (.if_icmp .ge 20, 3) := by decide +kernel
theorem dX1_lengthOfPart_50 : decode cX1_lengthOfPart 50 = .ok (.iload_n 2, 1) := by decide +kernel
theorem dX1_lengthOfPart_51 : decode cX1_lengthOfPart 51 = .ok (.aload_n 0, 1) := by decide +kernel
theorem dX1_lengthOfPart_52 : decode cX1_lengthOfPart 52 = .ok (.getfield 15, 3) := by decide +kernel
theorem dX1_lengthOfPart_55 : decode cX1_lengthOfPart 55 = .ok (.if_icmp .ge 12, 3) := by decide +kernel
theorem dX1_lengthOfPart_58 : decode cX1_lengthOfPart 58 = .ok (.aload_n 0, 1) := by decide +kernel
theorem dX1_lengthOfPart_59 : decode cX1_lengthOfPart 59 = .ok (.getfield 28, 3) := by decide +kernel
theorem dX1_lengthOfPart_62 : decode cX1_lengthOfPart 62 = .ok (.iload_n 2, 1) := by decide +kernel
theorem dX1_lengthOfPart_63 : decode cX1_lengthOfPart 63 = .ok (.iaload, 1) := by decide +kernel
theorem dX1_lengthOfPart_64 : decode cX1_lengthOfPart 64 = .ok (.goto 4, 3) := by decide +kernel
theorem dX1_lengthOfPart_67 : decode cX1_lengthOfPart 67 = .ok (.iconst (-1), 1) := by decide +kernel
theorem dX1_lengthOfPart_68 : decode cX1_lengthOfPart 68 = .ok (.ireturn, 1) := by decide +kernel
theorem dX2_init_0 : decode cX2_init 0 = .ok (.aload_n 0, 1) := by decide +kernel
theorem dX2_init_1 : decode cX2_init 1 = .ok (.invokespecial 3, 3) := by decide +kernel
theorem dX2_init_4 : decode cX2_init 4 = .ok (.aload_n 0, 1) := by decide +kernel
theorem dX2_init_5 : decode cX2_init 5 = .ok (.bipush 12, 2) := by decide +kernel
theorem dX2_init_7 : decode cX2_init 7 = .ok (.newarray .int, 2) := by decide +kernel
theorem dX2_init_9 : decode cX2_init 9 = .ok (.putfield 9, 3) := by decide +kernel
theorem dX2_init_12 : decode cX2_init 12 = .ok (.aload_n 0, 1) := by decide +kernel
theorem dX2_init_13 : decode cX2_init 13 = .ok (.bipush 12, 2) := by decide +kernel
theorem dX2_init_15 : decode cX2_init 15 = .ok (.newarray .int, 2) := by decide +kernel
theorem dX2_init_17 : decode cX2_init 17 = .ok (.putfield 15, 3) := by decide +kernel
theorem dX2_init_20 : decode cX2_init 20 = .ok (.aload_n 0, 1) := by decide +kernel
theorem dX2_init_21 : decode cX2_init 21 = .ok (.iconst 0, 1) := by decide +kernel
theorem dX2_init_22 : decode cX2_init 22 = .ok (.putfield 18, 3) := by decide +kernel
theorem dX2_init_25 : decode cX2_init 25 = .ok (.aload_n 0, 1) := by decide +kernel
theorem dX2_init_26 : decode cX2_init 26 = .ok (.iconst 0, 1) := by decide +kernel
theorem dX2_init_27 : decode cX2_init 27 = .ok (.putfield 22, 3) := by decide +kernel
theorem dX2_init_30 : decode cX2_init 30 = .ok (.aload_n 0, 1) := by decide +kernel
theorem dX2_init_31 : decode cX2_init 31 = .ok (.iconst 0, 1) := by decide +kernel
theorem dX2_init_32 : decode cX2_init 32 = .ok (.putfield 25, 3) := by decide +kernel
theorem dX2_init_35 : decode cX2_init 35 = .ok (.aload_n 0, 1) := by decide +kernel
theorem dX2_init_36 : decode cX2_init 36 = .ok (.iconst 0, 1) := by decide +kernel
theorem dX2_init_37 : decode cX2_init 37 = .ok (.putfield 28, 3) := by decide +kernel
theorem dX2_init_40 : decode cX2_init 40 = .ok (.aload_n 0, 1) := by decide +kernel
theorem dX2_init_41 : decode cX2_init 41 = .ok (.iconst 0, 1) := by decide +kernel
theorem dX2_init_42 : decode cX2_init 42 = .ok (.putfield 31, 3) := by decide +kernel
theorem dX2_init_45 : decode cX2_init 45 = .ok (.return_, 1) := by decide +kernel
theorem dX2_clear_0 : decode cX2_clear 0 = .ok (.aload_n 0, 1) := by decide +kernel
theorem dX2_clear_1 : decode cX2_clear 1 = .ok (.iconst 0, 1) := by decide +kernel
theorem dX2_clear_2 : decode cX2_clear 2 = .ok (.putfield 18, 3) := by decide +kernel
theorem dX2_clear_5 : decode cX2_clear 5 = .ok (.aload_n 0, 1) := by decide +kernel
theorem dX2_clear_6 : decode cX2_clear 6 = .ok (.iconst 0, 1) := by decide +kernel
theorem dX2_clear_7 : decode cX2_clear 7 = .ok (.putfield 22, 3) := by decide +kernel
theorem dX2_clear_10 : decode cX2_clear 10 = .ok (.aload_n 0, 1) := by decide +kernel
theorem dX2_clear_11 : decode cX2_clear 11 = .ok (.iconst 0, 1) := by decide +kernel
theorem dX2_clear_12 : decode cX2_clear 12 = .ok (.putfield 25, 3) := by decide +kernel
theorem dX2_clear_15 : decode cX2_clear 15 = .ok (.aload_n 0, 1) := by decide +kernel
theorem dX2_clear_16 : decode cX2_clear 16 = .ok (.iconst 0, 1) := by decide +kernel
theorem dX2_clear_17 : decode cX2_clear 17 = .ok (.putfield 28, 3) := by decide +kernel
theorem dX2_clear_20 : decode cX2_clear 20 = .ok (.aload_n 0, 1) := by decide +kernel
theorem dX2_clear_21 : decode cX2_clear 21 = .ok (.iconst (-1), 1) := by decide +kernel
theorem dX2_clear_22 : decode cX2_clear 22 = .ok (.putfield 31, 3) := by decide +kernel
theorem dX2_clear_25 : decode cX2_clear 25 = .ok (.return_, 1) := by decide +kernel
theorem dX2_put_0 : decode cX2_put 0 = .ok (.aload_n 0, 1) := by decide +kernel
theorem dX2_put_1 : decode cX2_put 1 = .ok (.getfield 18, 3) := by decide +kernel
theorem dX2_put_4 : decode cX2_put 4 = .ok (.bipush 12, 2) := by decide +kernel
theorem dX2_put_6 : decode cX2_put 6 = .ok (.if_icmp .lt 5, 3) := by decide +kernel
theorem dX2_put_9 : decode cX2_put 9 = .ok (.iconst 0, 1) := by decide +kernel
theorem dX2_put_10 : decode cX2_put 10 = .ok (.ireturn, 1) := by decide +kernel
theorem dX2_put_11 : decode cX2_put 11 = .ok (.aload_n 0, 1) := by decide +kernel
theorem dX2_put_12 : decode cX2_put 12 = .ok (.getfield 9, 3) := by decide +kernel
theorem dX2_put_15 : decode cX2_put 15 = .ok (.aload_n 0, 1) := by decide +kernel
theorem dX2_put_16 : decode cX2_put 16 = .ok (.getfield 18, 3) := by decide +kernel
theorem dX2_put_19 : decode cX2_put 19 = .ok (.iload_n 1, 1) := by decide +kernel
theorem dX2_put_20 : decode cX2_put 20 = .ok (.iastore, 1) := by decide +kernel
theorem dX2_put_21 : decode cX2_put 21 = .ok (.aload_n 0, 1) := by decide +kernel
theorem dX2_put_22 : decode cX2_put 22 = .ok (.getfield 15, 3) := by decide +kernel
theorem dX2_put_25 : decode cX2_put 25 = .ok (.aload_n 0, 1) := by decide +kernel
theorem dX2_put_26 : decode cX2_put 26 = .ok (.getfield 18, 3) := by decide +kernel
theorem dX2_put_29 : decode cX2_put 29 = .ok (.iload_n 2, 1) := by decide +kernel
theorem dX2_put_30 : decode cX2_put 30 = .ok (.iastore, 1) := by decide +kernel
theorem dX2_put_31 : decode cX2_put 31 = .ok (.aload_n 0, 1) := by decide +kernel
theorem dX2_put_32 : decode cX2_put 32 = .ok (.dup, 1) := by decide +kernel
theorem dX2_put_33 : decode cX2_put 33 = .ok (.getfield 18, 3) := by decide +kernel
theorem dX2_put_36 : decode cX2_put 36 = .ok (.iconst 1, 1) := by decide +kernel
theorem dX2_put_37 : decode cX2_put 37 = .ok (.iadd, 1) := by decide +kernel
theorem dX2_put_38 : decode cX2_put 38 = .ok (.putfield 18, 3) := by decide +kernel
theorem dX2_put_41 : decode cX2_put 41 = .ok (.aload_n 0, 1) := by decide +kernel
theorem dX2_put_42 : decode cX2_put 42 = .ok (.dup, 1) := by decide +kernel
theorem dX2_put_43 : decode cX2_put 43 = .ok (.getfield 22, 3) := by decide +kernel
theorem dX2_put_46 : decode cX2_put 46 = .ok (.iload_n 2, 1) := by decide +kernel
theorem dX2_put_47 : decode cX2_put 47 = .ok (.iadd, 1) := by decide +kernel
theorem dX2_put_48 : decode cX2_put 48 = .ok (.putfield 22, 3) := by decide +kernel
theorem dX2_put_51 : decode cX2_put 51 = .ok (.iconst 1, 1) := by decide +kernel
theorem dX2_put_52 : decode cX2_put 52 = .ok (.ireturn, 1) := by decide +kernel
theorem dX2_choose_0 : decode cX2_choose 0 = .ok (.iconst 0, 1) := by decide +kernel
theorem dX2_choose_1 : decode cX2_choose 1 = .ok (.istore_n 2, 1) := by decide +kernel
theorem dX2_choose_2 : decode cX2_choose 2 = .ok (.iconst 0, 1) := by decide +kernel
theorem dX2_choose_3 : decode cX2_choose 3 = .ok (.istore_n 3, 1) := by decide +kernel
theorem dX2_choose_4 : decode cX2_choose 4 = .ok (.iconst 1, 1) := by decide +kernel
theorem dX2_choose_5 : decode cX2_choose 5 = .ok (.istore 4, 2) := by decide +kernel
theorem dX2_choose_7 : decode cX2_choose 7 = .ok (.iload 4, 2) := by decide +kernel
theorem dX2_choose_9 : decode cX2_choose 9 = .ok (.iconst 1, 1) := by decide +kernel
theorem dX2_choose_10 : decode cX2_choose 10 = .ok (.aload_n 0, 1) := by decide +kernel
theorem dX2_choose_11 : decode cX2_choose 11 = .ok (.getfield 18, 3) := by decide +kernel
theorem dX2_choose_14 : decode cX2_choose 14 = .ok (.ishl, 1) := by decide +kernel
theorem dX2_choose_15 : decode cX2_choose 15 = .ok (.if_icmp .ge 93, 3) := by decide +kernel
theorem dX2_choose_18 : decode cX2_choose 18 = .ok (.iconst 0, 1) := by decide +kernel
theorem dX2_choose_19 : decode cX2_choose 19 = .ok (.istore 5, 2) := by decide +kernel
theorem dX2_choose_21 : decode cX2_choose 21 = .ok (.iload 5, 2) := by decide +kernel
theorem dX2_choose_23 : decode cX2_choose 23 = .ok (.aload_n 0, 1) := by decide +kernel
theorem dX2_choose_24 : decode cX2_choose 24 = .ok (.getfield 18, 3) := by decide +kernel
theorem dX2_choose_27 : decode cX2_choose 27 = .ok (.iconst 1, 1) := by decide +kernel
theorem dX2_choose_28 : decode cX2_choose 28 = .ok (.isub, 1) := by decide +kernel
theorem dX2_choose_29 : decode cX2_choose 29 = .ok (.if_icmp .ge 31, 3) := by decide +kernel
theorem dX2_choose_32 : decode cX2_choose 32 = .ok (.iload 4, 2) := by decide +kernel
theorem dX2_choose_34 : decode cX2_choose 34 = .ok (.iload 5, 2) := by decide +kernel
theorem dX2_choose_36 : decode cX2_choose 36 = .ok (.ishr, 1) := by decide +kernel
theorem dX2_choose_37 : decode cX2_choose 37 = .ok (.iconst 1, 1) := by decide +kernel
theorem dX2_choose_38 : decode cX2_choose 38 = .ok (.iand, 1) := by decide +kernel
theorem dX2_choose_39 : decode cX2_choose 39 = .ok (.ifCond .ne 21, 3) := by decide +kernel
theorem dX2_choose_42 : decode cX2_choose 42 = .ok (.iload_n 2, 1) := by decide +kernel
theorem dX2_choose_43 : decode cX2_choose 43 = .ok (.aload_n 0, 1) := by decide +kernel
theorem dX2_choose_44 : decode cX2_choose 44 = .ok (.iload 5, 2) := by decide +kernel
theorem dX2_choose_46 : decode cX2_choose 46 = .ok (.invokevirtual 34, 3) := by decide +kernel
theorem dX2_choose_49 : decode cX2_choose 49 = .ok (.isub, 1) := by decide +kernel
theorem dX2_choose_50 : decode cX2_choose 50 = .ok (.istore_n 2, 1) := by decide +kernel
theorem dX2_choose_51 : decode cX2_choose 51 = .ok (.iinc 3 (-1), 3) := by decide +kernel
theorem dX2_choose_54 : decode cX2_choose 54 = .ok (.iinc 5 1, 3) := by decide +kernel
theorem dX2_choose_57 : decode cX2_choose 57 = .ok (.goto (-36), 3) := by decide +kernel
theorem dX2_choose_60 : decode cX2_choose 60 = .ok (.iload_n 2, 1) := by decide +kernel
theorem dX2_choose_61 : decode cX2_choose 61 = .ok (.aload_n 0, 1) := by decide +kernel
theorem dX2_choose_62 : decode cX2_choose 62 = .ok (.iload 5, 2) := by decide +kernel
theorem dX2_choose_64 : decode cX2_choose 64 = .ok (.invokevirtual 34, 3) := by decide +kernel
theorem dX2_choose_67 : decode cX2_choose 67 = .ok (.iadd, 1) := by decide +kernel
theorem dX2_choose_68 : decode cX2_choose 68 = .ok (.istore_n 2, 1) := by decide +kernel
theorem dX2_choose_69 : decode cX2_choose 69 = .ok (.iinc 3 1, 3) := by decide +kernel
theorem dX2_choose_72 : decode cX2_choose 72 = .ok (.iload_n 2, 1) := by decide +kernel
theorem dX2_choose_73 : decode cX2_choose 73 = .ok (.iload_n 1, 1) := by decide +kernel
theorem dX2_choose_74 : decode cX2_choose 74 = .ok (.if_icmp .lt 28, 3) := by decide +kernel
theorem dX2_choose_77 : decode cX2_choose 77 = .ok (.aload_n 0, 1) := by decide +kernel
theorem dX2_choose_78 : decode cX2_choose 78 = .ok (.iload_n 2, 1) := by decide +kernel
theorem dX2_choose_79 : decode cX2_choose 79 = .ok (.iload_n 3, 1) := by decide +kernel
theorem dX2_choose_80 : decode cX2_choose 80 = .ok (.invokevirtual 38, 3) := by decide +kernel
theorem dX2_choose_83 : decode cX2_choose 83 = .ok (.ifCond .eq 19, 3) := by decide +kernel
theorem dX2_choose_86 : decode cX2_choose 86 = .ok (.aload_n 0, 1) := by decide +kernel
theorem dX2_choose_87 : decode cX2_choose 87 = .ok (.iload 4, 2) := by decide +kernel
theorem dX2_choose_89 : decode cX2_choose 89 = .ok (.putfield 25, 3) := by decide +kernel
theorem dX2_choose_92 : decode cX2_choose 92 = .ok (.aload_n 0, 1) := by decide +kernel
theorem dX2_choose_93 : decode cX2_choose 93 = .ok (.iload_n 3, 1) := by decide +kernel
theorem dX2_choose_94 : decode cX2_choose 94 = .ok (.putfield 28, 3) := by decide +kernel
theorem dX2_choose_97 : decode cX2_choose 97 = .ok (.aload_n 0, 1) := by decide +kernel
theorem dX2_choose_98 : decode cX2_choose 98 = .ok (.iload_n 2, 1) := by decide +kernel
theorem dX2_choose_99 : decode cX2_choose 99 = .ok (.putfield 31, 3) := by decide +kernel
theorem dX2_choose_102 : decode cX2_choose 102 = .ok (.iinc 4 1, 3) := by decide +kernel
theorem dX2_choose_105 : decode cX2_choose 105 = .ok (.goto (-98), 3) := by decide +kernel
theorem dX2_choose_108 : decode cX2_choose 108 = .ok (.return_, 1) := by decide +kernel
theorem dX2_isBetter_0 : decode cX2_isBetter 0 = .ok (.aload_n 0, 1) := by decide +kernel
theorem dX2_isBetter_1 : decode cX2_isBetter 1 = .ok (.getfield 31, 3) := by decide +kernel
theorem dX2_isBetter_4 : decode cX2_isBetter 4 = .ok (.iconst (-1), 1) := by decide +kernel
theorem dX2_isBetter_5 : decode cX2_isBetter 5 = .ok (.if_icmp .eq 11, 3) := by decide +kernel
theorem dX2_isBetter_8 : decode cX2_isBetter 8 = .ok (.iload_n 1, 1) := by decide +kernel
theorem dX2_isBetter_9 : decode cX2_isBetter 9 = .ok (.aload_n 0, 1) := by decide +kernel
theorem dX2_isBetter_10 : decode cX2_isBetter 10 = .ok (.getfield 31, 3) := by decide +kernel
theorem dX2_isBetter_13 : decode cX2_isBetter 13 = .ok (.if_icmp .ge 5, 3) := by decide +kernel
theorem dX2_isBetter_16 : decode cX2_isBetter 16 = .ok (.iconst 1, 1) := by decide +kernel
theorem dX2_isBetter_17 : decode cX2_isBetter 17 = .ok (.ireturn, 1) := by decide +kernel
theorem dX2_isBetter_18 : decode cX2_isBetter 18 = .ok (.iload_n 1, 1) := by decide +kernel
theorem dX2_isBetter_19 : decode cX2_isBetter 19 = .ok (.aload_n 0, 1) := by decide +kernel
theorem dX2_isBetter_20 : decode cX2_isBetter 20 = .ok (.getfield 31, 3) := by decide +kernel
theorem dX2_isBetter_23 : decode cX2_isBetter 23 = .ok (.if_icmp .ne 15, 3) := by decide +kernel
theorem dX2_isBetter_26 : decode cX2_isBetter 26 = .ok (.iload_n 2, 1) := by decide +kernel
theorem dX2_isBetter_27 : decode cX2_isBetter 27 = .ok (.aload_n 0, 1) := by decide +kernel
theorem dX2_isBetter_28 : decode cX2_isBetter 28 = .ok (.getfield 28, 3) := by decide +kernel
theorem dX2_isBetter_31 : decode cX2_isBetter 31 = .ok (.if_icmp .ge 7, 3) := by decide +kernel
theorem dX2_isBetter_34 : decode cX2_isBetter 34 = .ok (.iconst 1, 1) := by decide +kernel
theorem dX2_isBetter_35 : decode cX2_isBetter 35 = .ok (.goto 4, 3) := by decide +kernel
theorem dX2_isBetter_38 : decode cX2_isBetter 38 = .ok (.iconst 0, 1) := by decide +kernel
theorem dX2_isBetter_39 : decode cX2_isBetter 39 = .ok (.ireturn, 1) := by decide +kernel
theorem dX2_worthAt_0 : decode cX2_worthAt 0 = .ok (.iload_n 1, 1) := by decide +kernel
theorem dX2_worthAt_1 : decode cX2_worthAt 1 = .ok (.ifCond .lt 26, 3) := by decide +kernel
theorem dX2_worthAt_4 : decode cX2_worthAt 4 = .ok (.iload_n 1, 1) := by decide +kernel
theorem dX2_worthAt_5 : decode cX2_worthAt 5 = .ok (.aload_n 0, 1) := by decide +kernel
theorem dX2_worthAt_6 : decode cX2_worthAt 6 = .ok (.getfield 18, 3) := by decide +kernel
theorem dX2_worthAt_9 : decode cX2_worthAt 9 = .ok (.if_icmp .ge 18, 3) := by decide +kernel
theorem dX2_worthAt_12 : decode cX2_worthAt 12 = .ok (.iload_n 1, 1) := by decide +kernel
theorem dX2_worthAt_13 : decode cX2_worthAt 13 = .ok (.bipush 12, 2) := by decide +kernel
theorem dX2_worthAt_15 : decode cX2_worthAt 15 = .ok (.if_icmp .ge 12, 3) := by decide +kernel
theorem dX2_worthAt_18 : decode cX2_worthAt 18 = .ok (.aload_n 0, 1) := by decide +kernel
theorem dX2_worthAt_19 : decode cX2_worthAt 19 = .ok (.getfield 15, 3) := by decide +kernel
theorem dX2_worthAt_22 : decode cX2_worthAt 22 = .ok (.iload_n 1, 1) := by decide +kernel
theorem dX2_worthAt_23 : decode cX2_worthAt 23 = .ok (.iaload, 1) := by decide +kernel
theorem dX2_worthAt_24 : decode cX2_worthAt 24 = .ok (.goto 4, 3) := by decide +kernel
theorem dX2_worthAt_27 : decode cX2_worthAt 27 = .ok (.iconst 0, 1) := by decide +kernel
theorem dX2_worthAt_28 : decode cX2_worthAt 28 = .ok (.ireturn, 1) := by decide +kernel
theorem dX2_chosenAt_0 : decode cX2_chosenAt 0 = .ok (.iload_n 1, 1) := by decide +kernel
theorem dX2_chosenAt_1 : decode cX2_chosenAt 1 = .ok (.ifCond .lt 17, 3) := by decide +kernel
theorem dX2_chosenAt_4 : decode cX2_chosenAt 4 = .ok (.iload_n 1, 1) := by decide +kernel
theorem dX2_chosenAt_5 : decode cX2_chosenAt 5 = .ok (.aload_n 0, 1) := by decide +kernel
theorem dX2_chosenAt_6 : decode cX2_chosenAt 6 = .ok (.getfield 18, 3) := by decide +kernel
theorem dX2_chosenAt_9 : decode cX2_chosenAt 9 = .ok (.if_icmp .ge 9, 3) := by decide +kernel
theorem dX2_chosenAt_12 : decode cX2_chosenAt 12 = .ok (.iload_n 1, 1) := by decide +kernel
theorem dX2_chosenAt_13 : decode cX2_chosenAt 13 = .ok (.bipush 12, 2) := by decide +kernel
theorem dX2_chosenAt_15 : decode cX2_chosenAt 15 = .ok (.if_icmp .lt 5, 3) := by decide +kernel
theorem dX2_chosenAt_18 : decode cX2_chosenAt 18 = .ok (.iconst (-1), 1) := by decide +kernel
theorem dX2_chosenAt_19 : decode cX2_chosenAt 19 = .ok (.ireturn, 1) := by decide +kernel
theorem dX2_chosenAt_20 : decode cX2_chosenAt 20 = .ok (.aload_n 0, 1) := by decide +kernel
theorem dX2_chosenAt_21 : decode cX2_chosenAt 21 = .ok (.getfield 25, 3) := by decide +kernel
theorem dX2_chosenAt_24 : decode cX2_chosenAt 24 = .ok (.iload_n 1, 1) := by decide +kernel
theorem dX2_chosenAt_25 : decode cX2_chosenAt 25 = .ok (.ishr, 1) := by decide +kernel
theorem dX2_chosenAt_26 : decode cX2_chosenAt 26 = .ok (.iconst 1, 1) := by decide +kernel
theorem dX2_chosenAt_27 : decode cX2_chosenAt 27 = .ok (.iand, 1) := by decide +kernel
theorem dX2_chosenAt_28 : decode cX2_chosenAt 28 = .ok (.iconst 1, 1) := by decide +kernel
theorem dX2_chosenAt_29 : decode cX2_chosenAt 29 = .ok (.if_icmp .ne 12, 3) := by decide +kernel
theorem dX2_chosenAt_32 : decode cX2_chosenAt 32 = .ok (.aload_n 0, 1) := by decide +kernel
theorem dX2_chosenAt_33 : decode cX2_chosenAt 33 = .ok (.getfield 9, 3) := by decide +kernel
theorem dX2_chosenAt_36 : decode cX2_chosenAt 36 = .ok (.iload_n 1, 1) := by decide +kernel
theorem dX2_chosenAt_37 : decode cX2_chosenAt 37 = .ok (.iaload, 1) := by decide +kernel
theorem dX2_chosenAt_38 : decode cX2_chosenAt 38 = .ok (.goto 4, 3) := by decide +kernel
theorem dX2_chosenAt_41 : decode cX2_chosenAt 41 = .ok (.iconst (-1), 1) := by decide +kernel
theorem dX2_chosenAt_42 : decode cX2_chosenAt 42 = .ok (.ireturn, 1) := by decide +kernel
theorem dX3_init_0 : decode cX3_init 0 = .ok (.aload_n 0, 1) := by decide +kernel
theorem dX3_init_1 : decode cX3_init 1 = .ok (.invokespecial 3, 3) := by decide +kernel
theorem dX3_init_4 : decode cX3_init 4 = .ok (.aload_n 0, 1) := by decide +kernel
theorem dX3_init_5 : decode cX3_init 5 = .ok (.getstatic 9, 3) := by decide +kernel
theorem dX3_init_8 : decode cX3_init 8 = .ok (.invokevirtual 13, 3) := by decide +kernel
theorem dX3_init_11 : decode cX3_init 11 = .ok (.checkcast 14, 3) := by decide +kernel
theorem dX3_init_14 : decode cX3_init 14 = .ok (.putfield 18, 3) := by decide +kernel
theorem dX3_init_17 : decode cX3_init 17 = .ok (.aload_n 0, 1) := by decide +kernel
theorem dX3_init_18 : decode cX3_init 18 = .ok (.getstatic 23, 3) := by decide +kernel
theorem dX3_init_21 : decode cX3_init 21 = .ok (.invokevirtual 13, 3) := by decide +kernel
theorem dX3_init_24 : decode cX3_init 24 = .ok (.checkcast 14, 3) := by decide +kernel
theorem dX3_init_27 : decode cX3_init 27 = .ok (.putfield 26, 3) := by decide +kernel
theorem dX3_init_30 : decode cX3_init 30 = .ok (.aload_n 0, 1) := by decide +kernel
theorem dX3_init_31 : decode cX3_init 31 = .ok (.getstatic 29, 3) := by decide +kernel
theorem dX3_init_34 : decode cX3_init 34 = .ok (.invokevirtual 13, 3) := by decide +kernel
theorem dX3_init_37 : decode cX3_init 37 = .ok (.checkcast 14, 3) := by decide +kernel
theorem dX3_init_40 : decode cX3_init 40 = .ok (.putfield 32, 3) := by decide +kernel
theorem dX3_init_43 : decode cX3_init 43 = .ok (.aload_n 0, 1) := by decide +kernel
theorem dX3_init_44 : decode cX3_init 44 = .ok (.iconst 5, 1) := by decide +kernel
theorem dX3_init_45 : decode cX3_init 45 = .ok (.newarray .int, 2) := by decide +kernel
theorem dX3_init_47 : decode cX3_init 47 = .ok (.putfield 35, 3) := by decide +kernel
theorem dX3_init_50 : decode cX3_init 50 = .ok (.aload_n 0, 1) := by decide +kernel
theorem dX3_init_51 : decode cX3_init 51 = .ok (.bipush 25, 2) := by decide +kernel
theorem dX3_init_53 : decode cX3_init 53 = .ok (.putfield 38, 3) := by decide +kernel
theorem dX3_init_56 : decode cX3_init 56 = .ok (.return_, 1) := by decide +kernel
theorem dX3_flowIn_0 : decode cX3_flowIn 0 = .ok (.iload_n 1, 1) := by decide +kernel
theorem dX3_flowIn_1 : decode cX3_flowIn 1 = .ok (.invokestatic 42, 3) := by decide +kernel
theorem dX3_flowIn_4 : decode cX3_flowIn 4 = .ok (.ifCond .eq 13, 3) := by decide +kernel
theorem dX3_flowIn_7 : decode cX3_flowIn 7 = .ok (.aload_n 0, 1) := by decide +kernel
theorem dX3_flowIn_8 : decode cX3_flowIn 8 = .ok (.getfield 35, 3) := by decide +kernel
theorem dX3_flowIn_11 : decode cX3_flowIn 11 = .ok (.iload_n 1, 1) := by decide +kernel
theorem dX3_flowIn_12 : decode cX3_flowIn 12 = .ok (.dup2, 1) := by decide +kernel
theorem dX3_flowIn_13 : decode cX3_flowIn 13 = .ok (.iaload, 1) := by decide +kernel
theorem dX3_flowIn_14 : decode cX3_flowIn 14 = .ok (.iload_n 2, 1) := by decide +kernel
theorem dX3_flowIn_15 : decode cX3_flowIn 15 = .ok (.iadd, 1) := by decide +kernel
theorem dX3_flowIn_16 : decode cX3_flowIn 16 = .ok (.iastore, 1) := by decide +kernel
theorem dX3_flowIn_17 : decode cX3_flowIn 17 = .ok (.return_, 1) := by decide +kernel
theorem dX3_allBeads_0 : decode cX3_allBeads 0 = .ok (.iconst 0, 1) := by decide +kernel
theorem dX3_allBeads_1 : decode cX3_allBeads 1 = .ok (.istore_n 1, 1) := by decide +kernel
theorem dX3_allBeads_2 : decode cX3_allBeads 2 = .ok (.iconst 0, 1) := by decide +kernel
theorem dX3_allBeads_3 : decode cX3_allBeads 3 = .ok (.istore_n 2, 1) := by decide +kernel
theorem dX3_allBeads_4 : decode cX3_allBeads 4 = .ok (.iload_n 2, 1) := by decide +kernel
theorem dX3_allBeads_5 : decode cX3_allBeads 5 = .ok (.iconst 5, 1) := by decide +kernel
theorem dX3_allBeads_6 : decode cX3_allBeads 6 = .ok (.if_icmp .ge 18, 3) := by decide +kernel
theorem dX3_allBeads_9 : decode cX3_allBeads 9 = .ok (.iload_n 1, 1) := by decide +kernel
theorem dX3_allBeads_10 : decode cX3_allBeads 10 = .ok (.aload_n 0, 1) := by decide +kernel
theorem dX3_allBeads_11 : decode cX3_allBeads 11 = .ok (.getfield 35, 3) := by decide +kernel
theorem dX3_allBeads_14 : decode cX3_allBeads 14 = .ok (.iload_n 2, 1) := by decide +kernel
theorem dX3_allBeads_15 : decode cX3_allBeads 15 = .ok (.iaload, 1) := by decide +kernel
theorem dX3_allBeads_16 : decode cX3_allBeads 16 = .ok (.iadd, 1) := by decide +kernel
theorem dX3_allBeads_17 : decode cX3_allBeads 17 = .ok (.istore_n 1, 1) := by decide +kernel
theorem dX3_allBeads_18 : decode cX3_allBeads 18 = .ok (.iinc 2 1, 3) := by decide +kernel
theorem dX3_allBeads_21 : decode cX3_allBeads 21 = .ok (.goto (-17), 3) := by decide +kernel
theorem dX3_allBeads_24 : decode cX3_allBeads 24 = .ok (.iload_n 1, 1) := by decide +kernel
theorem dX3_allBeads_25 : decode cX3_allBeads 25 = .ok (.ireturn, 1) := by decide +kernel
theorem dX3_rateNow_0 : decode cX3_rateNow 0 = .ok (.iload_n 1, 1) := by decide +kernel
theorem dX3_rateNow_1 : decode cX3_rateNow 1 = .ok (.invokestatic 42, 3) := by decide +kernel
theorem dX3_rateNow_4 : decode cX3_rateNow 4 = .ok (.ifCond .ne 5, 3) := by decide +kernel
theorem dX3_rateNow_7 : decode cX3_rateNow 7 = .ok (.iconst 0, 1) := by decide +kernel
theorem dX3_rateNow_8 : decode cX3_rateNow 8 = .ok (.ireturn, 1) := by decide +kernel
theorem dX3_rateNow_9 : decode cX3_rateNow 9 = .ok (.aload_n 0, 1) := by decide +kernel
theorem dX3_rateNow_10 : decode cX3_rateNow 10 = .ok (.getfield 32, 3) := by decide +kernel
theorem dX3_rateNow_13 : decode cX3_rateNow 13 = .ok (.iload_n 1, 1) := by decide +kernel
theorem dX3_rateNow_14 : decode cX3_rateNow 14 = .ok (.iaload, 1) := by decide +kernel
theorem dX3_rateNow_15 : decode cX3_rateNow 15 = .ok (.istore_n 2, 1) := by decide +kernel
theorem dX3_rateNow_16 : decode cX3_rateNow 16 = .ok (.iload_n 2, 1) := by decide +kernel
theorem dX3_rateNow_17 : decode cX3_rateNow 17 = .ok (.ifCond .le 14, 3) := by decide +kernel
theorem dX3_rateNow_20 : decode cX3_rateNow 20 = .ok (.aload_n 0, 1) := by decide +kernel
theorem dX3_rateNow_21 : decode cX3_rateNow 21 = .ok (.getfield 35, 3) := by decide +kernel
theorem dX3_rateNow_24 : decode cX3_rateNow 24 = .ok (.iload_n 1, 1) := by decide +kernel
theorem dX3_rateNow_25 : decode cX3_rateNow 25 = .ok (.iaload, 1) := by decide +kernel
theorem dX3_rateNow_26 : decode cX3_rateNow 26 = .ok (.iload_n 2, 1) := by decide +kernel
theorem dX3_rateNow_27 : decode cX3_rateNow 27 = .ok (.idiv, 1) := by decide +kernel
theorem dX3_rateNow_28 : decode cX3_rateNow 28 = .ok (.goto 4, 3) := by decide +kernel
theorem dX3_rateNow_31 : decode cX3_rateNow 31 = .ok (.iconst 0, 1) := by decide +kernel
theorem dX3_rateNow_32 : decode cX3_rateNow 32 = .ok (.istore_n 3, 1) := by decide +kernel
theorem dX3_rateNow_33 : decode cX3_rateNow 33 = .ok (.iconst 1, 1) := by decide +kernel
theorem dX3_rateNow_34 : decode cX3_rateNow 34 = .ok (.aload_n 0, 1) := by decide +kernel
theorem dX3_rateNow_35 : decode cX3_rateNow 35 = .ok (.getfield 18, 3) := by decide +kernel
theorem dX3_rateNow_38 : decode cX3_rateNow 38 = .ok (.iload_n 1, 1) := by decide +kernel
theorem dX3_rateNow_39 : decode cX3_rateNow 39 = .ok (.iaload, 1) := by decide +kernel
theorem dX3_rateNow_40 : decode cX3_rateNow 40 = .ok (.iload_n 3, 1) := by decide +kernel
theorem dX3_rateNow_41 : decode cX3_rateNow 41 = .ok (.isub, 1) := by decide +kernel
theorem dX3_rateNow_42 : decode cX3_rateNow 42 = .ok (.invokestatic 46, 3) := by decide +kernel
theorem dX3_rateNow_45 : decode cX3_rateNow 45 = .ok (.ireturn, 1) := by decide +kernel
theorem dX3_worthByLength_0 : decode cX3_worthByLength 0 = .ok (.iload_n 1, 1) := by decide +kernel
theorem dX3_worthByLength_1 : decode cX3_worthByLength 1 = .ok (.invokestatic 42, 3) := by decide +kernel
theorem dX3_worthByLength_4 : decode cX3_worthByLength 4 = .ok (.ifCond .ne 5, 3) := by decide +kernel
theorem dX3_worthByLength_7 : decode cX3_worthByLength 7 = .ok (.iconst 0, 1) := by decide +kernel
theorem dX3_worthByLength_8 : decode cX3_worthByLength 8 = .ok (.ireturn, 1) := by decide +kernel
theorem dX3_worthByLength_9 : decode cX3_worthByLength 9 = .ok (.iload_n 2, 1) := by decide +kernel
theorem dX3_worthByLength_10 : decode cX3_worthByLength 10 = .ok (.aload_n 0, 1) := by decide +kernel
theorem dX3_worthByLength_11 : decode cX3_worthByLength 11 = .ok (.iload_n 1, 1) := by decide +kernel
theorem dX3_worthByLength_12 : decode cX3_worthByLength 12 = .ok (.invokevirtual 52, 3) := by decide +kernel
theorem dX3_worthByLength_15 : decode cX3_worthByLength 15 = .ok (.imul, 1) := by decide +kernel
theorem dX3_worthByLength_16 : decode cX3_worthByLength 16 = .ok (.iload_n 2, 1) := by decide +kernel
theorem dX3_worthByLength_17 : decode cX3_worthByLength 17 = .ok (.bipush 10, 2) := by decide +kernel
theorem dX3_worthByLength_19 : decode cX3_worthByLength 19 = .ok (.idiv, 1) := by decide +kernel
theorem dX3_worthByLength_20 : decode cX3_worthByLength 20 = .ok (.aload_n 0, 1) := by decide +kernel
theorem dX3_worthByLength_21 : decode cX3_worthByLength 21 = .ok (.getfield 26, 3) := by decide +kernel
theorem dX3_worthByLength_24 : decode cX3_worthByLength 24 = .ok (.iload_n 1, 1) := by decide +kernel
theorem dX3_worthByLength_25 : decode cX3_worthByLength 25 = .ok (.iaload, 1) := by decide +kernel
theorem dX3_worthByLength_26 : decode cX3_worthByLength 26 = .ok (.imul, 1) := by decide +kernel
theorem dX3_worthByLength_27 : decode cX3_worthByLength 27 = .ok (.iadd, 1) := by decide +kernel
theorem dX3_worthByLength_28 : decode cX3_worthByLength 28 = .ok (.ireturn, 1) := by decide +kernel
theorem dX4_init_0 : decode cX4_init 0 = .ok (.aload_n 0, 1) := by decide +kernel
theorem dX4_init_1 : decode cX4_init 1 = .ok (.invokespecial 3, 3) := by decide +kernel
theorem dX4_init_4 : decode cX4_init 4 = .ok (.aload_n 0, 1) := by decide +kernel
theorem dX4_init_5 : decode cX4_init 5 = .ok (.bipush 80, 2) := by decide +kernel
theorem dX4_init_7 : decode cX4_init 7 = .ok (.newarray .int, 2) := by decide +kernel
theorem dX4_init_9 : decode cX4_init 9 = .ok (.putfield 9, 3) := by decide +kernel
theorem dX4_init_12 : decode cX4_init 12 = .ok (.aload_n 0, 1) := by decide +kernel
theorem dX4_init_13 : decode cX4_init 13 = .ok (.bipush 80, 2) := by decide +kernel
theorem dX4_init_15 : decode cX4_init 15 = .ok (.newarray .int, 2) := by decide +kernel
theorem dX4_init_17 : decode cX4_init 17 = .ok (.putfield 15, 3) := by decide +kernel
theorem dX4_init_20 : decode cX4_init 20 = .ok (.aload_n 0, 1) := by decide +kernel
theorem dX4_init_21 : decode cX4_init 21 = .ok (.iconst 0, 1) := by decide +kernel
theorem dX4_init_22 : decode cX4_init 22 = .ok (.putfield 18, 3) := by decide +kernel
theorem dX4_init_25 : decode cX4_init 25 = .ok (.aload_n 0, 1) := by decide +kernel
theorem dX4_init_26 : decode cX4_init 26 = .ok (.iconst 0, 1) := by decide +kernel
theorem dX4_init_27 : decode cX4_init 27 = .ok (.putfield 22, 3) := by decide +kernel
theorem dX4_init_30 : decode cX4_init 30 = .ok (.aload_n 0, 1) := by decide +kernel
theorem dX4_init_31 : decode cX4_init 31 = .ok (.iload_n 1, 1) := by decide +kernel
theorem dX4_init_32 : decode cX4_init 32 = .ok (.putfield 25, 3) := by decide +kernel
theorem dX4_init_35 : decode cX4_init 35 = .ok (.return_, 1) := by decide +kernel
theorem dX4_has_0 : decode cX4_has 0 = .ok (.iload_n 1, 1) := by decide +kernel
theorem dX4_has_1 : decode cX4_has 1 = .ok (.ifCond .lt 21, 3) := by decide +kernel
theorem dX4_has_4 : decode cX4_has 4 = .ok (.iload_n 1, 1) := by decide +kernel
theorem dX4_has_5 : decode cX4_has 5 = .ok (.aload_n 0, 1) := by decide +kernel
theorem dX4_has_6 : decode cX4_has 6 = .ok (.getfield 18, 3) := by decide +kernel
theorem dX4_has_9 : decode cX4_has 9 = .ok (.if_icmp .ge 13, 3) := by decide +kernel
theorem dX4_has_12 : decode cX4_has 12 = .ok (.iload_n 1, 1) := by decide +kernel
theorem dX4_has_13 : decode cX4_has 13 = .ok (.bipush 80, 2) := by decide +kernel
theorem dX4_has_15 : decode cX4_has 15 = .ok (.if_icmp .ge 7, 3) := by decide +kernel
theorem dX4_has_18 : decode cX4_has 18 = .ok (.iconst 1, 1) := by decide +kernel
theorem dX4_has_19 : decode cX4_has 19 = .ok (.goto 4, 3) := by decide +kernel
theorem dX4_has_22 : decode cX4_has 22 = .ok (.iconst 0, 1) := by decide +kernel
theorem dX4_has_23 : decode cX4_has 23 = .ok (.ireturn, 1) := by decide +kernel
theorem dX4_gradeAt_0 : decode cX4_gradeAt 0 = .ok (.aload_n 0, 1) := by decide +kernel
theorem dX4_gradeAt_1 : decode cX4_gradeAt 1 = .ok (.iload_n 1, 1) := by decide +kernel
theorem dX4_gradeAt_2 : decode cX4_gradeAt 2 = .ok (.invokevirtual 28, 3) := by decide +kernel
theorem dX4_gradeAt_5 : decode cX4_gradeAt 5 = .ok (.ifCond .eq 12, 3) := by decide +kernel
theorem dX4_gradeAt_8 : decode cX4_gradeAt 8 = .ok (.aload_n 0, 1) := by decide +kernel
theorem dX4_gradeAt_9 : decode cX4_gradeAt 9 = .ok (.getfield 9, 3) := by decide +kernel
theorem dX4_gradeAt_12 : decode cX4_gradeAt 12 = .ok (.iload_n 1, 1) := by decide +kernel
theorem dX4_gradeAt_13 : decode cX4_gradeAt 13 = .ok (.iaload, 1) := by decide +kernel
theorem dX4_gradeAt_14 : decode cX4_gradeAt 14 = .ok (.goto 4, 3) := by decide +kernel
theorem dX4_gradeAt_17 : decode cX4_gradeAt 17 = .ok (.iconst (-1), 1) := by decide +kernel
theorem dX4_gradeAt_18 : decode cX4_gradeAt 18 = .ok (.ireturn, 1) := by decide +kernel
theorem dX4_makerAt_0 : decode cX4_makerAt 0 = .ok (.aload_n 0, 1) := by decide +kernel
theorem dX4_makerAt_1 : decode cX4_makerAt 1 = .ok (.iload_n 1, 1) := by decide +kernel
theorem dX4_makerAt_2 : decode cX4_makerAt 2 = .ok (.invokevirtual 28, 3) := by decide +kernel
theorem dX4_makerAt_5 : decode cX4_makerAt 5 = .ok (.ifCond .eq 12, 3) := by decide +kernel
theorem dX4_makerAt_8 : decode cX4_makerAt 8 = .ok (.aload_n 0, 1) := by decide +kernel
theorem dX4_makerAt_9 : decode cX4_makerAt 9 = .ok (.getfield 15, 3) := by decide +kernel
theorem dX4_makerAt_12 : decode cX4_makerAt 12 = .ok (.iload_n 1, 1) := by decide +kernel
theorem dX4_makerAt_13 : decode cX4_makerAt 13 = .ok (.iaload, 1) := by decide +kernel
theorem dX4_makerAt_14 : decode cX4_makerAt 14 = .ok (.goto 4, 3) := by decide +kernel
theorem dX4_makerAt_17 : decode cX4_makerAt 17 = .ok (.iconst (-1), 1) := by decide +kernel
theorem dX4_makerAt_18 : decode cX4_makerAt 18 = .ok (.ireturn, 1) := by decide +kernel
theorem dX4_append_0 : decode cX4_append 0 = .ok (.iconst 0, 1) := by decide +kernel
theorem dX4_append_1 : decode cX4_append 1 = .ok (.istore 4, 2) := by decide +kernel
theorem dX4_append_3 : decode cX4_append 3 = .ok (.iload 4, 2) := by decide +kernel
theorem dX4_append_5 : decode cX4_append 5 = .ok (.iload_n 3, 1) := by decide +kernel
theorem dX4_append_6 : decode cX4_append 6 = .ok (.if_icmp .ge 48, 3) := by decide +kernel
theorem dX4_append_9 : decode cX4_append 9 = .ok (.aload_n 0, 1) := by decide +kernel
theorem dX4_append_10 : decode cX4_append 10 = .ok (.getfield 18, 3) := by decide +kernel
theorem dX4_append_13 : decode cX4_append 13 = .ok (.bipush 80, 2) := by decide +kernel
theorem dX4_append_15 : decode cX4_append 15 = .ok (.if_icmp .ge 39, 3) := by decide +kernel
theorem dX4_append_18 : decode cX4_append 18 = .ok (.aload_n 0, 1) := by decide +kernel
theorem dX4_append_19 : decode cX4_append 19 = .ok (.getfield 9, 3) := by decide +kernel
theorem dX4_append_22 : decode cX4_append 22 = .ok (.aload_n 0, 1) := by decide +kernel
theorem dX4_append_23 : decode cX4_append 23 = .ok (.getfield 18, 3) := by decide +kernel
theorem dX4_append_26 : decode cX4_append 26 = .ok (.iload_n 1, 1) := by decide +kernel
theorem dX4_append_27 : decode cX4_append 27 = .ok (.iastore, 1) := by decide +kernel
theorem dX4_append_28 : decode cX4_append 28 = .ok (.aload_n 0, 1) := by decide +kernel
theorem dX4_append_29 : decode cX4_append 29 = .ok (.getfield 15, 3) := by decide +kernel
theorem dX4_append_32 : decode cX4_append 32 = .ok (.aload_n 0, 1) := by decide +kernel
theorem dX4_append_33 : decode cX4_append 33 = .ok (.getfield 18, 3) := by decide +kernel
theorem dX4_append_36 : decode cX4_append 36 = .ok (.iload_n 2, 1) := by decide +kernel
theorem dX4_append_37 : decode cX4_append 37 = .ok (.iastore, 1) := by decide +kernel
theorem dX4_append_38 : decode cX4_append 38 = .ok (.aload_n 0, 1) := by decide +kernel
theorem dX4_append_39 : decode cX4_append 39 = .ok (.dup, 1) := by decide +kernel
theorem dX4_append_40 : decode cX4_append 40 = .ok (.getfield 18, 3) := by decide +kernel
theorem dX4_append_43 : decode cX4_append 43 = .ok (.iconst 1, 1) := by decide +kernel
theorem dX4_append_44 : decode cX4_append 44 = .ok (.iadd, 1) := by decide +kernel
theorem dX4_append_45 : decode cX4_append 45 = .ok (.putfield 18, 3) := by decide +kernel
theorem dX4_append_48 : decode cX4_append 48 = .ok (.iinc 4 1, 3) := by decide +kernel
theorem dX4_append_51 : decode cX4_append 51 = .ok (.goto (-48), 3) := by decide +kernel
theorem dX4_append_54 : decode cX4_append 54 = .ok (.return_, 1) := by decide +kernel
theorem dX4_appendFrom_0 : decode cX4_appendFrom 0 = .ok (.iload_n 2, 1) := by decide +kernel
theorem dX4_appendFrom_1 : decode cX4_appendFrom 1 = .ok (.istore_n 3, 1) := by decide +kernel
theorem dX4_appendFrom_2 : decode cX4_appendFrom 2 = .ok (.iload_n 3, 1) := by decide +kernel
theorem dX4_appendFrom_3 : decode cX4_appendFrom 3 = .ok (.aload_n 1, 1) := by decide +kernel
theorem dX4_appendFrom_4 : decode cX4_appendFrom 4 = .ok (.getfield 18, 3) := by decide +kernel
theorem dX4_appendFrom_7 : decode cX4_appendFrom 7 = .ok (.if_icmp .ge 24, 3) := by decide +kernel
theorem dX4_appendFrom_10 : decode cX4_appendFrom 10 = .ok (.aload_n 0, 1) := by decide +kernel
theorem dX4_appendFrom_11 : decode cX4_appendFrom 11 = .ok (.aload_n 1, 1) := by decide +kernel
theorem dX4_appendFrom_12 : decode cX4_appendFrom 12 = .ok (.iload_n 3, 1) := by decide +kernel
theorem dX4_appendFrom_13 : decode cX4_appendFrom 13 = .ok (.invokevirtual 32, 3) := by decide +kernel
theorem dX4_appendFrom_16 : decode cX4_appendFrom 16 = .ok (.aload_n 1, 1) := by decide +kernel
theorem dX4_appendFrom_17 : decode cX4_appendFrom 17 = .ok (.iload_n 3, 1) := by decide +kernel
theorem dX4_appendFrom_18 : decode cX4_appendFrom 18 = .ok (.invokevirtual 36, 3) := by decide +kernel
theorem dX4_appendFrom_21 : decode cX4_appendFrom 21 = .ok (.iconst 1, 1) := by decide +kernel
theorem dX4_appendFrom_22 : decode cX4_appendFrom 22 = .ok (.invokevirtual 39, 3) := by decide +kernel
theorem dX4_appendFrom_25 : decode cX4_appendFrom 25 = .ok (.iinc 3 1, 3) := by decide +kernel
theorem dX4_appendFrom_28 : decode cX4_appendFrom 28 = .ok (.goto (-26), 3) := by decide +kernel
theorem dX4_appendFrom_31 : decode cX4_appendFrom 31 = .ok (.return_, 1) := by decide +kernel
theorem dX4_reverse_0 : decode cX4_reverse 0 = .ok (.iconst 0, 1) := by decide +kernel
theorem dX4_reverse_1 : decode cX4_reverse 1 = .ok (.istore_n 1, 1) := by decide +kernel
theorem dX4_reverse_2 : decode cX4_reverse 2 = .ok (.aload_n 0, 1) := by decide +kernel
theorem dX4_reverse_3 : decode cX4_reverse 3 = .ok (.getfield 18, 3) := by decide +kernel
theorem dX4_reverse_6 : decode cX4_reverse 6 = .ok (.iconst 1, 1) := by decide +kernel
theorem dX4_reverse_7 : decode cX4_reverse 7 = .ok (.isub, 1) := by decide +kernel
theorem dX4_reverse_8 : decode cX4_reverse 8 = .ok (.istore_n 2, 1) := by decide +kernel
theorem dX4_reverse_9 : decode cX4_reverse 9 = .ok (.iload_n 1, 1) := by decide +kernel
theorem dX4_reverse_10 : decode cX4_reverse 10 = .ok (.iload_n 2, 1) := by decide +kernel
theorem dX4_reverse_11 : decode cX4_reverse 11 = .ok (.if_icmp .ge 26, 3) := by decide +kernel
theorem dX4_reverse_14 : decode cX4_reverse 14 = .ok (.aload_n 0, 1) := by decide +kernel
theorem dX4_reverse_15 : decode cX4_reverse 15 = .ok (.iload_n 2, 1) := by decide +kernel
theorem dX4_reverse_16 : decode cX4_reverse 16 = .ok (.invokevirtual 28, 3) := by decide +kernel
theorem dX4_reverse_19 : decode cX4_reverse 19 = .ok (.ifCond .eq 18, 3) := by decide +kernel
theorem dX4_reverse_22 : decode cX4_reverse 22 = .ok (.aload_n 0, 1) := by decide +kernel
theorem dX4_reverse_23 : decode cX4_reverse 23 = .ok (.iload_n 1, 1) := by decide +kernel
theorem dX4_reverse_24 : decode cX4_reverse 24 = .ok (.iload_n 2, 1) := by decide +kernel
theorem dX4_reverse_25 : decode cX4_reverse 25 = .ok (.invokevirtual 43, 3) := by decide +kernel
theorem dX4_reverse_28 : decode cX4_reverse 28 = .ok (.iinc 1 1, 3) := by decide +kernel
theorem dX4_reverse_31 : decode cX4_reverse 31 = .ok (.iinc 2 (-1), 3) := by decide +kernel
theorem dX4_reverse_34 : decode cX4_reverse 34 = .ok (.goto (-25), 3) := by decide +kernel
theorem dX4_reverse_37 : decode cX4_reverse 37 = .ok (.return_, 1) := by decide +kernel
theorem dX4_exchange_0 : decode cX4_exchange 0 = .ok (.aload_n 0, 1) := by decide +kernel
theorem dX4_exchange_1 : decode cX4_exchange 1 = .ok (.iload_n 1, 1) := by decide +kernel
theorem dX4_exchange_2 : decode cX4_exchange 2 = .ok (.invokevirtual 28, 3) := by decide +kernel
theorem dX4_exchange_5 : decode cX4_exchange 5 = .ok (.ifCond .eq 11, 3) := by decide +kernel
theorem dX4_exchange_8 : decode cX4_exchange 8 = .ok (.aload_n 0, 1) := by decide +kernel
theorem dX4_exchange_9 : decode cX4_exchange 9 = .ok (.iload_n 2, 1) := by decide +kernel
theorem dX4_exchange_10 : decode cX4_exchange 10 = .ok (.invokevirtual 28, 3) := by decide +kernel
theorem dX4_exchange_13 : decode cX4_exchange 13 = .ok (.ifCond .ne 4, 3) := by decide +kernel
theorem dX4_exchange_16 : decode cX4_exchange 16 = .ok (.return_, 1) := by decide +kernel
theorem dX4_exchange_17 : decode cX4_exchange 17 = .ok (.aload_n 0, 1) := by decide +kernel
theorem dX4_exchange_18 : decode cX4_exchange 18 = .ok (.getfield 9, 3) := by decide +kernel
theorem dX4_exchange_21 : decode cX4_exchange 21 = .ok (.iload_n 1, 1) := by decide +kernel
theorem dX4_exchange_22 : decode cX4_exchange 22 = .ok (.iaload, 1) := by decide +kernel
theorem dX4_exchange_23 : decode cX4_exchange 23 = .ok (.istore_n 3, 1) := by decide +kernel
theorem dX4_exchange_24 : decode cX4_exchange 24 = .ok (.aload_n 0, 1) := by decide +kernel
theorem dX4_exchange_25 : decode cX4_exchange 25 = .ok (.getfield 15, 3) := by decide +kernel
theorem dX4_exchange_28 : decode cX4_exchange 28 = .ok (.iload_n 1, 1) := by decide +kernel
theorem dX4_exchange_29 : decode cX4_exchange 29 = .ok (.iaload, 1) := by decide +kernel
theorem dX4_exchange_30 : decode cX4_exchange 30 = .ok (.istore 4, 2) := by decide +kernel
theorem dX4_exchange_32 : decode cX4_exchange 32 = .ok (.aload_n 0, 1) := by decide +kernel
theorem dX4_exchange_33 : decode cX4_exchange 33 = .ok (.getfield 9, 3) := by decide +kernel
theorem dX4_exchange_36 : decode cX4_exchange 36 = .ok (.iload_n 1, 1) := by decide +kernel
theorem dX4_exchange_37 : decode cX4_exchange 37 = .ok (.aload_n 0, 1) := by decide +kernel
theorem dX4_exchange_38 : decode cX4_exchange 38 = .ok (.getfield 9, 3) := by decide +kernel
theorem dX4_exchange_41 : decode cX4_exchange 41 = .ok (.iload_n 2, 1) := by decide +kernel
theorem dX4_exchange_42 : decode cX4_exchange 42 = .ok (.iaload, 1) := by decide +kernel
theorem dX4_exchange_43 : decode cX4_exchange 43 = .ok (.iastore, 1) := by decide +kernel
theorem dX4_exchange_44 : decode cX4_exchange 44 = .ok (.aload_n 0, 1) := by decide +kernel
theorem dX4_exchange_45 : decode cX4_exchange 45 = .ok (.getfield 15, 3) := by decide +kernel
theorem dX4_exchange_48 : decode cX4_exchange 48 = .ok (.iload_n 1, 1) := by decide +kernel
theorem dX4_exchange_49 : decode cX4_exchange 49 = .ok (.aload_n 0, 1) := by decide +kernel
theorem dX4_exchange_50 : decode cX4_exchange 50 = .ok (.getfield 15, 3) := by decide +kernel
theorem dX4_exchange_53 : decode cX4_exchange 53 = .ok (.iload_n 2, 1) := by decide +kernel
theorem dX4_exchange_54 : decode cX4_exchange 54 = .ok (.iaload, 1) := by decide +kernel
theorem dX4_exchange_55 : decode cX4_exchange 55 = .ok (.iastore, 1) := by decide +kernel
theorem dX4_exchange_56 : decode cX4_exchange 56 = .ok (.aload_n 0, 1) := by decide +kernel
theorem dX4_exchange_57 : decode cX4_exchange 57 = .ok (.getfield 9, 3) := by decide +kernel
theorem dX4_exchange_60 : decode cX4_exchange 60 = .ok (.iload_n 2, 1) := by decide +kernel
theorem dX4_exchange_61 : decode cX4_exchange 61 = .ok (.iload_n 3, 1) := by decide +kernel
theorem dX4_exchange_62 : decode cX4_exchange 62 = .ok (.iastore, 1) := by decide +kernel
theorem dX4_exchange_63 : decode cX4_exchange 63 = .ok (.aload_n 0, 1) := by decide +kernel
theorem dX4_exchange_64 : decode cX4_exchange 64 = .ok (.getfield 15, 3) := by decide +kernel
theorem dX4_exchange_67 : decode cX4_exchange 67 = .ok (.iload_n 2, 1) := by decide +kernel
theorem dX4_exchange_68 : decode cX4_exchange 68 = .ok (.iload 4, 2) := by decide +kernel
theorem dX4_exchange_70 : decode cX4_exchange 70 = .ok (.iastore, 1) := by decide +kernel
theorem dX4_exchange_71 : decode cX4_exchange 71 = .ok (.return_, 1) := by decide +kernel
theorem dX4_leastGrade_0 : decode cX4_leastGrade 0 = .ok (.aload_n 0, 1) := by decide +kernel
theorem dX4_leastGrade_1 : decode cX4_leastGrade 1 = .ok (.iconst 0, 1) := by decide +kernel
theorem dX4_leastGrade_2 : decode cX4_leastGrade 2 = .ok (.aload_n 0, 1) := by decide +kernel
theorem dX4_leastGrade_3 : decode cX4_leastGrade 3 = .ok (.getfield 18, 3) := by decide +kernel
theorem dX4_leastGrade_6 : decode cX4_leastGrade 6 = .ok (.invokevirtual 47, 3) := by decide +kernel
theorem dX4_leastGrade_9 : decode cX4_leastGrade 9 = .ok (.ireturn, 1) := by decide +kernel
theorem dX4_leastGradeWithin_0 : decode cX4_leastGradeWithin 0 = .ok (.iconst (-1), 1) := by decide +kernel
theorem dX4_leastGradeWithin_1 : decode cX4_leastGradeWithin 1 = .ok (.istore_n 3, 1) := by decide +kernel
theorem dX4_leastGradeWithin_2 : decode cX4_leastGradeWithin 2 = .ok (.iload_n 1, 1) := by decide +kernel
theorem dX4_leastGradeWithin_3 : decode cX4_leastGradeWithin 3 = .ok (.istore 4, 2) := by decide +kernel
theorem dX4_leastGradeWithin_5 : decode cX4_leastGradeWithin 5 = .ok (.iload 4, 2) := by decide +kernel
theorem dX4_leastGradeWithin_7 : decode cX4_leastGradeWithin 7 = .ok (.iload_n 1, 1) := by decide +kernel
theorem dX4_leastGradeWithin_8 : decode cX4_leastGradeWithin 8 = .ok (.iload_n 2, 1) := by decide +kernel
theorem dX4_leastGradeWithin_9 : decode cX4_leastGradeWithin 9 = .ok (.iadd, 1) := by decide +kernel
theorem dX4_leastGradeWithin_10 : decode cX4_leastGradeWithin 10 = .ok (.if_icmp .ge 42, 3) := by decide +kernel
theorem dX4_leastGradeWithin_13 : decode cX4_leastGradeWithin 13 = .ok (.aload_n 0, 1) := by decide +kernel
theorem dX4_leastGradeWithin_14 : decode cX4_leastGradeWithin 14 = .ok (.iload 4, 2) := by decide +kernel
theorem dX4_leastGradeWithin_16 : decode cX4_leastGradeWithin 16 = .ok (.invokevirtual 28, 3) := by decide +kernel
theorem dX4_leastGradeWithin_19 : decode cX4_leastGradeWithin 19 = .ok (.ifCond .eq 33, 3) := by decide +kernel
theorem dX4_leastGradeWithin_22 : decode cX4_leastGradeWithin 22 = .ok (.iload_n 3, 1) := by decide +kernel
theorem dX4_leastGradeWithin_23 : decode cX4_leastGradeWithin 23 = .ok (.iconst (-1), 1) := by decide +kernel
theorem dX4_leastGradeWithin_24 : decode cX4_leastGradeWithin 24 = .ok (.if_icmp .eq 14, 3) := by decide +kernel
theorem dX4_leastGradeWithin_27 : decode cX4_leastGradeWithin 27 = .ok (.aload_n 0, 1) := by decide +kernel
theorem dX4_leastGradeWithin_28 : decode cX4_leastGradeWithin 28 = .ok (.getfield 9, 3) := by decide +kernel
theorem dX4_leastGradeWithin_31 : decode cX4_leastGradeWithin 31 = .ok (.iload 4, 2) := by decide +kernel
theorem dX4_leastGradeWithin_33 : decode cX4_leastGradeWithin 33 = .ok (.iaload, 1) := by decide +kernel
theorem dX4_leastGradeWithin_34 : decode cX4_leastGradeWithin 34 = .ok (.iload_n 3, 1) := by decide +kernel
theorem dX4_leastGradeWithin_35 : decode cX4_leastGradeWithin 35 = .ok (.if_icmp .ge 11, 3) := by decide +kernel
theorem dX4_leastGradeWithin_38 : decode cX4_leastGradeWithin 38 = .ok (.aload_n 0, 1) := by decide +kernel
theorem dX4_leastGradeWithin_39 : decode cX4_leastGradeWithin 39 = .ok (.getfield 9, 3) := by decide +kernel
theorem dX4_leastGradeWithin_42 : decode cX4_leastGradeWithin 42 = .ok (.iload 4, 2) := by decide +kernel
theorem dX4_leastGradeWithin_44 : decode cX4_leastGradeWithin 44 = .ok (.iaload, 1) := by decide +kernel
theorem dX4_leastGradeWithin_45 : decode cX4_leastGradeWithin 45 = .ok (.istore_n 3, 1) := by decide +kernel
theorem dX4_leastGradeWithin_46 : decode cX4_leastGradeWithin 46 = .ok (.iinc 4 1, 3) := by decide +kernel
theorem dX4_leastGradeWithin_49 : decode cX4_leastGradeWithin 49 = .ok (.goto (-44), 3) := by decide +kernel
theorem dX4_leastGradeWithin_52 : decode cX4_leastGradeWithin 52 = .ok (.iload_n 3, 1) := by decide +kernel
theorem dX4_leastGradeWithin_53 : decode cX4_leastGradeWithin 53 = .ok (.ireturn, 1) := by decide +kernel
theorem dX4_spans_0 : decode cX4_spans 0 = .ok (.aload_n 0, 1) := by decide +kernel
theorem dX4_spans_1 : decode cX4_spans 1 = .ok (.getfield 18, 3) := by decide +kernel
theorem dX4_spans_4 : decode cX4_spans 4 = .ok (.bipush 10, 2) := by decide +kernel
theorem dX4_spans_6 : decode cX4_spans 6 = .ok (.idiv, 1) := by decide +kernel
theorem dX4_spans_7 : decode cX4_spans 7 = .ok (.ireturn, 1) := by decide +kernel
theorem dX4_makerCount_0 : decode cX4_makerCount 0 = .ok (.iconst 0, 1) := by decide +kernel
theorem dX4_makerCount_1 : decode cX4_makerCount 1 = .ok (.istore_n 1, 1) := by decide +kernel
theorem dX4_makerCount_2 : decode cX4_makerCount 2 = .ok (.iconst 0, 1) := by decide +kernel
theorem dX4_makerCount_3 : decode cX4_makerCount 3 = .ok (.istore_n 2, 1) := by decide +kernel
theorem dX4_makerCount_4 : decode cX4_makerCount 4 = .ok (.iload_n 2, 1) := by decide +kernel
theorem dX4_makerCount_5 : decode cX4_makerCount 5 = .ok (.aload_n 0, 1) := by decide +kernel
theorem dX4_makerCount_6 : decode cX4_makerCount 6 = .ok (.getfield 18, 3) := by decide +kernel
theorem dX4_makerCount_9 : decode cX4_makerCount 9 = .ok (.if_icmp .ge 19, 3) := by decide +kernel
theorem dX4_makerCount_12 : decode cX4_makerCount 12 = .ok (.iload_n 1, 1) := by decide +kernel
theorem dX4_makerCount_13 : decode cX4_makerCount 13 = .ok (.iconst 1, 1) := by decide +kernel
theorem dX4_makerCount_14 : decode cX4_makerCount 14 = .ok (.aload_n 0, 1) := by decide +kernel
theorem dX4_makerCount_15 : decode cX4_makerCount 15 = .ok (.iload_n 2, 1) := by decide +kernel
theorem dX4_makerCount_16 : decode cX4_makerCount 16 = .ok (.invokevirtual 36, 3) := by decide +kernel
theorem dX4_makerCount_19 : decode cX4_makerCount 19 = .ok (.ishl, 1) := by decide +kernel
theorem dX4_makerCount_20 : decode cX4_makerCount 20 = .ok (.ior, 1) := by decide +kernel
theorem dX4_makerCount_21 : decode cX4_makerCount 21 = .ok (.istore_n 1, 1) := by decide +kernel
theorem dX4_makerCount_22 : decode cX4_makerCount 22 = .ok (.iinc 2 1, 3) := by decide +kernel
theorem dX4_makerCount_25 : decode cX4_makerCount 25 = .ok (.goto (-21), 3) := by decide +kernel
theorem dX4_makerCount_28 : decode cX4_makerCount 28 = .ok (.iload_n 1, 1) := by decide +kernel
theorem dX4_makerCount_29 : decode cX4_makerCount 29 = .ok (.invokestatic 51, 3) := by decide +kernel
theorem dX4_makerCount_32 : decode cX4_makerCount 32 = .ok (.ireturn, 1) := by decide +kernel
theorem dX4_tallyMakersBelow_0 : decode cX4_tallyMakersBelow 0 = .ok (.iconst 0, 1) := by decide +kernel
theorem dX4_tallyMakersBelow_1 : decode cX4_tallyMakersBelow 1 = .ok (.istore_n 3, 1) := by decide +kernel
theorem dX4_tallyMakersBelow_2 : decode cX4_tallyMakersBelow 2 = .ok (.iload_n 3, 1) := by decide +kernel
theorem dX4_tallyMakersBelow_3 : decode cX4_tallyMakersBelow 3 = .ok (.aload_n 0, 1) := by decide +kernel
theorem dX4_tallyMakersBelow_4 : decode cX4_tallyMakersBelow 4 = .ok (.getfield 18, 3) := by decide +kernel
theorem dX4_tallyMakersBelow_7 : decode cX4_tallyMakersBelow 7 = .ok (.if_icmp .ge 45, 3) := by decide +kernel
theorem dX4_tallyMakersBelow_10 : decode cX4_tallyMakersBelow 10 = .ok (.aload_n 0, 1) := by decide +kernel
theorem dX4_tallyMakersBelow_11 : decode cX4_tallyMakersBelow 11 = .ok (.iload_n 3, 1) := by decide +kernel
theorem dX4_tallyMakersBelow_12 : decode cX4_tallyMakersBelow 12 = .ok (.invokevirtual 36, 3) := by decide +kernel
theorem dX4_tallyMakersBelow_15 : decode cX4_tallyMakersBelow 15 = .ok (.istore 4, 2) := by decide +kernel
theorem dX4_tallyMakersBelow_17 : decode cX4_tallyMakersBelow 17 = .ok (.aload_n 0, 1) := by decide +kernel
theorem dX4_tallyMakersBelow_18 : decode cX4_tallyMakersBelow 18 = .ok (.iload_n 3, 1) := by decide +kernel
theorem dX4_tallyMakersBelow_19 : decode cX4_tallyMakersBelow 19 = .ok (.invokevirtual 32, 3) := by decide +kernel
theorem dX4_tallyMakersBelow_22 : decode cX4_tallyMakersBelow 22 = .ok (.iload_n 1, 1) := by decide +kernel
theorem dX4_tallyMakersBelow_23 : decode cX4_tallyMakersBelow 23 = .ok (.if_icmp .ge 23, 3) := by decide +kernel
theorem dX4_tallyMakersBelow_26 : decode cX4_tallyMakersBelow 26 = .ok (.iload 4, 2) := by decide +kernel
theorem dX4_tallyMakersBelow_28 : decode cX4_tallyMakersBelow 28 = .ok (.ifCond .lt 18, 3) := by decide +kernel
theorem dX4_tallyMakersBelow_31 : decode cX4_tallyMakersBelow 31 = .ok (.iload 4, 2) := by decide +kernel
theorem dX4_tallyMakersBelow_33 : decode cX4_tallyMakersBelow 33 = .ok (.aload_n 2, 1) := by decide +kernel
theorem dX4_tallyMakersBelow_34 : decode cX4_tallyMakersBelow 34 = .ok (.arraylength, 1) := by decide +kernel
theorem dX4_tallyMakersBelow_35 : decode cX4_tallyMakersBelow 35 = .ok (.if_icmp .ge 11, 3) := by decide +kernel
theorem dX4_tallyMakersBelow_38 : decode cX4_tallyMakersBelow 38 = .ok (.aload_n 2, 1) := by decide +kernel
theorem dX4_tallyMakersBelow_39 : decode cX4_tallyMakersBelow 39 = .ok (.iload 4, 2) := by decide +kernel
theorem dX4_tallyMakersBelow_41 : decode cX4_tallyMakersBelow 41 = .ok (.dup2, 1) := by decide +kernel
theorem dX4_tallyMakersBelow_42 : decode cX4_tallyMakersBelow 42 = .ok (.iaload, 1) := by decide +kernel
theorem dX4_tallyMakersBelow_43 : decode cX4_tallyMakersBelow 43 = .ok (.iconst 1, 1) := by decide +kernel
theorem dX4_tallyMakersBelow_44 : decode cX4_tallyMakersBelow 44 = .ok (.iadd, 1) := by decide +kernel
theorem dX4_tallyMakersBelow_45 : decode cX4_tallyMakersBelow 45 = .ok (.iastore, 1) := by decide +kernel
theorem dX4_tallyMakersBelow_46 : decode cX4_tallyMakersBelow 46 = .ok (.iinc 3 1, 3) := by decide +kernel
theorem dX4_tallyMakersBelow_49 : decode cX4_tallyMakersBelow 49 = .ok (.goto (-47), 3) := by decide +kernel
theorem dX4_tallyMakersBelow_52 : decode cX4_tallyMakersBelow 52 = .ok (.return_, 1) := by decide +kernel
theorem dX5_init_0 : decode cX5_init 0 = .ok (.aload_n 0, 1) := by decide +kernel
theorem dX5_init_1 : decode cX5_init 1 = .ok (.invokespecial 3, 3) := by decide +kernel
theorem dX5_init_4 : decode cX5_init 4 = .ok (.aload_n 0, 1) := by decide +kernel
theorem dX5_init_5 : decode cX5_init 5 = .ok (.sipush 200, 3) := by decide +kernel
theorem dX5_init_8 : decode cX5_init 8 = .ok (.newarray .int, 2) := by decide +kernel
theorem dX5_init_10 : decode cX5_init 10 = .ok (.putfield 9, 3) := by decide +kernel
theorem dX5_init_13 : decode cX5_init 13 = .ok (.aload_n 0, 1) := by decide +kernel
theorem dX5_init_14 : decode cX5_init 14 = .ok (.sipush 200, 3) := by decide +kernel
theorem dX5_init_17 : decode cX5_init 17 = .ok (.newarray .int, 2) := by decide +kernel
theorem dX5_init_19 : decode cX5_init 19 = .ok (.putfield 15, 3) := by decide +kernel
theorem dX5_init_22 : decode cX5_init 22 = .ok (.aload_n 0, 1) := by decide +kernel
theorem dX5_init_23 : decode cX5_init 23 = .ok (.sipush 200, 3) := by decide +kernel
theorem dX5_init_26 : decode cX5_init 26 = .ok (.newarray .int, 2) := by decide +kernel
theorem dX5_init_28 : decode cX5_init 28 = .ok (.putfield 18, 3) := by decide +kernel
theorem dX5_init_31 : decode cX5_init 31 = .ok (.aload_n 0, 1) := by decide +kernel
theorem dX5_init_32 : decode cX5_init 32 = .ok (.sipush 200, 3) := by decide +kernel
theorem dX5_init_35 : decode cX5_init 35 = .ok (.newarray .int, 2) := by decide +kernel
theorem dX5_init_37 : decode cX5_init 37 = .ok (.putfield 21, 3) := by decide +kernel
theorem dX5_init_40 : decode cX5_init 40 = .ok (.aload_n 0, 1) := by decide +kernel
theorem dX5_init_41 : decode cX5_init 41 = .ok (.iconst 0, 1) := by decide +kernel
theorem dX5_init_42 : decode cX5_init 42 = .ok (.putfield 24, 3) := by decide +kernel
theorem dX5_init_45 : decode cX5_init 45 = .ok (.return_, 1) := by decide +kernel
theorem dX5_hasRoom_0 : decode cX5_hasRoom 0 = .ok (.aload_n 0, 1) := by decide +kernel
theorem dX5_hasRoom_1 : decode cX5_hasRoom 1 = .ok (.getfield 24, 3) := by decide +kernel
theorem dX5_hasRoom_4 : decode cX5_hasRoom 4 = .ok (.iload_n 1, 1) := by decide +kernel
theorem dX5_hasRoom_5 : decode cX5_hasRoom 5 = .ok (.iadd, 1) := by decide +kernel
theorem dX5_hasRoom_6 : decode cX5_hasRoom 6 = .ok (.sipush 200, 3) := by decide +kernel
theorem dX5_hasRoom_9 : decode cX5_hasRoom 9 = .ok (.if_icmp .gt 7, 3) := by decide +kernel
theorem dX5_hasRoom_12 : decode cX5_hasRoom 12 = .ok (.iconst 1, 1) := by decide +kernel
theorem dX5_hasRoom_13 : decode cX5_hasRoom 13 = .ok (.goto 4, 3) := by decide +kernel
theorem dX5_hasRoom_16 : decode cX5_hasRoom 16 = .ok (.iconst 0, 1) := by decide +kernel
theorem dX5_hasRoom_17 : decode cX5_hasRoom 17 = .ok (.ireturn, 1) := by decide +kernel
theorem dX5_tell_0 : decode cX5_tell 0 = .ok (.aload_n 0, 1) := by decide +kernel
theorem dX5_tell_1 : decode cX5_tell 1 = .ok (.getfield 24, 3) := by decide +kernel
theorem dX5_tell_4 : decode cX5_tell 4 = .ok (.sipush 200, 3) := by decide +kernel
theorem dX5_tell_7 : decode cX5_tell 7 = .ok (.if_icmp .lt 4, 3) := by decide +kernel
theorem dX5_tell_10 : decode cX5_tell 10 = .ok (.return_, 1) := by decide +kernel
theorem dX5_tell_11 : decode cX5_tell 11 = .ok (.aload_n 0, 1) := by decide +kernel
theorem dX5_tell_12 : decode cX5_tell 12 = .ok (.getfield 9, 3) := by decide +kernel
theorem dX5_tell_15 : decode cX5_tell 15 = .ok (.aload_n 0, 1) := by decide +kernel
theorem dX5_tell_16 : decode cX5_tell 16 = .ok (.getfield 24, 3) := by decide +kernel
theorem dX5_tell_19 : decode cX5_tell 19 = .ok (.iload_n 1, 1) := by decide +kernel
theorem dX5_tell_20 : decode cX5_tell 20 = .ok (.iastore, 1) := by decide +kernel
theorem dX5_tell_21 : decode cX5_tell 21 = .ok (.aload_n 0, 1) := by decide +kernel
theorem dX5_tell_22 : decode cX5_tell 22 = .ok (.getfield 15, 3) := by decide +kernel
theorem dX5_tell_25 : decode cX5_tell 25 = .ok (.aload_n 0, 1) := by decide +kernel
theorem dX5_tell_26 : decode cX5_tell 26 = .ok (.getfield 24, 3) := by decide +kernel
theorem dX5_tell_29 : decode cX5_tell 29 = .ok (.iload_n 2, 1) := by decide +kernel
theorem dX5_tell_30 : decode cX5_tell 30 = .ok (.iastore, 1) := by decide +kernel
theorem dX5_tell_31 : decode cX5_tell 31 = .ok (.aload_n 0, 1) := by decide +kernel
theorem dX5_tell_32 : decode cX5_tell 32 = .ok (.getfield 18, 3) := by decide +kernel
theorem dX5_tell_35 : decode cX5_tell 35 = .ok (.aload_n 0, 1) := by decide +kernel
theorem dX5_tell_36 : decode cX5_tell 36 = .ok (.getfield 24, 3) := by decide +kernel
theorem dX5_tell_39 : decode cX5_tell 39 = .ok (.iload_n 3, 1) := by decide +kernel
theorem dX5_tell_40 : decode cX5_tell 40 = .ok (.iastore, 1) := by decide +kernel
theorem dX5_tell_41 : decode cX5_tell 41 = .ok (.aload_n 0, 1) := by decide +kernel
theorem dX5_tell_42 : decode cX5_tell 42 = .ok (.getfield 21, 3) := by decide +kernel
theorem dX5_tell_45 : decode cX5_tell 45 = .ok (.aload_n 0, 1) := by decide +kernel
theorem dX5_tell_46 : decode cX5_tell 46 = .ok (.getfield 24, 3) := by decide +kernel
theorem dX5_tell_49 : decode cX5_tell 49 = .ok (.iload 4, 2) := by decide +kernel
theorem dX5_tell_51 : decode cX5_tell 51 = .ok (.iastore, 1) := by decide +kernel
theorem dX5_tell_52 : decode cX5_tell 52 = .ok (.aload_n 0, 1) := by decide +kernel
theorem dX5_tell_53 : decode cX5_tell 53 = .ok (.dup, 1) := by decide +kernel
theorem dX5_tell_54 : decode cX5_tell 54 = .ok (.getfield 24, 3) := by decide +kernel
theorem dX5_tell_57 : decode cX5_tell 57 = .ok (.iconst 1, 1) := by decide +kernel
theorem dX5_tell_58 : decode cX5_tell 58 = .ok (.iadd, 1) := by decide +kernel
theorem dX5_tell_59 : decode cX5_tell 59 = .ok (.putfield 24, 3) := by decide +kernel
theorem dX5_tell_62 : decode cX5_tell 62 = .ok (.return_, 1) := by decide +kernel
theorem dX5_placeOf_0 : decode cX5_placeOf 0 = .ok (.iconst 0, 1) := by decide +kernel
theorem dX5_placeOf_1 : decode cX5_placeOf 1 = .ok (.istore_n 3, 1) := by decide +kernel
theorem dX5_placeOf_2 : decode cX5_placeOf 2 = .ok (.iconst 0, 1) := by decide +kernel
theorem dX5_placeOf_3 : decode cX5_placeOf 3 = .ok (.istore 4, 2) := by decide +kernel
theorem dX5_placeOf_5 : decode cX5_placeOf 5 = .ok (.iload 4, 2) := by decide +kernel
theorem dX5_placeOf_7 : decode cX5_placeOf 7 = .ok (.aload_n 0, 1) := by decide +kernel
theorem dX5_placeOf_8 : decode cX5_placeOf 8 = .ok (.getfield 24, 3) := by decide +kernel
theorem dX5_placeOf_11 : decode cX5_placeOf 11 = .ok (.if_icmp .ge 39, 3) := by decide +kernel
theorem dX5_placeOf_14 : decode cX5_placeOf 14 = .ok (.iload 4, 2) := by decide +kernel
theorem dX5_placeOf_16 : decode cX5_placeOf 16 = .ok (.sipush 200, 3) := by decide +kernel
theorem dX5_placeOf_19 : decode cX5_placeOf 19 = .ok (.if_icmp .ge 31, 3) := by decide +kernel
theorem dX5_placeOf_22 : decode cX5_placeOf 22 = .ok (.aload_n 0, 1) := by decide +kernel
theorem dX5_placeOf_23 : decode cX5_placeOf 23 = .ok (.getfield 9, 3) := by decide +kernel
theorem dX5_placeOf_26 : decode cX5_placeOf 26 = .ok (.iload 4, 2) := by decide +kernel
theorem dX5_placeOf_28 : decode cX5_placeOf 28 = .ok (.iaload, 1) := by decide +kernel
theorem dX5_placeOf_29 : decode cX5_placeOf 29 = .ok (.iload_n 1, 1) := by decide +kernel
theorem dX5_placeOf_30 : decode cX5_placeOf 30 = .ok (.if_icmp .ne 14, 3) := by decide +kernel
theorem dX5_placeOf_33 : decode cX5_placeOf 33 = .ok (.iload_n 3, 1) := by decide +kernel
theorem dX5_placeOf_34 : decode cX5_placeOf 34 = .ok (.iload_n 2, 1) := by decide +kernel
theorem dX5_placeOf_35 : decode cX5_placeOf 35 = .ok (.if_icmp .ne 6, 3) := by decide +kernel
theorem dX5_placeOf_38 : decode cX5_placeOf 38 = .ok (.iload 4, 2) := by decide +kernel
theorem dX5_placeOf_40 : decode cX5_placeOf 40 = .ok (.ireturn, 1) := by decide +kernel
theorem dX5_placeOf_41 : decode cX5_placeOf 41 = .ok (.iinc 3 1, 3) := by decide +kernel
theorem dX5_placeOf_44 : decode cX5_placeOf 44 = .ok (.iinc 4 1, 3) := by decide +kernel
theorem dX5_placeOf_47 : decode cX5_placeOf 47 = .ok (.goto (-42), 3) := by decide +kernel
theorem dX5_placeOf_50 : decode cX5_placeOf 50 = .ok (.iconst (-1), 1) := by decide +kernel
theorem dX5_placeOf_51 : decode cX5_placeOf 51 = .ok (.ireturn, 1) := by decide +kernel
theorem dX5_about_0 : decode cX5_about 0 = .ok (.iload_n 1, 1) := by decide +kernel
theorem dX5_about_1 : decode cX5_about 1 = .ok (.ifCond .lt 18, 3) := by decide +kernel
theorem dX5_about_4 : decode cX5_about 4 = .ok (.iload_n 1, 1) := by decide +kernel
theorem dX5_about_5 : decode cX5_about 5 = .ok (.aload_n 0, 1) := by decide +kernel
theorem dX5_about_6 : decode cX5_about 6 = .ok (.getfield 24, 3) := by decide +kernel
theorem dX5_about_9 : decode cX5_about 9 = .ok (.if_icmp .ge 10, 3) := by decide +kernel
theorem dX5_about_12 : decode cX5_about 12 = .ok (.iload_n 1, 1) := by decide +kernel
theorem dX5_about_13 : decode cX5_about 13 = .ok (.sipush 200, 3) := by decide +kernel
theorem dX5_about_16 : decode cX5_about 16 = .ok (.if_icmp .lt 5, 3) := by decide +kernel
theorem dX5_about_19 : decode cX5_about 19 = .ok (.iconst (-1), 1) := by decide +kernel
theorem dX5_about_20 : decode cX5_about 20 = .ok (.ireturn, 1) := by decide +kernel
theorem dX5_about_21 : decode cX5_about 21 = .ok (.iload_n 2, 1) := by decide +kernel
theorem dX5_about_22 : decode cX5_about 22 = .ok (.tableswitch 47 0 2 #[26, 33, 40], 26) := by decide +kernel
theorem dX5_about_48 : decode cX5_about 48 = .ok (.aload_n 0, 1) := by decide +kernel
theorem dX5_about_49 : decode cX5_about 49 = .ok (.getfield 15, 3) := by decide +kernel
theorem dX5_about_52 : decode cX5_about 52 = .ok (.iload_n 1, 1) := by decide +kernel
theorem dX5_about_53 : decode cX5_about 53 = .ok (.iaload, 1) := by decide +kernel
theorem dX5_about_54 : decode cX5_about 54 = .ok (.ireturn, 1) := by decide +kernel
theorem dX5_about_55 : decode cX5_about 55 = .ok (.aload_n 0, 1) := by decide +kernel
theorem dX5_about_56 : decode cX5_about 56 = .ok (.getfield 18, 3) := by decide +kernel
theorem dX5_about_59 : decode cX5_about 59 = .ok (.iload_n 1, 1) := by decide +kernel
theorem dX5_about_60 : decode cX5_about 60 = .ok (.iaload, 1) := by decide +kernel
theorem dX5_about_61 : decode cX5_about 61 = .ok (.ireturn, 1) := by decide +kernel
theorem dX5_about_62 : decode cX5_about 62 = .ok (.aload_n 0, 1) := by decide +kernel
theorem dX5_about_63 : decode cX5_about 63 = .ok (.getfield 21, 3) := by decide +kernel
theorem dX5_about_66 : decode cX5_about 66 = .ok (.iload_n 1, 1) := by decide +kernel
theorem dX5_about_67 : decode cX5_about 67 = .ok (.iaload, 1) := by decide +kernel
theorem dX5_about_68 : decode cX5_about 68 = .ok (.ireturn, 1) := by decide +kernel
theorem dX5_about_69 : decode cX5_about 69 = .ok (.iconst (-1), 1) := by decide +kernel
theorem dX5_about_70 : decode cX5_about 70 = .ok (.ireturn, 1) := by decide +kernel
theorem dJ6_bitCount_0f7a4_0 : decode cJ6_bitCount_0f7a4 0 = .ok (.iload_n 0, 1) := by decide +kernel
theorem dJ6_bitCount_0f7a4_1 : decode cJ6_bitCount_0f7a4 1 = .ok (.iload_n 0, 1) := by decide +kernel
theorem dJ6_bitCount_0f7a4_2 : decode cJ6_bitCount_0f7a4 2 = .ok (.iconst 1, 1) := by decide +kernel
theorem dJ6_bitCount_0f7a4_3 : decode cJ6_bitCount_0f7a4 3 = .ok (.iushr, 1) := by decide +kernel
theorem dJ6_bitCount_0f7a4_4 : decode cJ6_bitCount_0f7a4 4 = .ok (.ldc_w 265, 3) := by decide +kernel
theorem dJ6_bitCount_0f7a4_7 : decode cJ6_bitCount_0f7a4 7 = .ok (.iand, 1) := by decide +kernel
theorem dJ6_bitCount_0f7a4_8 : decode cJ6_bitCount_0f7a4 8 = .ok (.isub, 1) := by decide +kernel
theorem dJ6_bitCount_0f7a4_9 : decode cJ6_bitCount_0f7a4 9 = .ok (.istore_n 0, 1) := by decide +kernel
theorem dJ6_bitCount_0f7a4_10 : decode cJ6_bitCount_0f7a4 10 = .ok (.iload_n 0, 1) := by decide +kernel
theorem dJ6_bitCount_0f7a4_11 : decode cJ6_bitCount_0f7a4 11 = .ok (.ldc_w 266, 3) := by decide +kernel
theorem dJ6_bitCount_0f7a4_14 : decode cJ6_bitCount_0f7a4 14 = .ok (.iand, 1) := by decide +kernel
theorem dJ6_bitCount_0f7a4_15 : decode cJ6_bitCount_0f7a4 15 = .ok (.iload_n 0, 1) := by decide +kernel
theorem dJ6_bitCount_0f7a4_16 : decode cJ6_bitCount_0f7a4 16 = .ok (.iconst 2, 1) := by decide +kernel
theorem dJ6_bitCount_0f7a4_17 : decode cJ6_bitCount_0f7a4 17 = .ok (.iushr, 1) := by decide +kernel
theorem dJ6_bitCount_0f7a4_18 : decode cJ6_bitCount_0f7a4 18 = .ok (.ldc_w 266, 3) := by decide +kernel
theorem dJ6_bitCount_0f7a4_21 : decode cJ6_bitCount_0f7a4 21 = .ok (.iand, 1) := by decide +kernel
theorem dJ6_bitCount_0f7a4_22 : decode cJ6_bitCount_0f7a4 22 = .ok (.iadd, 1) := by decide +kernel
theorem dJ6_bitCount_0f7a4_23 : decode cJ6_bitCount_0f7a4 23 = .ok (.istore_n 0, 1) := by decide +kernel
theorem dJ6_bitCount_0f7a4_24 : decode cJ6_bitCount_0f7a4 24 = .ok (.iload_n 0, 1) := by decide +kernel
theorem dJ6_bitCount_0f7a4_25 : decode cJ6_bitCount_0f7a4 25 = .ok (.iload_n 0, 1) := by decide +kernel
theorem dJ6_bitCount_0f7a4_26 : decode cJ6_bitCount_0f7a4 26 = .ok (.iconst 4, 1) := by decide +kernel
theorem dJ6_bitCount_0f7a4_27 : decode cJ6_bitCount_0f7a4 27 = .ok (.iushr, 1) := by decide +kernel
theorem dJ6_bitCount_0f7a4_28 : decode cJ6_bitCount_0f7a4 28 = .ok (.iadd, 1) := by decide +kernel
theorem dJ6_bitCount_0f7a4_29 : decode cJ6_bitCount_0f7a4 29 = .ok (.ldc_w 267, 3) := by decide +kernel
theorem dJ6_bitCount_0f7a4_32 : decode cJ6_bitCount_0f7a4 32 = .ok (.iand, 1) := by decide +kernel
theorem dJ6_bitCount_0f7a4_33 : decode cJ6_bitCount_0f7a4 33 = .ok (.istore_n 0, 1) := by decide +kernel
theorem dJ6_bitCount_0f7a4_34 : decode cJ6_bitCount_0f7a4 34 = .ok (.iload_n 0, 1) := by decide +kernel
theorem dJ6_bitCount_0f7a4_35 : decode cJ6_bitCount_0f7a4 35 = .ok (.iload_n 0, 1) := by decide +kernel
theorem dJ6_bitCount_0f7a4_36 : decode cJ6_bitCount_0f7a4 36 = .ok (.bipush 8, 2) := by decide +kernel
theorem dJ6_bitCount_0f7a4_38 : decode cJ6_bitCount_0f7a4 38 = .ok (.iushr, 1) := by decide +kernel
theorem dJ6_bitCount_0f7a4_39 : decode cJ6_bitCount_0f7a4 39 = .ok (.iadd, 1) := by decide +kernel
theorem dJ6_bitCount_0f7a4_40 : decode cJ6_bitCount_0f7a4 40 = .ok (.istore_n 0, 1) := by decide +kernel
theorem dJ6_bitCount_0f7a4_41 : decode cJ6_bitCount_0f7a4 41 = .ok (.iload_n 0, 1) := by decide +kernel
theorem dJ6_bitCount_0f7a4_42 : decode cJ6_bitCount_0f7a4 42 = .ok (.iload_n 0, 1) := by decide +kernel
theorem dJ6_bitCount_0f7a4_43 : decode cJ6_bitCount_0f7a4 43 = .ok (.bipush 16, 2) := by decide +kernel
theorem dJ6_bitCount_0f7a4_45 : decode cJ6_bitCount_0f7a4 45 = .ok (.iushr, 1) := by decide +kernel
theorem dJ6_bitCount_0f7a4_46 : decode cJ6_bitCount_0f7a4 46 = .ok (.iadd, 1) := by decide +kernel
theorem dJ6_bitCount_0f7a4_47 : decode cJ6_bitCount_0f7a4 47 = .ok (.istore_n 0, 1) := by decide +kernel
theorem dJ6_bitCount_0f7a4_48 : decode cJ6_bitCount_0f7a4 48 = .ok (.iload_n 0, 1) := by decide +kernel
theorem dJ6_bitCount_0f7a4_49 : decode cJ6_bitCount_0f7a4 49 = .ok (.bipush 63, 2) := by decide +kernel
theorem dJ6_bitCount_0f7a4_51 : decode cJ6_bitCount_0f7a4 51 = .ok (.iand, 1) := by decide +kernel
theorem dJ6_bitCount_0f7a4_52 : decode cJ6_bitCount_0f7a4 52 = .ok (.ireturn, 1) := by decide +kernel
theorem dJ9_max_7cf53_0 : decode cJ9_max_7cf53 0 = .ok (.iload_n 0, 1) := by decide +kernel
theorem dJ9_max_7cf53_1 : decode cJ9_max_7cf53 1 = .ok (.iload_n 1, 1) := by decide +kernel
theorem dJ9_max_7cf53_2 : decode cJ9_max_7cf53 2 = .ok (.if_icmp .lt 7, 3) := by decide +kernel
theorem dJ9_max_7cf53_5 : decode cJ9_max_7cf53 5 = .ok (.iload_n 0, 1) := by decide +kernel
theorem dJ9_max_7cf53_6 : decode cJ9_max_7cf53 6 = .ok (.goto 4, 3) := by decide +kernel
theorem dJ9_max_7cf53_9 : decode cJ9_max_7cf53 9 = .ok (.iload_n 1, 1) := by decide +kernel
theorem dJ9_max_7cf53_10 : decode cJ9_max_7cf53 10 = .ok (.ireturn, 1) := by decide +kernel
theorem dJ9_min_7cf53_0 : decode cJ9_min_7cf53 0 = .ok (.iload_n 0, 1) := by decide +kernel
theorem dJ9_min_7cf53_1 : decode cJ9_min_7cf53 1 = .ok (.iload_n 1, 1) := by decide +kernel
theorem dJ9_min_7cf53_2 : decode cJ9_min_7cf53 2 = .ok (.if_icmp .gt 7, 3) := by decide +kernel
theorem dJ9_min_7cf53_5 : decode cJ9_min_7cf53 5 = .ok (.iload_n 0, 1) := by decide +kernel
theorem dJ9_min_7cf53_6 : decode cJ9_min_7cf53 6 = .ok (.goto 4, 3) := by decide +kernel
theorem dJ9_min_7cf53_9 : decode cJ9_min_7cf53 9 = .ok (.iload_n 1, 1) := by decide +kernel
theorem dJ9_min_7cf53_10 : decode cJ9_min_7cf53 10 = .ok (.ireturn, 1) := by decide +kernel
end
section
theorem dX6_init_0 : decode cX6_init 0 = .ok (.aload_n 0, 1) := by decide +kernel
theorem dX6_init_1 : decode cX6_init 1 = .ok (.invokespecial 1, 3) := by decide +kernel
theorem dX6_init_4 : decode cX6_init 4 = .ok (.aload_n 0, 1) := by decide +kernel
theorem dX6_init_5 : decode cX6_init 5 = .ok (.bipush 40, 2) := by decide +kernel
theorem dX6_init_7 : decode cX6_init 7 = .ok (.anewarray 9, 3) := by decide +kernel
theorem dX6_init_10 : decode cX6_init 10 = .ok (.putfield 11, 3) := by decide +kernel
theorem dX6_init_13 : decode cX6_init 13 = .ok (.aload_n 0, 1) := by decide +kernel
theorem dX6_init_14 : decode cX6_init 14 = .ok (.iconst 0, 1) := by decide +kernel
theorem dX6_init_15 : decode cX6_init 15 = .ok (.putfield 15, 3) := by decide +kernel
theorem dX6_init_18 : decode cX6_init 18 = .ok (.aload_n 0, 1) := by decide +kernel
theorem dX6_init_19 : decode cX6_init 19 = .ok (.bipush 10, 2) := by decide +kernel
theorem dX6_init_21 : decode cX6_init 21 = .ok (.newarray .int, 2) := by decide +kernel
theorem dX6_init_23 : decode cX6_init 23 = .ok (.putfield 19, 3) := by decide +kernel
theorem dX6_init_26 : decode cX6_init 26 = .ok (.aload_n 0, 1) := by decide +kernel
theorem dX6_init_27 : decode cX6_init 27 = .ok (.new 23, 3) := by decide +kernel
theorem dX6_init_30 : decode cX6_init 30 = .ok (.dup, 1) := by decide +kernel
theorem dX6_init_31 : decode cX6_init 31 = .ok (.invokespecial 25, 3) := by decide +kernel
theorem dX6_init_34 : decode cX6_init 34 = .ok (.putfield 26, 3) := by decide +kernel
theorem dX6_init_37 : decode cX6_init 37 = .ok (.aload_n 0, 1) := by decide +kernel
theorem dX6_init_38 : decode cX6_init 38 = .ok (.new 30, 3) := by decide +kernel
theorem dX6_init_41 : decode cX6_init 41 = .ok (.dup, 1) := by decide +kernel
theorem dX6_init_42 : decode cX6_init 42 = .ok (.invokespecial 32, 3) := by decide +kernel
theorem dX6_init_45 : decode cX6_init 45 = .ok (.putfield 33, 3) := by decide +kernel
theorem dX6_init_48 : decode cX6_init 48 = .ok (.aload_n 0, 1) := by decide +kernel
theorem dX6_init_49 : decode cX6_init 49 = .ok (.new 37, 3) := by decide +kernel
theorem dX6_init_52 : decode cX6_init 52 = .ok (.dup, 1) := by decide +kernel
theorem dX6_init_53 : decode cX6_init 53 = .ok (.invokespecial 39, 3) := by decide +kernel
theorem dX6_init_56 : decode cX6_init 56 = .ok (.putfield 40, 3) := by decide +kernel
theorem dX6_init_59 : decode cX6_init 59 = .ok (.aload_n 0, 1) := by decide +kernel
theorem dX6_init_60 : decode cX6_init 60 = .ok (.bipush 60, 2) := by decide +kernel
theorem dX6_init_62 : decode cX6_init 62 = .ok (.anewarray 44, 3) := by decide +kernel
theorem dX6_init_65 : decode cX6_init 65 = .ok (.putfield 46, 3) := by decide +kernel
theorem dX6_init_68 : decode cX6_init 68 = .ok (.aload_n 0, 1) := by decide +kernel
theorem dX6_init_69 : decode cX6_init 69 = .ok (.iconst 0, 1) := by decide +kernel
theorem dX6_init_70 : decode cX6_init 70 = .ok (.putfield 50, 3) := by decide +kernel
theorem dX6_init_73 : decode cX6_init 73 = .ok (.aload_n 0, 1) := by decide +kernel
theorem dX6_init_74 : decode cX6_init 74 = .ok (.new 53, 3) := by decide +kernel
theorem dX6_init_77 : decode cX6_init 77 = .ok (.dup, 1) := by decide +kernel
theorem dX6_init_78 : decode cX6_init 78 = .ok (.invokespecial 55, 3) := by decide +kernel
theorem dX6_init_81 : decode cX6_init 81 = .ok (.putfield 56, 3) := by decide +kernel
theorem dX6_init_84 : decode cX6_init 84 = .ok (.aload_n 0, 1) := by decide +kernel
theorem dX6_init_85 : decode cX6_init 85 = .ok (.iconst 1, 1) := by decide +kernel
theorem dX6_init_86 : decode cX6_init 86 = .ok (.putfield 60, 3) := by decide +kernel
theorem dX6_init_89 : decode cX6_init 89 = .ok (.aload_n 0, 1) := by decide +kernel
theorem dX6_init_90 : decode cX6_init 90 = .ok (.bipush 10, 2) := by decide +kernel
theorem dX6_init_92 : decode cX6_init 92 = .ok (.putfield 63, 3) := by decide +kernel
theorem dX6_init_95 : decode cX6_init 95 = .ok (.aload_n 0, 1) := by decide +kernel
theorem dX6_init_96 : decode cX6_init 96 = .ok (.iconst 0, 1) := by decide +kernel
theorem dX6_init_97 : decode cX6_init 97 = .ok (.putfield 66, 3) := by decide +kernel
theorem dX6_init_100 : decode cX6_init 100 = .ok (.return_, 1) := by decide +kernel
theorem dX6_string_0 : decode cX6_string 0 = .ok (.iload_n 1, 1) := by decide +kernel
theorem dX6_string_1 : decode cX6_string 1 = .ok (.invokestatic 69, 3) := by decide +kernel
theorem dX6_string_4 : decode cX6_string 4 = .ok (.ifCond .eq 22, 3) := by decide +kernel
theorem dX6_string_7 : decode cX6_string 7 = .ok (.iload_n 2, 1) := by decide +kernel
theorem dX6_string_8 : decode cX6_string 8 = .ok (.iload_n 3, 1) := by decide +kernel
theorem dX6_string_9 : decode cX6_string 9 = .ok (.iload 4, 2) := by decide +kernel
theorem dX6_string_11 : decode cX6_string 11 = .ok (.invokestatic 73, 3) := by decide +kernel
theorem dX6_string_14 : decode cX6_string 14 = .ok (.ifCond .eq 12, 3) := by decide +kernel
theorem dX6_string_17 : decode cX6_string 17 = .ok (.aload_n 0, 1) := by decide +kernel
theorem dX6_string_18 : decode cX6_string 18 = .ok (.getfield 15, 3) := by decide +kernel
theorem dX6_string_21 : decode cX6_string 21 = .ok (.bipush 40, 2) := by decide +kernel
theorem dX6_string_23 : decode cX6_string 23 = .ok (.if_icmp .lt 5, 3) := by decide +kernel
theorem dX6_string_26 : decode cX6_string 26 = .ok (.iconst (-1), 1) := by decide +kernel
theorem dX6_string_27 : decode cX6_string 27 = .ok (.ireturn, 1) := by decide +kernel
theorem dX6_string_28 : decode cX6_string 28 = .ok (.new 9, 3) := by decide +kernel
theorem dX6_string_31 : decode cX6_string 31 = .ok (.dup, 1) := by decide +kernel
theorem dX6_string_32 : decode cX6_string 32 = .ok (.iload_n 1, 1) := by decide +kernel
theorem dX6_string_33 : decode cX6_string 33 = .ok (.invokespecial 77, 3) := by decide +kernel
theorem dX6_string_36 : decode cX6_string 36 = .ok (.astore 5, 2) := by decide +kernel
theorem dX6_string_38 : decode cX6_string 38 = .ok (.aload 5, 2) := by decide +kernel
theorem dX6_string_40 : decode cX6_string 40 = .ok (.iload_n 2, 1) := by decide +kernel
theorem dX6_string_41 : decode cX6_string 41 = .ok (.iload_n 3, 1) := by decide +kernel
theorem dX6_string_42 : decode cX6_string 42 = .ok (.iload 4, 2) := by decide +kernel
theorem dX6_string_44 : decode cX6_string 44 = .ok (.invokevirtual 80, 3) := by decide +kernel
theorem dX6_string_47 : decode cX6_string 47 = .ok (.aload_n 0, 1) := by decide +kernel
theorem dX6_string_48 : decode cX6_string 48 = .ok (.getfield 26, 3) := by decide +kernel
theorem dX6_string_51 : decode cX6_string 51 = .ok (.iload_n 2, 1) := by decide +kernel
theorem dX6_string_52 : decode cX6_string 52 = .ok (.iload 4, 2) := by decide +kernel
theorem dX6_string_54 : decode cX6_string 54 = .ok (.invokevirtual 84, 3) := by decide +kernel
theorem dX6_string_57 : decode cX6_string 57 = .ok (.aload_n 0, 1) := by decide +kernel
theorem dX6_string_58 : decode cX6_string 58 = .ok (.aload 5, 2) := by decide +kernel
theorem dX6_string_60 : decode cX6_string 60 = .ok (.invokevirtual 88, 3) := by decide +kernel
theorem dX6_string_63 : decode cX6_string 63 = .ok (.ireturn, 1) := by decide +kernel
theorem dX6_add_0 : decode cX6_add 0 = .ok (.aload_n 0, 1) := by decide +kernel
theorem dX6_add_1 : decode cX6_add 1 = .ok (.iload_n 1, 1) := by decide +kernel
theorem dX6_add_2 : decode cX6_add 2 = .ok (.invokevirtual 92, 3) := by decide +kernel
theorem dX6_add_5 : decode cX6_add 5 = .ok (.astore 5, 2) := by decide +kernel
theorem dX6_add_7 : decode cX6_add 7 = .ok (.aload 5, 2) := by decide +kernel
theorem dX6_add_9 : decode cX6_add 9 = .ok (.ifnull 26, 3) := by decide +kernel
theorem dX6_add_12 : decode cX6_add 12 = .ok (.iload_n 2, 1) := by decide +kernel
theorem dX6_add_13 : decode cX6_add 13 = .ok (.iload_n 3, 1) := by decide +kernel
theorem dX6_add_14 : decode cX6_add 14 = .ok (.iload 4, 2) := by decide +kernel
theorem dX6_add_16 : decode cX6_add 16 = .ok (.invokestatic 73, 3) := by decide +kernel
theorem dX6_add_19 : decode cX6_add 19 = .ok (.ifCond .eq 16, 3) := by decide +kernel
theorem dX6_add_22 : decode cX6_add 22 = .ok (.aload 5, 2) := by decide +kernel
theorem dX6_add_24 : decode cX6_add 24 = .ok (.getfield 96, 3) := by decide +kernel
theorem dX6_add_27 : decode cX6_add 27 = .ok (.iload 4, 2) := by decide +kernel
theorem dX6_add_29 : decode cX6_add 29 = .ok (.iadd, 1) := by decide +kernel
theorem dX6_add_30 : decode cX6_add 30 = .ok (.bipush 80, 2) := by decide +kernel
theorem dX6_add_32 : decode cX6_add 32 = .ok (.if_icmp .le 5, 3) := by decide +kernel
theorem dX6_add_35 : decode cX6_add 35 = .ok (.iconst (-1), 1) := by decide +kernel
theorem dX6_add_36 : decode cX6_add 36 = .ok (.ireturn, 1) := by decide +kernel
theorem dX6_add_37 : decode cX6_add 37 = .ok (.aload 5, 2) := by decide +kernel
theorem dX6_add_39 : decode cX6_add 39 = .ok (.iload_n 2, 1) := by decide +kernel
theorem dX6_add_40 : decode cX6_add 40 = .ok (.iload_n 3, 1) := by decide +kernel
theorem dX6_add_41 : decode cX6_add 41 = .ok (.iload 4, 2) := by decide +kernel
theorem dX6_add_43 : decode cX6_add 43 = .ok (.invokevirtual 80, 3) := by decide +kernel
theorem dX6_add_46 : decode cX6_add 46 = .ok (.aload_n 0, 1) := by decide +kernel
theorem dX6_add_47 : decode cX6_add 47 = .ok (.getfield 26, 3) := by decide +kernel
theorem dX6_add_50 : decode cX6_add 50 = .ok (.iload_n 2, 1) := by decide +kernel
theorem dX6_add_51 : decode cX6_add 51 = .ok (.iload 4, 2) := by decide +kernel
theorem dX6_add_53 : decode cX6_add 53 = .ok (.invokevirtual 84, 3) := by decide +kernel
theorem dX6_add_56 : decode cX6_add 56 = .ok (.aload 5, 2) := by decide +kernel
theorem dX6_add_58 : decode cX6_add 58 = .ok (.getfield 96, 3) := by decide +kernel
theorem dX6_add_61 : decode cX6_add 61 = .ok (.ireturn, 1) := by decide +kernel
theorem dX6_cut_0 : decode cX6_cut 0 = .ok (.aload_n 0, 1) := by decide +kernel
theorem dX6_cut_1 : decode cX6_cut 1 = .ok (.iload_n 1, 1) := by decide +kernel
theorem dX6_cut_2 : decode cX6_cut 2 = .ok (.invokevirtual 92, 3) := by decide +kernel
theorem dX6_cut_5 : decode cX6_cut 5 = .ok (.astore_n 3, 1) := by decide +kernel
theorem dX6_cut_6 : decode cX6_cut 6 = .ok (.aload_n 3, 1) := by decide +kernel
theorem dX6_cut_7 : decode cX6_cut 7 = .ok (.ifnull 25, 3) := by decide +kernel
theorem dX6_cut_10 : decode cX6_cut 10 = .ok (.iload_n 2, 1) := by decide +kernel
theorem dX6_cut_11 : decode cX6_cut 11 = .ok (.iconst 1, 1) := by decide +kernel
theorem dX6_cut_12 : decode cX6_cut 12 = .ok (.if_icmp .lt 20, 3) := by decide +kernel
theorem dX6_cut_15 : decode cX6_cut 15 = .ok (.iload_n 2, 1) := by decide +kernel
theorem dX6_cut_16 : decode cX6_cut 16 = .ok (.aload_n 3, 1) := by decide +kernel
theorem dX6_cut_17 : decode cX6_cut 17 = .ok (.getfield 96, 3) := by decide +kernel
theorem dX6_cut_20 : decode cX6_cut 20 = .ok (.if_icmp .ge 12, 3) := by decide +kernel
theorem dX6_cut_23 : decode cX6_cut 23 = .ok (.aload_n 0, 1) := by decide +kernel
theorem dX6_cut_24 : decode cX6_cut 24 = .ok (.getfield 15, 3) := by decide +kernel
theorem dX6_cut_27 : decode cX6_cut 27 = .ok (.bipush 40, 2) := by decide +kernel
theorem dX6_cut_29 : decode cX6_cut 29 = .ok (.if_icmp .lt 5, 3) := by decide +kernel
theorem dX6_cut_32 : decode cX6_cut 32 = .ok (.iconst (-1), 1) := by decide +kernel
theorem dX6_cut_33 : decode cX6_cut 33 = .ok (.ireturn, 1) := by decide +kernel
theorem dX6_cut_34 : decode cX6_cut 34 = .ok (.aload_n 0, 1) := by decide +kernel
theorem dX6_cut_35 : decode cX6_cut 35 = .ok (.getfield 33, 3) := by decide +kernel
theorem dX6_cut_38 : decode cX6_cut 38 = .ok (.aload_n 3, 1) := by decide +kernel
theorem dX6_cut_39 : decode cX6_cut 39 = .ok (.invokestatic 99, 3) := by decide +kernel
theorem dX6_cut_42 : decode cX6_cut 42 = .ok (.invokevirtual 102, 3) := by decide +kernel
theorem dX6_cut_45 : decode cX6_cut 45 = .ok (.ifCond .ne 5, 3) := by decide +kernel
theorem dX6_cut_48 : decode cX6_cut 48 = .ok (.iconst (-1), 1) := by decide +kernel
theorem dX6_cut_49 : decode cX6_cut 49 = .ok (.ireturn, 1) := by decide +kernel
theorem dX6_cut_50 : decode cX6_cut 50 = .ok (.new 9, 3) := by decide +kernel
theorem dX6_cut_53 : decode cX6_cut 53 = .ok (.dup, 1) := by decide +kernel
theorem dX6_cut_54 : decode cX6_cut 54 = .ok (.aload_n 3, 1) := by decide +kernel
theorem dX6_cut_55 : decode cX6_cut 55 = .ok (.getfield 105, 3) := by decide +kernel
theorem dX6_cut_58 : decode cX6_cut 58 = .ok (.invokespecial 77, 3) := by decide +kernel
theorem dX6_cut_61 : decode cX6_cut 61 = .ok (.astore 4, 2) := by decide +kernel
theorem dX6_cut_63 : decode cX6_cut 63 = .ok (.aload 4, 2) := by decide +kernel
theorem dX6_cut_65 : decode cX6_cut 65 = .ok (.aload_n 3, 1) := by decide +kernel
theorem dX6_cut_66 : decode cX6_cut 66 = .ok (.iload_n 2, 1) := by decide +kernel
theorem dX6_cut_67 : decode cX6_cut 67 = .ok (.invokevirtual 108, 3) := by decide +kernel
theorem dX6_cut_70 : decode cX6_cut 70 = .ok (.aload_n 3, 1) := by decide +kernel
theorem dX6_cut_71 : decode cX6_cut 71 = .ok (.iload_n 2, 1) := by decide +kernel
theorem dX6_cut_72 : decode cX6_cut 72 = .ok (.putfield 96, 3) := by decide +kernel
theorem dX6_cut_75 : decode cX6_cut 75 = .ok (.aload_n 3, 1) := by decide +kernel
theorem dX6_cut_76 : decode cX6_cut 76 = .ok (.getfield 112, 3) := by decide +kernel
theorem dX6_cut_79 : decode cX6_cut 79 = .ok (.ifCond .eq 10, 3) := by decide +kernel
theorem dX6_cut_82 : decode cX6_cut 82 = .ok (.aload_n 0, 1) := by decide +kernel
theorem dX6_cut_83 : decode cX6_cut 83 = .ok (.aload_n 3, 1) := by decide +kernel
theorem dX6_cut_84 : decode cX6_cut 84 = .ok (.aload 4, 2) := by decide +kernel
theorem dX6_cut_86 : decode cX6_cut 86 = .ok (.invokevirtual 115, 3) := by decide +kernel
theorem dX6_cut_89 : decode cX6_cut 89 = .ok (.aload_n 0, 1) := by decide +kernel
theorem dX6_cut_90 : decode cX6_cut 90 = .ok (.aload 4, 2) := by decide +kernel
theorem dX6_cut_92 : decode cX6_cut 92 = .ok (.invokevirtual 88, 3) := by decide +kernel
theorem dX6_cut_95 : decode cX6_cut 95 = .ok (.ireturn, 1) := by decide +kernel
theorem dX6_join_0 : decode cX6_join 0 = .ok (.aload_n 0, 1) := by decide +kernel
theorem dX6_join_1 : decode cX6_join 1 = .ok (.iload_n 1, 1) := by decide +kernel
theorem dX6_join_2 : decode cX6_join 2 = .ok (.invokevirtual 92, 3) := by decide +kernel
theorem dX6_join_5 : decode cX6_join 5 = .ok (.astore_n 3, 1) := by decide +kernel
theorem dX6_join_6 : decode cX6_join 6 = .ok (.aload_n 0, 1) := by decide +kernel
theorem dX6_join_7 : decode cX6_join 7 = .ok (.iload_n 2, 1) := by decide +kernel
theorem dX6_join_8 : decode cX6_join 8 = .ok (.invokevirtual 92, 3) := by decide +kernel
theorem dX6_join_11 : decode cX6_join 11 = .ok (.astore 4, 2) := by decide +kernel
theorem dX6_join_13 : decode cX6_join 13 = .ok (.aload_n 3, 1) := by decide +kernel
theorem dX6_join_14 : decode cX6_join 14 = .ok (.ifnull 25, 3) := by decide +kernel
theorem dX6_join_17 : decode cX6_join 17 = .ok (.aload 4, 2) := by decide +kernel
theorem dX6_join_19 : decode cX6_join 19 = .ok (.ifnull 20, 3) := by decide +kernel
theorem dX6_join_22 : decode cX6_join 22 = .ok (.iload_n 1, 1) := by decide +kernel
theorem dX6_join_23 : decode cX6_join 23 = .ok (.iload_n 2, 1) := by decide +kernel
theorem dX6_join_24 : decode cX6_join 24 = .ok (.if_icmp .eq 15, 3) := by decide +kernel
theorem dX6_join_27 : decode cX6_join 27 = .ok (.aload_n 3, 1) := by decide +kernel
theorem dX6_join_28 : decode cX6_join 28 = .ok (.getfield 105, 3) := by decide +kernel
theorem dX6_join_31 : decode cX6_join 31 = .ok (.aload 4, 2) := by decide +kernel
theorem dX6_join_33 : decode cX6_join 33 = .ok (.getfield 105, 3) := by decide +kernel
theorem dX6_join_36 : decode cX6_join 36 = .ok (.if_icmp .eq 5, 3) := by decide +kernel
theorem dX6_join_39 : decode cX6_join 39 = .ok (.iconst (-1), 1) := by decide +kernel
theorem dX6_join_40 : decode cX6_join 40 = .ok (.ireturn, 1) := by decide +kernel
theorem dX6_join_41 : decode cX6_join 41 = .ok (.aload_n 3, 1) := by decide +kernel
theorem dX6_join_42 : decode cX6_join 42 = .ok (.getfield 96, 3) := by decide +kernel
theorem dX6_join_45 : decode cX6_join 45 = .ok (.aload 4, 2) := by decide +kernel
theorem dX6_join_47 : decode cX6_join 47 = .ok (.getfield 96, 3) := by decide +kernel
theorem dX6_join_50 : decode cX6_join 50 = .ok (.iadd, 1) := by decide +kernel
theorem dX6_join_51 : decode cX6_join 51 = .ok (.bipush 80, 2) := by decide +kernel
theorem dX6_join_53 : decode cX6_join 53 = .ok (.if_icmp .gt 23, 3) := by decide +kernel
theorem dX6_join_56 : decode cX6_join 56 = .ok (.aload_n 0, 1) := by decide +kernel
theorem dX6_join_57 : decode cX6_join 57 = .ok (.getfield 33, 3) := by decide +kernel
theorem dX6_join_60 : decode cX6_join 60 = .ok (.aload_n 3, 1) := by decide +kernel
theorem dX6_join_61 : decode cX6_join 61 = .ok (.invokestatic 99, 3) := by decide +kernel
theorem dX6_join_64 : decode cX6_join 64 = .ok (.aload 4, 2) := by decide +kernel
theorem dX6_join_66 : decode cX6_join 66 = .ok (.invokestatic 99, 3) := by decide +kernel
theorem dX6_join_69 : decode cX6_join 69 = .ok (.iadd, 1) := by decide +kernel
theorem dX6_join_70 : decode cX6_join 70 = .ok (.invokevirtual 102, 3) := by decide +kernel
theorem dX6_join_73 : decode cX6_join 73 = .ok (.ifCond .ne 5, 3) := by decide +kernel
theorem dX6_join_76 : decode cX6_join 76 = .ok (.iconst (-1), 1) := by decide +kernel
theorem dX6_join_77 : decode cX6_join 77 = .ok (.ireturn, 1) := by decide +kernel
theorem dX6_join_78 : decode cX6_join 78 = .ok (.aload_n 3, 1) := by decide +kernel
theorem dX6_join_79 : decode cX6_join 79 = .ok (.aload 4, 2) := by decide +kernel
theorem dX6_join_81 : decode cX6_join 81 = .ok (.iconst 0, 1) := by decide +kernel
theorem dX6_join_82 : decode cX6_join 82 = .ok (.invokevirtual 108, 3) := by decide +kernel
theorem dX6_join_85 : decode cX6_join 85 = .ok (.aload 4, 2) := by decide +kernel
theorem dX6_join_87 : decode cX6_join 87 = .ok (.iconst 0, 1) := by decide +kernel
theorem dX6_join_88 : decode cX6_join 88 = .ok (.putfield 96, 3) := by decide +kernel
theorem dX6_join_91 : decode cX6_join 91 = .ok (.aload_n 0, 1) := by decide +kernel
theorem dX6_join_92 : decode cX6_join 92 = .ok (.aload_n 3, 1) := by decide +kernel
theorem dX6_join_93 : decode cX6_join 93 = .ok (.aload 4, 2) := by decide +kernel
theorem dX6_join_95 : decode cX6_join 95 = .ok (.invokevirtual 119, 3) := by decide +kernel
theorem dX6_join_98 : decode cX6_join 98 = .ok (.aload_n 3, 1) := by decide +kernel
theorem dX6_join_99 : decode cX6_join 99 = .ok (.getfield 96, 3) := by decide +kernel
theorem dX6_join_102 : decode cX6_join 102 = .ok (.ireturn, 1) := by decide +kernel
theorem dX6_turn_0 : decode cX6_turn 0 = .ok (.aload_n 0, 1) := by decide +kernel
theorem dX6_turn_1 : decode cX6_turn 1 = .ok (.iload_n 1, 1) := by decide +kernel
theorem dX6_turn_2 : decode cX6_turn 2 = .ok (.invokevirtual 92, 3) := by decide +kernel
theorem dX6_turn_5 : decode cX6_turn 5 = .ok (.astore_n 2, 1) := by decide +kernel
theorem dX6_turn_6 : decode cX6_turn 6 = .ok (.aload_n 2, 1) := by decide +kernel
theorem dX6_turn_7 : decode cX6_turn 7 = .ok (.ifnonnull 5, 3) := by decide +kernel
theorem dX6_turn_10 : decode cX6_turn 10 = .ok (.iconst 0, 1) := by decide +kernel
theorem dX6_turn_11 : decode cX6_turn 11 = .ok (.ireturn, 1) := by decide +kernel
theorem dX6_turn_12 : decode cX6_turn 12 = .ok (.aload_n 2, 1) := by decide +kernel
theorem dX6_turn_13 : decode cX6_turn 13 = .ok (.invokevirtual 122, 3) := by decide +kernel
theorem dX6_turn_16 : decode cX6_turn 16 = .ok (.iconst 1, 1) := by decide +kernel
theorem dX6_turn_17 : decode cX6_turn 17 = .ok (.ireturn, 1) := by decide +kernel
theorem dX6_name_0 : decode cX6_name 0 = .ok (.aload_n 0, 1) := by decide +kernel
theorem dX6_name_1 : decode cX6_name 1 = .ok (.iload_n 1, 1) := by decide +kernel
theorem dX6_name_2 : decode cX6_name 2 = .ok (.invokevirtual 92, 3) := by decide +kernel
theorem dX6_name_5 : decode cX6_name 5 = .ok (.astore_n 3, 1) := by decide +kernel
theorem dX6_name_6 : decode cX6_name 6 = .ok (.aload_n 3, 1) := by decide +kernel
theorem dX6_name_7 : decode cX6_name 7 = .ok (.ifnull 19, 3) := by decide +kernel
theorem dX6_name_10 : decode cX6_name 10 = .ok (.iload_n 2, 1) := by decide +kernel
theorem dX6_name_11 : decode cX6_name 11 = .ok (.invokestatic 125, 3) := by decide +kernel
theorem dX6_name_14 : decode cX6_name 14 = .ok (.ifCond .eq 12, 3) := by decide +kernel
theorem dX6_name_17 : decode cX6_name 17 = .ok (.aload_n 0, 1) := by decide +kernel
theorem dX6_name_18 : decode cX6_name 18 = .ok (.iload_n 2, 1) := by decide +kernel
theorem dX6_name_19 : decode cX6_name 19 = .ok (.invokevirtual 128, 3) := by decide +kernel
theorem dX6_name_22 : decode cX6_name 22 = .ok (.iconst (-1), 1) := by decide +kernel
theorem dX6_name_23 : decode cX6_name 23 = .ok (.if_icmp .eq 5, 3) := by decide +kernel
theorem dX6_name_26 : decode cX6_name 26 = .ok (.iconst 0, 1) := by decide +kernel
theorem dX6_name_27 : decode cX6_name 27 = .ok (.ireturn, 1) := by decide +kernel
theorem dX6_name_28 : decode cX6_name 28 = .ok (.aload_n 0, 1) := by decide +kernel
theorem dX6_name_29 : decode cX6_name 29 = .ok (.getfield 33, 3) := by decide +kernel
theorem dX6_name_32 : decode cX6_name 32 = .ok (.aload_n 3, 1) := by decide +kernel
theorem dX6_name_33 : decode cX6_name 33 = .ok (.invokestatic 99, 3) := by decide +kernel
theorem dX6_name_36 : decode cX6_name 36 = .ok (.iconst 1, 1) := by decide +kernel
theorem dX6_name_37 : decode cX6_name 37 = .ok (.iadd, 1) := by decide +kernel
theorem dX6_name_38 : decode cX6_name 38 = .ok (.invokevirtual 102, 3) := by decide +kernel
theorem dX6_name_41 : decode cX6_name 41 = .ok (.ifCond .ne 5, 3) := by decide +kernel
theorem dX6_name_44 : decode cX6_name 44 = .ok (.iconst 0, 1) := by decide +kernel
theorem dX6_name_45 : decode cX6_name 45 = .ok (.ireturn, 1) := by decide +kernel
theorem dX6_name_46 : decode cX6_name 46 = .ok (.aload_n 0, 1) := by decide +kernel
theorem dX6_name_47 : decode cX6_name 47 = .ok (.aload_n 3, 1) := by decide +kernel
theorem dX6_name_48 : decode cX6_name 48 = .ok (.invokevirtual 132, 3) := by decide +kernel
theorem dX6_name_51 : decode cX6_name 51 = .ok (.aload_n 3, 1) := by decide +kernel
theorem dX6_name_52 : decode cX6_name 52 = .ok (.iload_n 2, 1) := by decide +kernel
theorem dX6_name_53 : decode cX6_name 53 = .ok (.putfield 112, 3) := by decide +kernel
theorem dX6_name_56 : decode cX6_name 56 = .ok (.aload_n 0, 1) := by decide +kernel
theorem dX6_name_57 : decode cX6_name 57 = .ok (.getfield 33, 3) := by decide +kernel
theorem dX6_name_60 : decode cX6_name 60 = .ok (.iload_n 2, 1) := by decide +kernel
theorem dX6_name_61 : decode cX6_name 61 = .ok (.iconst 1, 1) := by decide +kernel
theorem dX6_name_62 : decode cX6_name 62 = .ok (.aload_n 3, 1) := by decide +kernel
theorem dX6_name_63 : decode cX6_name 63 = .ok (.getfield 105, 3) := by decide +kernel
theorem dX6_name_66 : decode cX6_name 66 = .ok (.aload_n 0, 1) := by decide +kernel
theorem dX6_name_67 : decode cX6_name 67 = .ok (.getfield 66, 3) := by decide +kernel
theorem dX6_name_70 : decode cX6_name 70 = .ok (.invokevirtual 136, 3) := by decide +kernel
theorem dX6_name_73 : decode cX6_name 73 = .ok (.iconst 1, 1) := by decide +kernel
theorem dX6_name_74 : decode cX6_name 74 = .ok (.ireturn, 1) := by decide +kernel
theorem dX6_give_0 : decode cX6_give 0 = .ok (.aload_n 0, 1) := by decide +kernel
theorem dX6_give_1 : decode cX6_give 1 = .ok (.iload_n 1, 1) := by decide +kernel
theorem dX6_give_2 : decode cX6_give 2 = .ok (.invokevirtual 92, 3) := by decide +kernel
theorem dX6_give_5 : decode cX6_give 5 = .ok (.astore_n 3, 1) := by decide +kernel
theorem dX6_give_6 : decode cX6_give 6 = .ok (.aload_n 3, 1) := by decide +kernel
theorem dX6_give_7 : decode cX6_give 7 = .ok (.ifnull 32, 3) := by decide +kernel
theorem dX6_give_10 : decode cX6_give 10 = .ok (.iload_n 2, 1) := by decide +kernel
theorem dX6_give_11 : decode cX6_give 11 = .ok (.invokestatic 69, 3) := by decide +kernel
theorem dX6_give_14 : decode cX6_give 14 = .ok (.ifCond .eq 25, 3) := by decide +kernel
theorem dX6_give_17 : decode cX6_give 17 = .ok (.aload_n 3, 1) := by decide +kernel
theorem dX6_give_18 : decode cX6_give 18 = .ok (.getfield 105, 3) := by decide +kernel
theorem dX6_give_21 : decode cX6_give 21 = .ok (.iload_n 2, 1) := by decide +kernel
theorem dX6_give_22 : decode cX6_give 22 = .ok (.if_icmp .eq 17, 3) := by decide +kernel
theorem dX6_give_25 : decode cX6_give 25 = .ok (.aload_n 0, 1) := by decide +kernel
theorem dX6_give_26 : decode cX6_give 26 = .ok (.getfield 33, 3) := by decide +kernel
theorem dX6_give_29 : decode cX6_give 29 = .ok (.aload_n 3, 1) := by decide +kernel
theorem dX6_give_30 : decode cX6_give 30 = .ok (.invokestatic 99, 3) := by decide +kernel
theorem dX6_give_33 : decode cX6_give 33 = .ok (.invokevirtual 102, 3) := by decide +kernel
theorem dX6_give_36 : decode cX6_give 36 = .ok (.ifCond .ne 5, 3) := by decide +kernel
theorem dX6_give_39 : decode cX6_give 39 = .ok (.iconst 0, 1) := by decide +kernel
theorem dX6_give_40 : decode cX6_give 40 = .ok (.ireturn, 1) := by decide +kernel
theorem dX6_give_41 : decode cX6_give 41 = .ok (.aload_n 0, 1) := by decide +kernel
theorem dX6_give_42 : decode cX6_give 42 = .ok (.aload_n 3, 1) := by decide +kernel
theorem dX6_give_43 : decode cX6_give 43 = .ok (.iload_n 2, 1) := by decide +kernel
theorem dX6_give_44 : decode cX6_give 44 = .ok (.invokevirtual 140, 3) := by decide +kernel
theorem dX6_give_47 : decode cX6_give 47 = .ok (.iconst 1, 1) := by decide +kernel
theorem dX6_give_48 : decode cX6_give 48 = .ok (.ireturn, 1) := by decide +kernel
theorem dX6_of_0 : decode cX6_of 0 = .ok (.aload_n 0, 1) := by decide +kernel
theorem dX6_of_1 : decode cX6_of 1 = .ok (.iload_n 1, 1) := by decide +kernel
theorem dX6_of_2 : decode cX6_of 2 = .ok (.invokevirtual 143, 3) := by decide +kernel
theorem dX6_of_5 : decode cX6_of 5 = .ok (.astore_n 3, 1) := by decide +kernel
theorem dX6_of_6 : decode cX6_of 6 = .ok (.aload_n 3, 1) := by decide +kernel
theorem dX6_of_7 : decode cX6_of 7 = .ok (.ifnull 13, 3) := by decide +kernel
theorem dX6_of_10 : decode cX6_of 10 = .ok (.iload_n 2, 1) := by decide +kernel
theorem dX6_of_11 : decode cX6_of 11 = .ok (.ifCond .lt 9, 3) := by decide +kernel
theorem dX6_of_14 : decode cX6_of 14 = .ok (.iload_n 2, 1) := by decide +kernel
theorem dX6_of_15 : decode cX6_of 15 = .ok (.bipush 6, 2) := by decide +kernel
theorem dX6_of_17 : decode cX6_of 17 = .ok (.if_icmp .le 11, 3) := by decide +kernel
theorem dX6_of_20 : decode cX6_of 20 = .ok (.new 146, 3) := by decide +kernel
theorem dX6_of_23 : decode cX6_of 23 = .ok (.dup, 1) := by decide +kernel
theorem dX6_of_24 : decode cX6_of 24 = .ok (.invokespecial 148, 3) := by decide +kernel
theorem dX6_of_27 : decode cX6_of 27 = .ok (.athrow, 1) := by decide +kernel
theorem dX6_of_28 : decode cX6_of 28 = .ok (.iload_n 2, 1) := by decide +kernel
theorem dX6_of_29 : decode cX6_of 29 = .ok (.tableswitch 70 0 5 #[39, 44, 49, 54, 59, 65], 39) := by decide +kernel
theorem dX6_of_68 : decode cX6_of 68 = .ok (.aload_n 3, 1) := by decide +kernel
theorem dX6_of_69 : decode cX6_of 69 = .ok (.getfield 96, 3) := by decide +kernel
theorem dX6_of_72 : decode cX6_of 72 = .ok (.ireturn, 1) := by decide +kernel
theorem dX6_of_73 : decode cX6_of 73 = .ok (.aload_n 3, 1) := by decide +kernel
theorem dX6_of_74 : decode cX6_of 74 = .ok (.getfield 105, 3) := by decide +kernel
theorem dX6_of_77 : decode cX6_of 77 = .ok (.ireturn, 1) := by decide +kernel
theorem dX6_of_78 : decode cX6_of 78 = .ok (.aload_n 3, 1) := by decide +kernel
theorem dX6_of_79 : decode cX6_of 79 = .ok (.getfield 112, 3) := by decide +kernel
theorem dX6_of_82 : decode cX6_of 82 = .ok (.ireturn, 1) := by decide +kernel
theorem dX6_of_83 : decode cX6_of 83 = .ok (.aload_n 3, 1) := by decide +kernel
theorem dX6_of_84 : decode cX6_of 84 = .ok (.invokevirtual 149, 3) := by decide +kernel
theorem dX6_of_87 : decode cX6_of 87 = .ok (.ireturn, 1) := by decide +kernel
theorem dX6_of_88 : decode cX6_of 88 = .ok (.aload_n 0, 1) := by decide +kernel
theorem dX6_of_89 : decode cX6_of 89 = .ok (.aload_n 3, 1) := by decide +kernel
theorem dX6_of_90 : decode cX6_of 90 = .ok (.invokevirtual 153, 3) := by decide +kernel
theorem dX6_of_93 : decode cX6_of 93 = .ok (.ireturn, 1) := by decide +kernel
theorem dX6_of_94 : decode cX6_of 94 = .ok (.aload_n 3, 1) := by decide +kernel
theorem dX6_of_95 : decode cX6_of 95 = .ok (.invokevirtual 156, 3) := by decide +kernel
theorem dX6_of_98 : decode cX6_of 98 = .ok (.ireturn, 1) := by decide +kernel
theorem dX6_of_99 : decode cX6_of 99 = .ok (.aload_n 3, 1) := by decide +kernel
theorem dX6_of_100 : decode cX6_of 100 = .ok (.invokevirtual 159, 3) := by decide +kernel
theorem dX6_of_103 : decode cX6_of 103 = .ok (.ireturn, 1) := by decide +kernel
theorem dX6_bead_0 : decode cX6_bead 0 = .ok (.aload_n 0, 1) := by decide +kernel
theorem dX6_bead_1 : decode cX6_bead 1 = .ok (.iload_n 1, 1) := by decide +kernel
theorem dX6_bead_2 : decode cX6_bead 2 = .ok (.invokevirtual 143, 3) := by decide +kernel
theorem dX6_bead_5 : decode cX6_bead 5 = .ok (.astore 4, 2) := by decide +kernel
theorem dX6_bead_7 : decode cX6_bead 7 = .ok (.aload 4, 2) := by decide +kernel
theorem dX6_bead_9 : decode cX6_bead 9 = .ok (.ifnonnull 5, 3) := by decide +kernel
theorem dX6_bead_12 : decode cX6_bead 12 = .ok (.iconst (-1), 1) := by decide +kernel
theorem dX6_bead_13 : decode cX6_bead 13 = .ok (.ireturn, 1) := by decide +kernel
theorem dX6_bead_14 : decode cX6_bead 14 = .ok (.iload_n 3, 1) := by decide +kernel
theorem dX6_bead_15 : decode cX6_bead 15 = .ok (.lookupswitch 39 #[(0, 25), (1, 32)], 25) := by decide +kernel
theorem dX6_bead_40 : decode cX6_bead 40 = .ok (.aload 4, 2) := by decide +kernel
theorem dX6_bead_42 : decode cX6_bead 42 = .ok (.iload_n 2, 1) := by decide +kernel
theorem dX6_bead_43 : decode cX6_bead 43 = .ok (.invokevirtual 162, 3) := by decide +kernel
theorem dX6_bead_46 : decode cX6_bead 46 = .ok (.ireturn, 1) := by decide +kernel
theorem dX6_bead_47 : decode cX6_bead 47 = .ok (.aload 4, 2) := by decide +kernel
theorem dX6_bead_49 : decode cX6_bead 49 = .ok (.iload_n 2, 1) := by decide +kernel
theorem dX6_bead_50 : decode cX6_bead 50 = .ok (.invokevirtual 165, 3) := by decide +kernel
theorem dX6_bead_53 : decode cX6_bead 53 = .ok (.ireturn, 1) := by decide +kernel
theorem dX6_bead_54 : decode cX6_bead 54 = .ok (.iconst (-1), 1) := by decide +kernel
theorem dX6_bead_55 : decode cX6_bead 55 = .ok (.ireturn, 1) := by decide +kernel
theorem dX6_named_0 : decode cX6_named 0 = .ok (.iload_n 1, 1) := by decide +kernel
theorem dX6_named_1 : decode cX6_named 1 = .ok (.invokestatic 125, 3) := by decide +kernel
theorem dX6_named_4 : decode cX6_named 4 = .ok (.ifCond .ne 5, 3) := by decide +kernel
theorem dX6_named_7 : decode cX6_named 7 = .ok (.iconst (-1), 1) := by decide +kernel
theorem dX6_named_8 : decode cX6_named 8 = .ok (.ireturn, 1) := by decide +kernel
theorem dX6_named_9 : decode cX6_named 9 = .ok (.iconst 0, 1) := by decide +kernel
theorem dX6_named_10 : decode cX6_named 10 = .ok (.istore_n 2, 1) := by decide +kernel
theorem dX6_named_11 : decode cX6_named 11 = .ok (.iload_n 2, 1) := by decide +kernel
theorem dX6_named_12 : decode cX6_named 12 = .ok (.aload_n 0, 1) := by decide +kernel
theorem dX6_named_13 : decode cX6_named 13 = .ok (.getfield 15, 3) := by decide +kernel
theorem dX6_named_16 : decode cX6_named 16 = .ok (.if_icmp .ge 29, 3) := by decide +kernel
theorem dX6_named_19 : decode cX6_named 19 = .ok (.aload_n 0, 1) := by decide +kernel
theorem dX6_named_20 : decode cX6_named 20 = .ok (.iload_n 2, 1) := by decide +kernel
theorem dX6_named_21 : decode cX6_named 21 = .ok (.invokevirtual 143, 3) := by decide +kernel
theorem dX6_named_24 : decode cX6_named 24 = .ok (.astore_n 3, 1) := by decide +kernel
theorem dX6_named_25 : decode cX6_named 25 = .ok (.aload_n 3, 1) := by decide +kernel
theorem dX6_named_26 : decode cX6_named 26 = .ok (.ifnull 13, 3) := by decide +kernel
theorem dX6_named_29 : decode cX6_named 29 = .ok (.aload_n 3, 1) := by decide +kernel
theorem dX6_named_30 : decode cX6_named 30 = .ok (.getfield 112, 3) := by decide +kernel
theorem dX6_named_33 : decode cX6_named 33 = .ok (.iload_n 1, 1) := by decide +kernel
theorem dX6_named_34 : decode cX6_named 34 = .ok (.if_icmp .ne 5, 3) := by decide +kernel
theorem dX6_named_37 : decode cX6_named 37 = .ok (.iload_n 2, 1) := by decide +kernel
theorem dX6_named_38 : decode cX6_named 38 = .ok (.ireturn, 1) := by decide +kernel
theorem dX6_named_39 : decode cX6_named 39 = .ok (.iinc 2 1, 3) := by decide +kernel
theorem dX6_named_42 : decode cX6_named 42 = .ok (.goto (-31), 3) := by decide +kernel
theorem dX6_named_45 : decode cX6_named 45 = .ok (.iconst (-1), 1) := by decide +kernel
theorem dX6_named_46 : decode cX6_named 46 = .ok (.ireturn, 1) := by decide +kernel
theorem dX6_tale_0 : decode cX6_tale 0 = .ok (.iload_n 1, 1) := by decide +kernel
theorem dX6_tale_1 : decode cX6_tale 1 = .ok (.invokestatic 125, 3) := by decide +kernel
theorem dX6_tale_4 : decode cX6_tale 4 = .ok (.ifCond .ne 5, 3) := by decide +kernel
theorem dX6_tale_7 : decode cX6_tale 7 = .ok (.iconst (-1), 1) := by decide +kernel
theorem dX6_tale_8 : decode cX6_tale 8 = .ok (.ireturn, 1) := by decide +kernel
theorem dX6_tale_9 : decode cX6_tale 9 = .ok (.aload_n 0, 1) := by decide +kernel
theorem dX6_tale_10 : decode cX6_tale 10 = .ok (.getfield 33, 3) := by decide +kernel
theorem dX6_tale_13 : decode cX6_tale 13 = .ok (.aload_n 0, 1) := by decide +kernel
theorem dX6_tale_14 : decode cX6_tale 14 = .ok (.getfield 33, 3) := by decide +kernel
theorem dX6_tale_17 : decode cX6_tale 17 = .ok (.iload_n 1, 1) := by decide +kernel
theorem dX6_tale_18 : decode cX6_tale 18 = .ok (.iload_n 2, 1) := by decide +kernel
theorem dX6_tale_19 : decode cX6_tale 19 = .ok (.invokevirtual 168, 3) := by decide +kernel
theorem dX6_tale_22 : decode cX6_tale 22 = .ok (.iload_n 3, 1) := by decide +kernel
theorem dX6_tale_23 : decode cX6_tale 23 = .ok (.invokevirtual 172, 3) := by decide +kernel
theorem dX6_tale_26 : decode cX6_tale 26 = .ok (.ireturn, 1) := by decide +kernel
theorem dX6_set_0 : decode cX6_set 0 = .ok (.iload_n 1, 1) := by decide +kernel
theorem dX6_set_1 : decode cX6_set 1 = .ok (.tableswitch 107 0 5 #[39, 55, 72, 89, 95, 101], 39) := by decide +kernel
theorem dX6_set_40 : decode cX6_set 40 = .ok (.aload_n 0, 1) := by decide +kernel
theorem dX6_set_41 : decode cX6_set 41 = .ok (.getfield 26, 3) := by decide +kernel
theorem dX6_set_44 : decode cX6_set 44 = .ok (.getfield 175, 3) := by decide +kernel
theorem dX6_set_47 : decode cX6_set 47 = .ok (.iload_n 2, 1) := by decide +kernel
theorem dX6_set_48 : decode cX6_set 48 = .ok (.iload_n 3, 1) := by decide +kernel
theorem dX6_set_49 : decode cX6_set 49 = .ok (.iconst 1, 1) := by decide +kernel
theorem dX6_set_50 : decode cX6_set 50 = .ok (.bipush 100, 2) := by decide +kernel
theorem dX6_set_52 : decode cX6_set 52 = .ok (.invokestatic 178, 3) := by decide +kernel
theorem dX6_set_55 : decode cX6_set 55 = .ok (.ireturn, 1) := by decide +kernel
theorem dX6_set_56 : decode cX6_set 56 = .ok (.aload_n 0, 1) := by decide +kernel
theorem dX6_set_57 : decode cX6_set 57 = .ok (.getfield 26, 3) := by decide +kernel
theorem dX6_set_60 : decode cX6_set 60 = .ok (.getfield 182, 3) := by decide +kernel
theorem dX6_set_63 : decode cX6_set 63 = .ok (.iload_n 2, 1) := by decide +kernel
theorem dX6_set_64 : decode cX6_set 64 = .ok (.iload_n 3, 1) := by decide +kernel
theorem dX6_set_65 : decode cX6_set 65 = .ok (.iconst 0, 1) := by decide +kernel
theorem dX6_set_66 : decode cX6_set 66 = .ok (.sipush 500, 3) := by decide +kernel
theorem dX6_set_69 : decode cX6_set 69 = .ok (.invokestatic 178, 3) := by decide +kernel
theorem dX6_set_72 : decode cX6_set 72 = .ok (.ireturn, 1) := by decide +kernel
theorem dX6_set_73 : decode cX6_set 73 = .ok (.aload_n 0, 1) := by decide +kernel
theorem dX6_set_74 : decode cX6_set 74 = .ok (.getfield 26, 3) := by decide +kernel
theorem dX6_set_77 : decode cX6_set 77 = .ok (.getfield 185, 3) := by decide +kernel
theorem dX6_set_80 : decode cX6_set 80 = .ok (.iload_n 2, 1) := by decide +kernel
theorem dX6_set_81 : decode cX6_set 81 = .ok (.iload_n 3, 1) := by decide +kernel
theorem dX6_set_82 : decode cX6_set 82 = .ok (.iconst 1, 1) := by decide +kernel
theorem dX6_set_83 : decode cX6_set 83 = .ok (.sipush 1000, 3) := by decide +kernel
theorem dX6_set_86 : decode cX6_set 86 = .ok (.invokestatic 178, 3) := by decide +kernel
theorem dX6_set_89 : decode cX6_set 89 = .ok (.ireturn, 1) := by decide +kernel
theorem dX6_set_90 : decode cX6_set 90 = .ok (.aload_n 0, 1) := by decide +kernel
theorem dX6_set_91 : decode cX6_set 91 = .ok (.iload_n 3, 1) := by decide +kernel
theorem dX6_set_92 : decode cX6_set 92 = .ok (.invokevirtual 188, 3) := by decide +kernel
theorem dX6_set_95 : decode cX6_set 95 = .ok (.ireturn, 1) := by decide +kernel
theorem dX6_set_96 : decode cX6_set 96 = .ok (.aload_n 0, 1) := by decide +kernel
theorem dX6_set_97 : decode cX6_set 97 = .ok (.iload_n 3, 1) := by decide +kernel
theorem dX6_set_98 : decode cX6_set 98 = .ok (.invokevirtual 191, 3) := by decide +kernel
theorem dX6_set_101 : decode cX6_set 101 = .ok (.ireturn, 1) := by decide +kernel
theorem dX6_set_102 : decode cX6_set 102 = .ok (.aload_n 0, 1) := by decide +kernel
theorem dX6_set_103 : decode cX6_set 103 = .ok (.iload_n 3, 1) := by decide +kernel
theorem dX6_set_104 : decode cX6_set 104 = .ok (.invokevirtual 194, 3) := by decide +kernel
theorem dX6_set_107 : decode cX6_set 107 = .ok (.ireturn, 1) := by decide +kernel
theorem dX6_set_108 : decode cX6_set 108 = .ok (.iconst (-1), 1) := by decide +kernel
theorem dX6_set_109 : decode cX6_set 109 = .ok (.ireturn, 1) := by decide +kernel
theorem dX6_rate_0 : decode cX6_rate 0 = .ok (.iload_n 1, 1) := by decide +kernel
theorem dX6_rate_1 : decode cX6_rate 1 = .ok (.invokestatic 197, 3) := by decide +kernel
theorem dX6_rate_4 : decode cX6_rate 4 = .ok (.ifCond .eq 14, 3) := by decide +kernel
theorem dX6_rate_7 : decode cX6_rate 7 = .ok (.aload_n 0, 1) := by decide +kernel
theorem dX6_rate_8 : decode cX6_rate 8 = .ok (.getfield 26, 3) := by decide +kernel
theorem dX6_rate_11 : decode cX6_rate 11 = .ok (.iload_n 1, 1) := by decide +kernel
theorem dX6_rate_12 : decode cX6_rate 12 = .ok (.invokevirtual 200, 3) := by decide +kernel
theorem dX6_rate_15 : decode cX6_rate 15 = .ok (.goto 4, 3) := by decide +kernel
theorem dX6_rate_18 : decode cX6_rate 18 = .ok (.iconst (-1), 1) := by decide +kernel
theorem dX6_rate_19 : decode cX6_rate 19 = .ok (.ireturn, 1) := by decide +kernel
theorem dX6_rich_0 : decode cX6_rich 0 = .ok (.iload_n 1, 1) := by decide +kernel
theorem dX6_rich_1 : decode cX6_rich 1 = .ok (.invokestatic 69, 3) := by decide +kernel
theorem dX6_rich_4 : decode cX6_rich 4 = .ok (.ifCond .ne 5, 3) := by decide +kernel
theorem dX6_rich_7 : decode cX6_rich 7 = .ok (.iconst (-1), 1) := by decide +kernel
theorem dX6_rich_8 : decode cX6_rich 8 = .ok (.ireturn, 1) := by decide +kernel
theorem dX6_rich_9 : decode cX6_rich 9 = .ok (.iconst 0, 1) := by decide +kernel
theorem dX6_rich_10 : decode cX6_rich 10 = .ok (.istore_n 2, 1) := by decide +kernel
theorem dX6_rich_11 : decode cX6_rich 11 = .ok (.iconst 0, 1) := by decide +kernel
theorem dX6_rich_12 : decode cX6_rich 12 = .ok (.istore_n 3, 1) := by decide +kernel
theorem dX6_rich_13 : decode cX6_rich 13 = .ok (.iload_n 3, 1) := by decide +kernel
theorem dX6_rich_14 : decode cX6_rich 14 = .ok (.aload_n 0, 1) := by decide +kernel
theorem dX6_rich_15 : decode cX6_rich 15 = .ok (.getfield 15, 3) := by decide +kernel
theorem dX6_rich_18 : decode cX6_rich 18 = .ok (.if_icmp .ge 39, 3) := by decide +kernel
theorem dX6_rich_21 : decode cX6_rich 21 = .ok (.aload_n 0, 1) := by decide +kernel
theorem dX6_rich_22 : decode cX6_rich 22 = .ok (.iload_n 3, 1) := by decide +kernel
theorem dX6_rich_23 : decode cX6_rich 23 = .ok (.invokevirtual 143, 3) := by decide +kernel
theorem dX6_rich_26 : decode cX6_rich 26 = .ok (.astore 4, 2) := by decide +kernel
theorem dX6_rich_28 : decode cX6_rich 28 = .ok (.aload 4, 2) := by decide +kernel
theorem dX6_rich_30 : decode cX6_rich 30 = .ok (.ifnull 21, 3) := by decide +kernel
theorem dX6_rich_33 : decode cX6_rich 33 = .ok (.aload 4, 2) := by decide +kernel
theorem dX6_rich_35 : decode cX6_rich 35 = .ok (.getfield 105, 3) := by decide +kernel
theorem dX6_rich_38 : decode cX6_rich 38 = .ok (.iload_n 1, 1) := by decide +kernel
theorem dX6_rich_39 : decode cX6_rich 39 = .ok (.if_icmp .ne 12, 3) := by decide +kernel
theorem dX6_rich_42 : decode cX6_rich 42 = .ok (.iload_n 2, 1) := by decide +kernel
theorem dX6_rich_43 : decode cX6_rich 43 = .ok (.aload_n 0, 1) := by decide +kernel
theorem dX6_rich_44 : decode cX6_rich 44 = .ok (.aload 4, 2) := by decide +kernel
theorem dX6_rich_46 : decode cX6_rich 46 = .ok (.invokevirtual 153, 3) := by decide +kernel
theorem dX6_rich_49 : decode cX6_rich 49 = .ok (.iadd, 1) := by decide +kernel
theorem dX6_rich_50 : decode cX6_rich 50 = .ok (.istore_n 2, 1) := by decide +kernel
theorem dX6_rich_51 : decode cX6_rich 51 = .ok (.iinc 3 1, 3) := by decide +kernel
theorem dX6_rich_54 : decode cX6_rich 54 = .ok (.goto (-41), 3) := by decide +kernel
theorem dX6_rich_57 : decode cX6_rich 57 = .ok (.iload_n 2, 1) := by decide +kernel
theorem dX6_rich_58 : decode cX6_rich 58 = .ok (.ireturn, 1) := by decide +kernel
theorem dX6_drawn_0 : decode cX6_drawn 0 = .ok (.aload_n 0, 1) := by decide +kernel
theorem dX6_drawn_1 : decode cX6_drawn 1 = .ok (.iload_n 1, 1) := by decide +kernel
theorem dX6_drawn_2 : decode cX6_drawn 2 = .ok (.invokevirtual 143, 3) := by decide +kernel
theorem dX6_drawn_5 : decode cX6_drawn 5 = .ok (.astore 4, 2) := by decide +kernel
theorem dX6_drawn_7 : decode cX6_drawn 7 = .ok (.aload 4, 2) := by decide +kernel
theorem dX6_drawn_9 : decode cX6_drawn 9 = .ok (.ifnull 32, 3) := by decide +kernel
theorem dX6_drawn_12 : decode cX6_drawn 12 = .ok (.iload_n 2, 1) := by decide +kernel
theorem dX6_drawn_13 : decode cX6_drawn 13 = .ok (.ifCond .lt 28, 3) := by decide +kernel
theorem dX6_drawn_16 : decode cX6_drawn 16 = .ok (.iload_n 2, 1) := by decide +kernel
theorem dX6_drawn_17 : decode cX6_drawn 17 = .ok (.aload 4, 2) := by decide +kernel
theorem dX6_drawn_19 : decode cX6_drawn 19 = .ok (.getfield 96, 3) := by decide +kernel
theorem dX6_drawn_22 : decode cX6_drawn 22 = .ok (.if_icmp .ge 19, 3) := by decide +kernel
theorem dX6_drawn_25 : decode cX6_drawn 25 = .ok (.iload_n 3, 1) := by decide +kernel
theorem dX6_drawn_26 : decode cX6_drawn 26 = .ok (.iconst 1, 1) := by decide +kernel
theorem dX6_drawn_27 : decode cX6_drawn 27 = .ok (.if_icmp .lt 14, 3) := by decide +kernel
theorem dX6_drawn_30 : decode cX6_drawn 30 = .ok (.iload_n 3, 1) := by decide +kernel
theorem dX6_drawn_31 : decode cX6_drawn 31 = .ok (.aload 4, 2) := by decide +kernel
theorem dX6_drawn_33 : decode cX6_drawn 33 = .ok (.getfield 96, 3) := by decide +kernel
theorem dX6_drawn_36 : decode cX6_drawn 36 = .ok (.iload_n 2, 1) := by decide +kernel
theorem dX6_drawn_37 : decode cX6_drawn 37 = .ok (.isub, 1) := by decide +kernel
theorem dX6_drawn_38 : decode cX6_drawn 38 = .ok (.if_icmp .le 5, 3) := by decide +kernel
theorem dX6_drawn_41 : decode cX6_drawn 41 = .ok (.iconst (-1), 1) := by decide +kernel
theorem dX6_drawn_42 : decode cX6_drawn 42 = .ok (.ireturn, 1) := by decide +kernel
theorem dX6_drawn_43 : decode cX6_drawn 43 = .ok (.aload 4, 2) := by decide +kernel
theorem dX6_drawn_45 : decode cX6_drawn 45 = .ok (.iload_n 2, 1) := by decide +kernel
theorem dX6_drawn_46 : decode cX6_drawn 46 = .ok (.iload_n 3, 1) := by decide +kernel
theorem dX6_drawn_47 : decode cX6_drawn 47 = .ok (.invokevirtual 203, 3) := by decide +kernel
theorem dX6_drawn_50 : decode cX6_drawn 50 = .ok (.ireturn, 1) := by decide +kernel
theorem dX6_cheat_0 : decode cX6_cheat 0 = .ok (.aload_n 0, 1) := by decide +kernel
theorem dX6_cheat_1 : decode cX6_cheat 1 = .ok (.iload_n 1, 1) := by decide +kernel
theorem dX6_cheat_2 : decode cX6_cheat 2 = .ok (.invokevirtual 143, 3) := by decide +kernel
theorem dX6_cheat_5 : decode cX6_cheat 5 = .ok (.astore_n 3, 1) := by decide +kernel
theorem dX6_cheat_6 : decode cX6_cheat 6 = .ok (.aload_n 3, 1) := by decide +kernel
theorem dX6_cheat_7 : decode cX6_cheat 7 = .ok (.ifnonnull 5, 3) := by decide +kernel
theorem dX6_cheat_10 : decode cX6_cheat 10 = .ok (.iconst (-1), 1) := by decide +kernel
theorem dX6_cheat_11 : decode cX6_cheat 11 = .ok (.ireturn, 1) := by decide +kernel
theorem dX6_cheat_12 : decode cX6_cheat 12 = .ok (.iconst 0, 1) := by decide +kernel
theorem dX6_cheat_13 : decode cX6_cheat 13 = .ok (.istore 4, 2) := by decide +kernel
theorem dX6_cheat_15 : decode cX6_cheat 15 = .ok (.iload 4, 2) := by decide +kernel
theorem dX6_cheat_17 : decode cX6_cheat 17 = .ok (.aload_n 3, 1) := by decide +kernel
theorem dX6_cheat_18 : decode cX6_cheat 18 = .ok (.getfield 96, 3) := by decide +kernel
theorem dX6_cheat_21 : decode cX6_cheat 21 = .ok (.if_icmp .ge 22, 3) := by decide +kernel
theorem dX6_cheat_24 : decode cX6_cheat 24 = .ok (.aload_n 3, 1) := by decide +kernel
theorem dX6_cheat_25 : decode cX6_cheat 25 = .ok (.iload 4, 2) := by decide +kernel
theorem dX6_cheat_27 : decode cX6_cheat 27 = .ok (.invokevirtual 162, 3) := by decide +kernel
theorem dX6_cheat_30 : decode cX6_cheat 30 = .ok (.iload_n 2, 1) := by decide +kernel
theorem dX6_cheat_31 : decode cX6_cheat 31 = .ok (.if_icmp .ge 6, 3) := by decide +kernel
theorem dX6_cheat_34 : decode cX6_cheat 34 = .ok (.iload 4, 2) := by decide +kernel
theorem dX6_cheat_36 : decode cX6_cheat 36 = .ok (.ireturn, 1) := by decide +kernel
theorem dX6_cheat_37 : decode cX6_cheat 37 = .ok (.iinc 4 1, 3) := by decide +kernel
theorem dX6_cheat_40 : decode cX6_cheat 40 = .ok (.goto (-25), 3) := by decide +kernel
theorem dX6_cheat_43 : decode cX6_cheat 43 = .ok (.iconst (-1), 1) := by decide +kernel
theorem dX6_cheat_44 : decode cX6_cheat 44 = .ok (.ireturn, 1) := by decide +kernel
theorem dX6_blame_0 : decode cX6_blame 0 = .ok (.iload_n 1, 1) := by decide +kernel
theorem dX6_blame_1 : decode cX6_blame 1 = .ok (.invokestatic 197, 3) := by decide +kernel
theorem dX6_blame_4 : decode cX6_blame 4 = .ok (.ifCond .ne 5, 3) := by decide +kernel
theorem dX6_blame_7 : decode cX6_blame 7 = .ok (.iconst (-1), 1) := by decide +kernel
theorem dX6_blame_8 : decode cX6_blame 8 = .ok (.ireturn, 1) := by decide +kernel
theorem dX6_blame_9 : decode cX6_blame 9 = .ok (.aload_n 0, 1) := by decide +kernel
theorem dX6_blame_10 : decode cX6_blame 10 = .ok (.iload_n 1, 1) := by decide +kernel
theorem dX6_blame_11 : decode cX6_blame 11 = .ok (.invokevirtual 206, 3) := by decide +kernel
theorem dX6_blame_14 : decode cX6_blame 14 = .ok (.iconst (-1), 1) := by decide +kernel
theorem dX6_blame_15 : decode cX6_blame 15 = .ok (.istore_n 2, 1) := by decide +kernel
theorem dX6_blame_16 : decode cX6_blame 16 = .ok (.iconst 0, 1) := by decide +kernel
theorem dX6_blame_17 : decode cX6_blame 17 = .ok (.istore_n 3, 1) := by decide +kernel
theorem dX6_blame_18 : decode cX6_blame 18 = .ok (.iconst 0, 1) := by decide +kernel
theorem dX6_blame_19 : decode cX6_blame 19 = .ok (.istore 4, 2) := by decide +kernel
theorem dX6_blame_21 : decode cX6_blame 21 = .ok (.iload 4, 2) := by decide +kernel
theorem dX6_blame_23 : decode cX6_blame 23 = .ok (.bipush 10, 2) := by decide +kernel
theorem dX6_blame_25 : decode cX6_blame 25 = .ok (.if_icmp .ge 31, 3) := by decide +kernel
theorem dX6_blame_28 : decode cX6_blame 28 = .ok (.aload_n 0, 1) := by decide +kernel
theorem dX6_blame_29 : decode cX6_blame 29 = .ok (.getfield 19, 3) := by decide +kernel
theorem dX6_blame_32 : decode cX6_blame 32 = .ok (.iload 4, 2) := by decide +kernel
theorem dX6_blame_34 : decode cX6_blame 34 = .ok (.iaload, 1) := by decide +kernel
theorem dX6_blame_35 : decode cX6_blame 35 = .ok (.iload_n 3, 1) := by decide +kernel
theorem dX6_blame_36 : decode cX6_blame 36 = .ok (.if_icmp .le 14, 3) := by decide +kernel
theorem dX6_blame_39 : decode cX6_blame 39 = .ok (.aload_n 0, 1) := by decide +kernel
theorem dX6_blame_40 : decode cX6_blame 40 = .ok (.getfield 19, 3) := by decide +kernel
theorem dX6_blame_43 : decode cX6_blame 43 = .ok (.iload 4, 2) := by decide +kernel
theorem dX6_blame_45 : decode cX6_blame 45 = .ok (.iaload, 1) := by decide +kernel
theorem dX6_blame_46 : decode cX6_blame 46 = .ok (.istore_n 3, 1) := by decide +kernel
theorem dX6_blame_47 : decode cX6_blame 47 = .ok (.iload 4, 2) := by decide +kernel
theorem dX6_blame_49 : decode cX6_blame 49 = .ok (.istore_n 2, 1) := by decide +kernel
theorem dX6_blame_50 : decode cX6_blame 50 = .ok (.iinc 4 1, 3) := by decide +kernel
theorem dX6_blame_53 : decode cX6_blame 53 = .ok (.goto (-32), 3) := by decide +kernel
theorem dX6_blame_56 : decode cX6_blame 56 = .ok (.iload_n 2, 1) := by decide +kernel
theorem dX6_blame_57 : decode cX6_blame 57 = .ok (.ireturn, 1) := by decide +kernel
theorem dX6_serves_0 : decode cX6_serves 0 = .ok (.aload_n 0, 1) := by decide +kernel
theorem dX6_serves_1 : decode cX6_serves 1 = .ok (.iload_n 1, 1) := by decide +kernel
theorem dX6_serves_2 : decode cX6_serves 2 = .ok (.iload_n 2, 1) := by decide +kernel
theorem dX6_serves_3 : decode cX6_serves 3 = .ok (.invokevirtual 209, 3) := by decide +kernel
theorem dX6_serves_6 : decode cX6_serves 6 = .ok (.ireturn, 1) := by decide +kernel
theorem dX6_pay_0 : decode cX6_pay 0 = .ok (.iload_n 2, 1) := by decide +kernel
theorem dX6_pay_1 : decode cX6_pay 1 = .ok (.invokestatic 69, 3) := by decide +kernel
theorem dX6_pay_4 : decode cX6_pay 4 = .ok (.ifCond .eq 8, 3) := by decide +kernel
theorem dX6_pay_7 : decode cX6_pay 7 = .ok (.iload_n 1, 1) := by decide +kernel
theorem dX6_pay_8 : decode cX6_pay 8 = .ok (.iload_n 2, 1) := by decide +kernel
theorem dX6_pay_9 : decode cX6_pay 9 = .ok (.if_icmp .ne 5, 3) := by decide +kernel
theorem dX6_pay_12 : decode cX6_pay 12 = .ok (.iconst (-1), 1) := by decide +kernel
theorem dX6_pay_13 : decode cX6_pay 13 = .ok (.ireturn, 1) := by decide +kernel
theorem dX6_pay_14 : decode cX6_pay 14 = .ok (.aload_n 0, 1) := by decide +kernel
theorem dX6_pay_15 : decode cX6_pay 15 = .ok (.iload_n 1, 1) := by decide +kernel
theorem dX6_pay_16 : decode cX6_pay 16 = .ok (.iload_n 3, 1) := by decide +kernel
theorem dX6_pay_17 : decode cX6_pay 17 = .ok (.invokevirtual 209, 3) := by decide +kernel
theorem dX6_pay_20 : decode cX6_pay 20 = .ok (.istore 4, 2) := by decide +kernel
theorem dX6_pay_22 : decode cX6_pay 22 = .ok (.iload 4, 2) := by decide +kernel
theorem dX6_pay_24 : decode cX6_pay 24 = .ok (.ifCond .ge 6, 3) := by decide +kernel
theorem dX6_pay_27 : decode cX6_pay 27 = .ok (.iload 4, 2) := by decide +kernel
theorem dX6_pay_29 : decode cX6_pay 29 = .ok (.ireturn, 1) := by decide +kernel
theorem dX6_pay_30 : decode cX6_pay 30 = .ok (.aload_n 0, 1) := by decide +kernel
theorem dX6_pay_31 : decode cX6_pay 31 = .ok (.getfield 33, 3) := by decide +kernel
theorem dX6_pay_34 : decode cX6_pay 34 = .ok (.aload_n 0, 1) := by decide +kernel
theorem dX6_pay_35 : decode cX6_pay 35 = .ok (.invokevirtual 212, 3) := by decide +kernel
theorem dX6_pay_38 : decode cX6_pay 38 = .ok (.invokevirtual 102, 3) := by decide +kernel
theorem dX6_pay_41 : decode cX6_pay 41 = .ok (.ifCond .ne 5, 3) := by decide +kernel
theorem dX6_pay_44 : decode cX6_pay 44 = .ok (.iconst (-1), 1) := by decide +kernel
theorem dX6_pay_45 : decode cX6_pay 45 = .ok (.ireturn, 1) := by decide +kernel
theorem dX6_pay_46 : decode cX6_pay 46 = .ok (.aload_n 0, 1) := by decide +kernel
theorem dX6_pay_47 : decode cX6_pay 47 = .ok (.iload_n 2, 1) := by decide +kernel
theorem dX6_pay_48 : decode cX6_pay 48 = .ok (.invokevirtual 215, 3) := by decide +kernel
theorem dX6_pay_51 : decode cX6_pay 51 = .ok (.iload 4, 2) := by decide +kernel
theorem dX6_pay_53 : decode cX6_pay 53 = .ok (.iload_n 3, 1) := by decide +kernel
theorem dX6_pay_54 : decode cX6_pay 54 = .ok (.isub, 1) := by decide +kernel
theorem dX6_pay_55 : decode cX6_pay 55 = .ok (.ireturn, 1) := by decide +kernel
theorem dX6_owe_0 : decode cX6_owe 0 = .ok (.iload_n 1, 1) := by decide +kernel
theorem dX6_owe_1 : decode cX6_owe 1 = .ok (.invokestatic 69, 3) := by decide +kernel
theorem dX6_owe_4 : decode cX6_owe 4 = .ok (.ifCond .eq 23, 3) := by decide +kernel
theorem dX6_owe_7 : decode cX6_owe 7 = .ok (.iload_n 2, 1) := by decide +kernel
theorem dX6_owe_8 : decode cX6_owe 8 = .ok (.invokestatic 69, 3) := by decide +kernel
theorem dX6_owe_11 : decode cX6_owe 11 = .ok (.ifCond .eq 16, 3) := by decide +kernel
theorem dX6_owe_14 : decode cX6_owe 14 = .ok (.iload_n 1, 1) := by decide +kernel
theorem dX6_owe_15 : decode cX6_owe 15 = .ok (.iload_n 2, 1) := by decide +kernel
theorem dX6_owe_16 : decode cX6_owe 16 = .ok (.if_icmp .eq 11, 3) := by decide +kernel
theorem dX6_owe_19 : decode cX6_owe 19 = .ok (.iload 4, 2) := by decide +kernel
theorem dX6_owe_21 : decode cX6_owe 21 = .ok (.invokestatic 197, 3) := by decide +kernel
theorem dX6_owe_24 : decode cX6_owe 24 = .ok (.ifCond .ne 5, 3) := by decide +kernel
theorem dX6_owe_27 : decode cX6_owe 27 = .ok (.iconst (-1), 1) := by decide +kernel
theorem dX6_owe_28 : decode cX6_owe 28 = .ok (.ireturn, 1) := by decide +kernel
theorem dX6_owe_29 : decode cX6_owe 29 = .ok (.iload_n 3, 1) := by decide +kernel
theorem dX6_owe_30 : decode cX6_owe 30 = .ok (.iconst 1, 1) := by decide +kernel
theorem dX6_owe_31 : decode cX6_owe 31 = .ok (.if_icmp .lt 18, 3) := by decide +kernel
theorem dX6_owe_34 : decode cX6_owe 34 = .ok (.iload_n 3, 1) := by decide +kernel
theorem dX6_owe_35 : decode cX6_owe 35 = .ok (.bipush 99, 2) := by decide +kernel
theorem dX6_owe_37 : decode cX6_owe 37 = .ok (.if_icmp .gt 12, 3) := by decide +kernel
theorem dX6_owe_40 : decode cX6_owe 40 = .ok (.aload_n 0, 1) := by decide +kernel
theorem dX6_owe_41 : decode cX6_owe 41 = .ok (.getfield 50, 3) := by decide +kernel
theorem dX6_owe_44 : decode cX6_owe 44 = .ok (.bipush 60, 2) := by decide +kernel
theorem dX6_owe_46 : decode cX6_owe 46 = .ok (.if_icmp .lt 5, 3) := by decide +kernel
theorem dX6_owe_49 : decode cX6_owe 49 = .ok (.iconst (-1), 1) := by decide +kernel
theorem dX6_owe_50 : decode cX6_owe 50 = .ok (.ireturn, 1) := by decide +kernel
theorem dX6_owe_51 : decode cX6_owe 51 = .ok (.aload_n 0, 1) := by decide +kernel
theorem dX6_owe_52 : decode cX6_owe 52 = .ok (.getfield 46, 3) := by decide +kernel
theorem dX6_owe_55 : decode cX6_owe 55 = .ok (.aload_n 0, 1) := by decide +kernel
theorem dX6_owe_56 : decode cX6_owe 56 = .ok (.getfield 50, 3) := by decide +kernel
theorem dX6_owe_59 : decode cX6_owe 59 = .ok (.new 44, 3) := by decide +kernel
theorem dX6_owe_62 : decode cX6_owe 62 = .ok (.dup, 1) := by decide +kernel
theorem dX6_owe_63 : decode cX6_owe 63 = .ok (.iload_n 1, 1) := by decide +kernel
theorem dX6_owe_64 : decode cX6_owe 64 = .ok (.iload_n 2, 1) := by decide +kernel
theorem dX6_owe_65 : decode cX6_owe 65 = .ok (.iload_n 3, 1) := by decide +kernel
theorem dX6_owe_66 : decode cX6_owe 66 = .ok (.iload 4, 2) := by decide +kernel
theorem dX6_owe_68 : decode cX6_owe 68 = .ok (.invokespecial 218, 3) := by decide +kernel
theorem dX6_owe_71 : decode cX6_owe 71 = .ok (.aastore, 1) := by decide +kernel
theorem dX6_owe_72 : decode cX6_owe 72 = .ok (.aload_n 0, 1) := by decide +kernel
theorem dX6_owe_73 : decode cX6_owe 73 = .ok (.dup, 1) := by decide +kernel
theorem dX6_owe_74 : decode cX6_owe 74 = .ok (.getfield 50, 3) := by decide +kernel
theorem dX6_owe_77 : decode cX6_owe 77 = .ok (.iconst 1, 1) := by decide +kernel
theorem dX6_owe_78 : decode cX6_owe 78 = .ok (.iadd, 1) := by decide +kernel
theorem dX6_owe_79 : decode cX6_owe 79 = .ok (.putfield 50, 3) := by decide +kernel
theorem dX6_owe_82 : decode cX6_owe 82 = .ok (.aload_n 0, 1) := by decide +kernel
theorem dX6_owe_83 : decode cX6_owe 83 = .ok (.getfield 50, 3) := by decide +kernel
theorem dX6_owe_86 : decode cX6_owe 86 = .ok (.iconst 1, 1) := by decide +kernel
theorem dX6_owe_87 : decode cX6_owe 87 = .ok (.isub, 1) := by decide +kernel
theorem dX6_owe_88 : decode cX6_owe 88 = .ok (.ireturn, 1) := by decide +kernel
theorem dX6_settle_0 : decode cX6_settle 0 = .ok (.aload_n 0, 1) := by decide +kernel
theorem dX6_settle_1 : decode cX6_settle 1 = .ok (.iload_n 1, 1) := by decide +kernel
theorem dX6_settle_2 : decode cX6_settle 2 = .ok (.invokevirtual 220, 3) := by decide +kernel
theorem dX6_settle_5 : decode cX6_settle 5 = .ok (.astore_n 3, 1) := by decide +kernel
theorem dX6_settle_6 : decode cX6_settle 6 = .ok (.aload_n 0, 1) := by decide +kernel
theorem dX6_settle_7 : decode cX6_settle 7 = .ok (.iload_n 2, 1) := by decide +kernel
theorem dX6_settle_8 : decode cX6_settle 8 = .ok (.invokevirtual 92, 3) := by decide +kernel
theorem dX6_settle_11 : decode cX6_settle 11 = .ok (.astore 4, 2) := by decide +kernel
theorem dX6_settle_13 : decode cX6_settle 13 = .ok (.aload_n 3, 1) := by decide +kernel
theorem dX6_settle_14 : decode cX6_settle 14 = .ok (.ifnull 27, 3) := by decide +kernel
theorem dX6_settle_17 : decode cX6_settle 17 = .ok (.aload 4, 2) := by decide +kernel
theorem dX6_settle_19 : decode cX6_settle 19 = .ok (.ifnull 22, 3) := by decide +kernel
theorem dX6_settle_22 : decode cX6_settle 22 = .ok (.aload_n 3, 1) := by decide +kernel
theorem dX6_settle_23 : decode cX6_settle 23 = .ok (.invokevirtual 224, 3) := by decide +kernel
theorem dX6_settle_26 : decode cX6_settle 26 = .ok (.ifCond .ne 15, 3) := by decide +kernel
theorem dX6_settle_29 : decode cX6_settle 29 = .ok (.aload 4, 2) := by decide +kernel
theorem dX6_settle_31 : decode cX6_settle 31 = .ok (.getfield 105, 3) := by decide +kernel
theorem dX6_settle_34 : decode cX6_settle 34 = .ok (.aload_n 3, 1) := by decide +kernel
theorem dX6_settle_35 : decode cX6_settle 35 = .ok (.getfield 228, 3) := by decide +kernel
theorem dX6_settle_38 : decode cX6_settle 38 = .ok (.if_icmp .eq 5, 3) := by decide +kernel
theorem dX6_settle_41 : decode cX6_settle 41 = .ok (.iconst 0, 1) := by decide +kernel
theorem dX6_settle_42 : decode cX6_settle 42 = .ok (.ireturn, 1) := by decide +kernel
theorem dX6_settle_43 : decode cX6_settle 43 = .ok (.aload 4, 2) := by decide +kernel
theorem dX6_settle_45 : decode cX6_settle 45 = .ok (.invokevirtual 156, 3) := by decide +kernel
theorem dX6_settle_48 : decode cX6_settle 48 = .ok (.aload_n 3, 1) := by decide +kernel
theorem dX6_settle_49 : decode cX6_settle 49 = .ok (.getfield 231, 3) := by decide +kernel
theorem dX6_settle_52 : decode cX6_settle 52 = .ok (.if_icmp .lt 30, 3) := by decide +kernel
theorem dX6_settle_55 : decode cX6_settle 55 = .ok (.aload 4, 2) := by decide +kernel
theorem dX6_settle_57 : decode cX6_settle 57 = .ok (.invokevirtual 149, 3) := by decide +kernel
theorem dX6_settle_60 : decode cX6_settle 60 = .ok (.aload_n 3, 1) := by decide +kernel
theorem dX6_settle_61 : decode cX6_settle 61 = .ok (.getfield 233, 3) := by decide +kernel
theorem dX6_settle_64 : decode cX6_settle 64 = .ok (.if_icmp .lt 18, 3) := by decide +kernel
theorem dX6_settle_67 : decode cX6_settle 67 = .ok (.aload_n 0, 1) := by decide +kernel
theorem dX6_settle_68 : decode cX6_settle 68 = .ok (.getfield 33, 3) := by decide +kernel
theorem dX6_settle_71 : decode cX6_settle 71 = .ok (.aload 4, 2) := by decide +kernel
theorem dX6_settle_73 : decode cX6_settle 73 = .ok (.invokestatic 99, 3) := by decide +kernel
theorem dX6_settle_76 : decode cX6_settle 76 = .ok (.invokevirtual 102, 3) := by decide +kernel
theorem dX6_settle_79 : decode cX6_settle 79 = .ok (.ifCond .ne 5, 3) := by decide +kernel
theorem dX6_settle_82 : decode cX6_settle 82 = .ok (.iconst 0, 1) := by decide +kernel
theorem dX6_settle_83 : decode cX6_settle 83 = .ok (.ireturn, 1) := by decide +kernel
theorem dX6_settle_84 : decode cX6_settle 84 = .ok (.aload_n 0, 1) := by decide +kernel
theorem dX6_settle_85 : decode cX6_settle 85 = .ok (.aload 4, 2) := by decide +kernel
theorem dX6_settle_87 : decode cX6_settle 87 = .ok (.aload_n 3, 1) := by decide +kernel
theorem dX6_settle_88 : decode cX6_settle 88 = .ok (.getfield 236, 3) := by decide +kernel
theorem dX6_settle_91 : decode cX6_settle 91 = .ok (.invokevirtual 140, 3) := by decide +kernel
theorem dX6_settle_94 : decode cX6_settle 94 = .ok (.aload_n 3, 1) := by decide +kernel
theorem dX6_settle_95 : decode cX6_settle 95 = .ok (.iconst 0, 1) := by decide +kernel
theorem dX6_settle_96 : decode cX6_settle 96 = .ok (.putfield 231, 3) := by decide +kernel
theorem dX6_settle_99 : decode cX6_settle 99 = .ok (.aload_n 3, 1) := by decide +kernel
theorem dX6_settle_100 : decode cX6_settle 100 = .ok (.aload_n 0, 1) := by decide +kernel
theorem dX6_settle_101 : decode cX6_settle 101 = .ok (.getfield 66, 3) := by decide +kernel
theorem dX6_settle_104 : decode cX6_settle 104 = .ok (.putfield 239, 3) := by decide +kernel
theorem dX6_settle_107 : decode cX6_settle 107 = .ok (.iconst 1, 1) := by decide +kernel
theorem dX6_settle_108 : decode cX6_settle 108 = .ok (.ireturn, 1) := by decide +kernel
theorem dX6_debt_0 : decode cX6_debt 0 = .ok (.aload_n 0, 1) := by decide +kernel
theorem dX6_debt_1 : decode cX6_debt 1 = .ok (.iload_n 1, 1) := by decide +kernel
theorem dX6_debt_2 : decode cX6_debt 2 = .ok (.invokevirtual 220, 3) := by decide +kernel
theorem dX6_debt_5 : decode cX6_debt 5 = .ok (.astore_n 3, 1) := by decide +kernel
theorem dX6_debt_6 : decode cX6_debt 6 = .ok (.aload_n 3, 1) := by decide +kernel
theorem dX6_debt_7 : decode cX6_debt 7 = .ok (.ifnonnull 5, 3) := by decide +kernel
theorem dX6_debt_10 : decode cX6_debt 10 = .ok (.iconst (-1), 1) := by decide +kernel
theorem dX6_debt_11 : decode cX6_debt 11 = .ok (.ireturn, 1) := by decide +kernel
theorem dX6_debt_12 : decode cX6_debt 12 = .ok (.iload_n 2, 1) := by decide +kernel
theorem dX6_debt_13 : decode cX6_debt 13 = .ok (.tableswitch 60 0 4 #[35, 40, 45, 50, 55], 35) := by decide +kernel
theorem dX6_debt_48 : decode cX6_debt 48 = .ok (.aload_n 3, 1) := by decide +kernel
theorem dX6_debt_49 : decode cX6_debt 49 = .ok (.getfield 228, 3) := by decide +kernel
theorem dX6_debt_52 : decode cX6_debt 52 = .ok (.ireturn, 1) := by decide +kernel
theorem dX6_debt_53 : decode cX6_debt 53 = .ok (.aload_n 3, 1) := by decide +kernel
theorem dX6_debt_54 : decode cX6_debt 54 = .ok (.getfield 236, 3) := by decide +kernel
theorem dX6_debt_57 : decode cX6_debt 57 = .ok (.ireturn, 1) := by decide +kernel
theorem dX6_debt_58 : decode cX6_debt 58 = .ok (.aload_n 3, 1) := by decide +kernel
theorem dX6_debt_59 : decode cX6_debt 59 = .ok (.getfield 231, 3) := by decide +kernel
theorem dX6_debt_62 : decode cX6_debt 62 = .ok (.ireturn, 1) := by decide +kernel
theorem dX6_debt_63 : decode cX6_debt 63 = .ok (.aload_n 3, 1) := by decide +kernel
theorem dX6_debt_64 : decode cX6_debt 64 = .ok (.getfield 233, 3) := by decide +kernel
theorem dX6_debt_67 : decode cX6_debt 67 = .ok (.ireturn, 1) := by decide +kernel
theorem dX6_debt_68 : decode cX6_debt 68 = .ok (.aload_n 3, 1) := by decide +kernel
theorem dX6_debt_69 : decode cX6_debt 69 = .ok (.getfield 239, 3) := by decide +kernel
theorem dX6_debt_72 : decode cX6_debt 72 = .ok (.ireturn, 1) := by decide +kernel
theorem dX6_debt_73 : decode cX6_debt 73 = .ok (.iconst (-1), 1) := by decide +kernel
theorem dX6_debt_74 : decode cX6_debt 74 = .ok (.ireturn, 1) := by decide +kernel
theorem dX6_year_0 : decode cX6_year 0 = .ok (.aload_n 0, 1) := by decide +kernel
theorem dX6_year_1 : decode cX6_year 1 = .ok (.getfield 66, 3) := by decide +kernel
theorem dX6_year_4 : decode cX6_year 4 = .ok (.bipush 100, 2) := by decide +kernel
theorem dX6_year_6 : decode cX6_year 6 = .ok (.if_icmp .lt 5, 3) := by decide +kernel
theorem dX6_year_9 : decode cX6_year 9 = .ok (.iconst (-1), 1) := by decide +kernel
theorem dX6_year_10 : decode cX6_year 10 = .ok (.ireturn, 1) := by decide +kernel
theorem dX6_year_11 : decode cX6_year 11 = .ok (.aload_n 0, 1) := by decide +kernel
theorem dX6_year_12 : decode cX6_year 12 = .ok (.dup, 1) := by decide +kernel
theorem dX6_year_13 : decode cX6_year 13 = .ok (.getfield 66, 3) := by decide +kernel
theorem dX6_year_16 : decode cX6_year 16 = .ok (.iconst 1, 1) := by decide +kernel
theorem dX6_year_17 : decode cX6_year 17 = .ok (.iadd, 1) := by decide +kernel
theorem dX6_year_18 : decode cX6_year 18 = .ok (.putfield 66, 3) := by decide +kernel
theorem dX6_year_21 : decode cX6_year 21 = .ok (.iconst 0, 1) := by decide +kernel
theorem dX6_year_22 : decode cX6_year 22 = .ok (.istore_n 1, 1) := by decide +kernel
theorem dX6_year_23 : decode cX6_year 23 = .ok (.iload_n 1, 1) := by decide +kernel
theorem dX6_year_24 : decode cX6_year 24 = .ok (.aload_n 0, 1) := by decide +kernel
theorem dX6_year_25 : decode cX6_year 25 = .ok (.getfield 50, 3) := by decide +kernel
theorem dX6_year_28 : decode cX6_year 28 = .ok (.if_icmp .ge 27, 3) := by decide +kernel
theorem dX6_year_31 : decode cX6_year 31 = .ok (.aload_n 0, 1) := by decide +kernel
theorem dX6_year_32 : decode cX6_year 32 = .ok (.iload_n 1, 1) := by decide +kernel
theorem dX6_year_33 : decode cX6_year 33 = .ok (.invokevirtual 220, 3) := by decide +kernel
theorem dX6_year_36 : decode cX6_year 36 = .ok (.astore_n 2, 1) := by decide +kernel
theorem dX6_year_37 : decode cX6_year 37 = .ok (.aload_n 2, 1) := by decide +kernel
theorem dX6_year_38 : decode cX6_year 38 = .ok (.ifnull 11, 3) := by decide +kernel
theorem dX6_year_41 : decode cX6_year 41 = .ok (.aload_n 2, 1) := by decide +kernel
theorem dX6_year_42 : decode cX6_year 42 = .ok (.aload_n 0, 1) := by decide +kernel
theorem dX6_year_43 : decode cX6_year 43 = .ok (.getfield 63, 3) := by decide +kernel
theorem dX6_year_46 : decode cX6_year 46 = .ok (.invokevirtual 242, 3) := by decide +kernel
theorem dX6_year_49 : decode cX6_year 49 = .ok (.iinc 1 1, 3) := by decide +kernel
theorem dX6_year_52 : decode cX6_year 52 = .ok (.goto (-29), 3) := by decide +kernel
theorem dX6_year_55 : decode cX6_year 55 = .ok (.aload_n 0, 1) := by decide +kernel
theorem dX6_year_56 : decode cX6_year 56 = .ok (.getfield 66, 3) := by decide +kernel
theorem dX6_year_59 : decode cX6_year 59 = .ok (.ireturn, 1) := by decide +kernel
theorem dX6_count_0 : decode cX6_count 0 = .ok (.iload_n 1, 1) := by decide +kernel
theorem dX6_count_1 : decode cX6_count 1 = .ok (.tableswitch 96 0 7 #[47, 52, 57, 62, 67, 72, 80, 88], 47) := by decide +kernel
theorem dX6_count_48 : decode cX6_count 48 = .ok (.aload_n 0, 1) := by decide +kernel
theorem dX6_count_49 : decode cX6_count 49 = .ok (.getfield 15, 3) := by decide +kernel
theorem dX6_count_52 : decode cX6_count 52 = .ok (.ireturn, 1) := by decide +kernel
theorem dX6_count_53 : decode cX6_count 53 = .ok (.aload_n 0, 1) := by decide +kernel
theorem dX6_count_54 : decode cX6_count 54 = .ok (.invokevirtual 245, 3) := by decide +kernel
theorem dX6_count_57 : decode cX6_count 57 = .ok (.ireturn, 1) := by decide +kernel
theorem dX6_count_58 : decode cX6_count 58 = .ok (.aload_n 0, 1) := by decide +kernel
theorem dX6_count_59 : decode cX6_count 59 = .ok (.getfield 50, 3) := by decide +kernel
theorem dX6_count_62 : decode cX6_count 62 = .ok (.ireturn, 1) := by decide +kernel
theorem dX6_count_63 : decode cX6_count 63 = .ok (.aload_n 0, 1) := by decide +kernel
theorem dX6_count_64 : decode cX6_count 64 = .ok (.invokevirtual 248, 3) := by decide +kernel
theorem dX6_count_67 : decode cX6_count 67 = .ok (.ireturn, 1) := by decide +kernel
theorem dX6_count_68 : decode cX6_count 68 = .ok (.aload_n 0, 1) := by decide +kernel
theorem dX6_count_69 : decode cX6_count 69 = .ok (.getfield 66, 3) := by decide +kernel
theorem dX6_count_72 : decode cX6_count 72 = .ok (.ireturn, 1) := by decide +kernel
theorem dX6_count_73 : decode cX6_count 73 = .ok (.aload_n 0, 1) := by decide +kernel
theorem dX6_count_74 : decode cX6_count 74 = .ok (.getfield 33, 3) := by decide +kernel
theorem dX6_count_77 : decode cX6_count 77 = .ok (.getfield 251, 3) := by decide +kernel
theorem dX6_count_80 : decode cX6_count 80 = .ok (.ireturn, 1) := by decide +kernel
theorem dX6_count_81 : decode cX6_count 81 = .ok (.aload_n 0, 1) := by decide +kernel
theorem dX6_count_82 : decode cX6_count 82 = .ok (.getfield 26, 3) := by decide +kernel
theorem dX6_count_85 : decode cX6_count 85 = .ok (.invokevirtual 254, 3) := by decide +kernel
theorem dX6_count_88 : decode cX6_count 88 = .ok (.ireturn, 1) := by decide +kernel
theorem dX6_count_89 : decode cX6_count 89 = .ok (.aload_n 0, 1) := by decide +kernel
theorem dX6_count_90 : decode cX6_count 90 = .ok (.getfield 56, 3) := by decide +kernel
theorem dX6_count_93 : decode cX6_count 93 = .ok (.getfield 257, 3) := by decide +kernel
theorem dX6_count_96 : decode cX6_count 96 = .ok (.ireturn, 1) := by decide +kernel
theorem dX6_count_97 : decode cX6_count 97 = .ok (.iconst (-1), 1) := by decide +kernel
theorem dX6_count_98 : decode cX6_count 98 = .ok (.ireturn, 1) := by decide +kernel
theorem dX6_heap_0 : decode cX6_heap 0 = .ok (.aload_n 0, 1) := by decide +kernel
theorem dX6_heap_1 : decode cX6_heap 1 = .ok (.getfield 56, 3) := by decide +kernel
theorem dX6_heap_4 : decode cX6_heap 4 = .ok (.iload_n 1, 1) := by decide +kernel
theorem dX6_heap_5 : decode cX6_heap 5 = .ok (.iload_n 2, 1) := by decide +kernel
theorem dX6_heap_6 : decode cX6_heap 6 = .ok (.invokevirtual 258, 3) := by decide +kernel
theorem dX6_heap_9 : decode cX6_heap 9 = .ok (.ireturn, 1) := by decide +kernel
theorem dX6_strung_0 : decode cX6_strung 0 = .ok (.aload_n 0, 1) := by decide +kernel
theorem dX6_strung_1 : decode cX6_strung 1 = .ok (.getfield 56, 3) := by decide +kernel
theorem dX6_strung_4 : decode cX6_strung 4 = .ok (.aload_n 0, 1) := by decide +kernel
theorem dX6_strung_5 : decode cX6_strung 5 = .ok (.getfield 26, 3) := by decide +kernel
theorem dX6_strung_8 : decode cX6_strung 8 = .ok (.invokevirtual 262, 3) := by decide +kernel
theorem dX6_strung_11 : decode cX6_strung 11 = .ok (.aload_n 0, 1) := by decide +kernel
theorem dX6_strung_12 : decode cX6_strung 12 = .ok (.getfield 56, 3) := by decide +kernel
theorem dX6_strung_15 : decode cX6_strung 15 = .ok (.invokevirtual 266, 3) := by decide +kernel
theorem dX6_strung_18 : decode cX6_strung 18 = .ok (.ireturn, 1) := by decide +kernel
theorem dX6_strings_0 : decode cX6_strings 0 = .ok (.aload_n 0, 1) := by decide +kernel
theorem dX6_strings_1 : decode cX6_strings 1 = .ok (.getfield 56, 3) := by decide +kernel
theorem dX6_strings_4 : decode cX6_strings 4 = .ok (.aload_n 0, 1) := by decide +kernel
theorem dX6_strings_5 : decode cX6_strings 5 = .ok (.getfield 26, 3) := by decide +kernel
theorem dX6_strings_8 : decode cX6_strings 8 = .ok (.invokevirtual 262, 3) := by decide +kernel
theorem dX6_strings_11 : decode cX6_strings 11 = .ok (.aload_n 0, 1) := by decide +kernel
theorem dX6_strings_12 : decode cX6_strings 12 = .ok (.getfield 56, 3) := by decide +kernel
theorem dX6_strings_15 : decode cX6_strings 15 = .ok (.invokevirtual 269, 3) := by decide +kernel
theorem dX6_strings_18 : decode cX6_strings 18 = .ok (.ireturn, 1) := by decide +kernel
theorem dX6_part_0 : decode cX6_part 0 = .ok (.aload_n 0, 1) := by decide +kernel
theorem dX6_part_1 : decode cX6_part 1 = .ok (.getfield 56, 3) := by decide +kernel
theorem dX6_part_4 : decode cX6_part 4 = .ok (.aload_n 0, 1) := by decide +kernel
theorem dX6_part_5 : decode cX6_part 5 = .ok (.getfield 26, 3) := by decide +kernel
theorem dX6_part_8 : decode cX6_part 8 = .ok (.invokevirtual 262, 3) := by decide +kernel
theorem dX6_part_11 : decode cX6_part 11 = .ok (.aload_n 0, 1) := by decide +kernel
theorem dX6_part_12 : decode cX6_part 12 = .ok (.getfield 56, 3) := by decide +kernel
theorem dX6_part_15 : decode cX6_part 15 = .ok (.iload_n 1, 1) := by decide +kernel
theorem dX6_part_16 : decode cX6_part 16 = .ok (.invokevirtual 272, 3) := by decide +kernel
theorem dX6_part_19 : decode cX6_part 19 = .ok (.ireturn, 1) := by decide +kernel
theorem dX6_isOwner_0 : decode cX6_isOwner 0 = .ok (.iload_n 0, 1) := by decide +kernel
theorem dX6_isOwner_1 : decode cX6_isOwner 1 = .ok (.ifCond .lt 13, 3) := by decide +kernel
theorem dX6_isOwner_4 : decode cX6_isOwner 4 = .ok (.iload_n 0, 1) := by decide +kernel
theorem dX6_isOwner_5 : decode cX6_isOwner 5 = .ok (.bipush 10, 2) := by decide +kernel
theorem dX6_isOwner_7 : decode cX6_isOwner 7 = .ok (.if_icmp .ge 7, 3) := by decide +kernel
theorem dX6_isOwner_10 : decode cX6_isOwner 10 = .ok (.iconst 1, 1) := by decide +kernel
theorem dX6_isOwner_11 : decode cX6_isOwner 11 = .ok (.goto 4, 3) := by decide +kernel
theorem dX6_isOwner_14 : decode cX6_isOwner 14 = .ok (.iconst 0, 1) := by decide +kernel
theorem dX6_isOwner_15 : decode cX6_isOwner 15 = .ok (.ireturn, 1) := by decide +kernel
theorem dX6_isGrade_0 : decode cX6_isGrade 0 = .ok (.iload_n 0, 1) := by decide +kernel
theorem dX6_isGrade_1 : decode cX6_isGrade 1 = .ok (.ifCond .lt 12, 3) := by decide +kernel
theorem dX6_isGrade_4 : decode cX6_isGrade 4 = .ok (.iload_n 0, 1) := by decide +kernel
theorem dX6_isGrade_5 : decode cX6_isGrade 5 = .ok (.iconst 5, 1) := by decide +kernel
theorem dX6_isGrade_6 : decode cX6_isGrade 6 = .ok (.if_icmp .ge 7, 3) := by decide +kernel
theorem dX6_isGrade_9 : decode cX6_isGrade 9 = .ok (.iconst 1, 1) := by decide +kernel
theorem dX6_isGrade_10 : decode cX6_isGrade 10 = .ok (.goto 4, 3) := by decide +kernel
theorem dX6_isGrade_13 : decode cX6_isGrade 13 = .ok (.iconst 0, 1) := by decide +kernel
theorem dX6_isGrade_14 : decode cX6_isGrade 14 = .ok (.ireturn, 1) := by decide +kernel
theorem dX6_isName_0 : decode cX6_isName 0 = .ok (.iload_n 0, 1) := by decide +kernel
theorem dX6_isName_1 : decode cX6_isName 1 = .ok (.ifCond .le 13, 3) := by decide +kernel
theorem dX6_isName_4 : decode cX6_isName 4 = .ok (.iload_n 0, 1) := by decide +kernel
theorem dX6_isName_5 : decode cX6_isName 5 = .ok (.bipush 99, 2) := by decide +kernel
theorem dX6_isName_7 : decode cX6_isName 7 = .ok (.if_icmp .gt 7, 3) := by decide +kernel
theorem dX6_isName_10 : decode cX6_isName 10 = .ok (.iconst 1, 1) := by decide +kernel
theorem dX6_isName_11 : decode cX6_isName 11 = .ok (.goto 4, 3) := by decide +kernel
theorem dX6_isName_14 : decode cX6_isName 14 = .ok (.iconst 0, 1) := by decide +kernel
theorem dX6_isName_15 : decode cX6_isName 15 = .ok (.ireturn, 1) := by decide +kernel
theorem dX6_areBeads_0 : decode cX6_areBeads 0 = .ok (.iload_n 0, 1) := by decide +kernel
theorem dX6_areBeads_1 : decode cX6_areBeads 1 = .ok (.invokestatic 197, 3) := by decide +kernel
theorem dX6_areBeads_4 : decode cX6_areBeads 4 = .ok (.ifCond .eq 28, 3) := by decide +kernel
theorem dX6_areBeads_7 : decode cX6_areBeads 7 = .ok (.iload_n 1, 1) := by decide +kernel
theorem dX6_areBeads_8 : decode cX6_areBeads 8 = .ok (.ifCond .lt 24, 3) := by decide +kernel
theorem dX6_areBeads_11 : decode cX6_areBeads 11 = .ok (.iload_n 1, 1) := by decide +kernel
theorem dX6_areBeads_12 : decode cX6_areBeads 12 = .ok (.bipush 10, 2) := by decide +kernel
theorem dX6_areBeads_14 : decode cX6_areBeads 14 = .ok (.if_icmp .ge 18, 3) := by decide +kernel
theorem dX6_areBeads_17 : decode cX6_areBeads 17 = .ok (.iload_n 2, 1) := by decide +kernel
theorem dX6_areBeads_18 : decode cX6_areBeads 18 = .ok (.iconst 1, 1) := by decide +kernel
theorem dX6_areBeads_19 : decode cX6_areBeads 19 = .ok (.if_icmp .lt 13, 3) := by decide +kernel
theorem dX6_areBeads_22 : decode cX6_areBeads 22 = .ok (.iload_n 2, 1) := by decide +kernel
theorem dX6_areBeads_23 : decode cX6_areBeads 23 = .ok (.bipush 80, 2) := by decide +kernel
theorem dX6_areBeads_25 : decode cX6_areBeads 25 = .ok (.if_icmp .gt 7, 3) := by decide +kernel
theorem dX6_areBeads_28 : decode cX6_areBeads 28 = .ok (.iconst 1, 1) := by decide +kernel
theorem dX6_areBeads_29 : decode cX6_areBeads 29 = .ok (.goto 4, 3) := by decide +kernel
theorem dX6_areBeads_32 : decode cX6_areBeads 32 = .ok (.iconst 0, 1) := by decide +kernel
theorem dX6_areBeads_33 : decode cX6_areBeads 33 = .ok (.ireturn, 1) := by decide +kernel
theorem dX6_strandAt_0 : decode cX6_strandAt 0 = .ok (.iload_n 1, 1) := by decide +kernel
theorem dX6_strandAt_1 : decode cX6_strandAt 1 = .ok (.ifCond .lt 20, 3) := by decide +kernel
theorem dX6_strandAt_4 : decode cX6_strandAt 4 = .ok (.iload_n 1, 1) := by decide +kernel
theorem dX6_strandAt_5 : decode cX6_strandAt 5 = .ok (.aload_n 0, 1) := by decide +kernel
theorem dX6_strandAt_6 : decode cX6_strandAt 6 = .ok (.getfield 15, 3) := by decide +kernel
theorem dX6_strandAt_9 : decode cX6_strandAt 9 = .ok (.if_icmp .ge 12, 3) := by decide +kernel
theorem dX6_strandAt_12 : decode cX6_strandAt 12 = .ok (.iload_n 1, 1) := by decide +kernel
theorem dX6_strandAt_13 : decode cX6_strandAt 13 = .ok (.aload_n 0, 1) := by decide +kernel
theorem dX6_strandAt_14 : decode cX6_strandAt 14 = .ok (.getfield 11, 3) := by decide +kernel
theorem dX6_strandAt_17 : decode cX6_strandAt 17 = .ok (.arraylength, 1) := by decide +kernel
theorem dX6_strandAt_18 : decode cX6_strandAt 18 = .ok (.if_icmp .lt 5, 3) := by decide +kernel
theorem dX6_strandAt_21 : decode cX6_strandAt 21 = .ok (.aconst_null, 1) := by decide +kernel
theorem dX6_strandAt_22 : decode cX6_strandAt 22 = .ok (.areturn, 1) := by decide +kernel
theorem dX6_strandAt_23 : decode cX6_strandAt 23 = .ok (.aload_n 0, 1) := by decide +kernel
theorem dX6_strandAt_24 : decode cX6_strandAt 24 = .ok (.getfield 11, 3) := by decide +kernel
theorem dX6_strandAt_27 : decode cX6_strandAt 27 = .ok (.iload_n 1, 1) := by decide +kernel
theorem dX6_strandAt_28 : decode cX6_strandAt 28 = .ok (.aaload, 1) := by decide +kernel
theorem dX6_strandAt_29 : decode cX6_strandAt 29 = .ok (.areturn, 1) := by decide +kernel
theorem dX6_livingStrand_0 : decode cX6_livingStrand 0 = .ok (.aload_n 0, 1) := by decide +kernel
theorem dX6_livingStrand_1 : decode cX6_livingStrand 1 = .ok (.iload_n 1, 1) := by decide +kernel
theorem dX6_livingStrand_2 : decode cX6_livingStrand 2 = .ok (.invokevirtual 143, 3) := by decide +kernel
theorem dX6_livingStrand_5 : decode cX6_livingStrand 5 = .ok (.astore_n 2, 1) := by decide +kernel
theorem dX6_livingStrand_6 : decode cX6_livingStrand 6 = .ok (.aload_n 2, 1) := by decide +kernel
theorem dX6_livingStrand_7 : decode cX6_livingStrand 7 = .ok (.ifnull 10, 3) := by decide +kernel
theorem dX6_livingStrand_10 : decode cX6_livingStrand 10 = .ok (.aload_n 2, 1) := by decide +kernel
theorem dX6_livingStrand_11 : decode cX6_livingStrand 11 = .ok (.getfield 96, 3) := by decide +kernel
theorem dX6_livingStrand_14 : decode cX6_livingStrand 14 = .ok (.ifCond .ne 7, 3) := by decide +kernel
theorem dX6_livingStrand_17 : decode cX6_livingStrand 17 = .ok (.aconst_null, 1) := by decide +kernel
theorem dX6_livingStrand_18 : decode cX6_livingStrand 18 = .ok (.goto 4, 3) := by decide +kernel
theorem dX6_livingStrand_21 : decode cX6_livingStrand 21 = .ok (.aload_n 2, 1) := by decide +kernel
theorem dX6_livingStrand_22 : decode cX6_livingStrand 22 = .ok (.areturn, 1) := by decide +kernel
theorem dX6_keepStrand_0 : decode cX6_keepStrand 0 = .ok (.aload_n 0, 1) := by decide +kernel
theorem dX6_keepStrand_1 : decode cX6_keepStrand 1 = .ok (.getfield 15, 3) := by decide +kernel
theorem dX6_keepStrand_4 : decode cX6_keepStrand 4 = .ok (.aload_n 0, 1) := by decide +kernel
theorem dX6_keepStrand_5 : decode cX6_keepStrand 5 = .ok (.getfield 11, 3) := by decide +kernel
theorem dX6_keepStrand_8 : decode cX6_keepStrand 8 = .ok (.arraylength, 1) := by decide +kernel
theorem dX6_keepStrand_9 : decode cX6_keepStrand 9 = .ok (.if_icmp .lt 5, 3) := by decide +kernel
theorem dX6_keepStrand_12 : decode cX6_keepStrand 12 = .ok (.iconst (-1), 1) := by decide +kernel
theorem dX6_keepStrand_13 : decode cX6_keepStrand 13 = .ok (.ireturn, 1) := by decide +kernel
theorem dX6_keepStrand_14 : decode cX6_keepStrand 14 = .ok (.aload_n 0, 1) := by decide +kernel
theorem dX6_keepStrand_15 : decode cX6_keepStrand 15 = .ok (.getfield 11, 3) := by decide +kernel
theorem dX6_keepStrand_18 : decode cX6_keepStrand 18 = .ok (.aload_n 0, 1) := by decide +kernel
theorem dX6_keepStrand_19 : decode cX6_keepStrand 19 = .ok (.getfield 15, 3) := by decide +kernel
theorem dX6_keepStrand_22 : decode cX6_keepStrand 22 = .ok (.aload_n 1, 1) := by decide +kernel
theorem dX6_keepStrand_23 : decode cX6_keepStrand 23 = .ok (.aastore, 1) := by decide +kernel
theorem dX6_keepStrand_24 : decode cX6_keepStrand 24 = .ok (.aload_n 0, 1) := by decide +kernel
theorem dX6_keepStrand_25 : decode cX6_keepStrand 25 = .ok (.dup, 1) := by decide +kernel
theorem dX6_keepStrand_26 : decode cX6_keepStrand 26 = .ok (.getfield 15, 3) := by decide +kernel
theorem dX6_keepStrand_29 : decode cX6_keepStrand 29 = .ok (.iconst 1, 1) := by decide +kernel
theorem dX6_keepStrand_30 : decode cX6_keepStrand 30 = .ok (.iadd, 1) := by decide +kernel
theorem dX6_keepStrand_31 : decode cX6_keepStrand 31 = .ok (.putfield 15, 3) := by decide +kernel
theorem dX6_keepStrand_34 : decode cX6_keepStrand 34 = .ok (.aload_n 0, 1) := by decide +kernel
theorem dX6_keepStrand_35 : decode cX6_keepStrand 35 = .ok (.getfield 15, 3) := by decide +kernel
theorem dX6_keepStrand_38 : decode cX6_keepStrand 38 = .ok (.iconst 1, 1) := by decide +kernel
theorem dX6_keepStrand_39 : decode cX6_keepStrand 39 = .ok (.isub, 1) := by decide +kernel
theorem dX6_keepStrand_40 : decode cX6_keepStrand 40 = .ok (.ireturn, 1) := by decide +kernel
theorem dX6_debtAt_0 : decode cX6_debtAt 0 = .ok (.iload_n 1, 1) := by decide +kernel
theorem dX6_debtAt_1 : decode cX6_debtAt 1 = .ok (.ifCond .lt 20, 3) := by decide +kernel
theorem dX6_debtAt_4 : decode cX6_debtAt 4 = .ok (.iload_n 1, 1) := by decide +kernel
theorem dX6_debtAt_5 : decode cX6_debtAt 5 = .ok (.aload_n 0, 1) := by decide +kernel
theorem dX6_debtAt_6 : decode cX6_debtAt 6 = .ok (.getfield 50, 3) := by decide +kernel
theorem dX6_debtAt_9 : decode cX6_debtAt 9 = .ok (.if_icmp .ge 12, 3) := by decide +kernel
theorem dX6_debtAt_12 : decode cX6_debtAt 12 = .ok (.iload_n 1, 1) := by decide +kernel
theorem dX6_debtAt_13 : decode cX6_debtAt 13 = .ok (.aload_n 0, 1) := by decide +kernel
theorem dX6_debtAt_14 : decode cX6_debtAt 14 = .ok (.getfield 46, 3) := by decide +kernel
theorem dX6_debtAt_17 : decode cX6_debtAt 17 = .ok (.arraylength, 1) := by decide +kernel
theorem dX6_debtAt_18 : decode cX6_debtAt 18 = .ok (.if_icmp .lt 5, 3) := by decide +kernel
theorem dX6_debtAt_21 : decode cX6_debtAt 21 = .ok (.aconst_null, 1) := by decide +kernel
theorem dX6_debtAt_22 : decode cX6_debtAt 22 = .ok (.areturn, 1) := by decide +kernel
theorem dX6_debtAt_23 : decode cX6_debtAt 23 = .ok (.aload_n 0, 1) := by decide +kernel
theorem dX6_debtAt_24 : decode cX6_debtAt 24 = .ok (.getfield 46, 3) := by decide +kernel
theorem dX6_debtAt_27 : decode cX6_debtAt 27 = .ok (.iload_n 1, 1) := by decide +kernel
theorem dX6_debtAt_28 : decode cX6_debtAt 28 = .ok (.aaload, 1) := by decide +kernel
theorem dX6_debtAt_29 : decode cX6_debtAt 29 = .ok (.areturn, 1) := by decide +kernel
theorem dX6_goneCount_0 : decode cX6_goneCount 0 = .ok (.iconst 0, 1) := by decide +kernel
theorem dX6_goneCount_1 : decode cX6_goneCount 1 = .ok (.istore_n 1, 1) := by decide +kernel
theorem dX6_goneCount_2 : decode cX6_goneCount 2 = .ok (.iconst 0, 1) := by decide +kernel
theorem dX6_goneCount_3 : decode cX6_goneCount 3 = .ok (.istore_n 2, 1) := by decide +kernel
theorem dX6_goneCount_4 : decode cX6_goneCount 4 = .ok (.iload_n 2, 1) := by decide +kernel
theorem dX6_goneCount_5 : decode cX6_goneCount 5 = .ok (.aload_n 0, 1) := by decide +kernel
theorem dX6_goneCount_6 : decode cX6_goneCount 6 = .ok (.getfield 15, 3) := by decide +kernel
theorem dX6_goneCount_9 : decode cX6_goneCount 9 = .ok (.if_icmp .ge 20, 3) := by decide +kernel
theorem dX6_goneCount_12 : decode cX6_goneCount 12 = .ok (.aload_n 0, 1) := by decide +kernel
theorem dX6_goneCount_13 : decode cX6_goneCount 13 = .ok (.iload_n 2, 1) := by decide +kernel
theorem dX6_goneCount_14 : decode cX6_goneCount 14 = .ok (.invokevirtual 92, 3) := by decide +kernel
theorem dX6_goneCount_17 : decode cX6_goneCount 17 = .ok (.ifnonnull 6, 3) := by decide +kernel
theorem dX6_goneCount_20 : decode cX6_goneCount 20 = .ok (.iinc 1 1, 3) := by decide +kernel
theorem dX6_goneCount_23 : decode cX6_goneCount 23 = .ok (.iinc 2 1, 3) := by decide +kernel
theorem dX6_goneCount_26 : decode cX6_goneCount 26 = .ok (.goto (-22), 3) := by decide +kernel
theorem dX6_goneCount_29 : decode cX6_goneCount 29 = .ok (.iload_n 1, 1) := by decide +kernel
theorem dX6_goneCount_30 : decode cX6_goneCount 30 = .ok (.ireturn, 1) := by decide +kernel
theorem dX6_paidCount_0 : decode cX6_paidCount 0 = .ok (.iconst 0, 1) := by decide +kernel
theorem dX6_paidCount_1 : decode cX6_paidCount 1 = .ok (.istore_n 1, 1) := by decide +kernel
theorem dX6_paidCount_2 : decode cX6_paidCount 2 = .ok (.iconst 0, 1) := by decide +kernel
theorem dX6_paidCount_3 : decode cX6_paidCount 3 = .ok (.istore_n 2, 1) := by decide +kernel
theorem dX6_paidCount_4 : decode cX6_paidCount 4 = .ok (.iload_n 2, 1) := by decide +kernel
theorem dX6_paidCount_5 : decode cX6_paidCount 5 = .ok (.aload_n 0, 1) := by decide +kernel
theorem dX6_paidCount_6 : decode cX6_paidCount 6 = .ok (.getfield 50, 3) := by decide +kernel
theorem dX6_paidCount_9 : decode cX6_paidCount 9 = .ok (.if_icmp .ge 29, 3) := by decide +kernel
theorem dX6_paidCount_12 : decode cX6_paidCount 12 = .ok (.aload_n 0, 1) := by decide +kernel
theorem dX6_paidCount_13 : decode cX6_paidCount 13 = .ok (.iload_n 2, 1) := by decide +kernel
theorem dX6_paidCount_14 : decode cX6_paidCount 14 = .ok (.invokevirtual 220, 3) := by decide +kernel
theorem dX6_paidCount_17 : decode cX6_paidCount 17 = .ok (.astore_n 3, 1) := by decide +kernel
theorem dX6_paidCount_18 : decode cX6_paidCount 18 = .ok (.aload_n 3, 1) := by decide +kernel
theorem dX6_paidCount_19 : decode cX6_paidCount 19 = .ok (.ifnull 13, 3) := by decide +kernel
theorem dX6_paidCount_22 : decode cX6_paidCount 22 = .ok (.aload_n 3, 1) := by decide +kernel
theorem dX6_paidCount_23 : decode cX6_paidCount 23 = .ok (.invokevirtual 224, 3) := by decide +kernel
theorem dX6_paidCount_26 : decode cX6_paidCount 26 = .ok (.ifCond .eq 6, 3) := by decide +kernel
theorem dX6_paidCount_29 : decode cX6_paidCount 29 = .ok (.iinc 1 1, 3) := by decide +kernel
theorem dX6_paidCount_32 : decode cX6_paidCount 32 = .ok (.iinc 2 1, 3) := by decide +kernel
theorem dX6_paidCount_35 : decode cX6_paidCount 35 = .ok (.goto (-31), 3) := by decide +kernel
theorem dX6_paidCount_38 : decode cX6_paidCount 38 = .ok (.iload_n 1, 1) := by decide +kernel
theorem dX6_paidCount_39 : decode cX6_paidCount 39 = .ok (.ireturn, 1) := by decide +kernel
theorem dX6_tallyMakersBelow_0 : decode cX6_tallyMakersBelow 0 = .ok (.iconst 0, 1) := by decide +kernel
theorem dX6_tallyMakersBelow_1 : decode cX6_tallyMakersBelow 1 = .ok (.istore_n 2, 1) := by decide +kernel
theorem dX6_tallyMakersBelow_2 : decode cX6_tallyMakersBelow 2 = .ok (.iload_n 2, 1) := by decide +kernel
theorem dX6_tallyMakersBelow_3 : decode cX6_tallyMakersBelow 3 = .ok (.bipush 10, 2) := by decide +kernel
theorem dX6_tallyMakersBelow_5 : decode cX6_tallyMakersBelow 5 = .ok (.if_icmp .ge 16, 3) := by decide +kernel
theorem dX6_tallyMakersBelow_8 : decode cX6_tallyMakersBelow 8 = .ok (.aload_n 0, 1) := by decide +kernel
theorem dX6_tallyMakersBelow_9 : decode cX6_tallyMakersBelow 9 = .ok (.getfield 19, 3) := by decide +kernel
theorem dX6_tallyMakersBelow_12 : decode cX6_tallyMakersBelow 12 = .ok (.iload_n 2, 1) := by decide +kernel
theorem dX6_tallyMakersBelow_13 : decode cX6_tallyMakersBelow 13 = .ok (.iconst 0, 1) := by decide +kernel
theorem dX6_tallyMakersBelow_14 : decode cX6_tallyMakersBelow 14 = .ok (.iastore, 1) := by decide +kernel
theorem dX6_tallyMakersBelow_15 : decode cX6_tallyMakersBelow 15 = .ok (.iinc 2 1, 3) := by decide +kernel
theorem dX6_tallyMakersBelow_18 : decode cX6_tallyMakersBelow 18 = .ok (.goto (-16), 3) := by decide +kernel
theorem dX6_tallyMakersBelow_21 : decode cX6_tallyMakersBelow 21 = .ok (.iconst 0, 1) := by decide +kernel
theorem dX6_tallyMakersBelow_22 : decode cX6_tallyMakersBelow 22 = .ok (.istore_n 2, 1) := by decide +kernel
theorem dX6_tallyMakersBelow_23 : decode cX6_tallyMakersBelow 23 = .ok (.iload_n 2, 1) := by decide +kernel
theorem dX6_tallyMakersBelow_24 : decode cX6_tallyMakersBelow 24 = .ok (.aload_n 0, 1) := by decide +kernel
theorem dX6_tallyMakersBelow_25 : decode cX6_tallyMakersBelow 25 = .ok (.getfield 15, 3) := by decide +kernel
theorem dX6_tallyMakersBelow_28 : decode cX6_tallyMakersBelow 28 = .ok (.if_icmp .ge 28, 3) := by decide +kernel
theorem dX6_tallyMakersBelow_31 : decode cX6_tallyMakersBelow 31 = .ok (.aload_n 0, 1) := by decide +kernel
theorem dX6_tallyMakersBelow_32 : decode cX6_tallyMakersBelow 32 = .ok (.iload_n 2, 1) := by decide +kernel
theorem dX6_tallyMakersBelow_33 : decode cX6_tallyMakersBelow 33 = .ok (.invokevirtual 143, 3) := by decide +kernel
theorem dX6_tallyMakersBelow_36 : decode cX6_tallyMakersBelow 36 = .ok (.astore_n 3, 1) := by decide +kernel
theorem dX6_tallyMakersBelow_37 : decode cX6_tallyMakersBelow 37 = .ok (.aload_n 3, 1) := by decide +kernel
theorem dX6_tallyMakersBelow_38 : decode cX6_tallyMakersBelow 38 = .ok (.ifnull 12, 3) := by decide +kernel
theorem dX6_tallyMakersBelow_41 : decode cX6_tallyMakersBelow 41 = .ok (.aload_n 3, 1) := by decide +kernel
theorem dX6_tallyMakersBelow_42 : decode cX6_tallyMakersBelow 42 = .ok (.iload_n 1, 1) := by decide +kernel
theorem dX6_tallyMakersBelow_43 : decode cX6_tallyMakersBelow 43 = .ok (.aload_n 0, 1) := by decide +kernel
theorem dX6_tallyMakersBelow_44 : decode cX6_tallyMakersBelow 44 = .ok (.getfield 19, 3) := by decide +kernel
theorem dX6_tallyMakersBelow_47 : decode cX6_tallyMakersBelow 47 = .ok (.invokevirtual 275, 3) := by decide +kernel
theorem dX6_tallyMakersBelow_50 : decode cX6_tallyMakersBelow 50 = .ok (.iinc 2 1, 3) := by decide +kernel
theorem dX6_tallyMakersBelow_53 : decode cX6_tallyMakersBelow 53 = .ok (.goto (-30), 3) := by decide +kernel
theorem dX6_tallyMakersBelow_56 : decode cX6_tallyMakersBelow 56 = .ok (.return_, 1) := by decide +kernel
theorem dX6_nameCount_0 : decode cX6_nameCount 0 = .ok (.aload_n 0, 1) := by decide +kernel
theorem dX6_nameCount_1 : decode cX6_nameCount 1 = .ok (.getfield 112, 3) := by decide +kernel
theorem dX6_nameCount_4 : decode cX6_nameCount 4 = .ok (.ifCond .ne 7, 3) := by decide +kernel
theorem dX6_nameCount_7 : decode cX6_nameCount 7 = .ok (.iconst 0, 1) := by decide +kernel
theorem dX6_nameCount_8 : decode cX6_nameCount 8 = .ok (.goto 4, 3) := by decide +kernel
theorem dX6_nameCount_11 : decode cX6_nameCount 11 = .ok (.iconst 1, 1) := by decide +kernel
theorem dX6_nameCount_12 : decode cX6_nameCount 12 = .ok (.ireturn, 1) := by decide +kernel
theorem dX6_loseName_0 : decode cX6_loseName 0 = .ok (.aload_n 1, 1) := by decide +kernel
theorem dX6_loseName_1 : decode cX6_loseName 1 = .ok (.getfield 112, 3) := by decide +kernel
theorem dX6_loseName_4 : decode cX6_loseName 4 = .ok (.ifCond .eq 25, 3) := by decide +kernel
theorem dX6_loseName_7 : decode cX6_loseName 7 = .ok (.aload_n 0, 1) := by decide +kernel
theorem dX6_loseName_8 : decode cX6_loseName 8 = .ok (.getfield 33, 3) := by decide +kernel
theorem dX6_loseName_11 : decode cX6_loseName 11 = .ok (.aload_n 1, 1) := by decide +kernel
theorem dX6_loseName_12 : decode cX6_loseName 12 = .ok (.getfield 112, 3) := by decide +kernel
theorem dX6_loseName_15 : decode cX6_loseName 15 = .ok (.iconst 5, 1) := by decide +kernel
theorem dX6_loseName_16 : decode cX6_loseName 16 = .ok (.iconst 0, 1) := by decide +kernel
theorem dX6_loseName_17 : decode cX6_loseName 17 = .ok (.aload_n 0, 1) := by decide +kernel
theorem dX6_loseName_18 : decode cX6_loseName 18 = .ok (.getfield 66, 3) := by decide +kernel
theorem dX6_loseName_21 : decode cX6_loseName 21 = .ok (.invokevirtual 136, 3) := by decide +kernel
theorem dX6_loseName_24 : decode cX6_loseName 24 = .ok (.aload_n 1, 1) := by decide +kernel
theorem dX6_loseName_25 : decode cX6_loseName 25 = .ok (.iconst 0, 1) := by decide +kernel
theorem dX6_loseName_26 : decode cX6_loseName 26 = .ok (.putfield 112, 3) := by decide +kernel
theorem dX6_loseName_29 : decode cX6_loseName 29 = .ok (.return_, 1) := by decide +kernel
theorem dX6_settleNameOfCut_0 : decode cX6_settleNameOfCut 0 = .ok (.aload_n 0, 1) := by decide +kernel
theorem dX6_settleNameOfCut_1 : decode cX6_settleNameOfCut 1 = .ok (.getfield 60, 3) := by decide +kernel
theorem dX6_settleNameOfCut_4 : decode cX6_settleNameOfCut 4 = .ok (.ifCond .ne 9, 3) := by decide +kernel
theorem dX6_settleNameOfCut_7 : decode cX6_settleNameOfCut 7 = .ok (.aload_n 0, 1) := by decide +kernel
theorem dX6_settleNameOfCut_8 : decode cX6_settleNameOfCut 8 = .ok (.aload_n 1, 1) := by decide +kernel
theorem dX6_settleNameOfCut_9 : decode cX6_settleNameOfCut 9 = .ok (.invokevirtual 132, 3) := by decide +kernel
theorem dX6_settleNameOfCut_12 : decode cX6_settleNameOfCut 12 = .ok (.return_, 1) := by decide +kernel
theorem dX6_settleNameOfCut_13 : decode cX6_settleNameOfCut 13 = .ok (.aload_n 2, 1) := by decide +kernel
theorem dX6_settleNameOfCut_14 : decode cX6_settleNameOfCut 14 = .ok (.getfield 96, 3) := by decide +kernel
theorem dX6_settleNameOfCut_17 : decode cX6_settleNameOfCut 17 = .ok (.aload_n 1, 1) := by decide +kernel
theorem dX6_settleNameOfCut_18 : decode cX6_settleNameOfCut 18 = .ok (.getfield 96, 3) := by decide +kernel
theorem dX6_settleNameOfCut_21 : decode cX6_settleNameOfCut 21 = .ok (.if_icmp .le 7, 3) := by decide +kernel
theorem dX6_settleNameOfCut_24 : decode cX6_settleNameOfCut 24 = .ok (.aload_n 2, 1) := by decide +kernel
theorem dX6_settleNameOfCut_25 : decode cX6_settleNameOfCut 25 = .ok (.goto 4, 3) := by decide +kernel
theorem dX6_settleNameOfCut_28 : decode cX6_settleNameOfCut 28 = .ok (.aload_n 1, 1) := by decide +kernel
theorem dX6_settleNameOfCut_29 : decode cX6_settleNameOfCut 29 = .ok (.astore_n 3, 1) := by decide +kernel
theorem dX6_settleNameOfCut_30 : decode cX6_settleNameOfCut 30 = .ok (.aload_n 1, 1) := by decide +kernel
theorem dX6_settleNameOfCut_31 : decode cX6_settleNameOfCut 31 = .ok (.getfield 112, 3) := by decide +kernel
theorem dX6_settleNameOfCut_34 : decode cX6_settleNameOfCut 34 = .ok (.istore 4, 2) := by decide +kernel
theorem dX6_settleNameOfCut_36 : decode cX6_settleNameOfCut 36 = .ok (.aload_n 1, 1) := by decide +kernel
theorem dX6_settleNameOfCut_37 : decode cX6_settleNameOfCut 37 = .ok (.iconst 0, 1) := by decide +kernel
theorem dX6_settleNameOfCut_38 : decode cX6_settleNameOfCut 38 = .ok (.putfield 112, 3) := by decide +kernel
theorem dX6_settleNameOfCut_41 : decode cX6_settleNameOfCut 41 = .ok (.aload_n 3, 1) := by decide +kernel
theorem dX6_settleNameOfCut_42 : decode cX6_settleNameOfCut 42 = .ok (.iload 4, 2) := by decide +kernel
theorem dX6_settleNameOfCut_44 : decode cX6_settleNameOfCut 44 = .ok (.putfield 112, 3) := by decide +kernel
theorem dX6_settleNameOfCut_47 : decode cX6_settleNameOfCut 47 = .ok (.aload_n 0, 1) := by decide +kernel
theorem dX6_settleNameOfCut_48 : decode cX6_settleNameOfCut 48 = .ok (.getfield 33, 3) := by decide +kernel
theorem dX6_settleNameOfCut_51 : decode cX6_settleNameOfCut 51 = .ok (.iload 4, 2) := by decide +kernel
theorem dX6_settleNameOfCut_53 : decode cX6_settleNameOfCut 53 = .ok (.iconst 3, 1) := by decide +kernel
theorem dX6_settleNameOfCut_54 : decode cX6_settleNameOfCut 54 = .ok (.aload_n 3, 1) := by decide +kernel
theorem dX6_settleNameOfCut_55 : decode cX6_settleNameOfCut 55 = .ok (.getfield 96, 3) := by decide +kernel
theorem dX6_settleNameOfCut_58 : decode cX6_settleNameOfCut 58 = .ok (.aload_n 0, 1) := by decide +kernel
theorem dX6_settleNameOfCut_59 : decode cX6_settleNameOfCut 59 = .ok (.getfield 66, 3) := by decide +kernel
theorem dX6_settleNameOfCut_62 : decode cX6_settleNameOfCut 62 = .ok (.invokevirtual 136, 3) := by decide +kernel
theorem dX6_settleNameOfCut_65 : decode cX6_settleNameOfCut 65 = .ok (.return_, 1) := by decide +kernel
theorem dX6_settleNameOfJoined_0 : decode cX6_settleNameOfJoined 0 = .ok (.aload_n 1, 1) := by decide +kernel
theorem dX6_settleNameOfJoined_1 : decode cX6_settleNameOfJoined 1 = .ok (.getfield 112, 3) := by decide +kernel
theorem dX6_settleNameOfJoined_4 : decode cX6_settleNameOfJoined 4 = .ok (.ifCond .ne 19, 3) := by decide +kernel
theorem dX6_settleNameOfJoined_7 : decode cX6_settleNameOfJoined 7 = .ok (.aload_n 1, 1) := by decide +kernel
theorem dX6_settleNameOfJoined_8 : decode cX6_settleNameOfJoined 8 = .ok (.aload_n 2, 1) := by decide +kernel
theorem dX6_settleNameOfJoined_9 : decode cX6_settleNameOfJoined 9 = .ok (.getfield 112, 3) := by decide +kernel
theorem dX6_settleNameOfJoined_12 : decode cX6_settleNameOfJoined 12 = .ok (.putfield 112, 3) := by decide +kernel
theorem dX6_settleNameOfJoined_15 : decode cX6_settleNameOfJoined 15 = .ok (.aload_n 2, 1) := by decide +kernel
theorem dX6_settleNameOfJoined_16 : decode cX6_settleNameOfJoined 16 = .ok (.iconst 0, 1) := by decide +kernel
theorem dX6_settleNameOfJoined_17 : decode cX6_settleNameOfJoined 17 = .ok (.putfield 112, 3) := by decide +kernel
theorem dX6_settleNameOfJoined_20 : decode cX6_settleNameOfJoined 20 = .ok (.goto 8, 3) := by decide +kernel
theorem dX6_settleNameOfJoined_23 : decode cX6_settleNameOfJoined 23 = .ok (.aload_n 0, 1) := by decide +kernel
theorem dX6_settleNameOfJoined_24 : decode cX6_settleNameOfJoined 24 = .ok (.aload_n 2, 1) := by decide +kernel
theorem dX6_settleNameOfJoined_25 : decode cX6_settleNameOfJoined 25 = .ok (.invokevirtual 132, 3) := by decide +kernel
theorem dX6_settleNameOfJoined_28 : decode cX6_settleNameOfJoined 28 = .ok (.aload_n 1, 1) := by decide +kernel
theorem dX6_settleNameOfJoined_29 : decode cX6_settleNameOfJoined 29 = .ok (.getfield 112, 3) := by decide +kernel
theorem dX6_settleNameOfJoined_32 : decode cX6_settleNameOfJoined 32 = .ok (.ifCond .eq 23, 3) := by decide +kernel
theorem dX6_settleNameOfJoined_35 : decode cX6_settleNameOfJoined 35 = .ok (.aload_n 0, 1) := by decide +kernel
theorem dX6_settleNameOfJoined_36 : decode cX6_settleNameOfJoined 36 = .ok (.getfield 33, 3) := by decide +kernel
theorem dX6_settleNameOfJoined_39 : decode cX6_settleNameOfJoined 39 = .ok (.aload_n 1, 1) := by decide +kernel
theorem dX6_settleNameOfJoined_40 : decode cX6_settleNameOfJoined 40 = .ok (.getfield 112, 3) := by decide +kernel
theorem dX6_settleNameOfJoined_43 : decode cX6_settleNameOfJoined 43 = .ok (.iconst 4, 1) := by decide +kernel
theorem dX6_settleNameOfJoined_44 : decode cX6_settleNameOfJoined 44 = .ok (.aload_n 1, 1) := by decide +kernel
theorem dX6_settleNameOfJoined_45 : decode cX6_settleNameOfJoined 45 = .ok (.getfield 96, 3) := by decide +kernel
theorem dX6_settleNameOfJoined_48 : decode cX6_settleNameOfJoined 48 = .ok (.aload_n 0, 1) := by decide +kernel
theorem dX6_settleNameOfJoined_49 : decode cX6_settleNameOfJoined 49 = .ok (.getfield 66, 3) := by decide +kernel
theorem dX6_settleNameOfJoined_52 : decode cX6_settleNameOfJoined 52 = .ok (.invokevirtual 136, 3) := by decide +kernel
theorem dX6_settleNameOfJoined_55 : decode cX6_settleNameOfJoined 55 = .ok (.return_, 1) := by decide +kernel
theorem dX6_handOver_0 : decode cX6_handOver 0 = .ok (.aload_n 1, 1) := by decide +kernel
theorem dX6_handOver_1 : decode cX6_handOver 1 = .ok (.iload_n 2, 1) := by decide +kernel
theorem dX6_handOver_2 : decode cX6_handOver 2 = .ok (.putfield 105, 3) := by decide +kernel
theorem dX6_handOver_5 : decode cX6_handOver 5 = .ok (.aload_n 1, 1) := by decide +kernel
theorem dX6_handOver_6 : decode cX6_handOver 6 = .ok (.getfield 112, 3) := by decide +kernel
theorem dX6_handOver_9 : decode cX6_handOver 9 = .ok (.ifCond .eq 20, 3) := by decide +kernel
theorem dX6_handOver_12 : decode cX6_handOver 12 = .ok (.aload_n 0, 1) := by decide +kernel
theorem dX6_handOver_13 : decode cX6_handOver 13 = .ok (.getfield 33, 3) := by decide +kernel
theorem dX6_handOver_16 : decode cX6_handOver 16 = .ok (.aload_n 1, 1) := by decide +kernel
theorem dX6_handOver_17 : decode cX6_handOver 17 = .ok (.getfield 112, 3) := by decide +kernel
theorem dX6_handOver_20 : decode cX6_handOver 20 = .ok (.iconst 2, 1) := by decide +kernel
theorem dX6_handOver_21 : decode cX6_handOver 21 = .ok (.iload_n 2, 1) := by decide +kernel
theorem dX6_handOver_22 : decode cX6_handOver 22 = .ok (.aload_n 0, 1) := by decide +kernel
theorem dX6_handOver_23 : decode cX6_handOver 23 = .ok (.getfield 66, 3) := by decide +kernel
theorem dX6_handOver_26 : decode cX6_handOver 26 = .ok (.invokevirtual 136, 3) := by decide +kernel
theorem dX6_handOver_29 : decode cX6_handOver 29 = .ok (.return_, 1) := by decide +kernel
theorem dX6_worthOf_0 : decode cX6_worthOf 0 = .ok (.aload_n 1, 1) := by decide +kernel
theorem dX6_worthOf_1 : decode cX6_worthOf 1 = .ok (.getfield 96, 3) := by decide +kernel
theorem dX6_worthOf_4 : decode cX6_worthOf 4 = .ok (.ifCond .ne 5, 3) := by decide +kernel
theorem dX6_worthOf_7 : decode cX6_worthOf 7 = .ok (.iconst 0, 1) := by decide +kernel
theorem dX6_worthOf_8 : decode cX6_worthOf 8 = .ok (.ireturn, 1) := by decide +kernel
theorem dX6_worthOf_9 : decode cX6_worthOf 9 = .ok (.aload_n 1, 1) := by decide +kernel
theorem dX6_worthOf_10 : decode cX6_worthOf 10 = .ok (.getfield 112, 3) := by decide +kernel
theorem dX6_worthOf_13 : decode cX6_worthOf 13 = .ok (.ifCond .ne 7, 3) := by decide +kernel
theorem dX6_worthOf_16 : decode cX6_worthOf 16 = .ok (.iconst 0, 1) := by decide +kernel
theorem dX6_worthOf_17 : decode cX6_worthOf 17 = .ok (.goto 10, 3) := by decide +kernel
theorem dX6_worthOf_20 : decode cX6_worthOf 20 = .ok (.aload_n 0, 1) := by decide +kernel
theorem dX6_worthOf_21 : decode cX6_worthOf 21 = .ok (.getfield 26, 3) := by decide +kernel
theorem dX6_worthOf_24 : decode cX6_worthOf 24 = .ok (.getfield 278, 3) := by decide +kernel
theorem dX6_worthOf_27 : decode cX6_worthOf 27 = .ok (.istore_n 2, 1) := by decide +kernel
theorem dX6_worthOf_28 : decode cX6_worthOf 28 = .ok (.aload_n 0, 1) := by decide +kernel
theorem dX6_worthOf_29 : decode cX6_worthOf 29 = .ok (.getfield 26, 3) := by decide +kernel
theorem dX6_worthOf_32 : decode cX6_worthOf 32 = .ok (.aload_n 1, 1) := by decide +kernel
theorem dX6_worthOf_33 : decode cX6_worthOf 33 = .ok (.invokevirtual 149, 3) := by decide +kernel
theorem dX6_worthOf_36 : decode cX6_worthOf 36 = .ok (.aload_n 1, 1) := by decide +kernel
theorem dX6_worthOf_37 : decode cX6_worthOf 37 = .ok (.getfield 96, 3) := by decide +kernel
theorem dX6_worthOf_40 : decode cX6_worthOf 40 = .ok (.invokevirtual 281, 3) := by decide +kernel
theorem dX6_worthOf_43 : decode cX6_worthOf 43 = .ok (.iload_n 2, 1) := by decide +kernel
theorem dX6_worthOf_44 : decode cX6_worthOf 44 = .ok (.iadd, 1) := by decide +kernel
theorem dX6_worthOf_45 : decode cX6_worthOf 45 = .ok (.ireturn, 1) := by decide +kernel
theorem dX6_replaced_0 : decode cX6_replaced 0 = .ok (.iload_n 1, 1) := by decide +kernel
theorem dX6_replaced_1 : decode cX6_replaced 1 = .ok (.ifCond .lt 20, 3) := by decide +kernel
theorem dX6_replaced_4 : decode cX6_replaced 4 = .ok (.iload_n 1, 1) := by decide +kernel
theorem dX6_replaced_5 : decode cX6_replaced 5 = .ok (.aload_n 0, 1) := by decide +kernel
theorem dX6_replaced_6 : decode cX6_replaced 6 = .ok (.arraylength, 1) := by decide +kernel
theorem dX6_replaced_7 : decode cX6_replaced 7 = .ok (.if_icmp .ge 14, 3) := by decide +kernel
theorem dX6_replaced_10 : decode cX6_replaced 10 = .ok (.iload_n 2, 1) := by decide +kernel
theorem dX6_replaced_11 : decode cX6_replaced 11 = .ok (.iload_n 3, 1) := by decide +kernel
theorem dX6_replaced_12 : decode cX6_replaced 12 = .ok (.if_icmp .lt 9, 3) := by decide +kernel
theorem dX6_replaced_15 : decode cX6_replaced 15 = .ok (.iload_n 2, 1) := by decide +kernel
theorem dX6_replaced_16 : decode cX6_replaced 16 = .ok (.iload 4, 2) := by decide +kernel
theorem dX6_replaced_18 : decode cX6_replaced 18 = .ok (.if_icmp .le 5, 3) := by decide +kernel
theorem dX6_replaced_21 : decode cX6_replaced 21 = .ok (.iconst (-1), 1) := by decide +kernel
theorem dX6_replaced_22 : decode cX6_replaced 22 = .ok (.ireturn, 1) := by decide +kernel
theorem dX6_replaced_23 : decode cX6_replaced 23 = .ok (.aload_n 0, 1) := by decide +kernel
theorem dX6_replaced_24 : decode cX6_replaced 24 = .ok (.iload_n 1, 1) := by decide +kernel
theorem dX6_replaced_25 : decode cX6_replaced 25 = .ok (.iaload, 1) := by decide +kernel
theorem dX6_replaced_26 : decode cX6_replaced 26 = .ok (.istore 5, 2) := by decide +kernel
theorem dX6_replaced_28 : decode cX6_replaced 28 = .ok (.aload_n 0, 1) := by decide +kernel
theorem dX6_replaced_29 : decode cX6_replaced 29 = .ok (.iload_n 1, 1) := by decide +kernel
theorem dX6_replaced_30 : decode cX6_replaced 30 = .ok (.iload_n 2, 1) := by decide +kernel
theorem dX6_replaced_31 : decode cX6_replaced 31 = .ok (.iastore, 1) := by decide +kernel
theorem dX6_replaced_32 : decode cX6_replaced 32 = .ok (.iload 5, 2) := by decide +kernel
theorem dX6_replaced_34 : decode cX6_replaced 34 = .ok (.ireturn, 1) := by decide +kernel
theorem dX6_replacedFame_0 : decode cX6_replacedFame 0 = .ok (.iload_n 1, 1) := by decide +kernel
theorem dX6_replacedFame_1 : decode cX6_replacedFame 1 = .ok (.ifCond .lt 10, 3) := by decide +kernel
theorem dX6_replacedFame_4 : decode cX6_replacedFame 4 = .ok (.iload_n 1, 1) := by decide +kernel
theorem dX6_replacedFame_5 : decode cX6_replacedFame 5 = .ok (.sipush 500, 3) := by decide +kernel
theorem dX6_replacedFame_8 : decode cX6_replacedFame 8 = .ok (.if_icmp .le 5, 3) := by decide +kernel
theorem dX6_replacedFame_11 : decode cX6_replacedFame 11 = .ok (.iconst (-1), 1) := by decide +kernel
theorem dX6_replacedFame_12 : decode cX6_replacedFame 12 = .ok (.ireturn, 1) := by decide +kernel
theorem dX6_replacedFame_13 : decode cX6_replacedFame 13 = .ok (.aload_n 0, 1) := by decide +kernel
theorem dX6_replacedFame_14 : decode cX6_replacedFame 14 = .ok (.getfield 26, 3) := by decide +kernel
theorem dX6_replacedFame_17 : decode cX6_replacedFame 17 = .ok (.getfield 278, 3) := by decide +kernel
theorem dX6_replacedFame_20 : decode cX6_replacedFame 20 = .ok (.istore_n 2, 1) := by decide +kernel
theorem dX6_replacedFame_21 : decode cX6_replacedFame 21 = .ok (.aload_n 0, 1) := by decide +kernel
theorem dX6_replacedFame_22 : decode cX6_replacedFame 22 = .ok (.getfield 26, 3) := by decide +kernel
theorem dX6_replacedFame_25 : decode cX6_replacedFame 25 = .ok (.iload_n 1, 1) := by decide +kernel
theorem dX6_replacedFame_26 : decode cX6_replacedFame 26 = .ok (.putfield 278, 3) := by decide +kernel
theorem dX6_replacedFame_29 : decode cX6_replacedFame 29 = .ok (.iload_n 2, 1) := by decide +kernel
theorem dX6_replacedFame_30 : decode cX6_replacedFame 30 = .ok (.ireturn, 1) := by decide +kernel
theorem dX6_replacedCustom_0 : decode cX6_replacedCustom 0 = .ok (.iload_n 1, 1) := by decide +kernel
theorem dX6_replacedCustom_1 : decode cX6_replacedCustom 1 = .ok (.ifCond .lt 8, 3) := by decide +kernel
theorem dX6_replacedCustom_4 : decode cX6_replacedCustom 4 = .ok (.iload_n 1, 1) := by decide +kernel
theorem dX6_replacedCustom_5 : decode cX6_replacedCustom 5 = .ok (.iconst 1, 1) := by decide +kernel
theorem dX6_replacedCustom_6 : decode cX6_replacedCustom 6 = .ok (.if_icmp .le 5, 3) := by decide +kernel
theorem dX6_replacedCustom_9 : decode cX6_replacedCustom 9 = .ok (.iconst (-1), 1) := by decide +kernel
theorem dX6_replacedCustom_10 : decode cX6_replacedCustom 10 = .ok (.ireturn, 1) := by decide +kernel
theorem dX6_replacedCustom_11 : decode cX6_replacedCustom 11 = .ok (.aload_n 0, 1) := by decide +kernel
theorem dX6_replacedCustom_12 : decode cX6_replacedCustom 12 = .ok (.getfield 60, 3) := by decide +kernel
theorem dX6_replacedCustom_15 : decode cX6_replacedCustom 15 = .ok (.istore_n 2, 1) := by decide +kernel
theorem dX6_replacedCustom_16 : decode cX6_replacedCustom 16 = .ok (.aload_n 0, 1) := by decide +kernel
theorem dX6_replacedCustom_17 : decode cX6_replacedCustom 17 = .ok (.iload_n 1, 1) := by decide +kernel
theorem dX6_replacedCustom_18 : decode cX6_replacedCustom 18 = .ok (.putfield 60, 3) := by decide +kernel
theorem dX6_replacedCustom_21 : decode cX6_replacedCustom 21 = .ok (.iload_n 2, 1) := by decide +kernel
theorem dX6_replacedCustom_22 : decode cX6_replacedCustom 22 = .ok (.ireturn, 1) := by decide +kernel
theorem dX6_replacedInterest_0 : decode cX6_replacedInterest 0 = .ok (.iload_n 1, 1) := by decide +kernel
theorem dX6_replacedInterest_1 : decode cX6_replacedInterest 1 = .ok (.ifCond .lt 9, 3) := by decide +kernel
theorem dX6_replacedInterest_4 : decode cX6_replacedInterest 4 = .ok (.iload_n 1, 1) := by decide +kernel
theorem dX6_replacedInterest_5 : decode cX6_replacedInterest 5 = .ok (.bipush 50, 2) := by decide +kernel
theorem dX6_replacedInterest_7 : decode cX6_replacedInterest 7 = .ok (.if_icmp .le 5, 3) := by decide +kernel
theorem dX6_replacedInterest_10 : decode cX6_replacedInterest 10 = .ok (.iconst (-1), 1) := by decide +kernel
theorem dX6_replacedInterest_11 : decode cX6_replacedInterest 11 = .ok (.ireturn, 1) := by decide +kernel
theorem dX6_replacedInterest_12 : decode cX6_replacedInterest 12 = .ok (.aload_n 0, 1) := by decide +kernel
theorem dX6_replacedInterest_13 : decode cX6_replacedInterest 13 = .ok (.getfield 63, 3) := by decide +kernel
theorem dX6_replacedInterest_16 : decode cX6_replacedInterest 16 = .ok (.istore_n 2, 1) := by decide +kernel
theorem dX6_replacedInterest_17 : decode cX6_replacedInterest 17 = .ok (.aload_n 0, 1) := by decide +kernel
theorem dX6_replacedInterest_18 : decode cX6_replacedInterest 18 = .ok (.iload_n 1, 1) := by decide +kernel
theorem dX6_replacedInterest_19 : decode cX6_replacedInterest 19 = .ok (.putfield 63, 3) := by decide +kernel
theorem dX6_replacedInterest_22 : decode cX6_replacedInterest 22 = .ok (.iload_n 2, 1) := by decide +kernel
theorem dX6_replacedInterest_23 : decode cX6_replacedInterest 23 = .ok (.ireturn, 1) := by decide +kernel
theorem dX6_choosePayment_0 : decode cX6_choosePayment 0 = .ok (.iload_n 1, 1) := by decide +kernel
theorem dX6_choosePayment_1 : decode cX6_choosePayment 1 = .ok (.invokestatic 69, 3) := by decide +kernel
theorem dX6_choosePayment_4 : decode cX6_choosePayment 4 = .ok (.ifCond .eq 23, 3) := by decide +kernel
theorem dX6_choosePayment_7 : decode cX6_choosePayment 7 = .ok (.iload_n 2, 1) := by decide +kernel
theorem dX6_choosePayment_8 : decode cX6_choosePayment 8 = .ok (.iconst 1, 1) := by decide +kernel
theorem dX6_choosePayment_9 : decode cX6_choosePayment 9 = .ok (.if_icmp .lt 18, 3) := by decide +kernel
theorem dX6_choosePayment_12 : decode cX6_choosePayment 12 = .ok (.iload_n 2, 1) := by decide +kernel
theorem dX6_choosePayment_13 : decode cX6_choosePayment 13 = .ok (.ldc_w 284, 3) := by decide +kernel
theorem dX6_choosePayment_16 : decode cX6_choosePayment 16 = .ok (.if_icmp .gt 11, 3) := by decide +kernel
theorem dX6_choosePayment_19 : decode cX6_choosePayment 19 = .ok (.aload_n 0, 1) := by decide +kernel
theorem dX6_choosePayment_20 : decode cX6_choosePayment 20 = .ok (.iload_n 1, 1) := by decide +kernel
theorem dX6_choosePayment_21 : decode cX6_choosePayment 21 = .ok (.invokevirtual 285, 3) := by decide +kernel
theorem dX6_choosePayment_24 : decode cX6_choosePayment 24 = .ok (.ifCond .ne 5, 3) := by decide +kernel
theorem dX6_choosePayment_27 : decode cX6_choosePayment 27 = .ok (.iconst (-1), 1) := by decide +kernel
theorem dX6_choosePayment_28 : decode cX6_choosePayment 28 = .ok (.ireturn, 1) := by decide +kernel
theorem dX6_choosePayment_29 : decode cX6_choosePayment 29 = .ok (.aload_n 0, 1) := by decide +kernel
theorem dX6_choosePayment_30 : decode cX6_choosePayment 30 = .ok (.getfield 40, 3) := by decide +kernel
theorem dX6_choosePayment_33 : decode cX6_choosePayment 33 = .ok (.getfield 288, 3) := by decide +kernel
theorem dX6_choosePayment_36 : decode cX6_choosePayment 36 = .ok (.iload_n 2, 1) := by decide +kernel
theorem dX6_choosePayment_37 : decode cX6_choosePayment 37 = .ok (.if_icmp .ge 6, 3) := by decide +kernel
theorem dX6_choosePayment_40 : decode cX6_choosePayment 40 = .ok (.bipush (-2), 2) := by decide +kernel
theorem dX6_choosePayment_42 : decode cX6_choosePayment 42 = .ok (.ireturn, 1) := by decide +kernel
theorem dX6_choosePayment_43 : decode cX6_choosePayment 43 = .ok (.aload_n 0, 1) := by decide +kernel
theorem dX6_choosePayment_44 : decode cX6_choosePayment 44 = .ok (.getfield 40, 3) := by decide +kernel
theorem dX6_choosePayment_47 : decode cX6_choosePayment 47 = .ok (.iload_n 2, 1) := by decide +kernel
theorem dX6_choosePayment_48 : decode cX6_choosePayment 48 = .ok (.invokevirtual 291, 3) := by decide +kernel
theorem dX6_choosePayment_51 : decode cX6_choosePayment 51 = .ok (.aload_n 0, 1) := by decide +kernel
theorem dX6_choosePayment_52 : decode cX6_choosePayment 52 = .ok (.getfield 40, 3) := by decide +kernel
theorem dX6_choosePayment_55 : decode cX6_choosePayment 55 = .ok (.getfield 294, 3) := by decide +kernel
theorem dX6_choosePayment_58 : decode cX6_choosePayment 58 = .ok (.ireturn, 1) := by decide +kernel
theorem dX6_fillPurse_0 : decode cX6_fillPurse 0 = .ok (.aload_n 0, 1) := by decide +kernel
theorem dX6_fillPurse_1 : decode cX6_fillPurse 1 = .ok (.getfield 40, 3) := by decide +kernel
theorem dX6_fillPurse_4 : decode cX6_fillPurse 4 = .ok (.invokevirtual 297, 3) := by decide +kernel
theorem dX6_fillPurse_7 : decode cX6_fillPurse 7 = .ok (.iconst 0, 1) := by decide +kernel
theorem dX6_fillPurse_8 : decode cX6_fillPurse 8 = .ok (.istore_n 2, 1) := by decide +kernel
theorem dX6_fillPurse_9 : decode cX6_fillPurse 9 = .ok (.iload_n 2, 1) := by decide +kernel
theorem dX6_fillPurse_10 : decode cX6_fillPurse 10 = .ok (.aload_n 0, 1) := by decide +kernel
theorem dX6_fillPurse_11 : decode cX6_fillPurse 11 = .ok (.getfield 15, 3) := by decide +kernel
theorem dX6_fillPurse_14 : decode cX6_fillPurse 14 = .ok (.if_icmp .ge 45, 3) := by decide +kernel
theorem dX6_fillPurse_17 : decode cX6_fillPurse 17 = .ok (.aload_n 0, 1) := by decide +kernel
theorem dX6_fillPurse_18 : decode cX6_fillPurse 18 = .ok (.iload_n 2, 1) := by decide +kernel
theorem dX6_fillPurse_19 : decode cX6_fillPurse 19 = .ok (.invokevirtual 92, 3) := by decide +kernel
theorem dX6_fillPurse_22 : decode cX6_fillPurse 22 = .ok (.astore_n 3, 1) := by decide +kernel
theorem dX6_fillPurse_23 : decode cX6_fillPurse 23 = .ok (.aload_n 3, 1) := by decide +kernel
theorem dX6_fillPurse_24 : decode cX6_fillPurse 24 = .ok (.ifnull 29, 3) := by decide +kernel
theorem dX6_fillPurse_27 : decode cX6_fillPurse 27 = .ok (.aload_n 3, 1) := by decide +kernel
theorem dX6_fillPurse_28 : decode cX6_fillPurse 28 = .ok (.getfield 105, 3) := by decide +kernel
theorem dX6_fillPurse_31 : decode cX6_fillPurse 31 = .ok (.iload_n 1, 1) := by decide +kernel
theorem dX6_fillPurse_32 : decode cX6_fillPurse 32 = .ok (.if_icmp .ne 21, 3) := by decide +kernel
theorem dX6_fillPurse_35 : decode cX6_fillPurse 35 = .ok (.aload_n 0, 1) := by decide +kernel
theorem dX6_fillPurse_36 : decode cX6_fillPurse 36 = .ok (.getfield 40, 3) := by decide +kernel
theorem dX6_fillPurse_39 : decode cX6_fillPurse 39 = .ok (.iload_n 2, 1) := by decide +kernel
theorem dX6_fillPurse_40 : decode cX6_fillPurse 40 = .ok (.aload_n 0, 1) := by decide +kernel
theorem dX6_fillPurse_41 : decode cX6_fillPurse 41 = .ok (.aload_n 3, 1) := by decide +kernel
theorem dX6_fillPurse_42 : decode cX6_fillPurse 42 = .ok (.invokevirtual 153, 3) := by decide +kernel
theorem dX6_fillPurse_45 : decode cX6_fillPurse 45 = .ok (.invokevirtual 300, 3) := by decide +kernel
theorem dX6_fillPurse_48 : decode cX6_fillPurse 48 = .ok (.ifCond .ne 5, 3) := by decide +kernel
theorem dX6_fillPurse_51 : decode cX6_fillPurse 51 = .ok (.iconst 0, 1) := by decide +kernel
theorem dX6_fillPurse_52 : decode cX6_fillPurse 52 = .ok (.ireturn, 1) := by decide +kernel
theorem dX6_fillPurse_53 : decode cX6_fillPurse 53 = .ok (.iinc 2 1, 3) := by decide +kernel
theorem dX6_fillPurse_56 : decode cX6_fillPurse 56 = .ok (.goto (-47), 3) := by decide +kernel
theorem dX6_fillPurse_59 : decode cX6_fillPurse 59 = .ok (.iconst 1, 1) := by decide +kernel
theorem dX6_fillPurse_60 : decode cX6_fillPurse 60 = .ok (.ireturn, 1) := by decide +kernel
theorem dX6_chosenNames_0 : decode cX6_chosenNames 0 = .ok (.iconst 0, 1) := by decide +kernel
theorem dX6_chosenNames_1 : decode cX6_chosenNames 1 = .ok (.istore_n 1, 1) := by decide +kernel
theorem dX6_chosenNames_2 : decode cX6_chosenNames 2 = .ok (.iconst 0, 1) := by decide +kernel
theorem dX6_chosenNames_3 : decode cX6_chosenNames 3 = .ok (.istore_n 2, 1) := by decide +kernel
theorem dX6_chosenNames_4 : decode cX6_chosenNames 4 = .ok (.iload_n 2, 1) := by decide +kernel
theorem dX6_chosenNames_5 : decode cX6_chosenNames 5 = .ok (.aload_n 0, 1) := by decide +kernel
theorem dX6_chosenNames_6 : decode cX6_chosenNames 6 = .ok (.getfield 40, 3) := by decide +kernel
theorem dX6_chosenNames_9 : decode cX6_chosenNames 9 = .ok (.getfield 301, 3) := by decide +kernel
theorem dX6_chosenNames_12 : decode cX6_chosenNames 12 = .ok (.if_icmp .ge 33, 3) := by decide +kernel
theorem dX6_chosenNames_15 : decode cX6_chosenNames 15 = .ok (.aload_n 0, 1) := by decide +kernel
theorem dX6_chosenNames_16 : decode cX6_chosenNames 16 = .ok (.aload_n 0, 1) := by decide +kernel
theorem dX6_chosenNames_17 : decode cX6_chosenNames 17 = .ok (.getfield 40, 3) := by decide +kernel
theorem dX6_chosenNames_20 : decode cX6_chosenNames 20 = .ok (.iload_n 2, 1) := by decide +kernel
theorem dX6_chosenNames_21 : decode cX6_chosenNames 21 = .ok (.invokevirtual 302, 3) := by decide +kernel
theorem dX6_chosenNames_24 : decode cX6_chosenNames 24 = .ok (.invokevirtual 143, 3) := by decide +kernel
theorem dX6_chosenNames_27 : decode cX6_chosenNames 27 = .ok (.astore_n 3, 1) := by decide +kernel
theorem dX6_chosenNames_28 : decode cX6_chosenNames 28 = .ok (.aload_n 3, 1) := by decide +kernel
theorem dX6_chosenNames_29 : decode cX6_chosenNames 29 = .ok (.ifnull 10, 3) := by decide +kernel
theorem dX6_chosenNames_32 : decode cX6_chosenNames 32 = .ok (.iload_n 1, 1) := by decide +kernel
theorem dX6_chosenNames_33 : decode cX6_chosenNames 33 = .ok (.aload_n 3, 1) := by decide +kernel
theorem dX6_chosenNames_34 : decode cX6_chosenNames 34 = .ok (.invokestatic 99, 3) := by decide +kernel
theorem dX6_chosenNames_37 : decode cX6_chosenNames 37 = .ok (.iadd, 1) := by decide +kernel
theorem dX6_chosenNames_38 : decode cX6_chosenNames 38 = .ok (.istore_n 1, 1) := by decide +kernel
theorem dX6_chosenNames_39 : decode cX6_chosenNames 39 = .ok (.iinc 2 1, 3) := by decide +kernel
theorem dX6_chosenNames_42 : decode cX6_chosenNames 42 = .ok (.goto (-38), 3) := by decide +kernel
theorem dX6_chosenNames_45 : decode cX6_chosenNames 45 = .ok (.iload_n 1, 1) := by decide +kernel
theorem dX6_chosenNames_46 : decode cX6_chosenNames 46 = .ok (.ireturn, 1) := by decide +kernel
theorem dX6_handOverChosen_0 : decode cX6_handOverChosen 0 = .ok (.iconst 0, 1) := by decide +kernel
theorem dX6_handOverChosen_1 : decode cX6_handOverChosen 1 = .ok (.istore_n 2, 1) := by decide +kernel
theorem dX6_handOverChosen_2 : decode cX6_handOverChosen 2 = .ok (.iload_n 2, 1) := by decide +kernel
theorem dX6_handOverChosen_3 : decode cX6_handOverChosen 3 = .ok (.aload_n 0, 1) := by decide +kernel
theorem dX6_handOverChosen_4 : decode cX6_handOverChosen 4 = .ok (.getfield 40, 3) := by decide +kernel
theorem dX6_handOverChosen_7 : decode cX6_handOverChosen 7 = .ok (.getfield 301, 3) := by decide +kernel
theorem dX6_handOverChosen_10 : decode cX6_handOverChosen 10 = .ok (.if_icmp .ge 32, 3) := by decide +kernel
theorem dX6_handOverChosen_13 : decode cX6_handOverChosen 13 = .ok (.aload_n 0, 1) := by decide +kernel
theorem dX6_handOverChosen_14 : decode cX6_handOverChosen 14 = .ok (.aload_n 0, 1) := by decide +kernel
theorem dX6_handOverChosen_15 : decode cX6_handOverChosen 15 = .ok (.getfield 40, 3) := by decide +kernel
theorem dX6_handOverChosen_18 : decode cX6_handOverChosen 18 = .ok (.iload_n 2, 1) := by decide +kernel
theorem dX6_handOverChosen_19 : decode cX6_handOverChosen 19 = .ok (.invokevirtual 302, 3) := by decide +kernel
theorem dX6_handOverChosen_22 : decode cX6_handOverChosen 22 = .ok (.invokevirtual 143, 3) := by decide +kernel
theorem dX6_handOverChosen_25 : decode cX6_handOverChosen 25 = .ok (.astore_n 3, 1) := by decide +kernel
theorem dX6_handOverChosen_26 : decode cX6_handOverChosen 26 = .ok (.aload_n 3, 1) := by decide +kernel
theorem dX6_handOverChosen_27 : decode cX6_handOverChosen 27 = .ok (.ifnull 9, 3) := by decide +kernel
theorem dX6_handOverChosen_30 : decode cX6_handOverChosen 30 = .ok (.aload_n 0, 1) := by decide +kernel
theorem dX6_handOverChosen_31 : decode cX6_handOverChosen 31 = .ok (.aload_n 3, 1) := by decide +kernel
theorem dX6_handOverChosen_32 : decode cX6_handOverChosen 32 = .ok (.iload_n 1, 1) := by decide +kernel
theorem dX6_handOverChosen_33 : decode cX6_handOverChosen 33 = .ok (.invokevirtual 140, 3) := by decide +kernel
theorem dX6_handOverChosen_36 : decode cX6_handOverChosen 36 = .ok (.iinc 2 1, 3) := by decide +kernel
theorem dX6_handOverChosen_39 : decode cX6_handOverChosen 39 = .ok (.goto (-37), 3) := by decide +kernel
theorem dX6_handOverChosen_42 : decode cX6_handOverChosen 42 = .ok (.return_, 1) := by decide +kernel
end
section
theorem dX7_init_0 : decode cX7_init 0 = .ok (.aload_n 0, 1) := by decide +kernel
theorem dX7_init_1 : decode cX7_init 1 = .ok (.invokespecial 1, 3) := by decide +kernel
theorem dX7_init_4 : decode cX7_init 4 = .ok (.aload_n 0, 1) := by decide +kernel
theorem dX7_init_5 : decode cX7_init 5 = .ok (.sipush 3200, 3) := by decide +kernel
theorem dX7_init_8 : decode cX7_init 8 = .ok (.newarray .int, 2) := by decide +kernel
theorem dX7_init_10 : decode cX7_init 10 = .ok (.putfield 9, 3) := by decide +kernel
theorem dX7_init_13 : decode cX7_init 13 = .ok (.aload_n 0, 1) := by decide +kernel
theorem dX7_init_14 : decode cX7_init 14 = .ok (.sipush 3200, 3) := by decide +kernel
theorem dX7_init_17 : decode cX7_init 17 = .ok (.newarray .int, 2) := by decide +kernel
theorem dX7_init_19 : decode cX7_init 19 = .ok (.putfield 13, 3) := by decide +kernel
theorem dX7_init_22 : decode cX7_init 22 = .ok (.aload_n 0, 1) := by decide +kernel
theorem dX7_init_23 : decode cX7_init 23 = .ok (.bipush 40, 2) := by decide +kernel
theorem dX7_init_25 : decode cX7_init 25 = .ok (.newarray .int, 2) := by decide +kernel
theorem dX7_init_27 : decode cX7_init 27 = .ok (.putfield 16, 3) := by decide +kernel
theorem dX7_init_30 : decode cX7_init 30 = .ok (.aload_n 0, 1) := by decide +kernel
theorem dX7_init_31 : decode cX7_init 31 = .ok (.bipush 40, 2) := by decide +kernel
theorem dX7_init_33 : decode cX7_init 33 = .ok (.newarray .int, 2) := by decide +kernel
theorem dX7_init_35 : decode cX7_init 35 = .ok (.putfield 19, 3) := by decide +kernel
theorem dX7_init_38 : decode cX7_init 38 = .ok (.aload_n 0, 1) := by decide +kernel
theorem dX7_init_39 : decode cX7_init 39 = .ok (.bipush 40, 2) := by decide +kernel
theorem dX7_init_41 : decode cX7_init 41 = .ok (.newarray .int, 2) := by decide +kernel
theorem dX7_init_43 : decode cX7_init 43 = .ok (.putfield 22, 3) := by decide +kernel
theorem dX7_init_46 : decode cX7_init 46 = .ok (.aload_n 0, 1) := by decide +kernel
theorem dX7_init_47 : decode cX7_init 47 = .ok (.iconst 5, 1) := by decide +kernel
theorem dX7_init_48 : decode cX7_init 48 = .ok (.newarray .int, 2) := by decide +kernel
theorem dX7_init_50 : decode cX7_init 50 = .ok (.dup, 1) := by decide +kernel
theorem dX7_init_51 : decode cX7_init 51 = .ok (.iconst 0, 1) := by decide +kernel
theorem dX7_init_52 : decode cX7_init 52 = .ok (.iconst 1, 1) := by decide +kernel
theorem dX7_init_53 : decode cX7_init 53 = .ok (.iastore, 1) := by decide +kernel
theorem dX7_init_54 : decode cX7_init 54 = .ok (.dup, 1) := by decide +kernel
theorem dX7_init_55 : decode cX7_init 55 = .ok (.iconst 1, 1) := by decide +kernel
theorem dX7_init_56 : decode cX7_init 56 = .ok (.iconst 2, 1) := by decide +kernel
theorem dX7_init_57 : decode cX7_init 57 = .ok (.iastore, 1) := by decide +kernel
theorem dX7_init_58 : decode cX7_init 58 = .ok (.dup, 1) := by decide +kernel
theorem dX7_init_59 : decode cX7_init 59 = .ok (.iconst 2, 1) := by decide +kernel
theorem dX7_init_60 : decode cX7_init 60 = .ok (.iconst 4, 1) := by decide +kernel
theorem dX7_init_61 : decode cX7_init 61 = .ok (.iastore, 1) := by decide +kernel
theorem dX7_init_62 : decode cX7_init 62 = .ok (.dup, 1) := by decide +kernel
theorem dX7_init_63 : decode cX7_init 63 = .ok (.iconst 3, 1) := by decide +kernel
theorem dX7_init_64 : decode cX7_init 64 = .ok (.bipush 7, 2) := by decide +kernel
theorem dX7_init_66 : decode cX7_init 66 = .ok (.iastore, 1) := by decide +kernel
theorem dX7_init_67 : decode cX7_init 67 = .ok (.dup, 1) := by decide +kernel
theorem dX7_init_68 : decode cX7_init 68 = .ok (.iconst 4, 1) := by decide +kernel
theorem dX7_init_69 : decode cX7_init 69 = .ok (.bipush 11, 2) := by decide +kernel
theorem dX7_init_71 : decode cX7_init 71 = .ok (.iastore, 1) := by decide +kernel
theorem dX7_init_72 : decode cX7_init 72 = .ok (.putfield 25, 3) := by decide +kernel
theorem dX7_init_75 : decode cX7_init 75 = .ok (.aload_n 0, 1) := by decide +kernel
theorem dX7_init_76 : decode cX7_init 76 = .ok (.iconst 5, 1) := by decide +kernel
theorem dX7_init_77 : decode cX7_init 77 = .ok (.newarray .int, 2) := by decide +kernel
theorem dX7_init_79 : decode cX7_init 79 = .ok (.dup, 1) := by decide +kernel
theorem dX7_init_80 : decode cX7_init 80 = .ok (.iconst 0, 1) := by decide +kernel
theorem dX7_init_81 : decode cX7_init 81 = .ok (.iconst 0, 1) := by decide +kernel
theorem dX7_init_82 : decode cX7_init 82 = .ok (.iastore, 1) := by decide +kernel
theorem dX7_init_83 : decode cX7_init 83 = .ok (.dup, 1) := by decide +kernel
theorem dX7_init_84 : decode cX7_init 84 = .ok (.iconst 1, 1) := by decide +kernel
theorem dX7_init_85 : decode cX7_init 85 = .ok (.iconst 5, 1) := by decide +kernel
theorem dX7_init_86 : decode cX7_init 86 = .ok (.iastore, 1) := by decide +kernel
theorem dX7_init_87 : decode cX7_init 87 = .ok (.dup, 1) := by decide +kernel
theorem dX7_init_88 : decode cX7_init 88 = .ok (.iconst 2, 1) := by decide +kernel
theorem dX7_init_89 : decode cX7_init 89 = .ok (.bipush 10, 2) := by decide +kernel
theorem dX7_init_91 : decode cX7_init 91 = .ok (.iastore, 1) := by decide +kernel
theorem dX7_init_92 : decode cX7_init 92 = .ok (.dup, 1) := by decide +kernel
theorem dX7_init_93 : decode cX7_init 93 = .ok (.iconst 3, 1) := by decide +kernel
theorem dX7_init_94 : decode cX7_init 94 = .ok (.bipush 20, 2) := by decide +kernel
theorem dX7_init_96 : decode cX7_init 96 = .ok (.iastore, 1) := by decide +kernel
theorem dX7_init_97 : decode cX7_init 97 = .ok (.dup, 1) := by decide +kernel
theorem dX7_init_98 : decode cX7_init 98 = .ok (.iconst 4, 1) := by decide +kernel
theorem dX7_init_99 : decode cX7_init 99 = .ok (.bipush 40, 2) := by decide +kernel
theorem dX7_init_101 : decode cX7_init 101 = .ok (.iastore, 1) := by decide +kernel
theorem dX7_init_102 : decode cX7_init 102 = .ok (.putfield 28, 3) := by decide +kernel
theorem dX7_init_105 : decode cX7_init 105 = .ok (.aload_n 0, 1) := by decide +kernel
theorem dX7_init_106 : decode cX7_init 106 = .ok (.iconst 5, 1) := by decide +kernel
theorem dX7_init_107 : decode cX7_init 107 = .ok (.newarray .int, 2) := by decide +kernel
theorem dX7_init_109 : decode cX7_init 109 = .ok (.dup, 1) := by decide +kernel
theorem dX7_init_110 : decode cX7_init 110 = .ok (.iconst 0, 1) := by decide +kernel
theorem dX7_init_111 : decode cX7_init 111 = .ok (.bipush 50, 2) := by decide +kernel
theorem dX7_init_113 : decode cX7_init 113 = .ok (.iastore, 1) := by decide +kernel
theorem dX7_init_114 : decode cX7_init 114 = .ok (.dup, 1) := by decide +kernel
theorem dX7_init_115 : decode cX7_init 115 = .ok (.iconst 1, 1) := by decide +kernel
theorem dX7_init_116 : decode cX7_init 116 = .ok (.bipush 50, 2) := by decide +kernel
theorem dX7_init_118 : decode cX7_init 118 = .ok (.iastore, 1) := by decide +kernel
theorem dX7_init_119 : decode cX7_init 119 = .ok (.dup, 1) := by decide +kernel
theorem dX7_init_120 : decode cX7_init 120 = .ok (.iconst 2, 1) := by decide +kernel
theorem dX7_init_121 : decode cX7_init 121 = .ok (.bipush 50, 2) := by decide +kernel
theorem dX7_init_123 : decode cX7_init 123 = .ok (.iastore, 1) := by decide +kernel
theorem dX7_init_124 : decode cX7_init 124 = .ok (.dup, 1) := by decide +kernel
theorem dX7_init_125 : decode cX7_init 125 = .ok (.iconst 3, 1) := by decide +kernel
theorem dX7_init_126 : decode cX7_init 126 = .ok (.bipush 50, 2) := by decide +kernel
theorem dX7_init_128 : decode cX7_init 128 = .ok (.iastore, 1) := by decide +kernel
theorem dX7_init_129 : decode cX7_init 129 = .ok (.dup, 1) := by decide +kernel
theorem dX7_init_130 : decode cX7_init 130 = .ok (.iconst 4, 1) := by decide +kernel
theorem dX7_init_131 : decode cX7_init 131 = .ok (.bipush 50, 2) := by decide +kernel
theorem dX7_init_133 : decode cX7_init 133 = .ok (.iastore, 1) := by decide +kernel
theorem dX7_init_134 : decode cX7_init 134 = .ok (.putfield 31, 3) := by decide +kernel
theorem dX7_init_137 : decode cX7_init 137 = .ok (.aload_n 0, 1) := by decide +kernel
theorem dX7_init_138 : decode cX7_init 138 = .ok (.bipush 25, 2) := by decide +kernel
theorem dX7_init_140 : decode cX7_init 140 = .ok (.putfield 34, 3) := by decide +kernel
theorem dX7_init_143 : decode cX7_init 143 = .ok (.aload_n 0, 1) := by decide +kernel
theorem dX7_init_144 : decode cX7_init 144 = .ok (.iconst 1, 1) := by decide +kernel
theorem dX7_init_145 : decode cX7_init 145 = .ok (.putfield 38, 3) := by decide +kernel
theorem dX7_init_148 : decode cX7_init 148 = .ok (.aload_n 0, 1) := by decide +kernel
theorem dX7_init_149 : decode cX7_init 149 = .ok (.bipush 10, 2) := by decide +kernel
theorem dX7_init_151 : decode cX7_init 151 = .ok (.putfield 41, 3) := by decide +kernel
theorem dX7_init_154 : decode cX7_init 154 = .ok (.aload_n 0, 1) := by decide +kernel
theorem dX7_init_155 : decode cX7_init 155 = .ok (.sipush 800, 3) := by decide +kernel
theorem dX7_init_158 : decode cX7_init 158 = .ok (.newarray .int, 2) := by decide +kernel
theorem dX7_init_160 : decode cX7_init 160 = .ok (.putfield 44, 3) := by decide +kernel
theorem dX7_init_163 : decode cX7_init 163 = .ok (.aload_n 0, 1) := by decide +kernel
theorem dX7_init_164 : decode cX7_init 164 = .ok (.sipush 300, 3) := by decide +kernel
theorem dX7_init_167 : decode cX7_init 167 = .ok (.newarray .int, 2) := by decide +kernel
theorem dX7_init_169 : decode cX7_init 169 = .ok (.putfield 47, 3) := by decide +kernel
theorem dX7_init_172 : decode cX7_init 172 = .ok (.aload_n 0, 1) := by decide +kernel
theorem dX7_init_173 : decode cX7_init 173 = .ok (.iconst 5, 1) := by decide +kernel
theorem dX7_init_174 : decode cX7_init 174 = .ok (.newarray .int, 2) := by decide +kernel
theorem dX7_init_176 : decode cX7_init 176 = .ok (.putfield 50, 3) := by decide +kernel
theorem dX7_init_179 : decode cX7_init 179 = .ok (.aload_n 0, 1) := by decide +kernel
theorem dX7_init_180 : decode cX7_init 180 = .ok (.bipush 12, 2) := by decide +kernel
theorem dX7_init_182 : decode cX7_init 182 = .ok (.newarray .int, 2) := by decide +kernel
theorem dX7_init_184 : decode cX7_init 184 = .ok (.putfield 53, 3) := by decide +kernel
theorem dX7_init_187 : decode cX7_init 187 = .ok (.aload_n 0, 1) := by decide +kernel
theorem dX7_init_188 : decode cX7_init 188 = .ok (.bipush 12, 2) := by decide +kernel
theorem dX7_init_190 : decode cX7_init 190 = .ok (.newarray .int, 2) := by decide +kernel
theorem dX7_init_192 : decode cX7_init 192 = .ok (.putfield 56, 3) := by decide +kernel
theorem dX7_init_195 : decode cX7_init 195 = .ok (.aload_n 0, 1) := by decide +kernel
theorem dX7_init_196 : decode cX7_init 196 = .ok (.bipush 61, 2) := by decide +kernel
theorem dX7_init_198 : decode cX7_init 198 = .ok (.newarray .int, 2) := by decide +kernel
theorem dX7_init_200 : decode cX7_init 200 = .ok (.putfield 59, 3) := by decide +kernel
theorem dX7_init_203 : decode cX7_init 203 = .ok (.aload_n 0, 1) := by decide +kernel
theorem dX7_init_204 : decode cX7_init 204 = .ok (.bipush 61, 2) := by decide +kernel
theorem dX7_init_206 : decode cX7_init 206 = .ok (.newarray .int, 2) := by decide +kernel
theorem dX7_init_208 : decode cX7_init 208 = .ok (.putfield 62, 3) := by decide +kernel
theorem dX7_init_211 : decode cX7_init 211 = .ok (.aload_n 0, 1) := by decide +kernel
theorem dX7_init_212 : decode cX7_init 212 = .ok (.bipush 61, 2) := by decide +kernel
theorem dX7_init_214 : decode cX7_init 214 = .ok (.newarray .int, 2) := by decide +kernel
theorem dX7_init_216 : decode cX7_init 216 = .ok (.putfield 65, 3) := by decide +kernel
theorem dX7_init_219 : decode cX7_init 219 = .ok (.return_, 1) := by decide +kernel
theorem dX7_thrown_0 : decode cX7_thrown 0 = .ok (.aload_n 0, 1) := by decide +kernel
theorem dX7_thrown_1 : decode cX7_thrown 1 = .ok (.getfield 68, 3) := by decide +kernel
theorem dX7_thrown_4 : decode cX7_thrown 4 = .ok (.ireturn, 1) := by decide +kernel
theorem dX7_in_0 : decode cX7_in 0 = .ok (.iload_n 0, 1) := by decide +kernel
theorem dX7_in_1 : decode cX7_in 1 = .ok (.iload_n 1, 1) := by decide +kernel
theorem dX7_in_2 : decode cX7_in 2 = .ok (.if_icmp .lt 12, 3) := by decide +kernel
theorem dX7_in_5 : decode cX7_in 5 = .ok (.iload_n 0, 1) := by decide +kernel
theorem dX7_in_6 : decode cX7_in 6 = .ok (.iload_n 2, 1) := by decide +kernel
theorem dX7_in_7 : decode cX7_in 7 = .ok (.if_icmp .gt 7, 3) := by decide +kernel
theorem dX7_in_10 : decode cX7_in 10 = .ok (.iconst 1, 1) := by decide +kernel
theorem dX7_in_11 : decode cX7_in 11 = .ok (.goto 4, 3) := by decide +kernel
theorem dX7_in_14 : decode cX7_in 14 = .ok (.iconst 0, 1) := by decide +kernel
theorem dX7_in_15 : decode cX7_in 15 = .ok (.ireturn, 1) := by decide +kernel
theorem dX7_isThere_0 : decode cX7_isThere 0 = .ok (.iload_n 1, 1) := by decide +kernel
theorem dX7_isThere_1 : decode cX7_isThere 1 = .ok (.iconst 0, 1) := by decide +kernel
theorem dX7_isThere_2 : decode cX7_isThere 2 = .ok (.aload_n 0, 1) := by decide +kernel
theorem dX7_isThere_3 : decode cX7_isThere 3 = .ok (.getfield 71, 3) := by decide +kernel
theorem dX7_isThere_6 : decode cX7_isThere 6 = .ok (.iconst 1, 1) := by decide +kernel
theorem dX7_isThere_7 : decode cX7_isThere 7 = .ok (.isub, 1) := by decide +kernel
theorem dX7_isThere_8 : decode cX7_isThere 8 = .ok (.invokestatic 74, 3) := by decide +kernel
theorem dX7_isThere_11 : decode cX7_isThere 11 = .ok (.ifCond .eq 16, 3) := by decide +kernel
theorem dX7_isThere_14 : decode cX7_isThere 14 = .ok (.aload_n 0, 1) := by decide +kernel
theorem dX7_isThere_15 : decode cX7_isThere 15 = .ok (.getfield 16, 3) := by decide +kernel
theorem dX7_isThere_18 : decode cX7_isThere 18 = .ok (.iload_n 1, 1) := by decide +kernel
theorem dX7_isThere_19 : decode cX7_isThere 19 = .ok (.iaload, 1) := by decide +kernel
theorem dX7_isThere_20 : decode cX7_isThere 20 = .ok (.ifCond .le 7, 3) := by decide +kernel
theorem dX7_isThere_23 : decode cX7_isThere 23 = .ok (.iconst 1, 1) := by decide +kernel
theorem dX7_isThere_24 : decode cX7_isThere 24 = .ok (.goto 4, 3) := by decide +kernel
theorem dX7_isThere_27 : decode cX7_isThere 27 = .ok (.iconst 0, 1) := by decide +kernel
theorem dX7_isThere_28 : decode cX7_isThere 28 = .ok (.ireturn, 1) := by decide +kernel
theorem dX7_hasRoom_0 : decode cX7_hasRoom 0 = .ok (.aload_n 0, 1) := by decide +kernel
theorem dX7_hasRoom_1 : decode cX7_hasRoom 1 = .ok (.getfield 78, 3) := by decide +kernel
theorem dX7_hasRoom_4 : decode cX7_hasRoom 4 = .ok (.iload_n 1, 1) := by decide +kernel
theorem dX7_hasRoom_5 : decode cX7_hasRoom 5 = .ok (.iadd, 1) := by decide +kernel
theorem dX7_hasRoom_6 : decode cX7_hasRoom 6 = .ok (.sipush 200, 3) := by decide +kernel
theorem dX7_hasRoom_9 : decode cX7_hasRoom 9 = .ok (.if_icmp .gt 7, 3) := by decide +kernel
theorem dX7_hasRoom_12 : decode cX7_hasRoom 12 = .ok (.iconst 1, 1) := by decide +kernel
theorem dX7_hasRoom_13 : decode cX7_hasRoom 13 = .ok (.goto 4, 3) := by decide +kernel
theorem dX7_hasRoom_16 : decode cX7_hasRoom 16 = .ok (.iconst 0, 1) := by decide +kernel
theorem dX7_hasRoom_17 : decode cX7_hasRoom 17 = .ok (.ireturn, 1) := by decide +kernel
theorem dX7_say_0 : decode cX7_say 0 = .ok (.iconst 4, 1) := by decide +kernel
theorem dX7_say_1 : decode cX7_say 1 = .ok (.aload_n 0, 1) := by decide +kernel
theorem dX7_say_2 : decode cX7_say 2 = .ok (.getfield 78, 3) := by decide +kernel
theorem dX7_say_5 : decode cX7_say 5 = .ok (.imul, 1) := by decide +kernel
theorem dX7_say_6 : decode cX7_say 6 = .ok (.istore 4, 2) := by decide +kernel
theorem dX7_say_8 : decode cX7_say 8 = .ok (.aload_n 0, 1) := by decide +kernel
theorem dX7_say_9 : decode cX7_say 9 = .ok (.getfield 44, 3) := by decide +kernel
theorem dX7_say_12 : decode cX7_say 12 = .ok (.iload 4, 2) := by decide +kernel
theorem dX7_say_14 : decode cX7_say 14 = .ok (.iload_n 1, 1) := by decide +kernel
theorem dX7_say_15 : decode cX7_say 15 = .ok (.iastore, 1) := by decide +kernel
theorem dX7_say_16 : decode cX7_say 16 = .ok (.aload_n 0, 1) := by decide +kernel
theorem dX7_say_17 : decode cX7_say 17 = .ok (.getfield 44, 3) := by decide +kernel
theorem dX7_say_20 : decode cX7_say 20 = .ok (.iload 4, 2) := by decide +kernel
theorem dX7_say_22 : decode cX7_say 22 = .ok (.iconst 1, 1) := by decide +kernel
theorem dX7_say_23 : decode cX7_say 23 = .ok (.iadd, 1) := by decide +kernel
theorem dX7_say_24 : decode cX7_say 24 = .ok (.iload_n 2, 1) := by decide +kernel
theorem dX7_say_25 : decode cX7_say 25 = .ok (.iastore, 1) := by decide +kernel
theorem dX7_say_26 : decode cX7_say 26 = .ok (.aload_n 0, 1) := by decide +kernel
theorem dX7_say_27 : decode cX7_say 27 = .ok (.getfield 44, 3) := by decide +kernel
theorem dX7_say_30 : decode cX7_say 30 = .ok (.iload 4, 2) := by decide +kernel
theorem dX7_say_32 : decode cX7_say 32 = .ok (.iconst 2, 1) := by decide +kernel
theorem dX7_say_33 : decode cX7_say 33 = .ok (.iadd, 1) := by decide +kernel
theorem dX7_say_34 : decode cX7_say 34 = .ok (.iload_n 3, 1) := by decide +kernel
theorem dX7_say_35 : decode cX7_say 35 = .ok (.iastore, 1) := by decide +kernel
theorem dX7_say_36 : decode cX7_say 36 = .ok (.aload_n 0, 1) := by decide +kernel
theorem dX7_say_37 : decode cX7_say 37 = .ok (.getfield 44, 3) := by decide +kernel
theorem dX7_say_40 : decode cX7_say 40 = .ok (.iload 4, 2) := by decide +kernel
theorem dX7_say_42 : decode cX7_say 42 = .ok (.iconst 3, 1) := by decide +kernel
theorem dX7_say_43 : decode cX7_say 43 = .ok (.iadd, 1) := by decide +kernel
theorem dX7_say_44 : decode cX7_say 44 = .ok (.aload_n 0, 1) := by decide +kernel
theorem dX7_say_45 : decode cX7_say 45 = .ok (.getfield 81, 3) := by decide +kernel
theorem dX7_say_48 : decode cX7_say 48 = .ok (.iastore, 1) := by decide +kernel
theorem dX7_say_49 : decode cX7_say 49 = .ok (.aload_n 0, 1) := by decide +kernel
theorem dX7_say_50 : decode cX7_say 50 = .ok (.dup, 1) := by decide +kernel
theorem dX7_say_51 : decode cX7_say 51 = .ok (.getfield 78, 3) := by decide +kernel
theorem dX7_say_54 : decode cX7_say 54 = .ok (.iconst 1, 1) := by decide +kernel
theorem dX7_say_55 : decode cX7_say 55 = .ok (.iadd, 1) := by decide +kernel
theorem dX7_say_56 : decode cX7_say 56 = .ok (.putfield 78, 3) := by decide +kernel
theorem dX7_say_59 : decode cX7_say 59 = .ok (.return_, 1) := by decide +kernel
theorem dX7_put_0 : decode cX7_put 0 = .ok (.iconst 0, 1) := by decide +kernel
theorem dX7_put_1 : decode cX7_put 1 = .ok (.istore 5, 2) := by decide +kernel
theorem dX7_put_3 : decode cX7_put 3 = .ok (.iload 5, 2) := by decide +kernel
theorem dX7_put_5 : decode cX7_put 5 = .ok (.iload 4, 2) := by decide +kernel
theorem dX7_put_7 : decode cX7_put 7 = .ok (.if_icmp .ge 53, 3) := by decide +kernel
theorem dX7_put_10 : decode cX7_put 10 = .ok (.aload_n 0, 1) := by decide +kernel
theorem dX7_put_11 : decode cX7_put 11 = .ok (.getfield 9, 3) := by decide +kernel
theorem dX7_put_14 : decode cX7_put 14 = .ok (.bipush 80, 2) := by decide +kernel
theorem dX7_put_16 : decode cX7_put 16 = .ok (.iload_n 1, 1) := by decide +kernel
theorem dX7_put_17 : decode cX7_put 17 = .ok (.imul, 1) := by decide +kernel
theorem dX7_put_18 : decode cX7_put 18 = .ok (.aload_n 0, 1) := by decide +kernel
theorem dX7_put_19 : decode cX7_put 19 = .ok (.getfield 16, 3) := by decide +kernel
theorem dX7_put_22 : decode cX7_put 22 = .ok (.iload_n 1, 1) := by decide +kernel
theorem dX7_put_23 : decode cX7_put 23 = .ok (.iaload, 1) := by decide +kernel
theorem dX7_put_24 : decode cX7_put 24 = .ok (.iadd, 1) := by decide +kernel
theorem dX7_put_25 : decode cX7_put 25 = .ok (.iload_n 2, 1) := by decide +kernel
theorem dX7_put_26 : decode cX7_put 26 = .ok (.iastore, 1) := by decide +kernel
theorem dX7_put_27 : decode cX7_put 27 = .ok (.aload_n 0, 1) := by decide +kernel
theorem dX7_put_28 : decode cX7_put 28 = .ok (.getfield 13, 3) := by decide +kernel
theorem dX7_put_31 : decode cX7_put 31 = .ok (.bipush 80, 2) := by decide +kernel
theorem dX7_put_33 : decode cX7_put 33 = .ok (.iload_n 1, 1) := by decide +kernel
theorem dX7_put_34 : decode cX7_put 34 = .ok (.imul, 1) := by decide +kernel
theorem dX7_put_35 : decode cX7_put 35 = .ok (.aload_n 0, 1) := by decide +kernel
theorem dX7_put_36 : decode cX7_put 36 = .ok (.getfield 16, 3) := by decide +kernel
theorem dX7_put_39 : decode cX7_put 39 = .ok (.iload_n 1, 1) := by decide +kernel
theorem dX7_put_40 : decode cX7_put 40 = .ok (.iaload, 1) := by decide +kernel
theorem dX7_put_41 : decode cX7_put 41 = .ok (.iadd, 1) := by decide +kernel
theorem dX7_put_42 : decode cX7_put 42 = .ok (.iload_n 3, 1) := by decide +kernel
theorem dX7_put_43 : decode cX7_put 43 = .ok (.iastore, 1) := by decide +kernel
theorem dX7_put_44 : decode cX7_put 44 = .ok (.aload_n 0, 1) := by decide +kernel
theorem dX7_put_45 : decode cX7_put 45 = .ok (.getfield 16, 3) := by decide +kernel
theorem dX7_put_48 : decode cX7_put 48 = .ok (.iload_n 1, 1) := by decide +kernel
theorem dX7_put_49 : decode cX7_put 49 = .ok (.dup2, 1) := by decide +kernel
theorem dX7_put_50 : decode cX7_put 50 = .ok (.iaload, 1) := by decide +kernel
theorem dX7_put_51 : decode cX7_put 51 = .ok (.iconst 1, 1) := by decide +kernel
theorem dX7_put_52 : decode cX7_put 52 = .ok (.iadd, 1) := by decide +kernel
theorem dX7_put_53 : decode cX7_put 53 = .ok (.iastore, 1) := by decide +kernel
theorem dX7_put_54 : decode cX7_put 54 = .ok (.iinc 5 1, 3) := by decide +kernel
theorem dX7_put_57 : decode cX7_put 57 = .ok (.goto (-54), 3) := by decide +kernel
theorem dX7_put_60 : decode cX7_put 60 = .ok (.return_, 1) := by decide +kernel
theorem dX7_areBeads_0 : decode cX7_areBeads 0 = .ok (.iload_n 0, 1) := by decide +kernel
theorem dX7_areBeads_1 : decode cX7_areBeads 1 = .ok (.iconst 0, 1) := by decide +kernel
theorem dX7_areBeads_2 : decode cX7_areBeads 2 = .ok (.iconst 4, 1) := by decide +kernel
theorem dX7_areBeads_3 : decode cX7_areBeads 3 = .ok (.invokestatic 74, 3) := by decide +kernel
theorem dX7_areBeads_6 : decode cX7_areBeads 6 = .ok (.ifCond .eq 27, 3) := by decide +kernel
theorem dX7_areBeads_9 : decode cX7_areBeads 9 = .ok (.iload_n 1, 1) := by decide +kernel
theorem dX7_areBeads_10 : decode cX7_areBeads 10 = .ok (.iconst 0, 1) := by decide +kernel
theorem dX7_areBeads_11 : decode cX7_areBeads 11 = .ok (.bipush 9, 2) := by decide +kernel
theorem dX7_areBeads_13 : decode cX7_areBeads 13 = .ok (.invokestatic 74, 3) := by decide +kernel
theorem dX7_areBeads_16 : decode cX7_areBeads 16 = .ok (.ifCond .eq 17, 3) := by decide +kernel
theorem dX7_areBeads_19 : decode cX7_areBeads 19 = .ok (.iload_n 2, 1) := by decide +kernel
theorem dX7_areBeads_20 : decode cX7_areBeads 20 = .ok (.iconst 1, 1) := by decide +kernel
theorem dX7_areBeads_21 : decode cX7_areBeads 21 = .ok (.bipush 80, 2) := by decide +kernel
theorem dX7_areBeads_23 : decode cX7_areBeads 23 = .ok (.invokestatic 74, 3) := by decide +kernel
theorem dX7_areBeads_26 : decode cX7_areBeads 26 = .ok (.ifCond .eq 7, 3) := by decide +kernel
theorem dX7_areBeads_29 : decode cX7_areBeads 29 = .ok (.iconst 1, 1) := by decide +kernel
theorem dX7_areBeads_30 : decode cX7_areBeads 30 = .ok (.goto 4, 3) := by decide +kernel
theorem dX7_areBeads_33 : decode cX7_areBeads 33 = .ok (.iconst 0, 1) := by decide +kernel
theorem dX7_areBeads_34 : decode cX7_areBeads 34 = .ok (.ireturn, 1) := by decide +kernel
theorem dX7_newString_0 : decode cX7_newString 0 = .ok (.aload_n 0, 1) := by decide +kernel
theorem dX7_newString_1 : decode cX7_newString 1 = .ok (.getfield 16, 3) := by decide +kernel
theorem dX7_newString_4 : decode cX7_newString 4 = .ok (.aload_n 0, 1) := by decide +kernel
theorem dX7_newString_5 : decode cX7_newString 5 = .ok (.getfield 71, 3) := by decide +kernel
theorem dX7_newString_8 : decode cX7_newString 8 = .ok (.iconst 0, 1) := by decide +kernel
theorem dX7_newString_9 : decode cX7_newString 9 = .ok (.iastore, 1) := by decide +kernel
theorem dX7_newString_10 : decode cX7_newString 10 = .ok (.aload_n 0, 1) := by decide +kernel
theorem dX7_newString_11 : decode cX7_newString 11 = .ok (.getfield 19, 3) := by decide +kernel
theorem dX7_newString_14 : decode cX7_newString 14 = .ok (.aload_n 0, 1) := by decide +kernel
theorem dX7_newString_15 : decode cX7_newString 15 = .ok (.getfield 71, 3) := by decide +kernel
theorem dX7_newString_18 : decode cX7_newString 18 = .ok (.iload_n 1, 1) := by decide +kernel
theorem dX7_newString_19 : decode cX7_newString 19 = .ok (.iastore, 1) := by decide +kernel
theorem dX7_newString_20 : decode cX7_newString 20 = .ok (.aload_n 0, 1) := by decide +kernel
theorem dX7_newString_21 : decode cX7_newString 21 = .ok (.getfield 22, 3) := by decide +kernel
theorem dX7_newString_24 : decode cX7_newString 24 = .ok (.aload_n 0, 1) := by decide +kernel
theorem dX7_newString_25 : decode cX7_newString 25 = .ok (.getfield 71, 3) := by decide +kernel
theorem dX7_newString_28 : decode cX7_newString 28 = .ok (.iconst 0, 1) := by decide +kernel
theorem dX7_newString_29 : decode cX7_newString 29 = .ok (.iastore, 1) := by decide +kernel
theorem dX7_newString_30 : decode cX7_newString 30 = .ok (.aload_n 0, 1) := by decide +kernel
theorem dX7_newString_31 : decode cX7_newString 31 = .ok (.dup, 1) := by decide +kernel
theorem dX7_newString_32 : decode cX7_newString 32 = .ok (.getfield 71, 3) := by decide +kernel
theorem dX7_newString_35 : decode cX7_newString 35 = .ok (.iconst 1, 1) := by decide +kernel
theorem dX7_newString_36 : decode cX7_newString 36 = .ok (.iadd, 1) := by decide +kernel
theorem dX7_newString_37 : decode cX7_newString 37 = .ok (.putfield 71, 3) := by decide +kernel
theorem dX7_newString_40 : decode cX7_newString 40 = .ok (.aload_n 0, 1) := by decide +kernel
theorem dX7_newString_41 : decode cX7_newString 41 = .ok (.getfield 71, 3) := by decide +kernel
theorem dX7_newString_44 : decode cX7_newString 44 = .ok (.iconst 1, 1) := by decide +kernel
theorem dX7_newString_45 : decode cX7_newString 45 = .ok (.isub, 1) := by decide +kernel
theorem dX7_newString_46 : decode cX7_newString 46 = .ok (.ireturn, 1) := by decide +kernel
theorem dX7_string_0 : decode cX7_string 0 = .ok (.aload_n 0, 1) := by decide +kernel
theorem dX7_string_1 : decode cX7_string 1 = .ok (.iconst 0, 1) := by decide +kernel
theorem dX7_string_2 : decode cX7_string 2 = .ok (.putfield 68, 3) := by decide +kernel
theorem dX7_string_5 : decode cX7_string 5 = .ok (.iload_n 1, 1) := by decide +kernel
theorem dX7_string_6 : decode cX7_string 6 = .ok (.iconst 0, 1) := by decide +kernel
theorem dX7_string_7 : decode cX7_string 7 = .ok (.bipush 9, 2) := by decide +kernel
theorem dX7_string_9 : decode cX7_string 9 = .ok (.invokestatic 74, 3) := by decide +kernel
theorem dX7_string_12 : decode cX7_string 12 = .ok (.ifCond .eq 22, 3) := by decide +kernel
theorem dX7_string_15 : decode cX7_string 15 = .ok (.iload_n 2, 1) := by decide +kernel
theorem dX7_string_16 : decode cX7_string 16 = .ok (.iload_n 3, 1) := by decide +kernel
theorem dX7_string_17 : decode cX7_string 17 = .ok (.iload 4, 2) := by decide +kernel
theorem dX7_string_19 : decode cX7_string 19 = .ok (.invokestatic 84, 3) := by decide +kernel
theorem dX7_string_22 : decode cX7_string 22 = .ok (.ifCond .eq 12, 3) := by decide +kernel
theorem dX7_string_25 : decode cX7_string 25 = .ok (.aload_n 0, 1) := by decide +kernel
theorem dX7_string_26 : decode cX7_string 26 = .ok (.getfield 71, 3) := by decide +kernel
theorem dX7_string_29 : decode cX7_string 29 = .ok (.bipush 40, 2) := by decide +kernel
theorem dX7_string_31 : decode cX7_string 31 = .ok (.if_icmp .ne 5, 3) := by decide +kernel
theorem dX7_string_34 : decode cX7_string 34 = .ok (.iconst (-1), 1) := by decide +kernel
theorem dX7_string_35 : decode cX7_string 35 = .ok (.ireturn, 1) := by decide +kernel
theorem dX7_string_36 : decode cX7_string 36 = .ok (.aload_n 0, 1) := by decide +kernel
theorem dX7_string_37 : decode cX7_string 37 = .ok (.iload_n 1, 1) := by decide +kernel
theorem dX7_string_38 : decode cX7_string 38 = .ok (.invokevirtual 87, 3) := by decide +kernel
theorem dX7_string_41 : decode cX7_string 41 = .ok (.istore 5, 2) := by decide +kernel
theorem dX7_string_43 : decode cX7_string 43 = .ok (.aload_n 0, 1) := by decide +kernel
theorem dX7_string_44 : decode cX7_string 44 = .ok (.iload 5, 2) := by decide +kernel
theorem dX7_string_46 : decode cX7_string 46 = .ok (.iload_n 2, 1) := by decide +kernel
theorem dX7_string_47 : decode cX7_string 47 = .ok (.iload_n 3, 1) := by decide +kernel
theorem dX7_string_48 : decode cX7_string 48 = .ok (.iload 4, 2) := by decide +kernel
theorem dX7_string_50 : decode cX7_string 50 = .ok (.invokevirtual 91, 3) := by decide +kernel
theorem dX7_string_53 : decode cX7_string 53 = .ok (.iload 5, 2) := by decide +kernel
theorem dX7_string_55 : decode cX7_string 55 = .ok (.ireturn, 1) := by decide +kernel
theorem dX7_add_0 : decode cX7_add 0 = .ok (.aload_n 0, 1) := by decide +kernel
theorem dX7_add_1 : decode cX7_add 1 = .ok (.iconst 0, 1) := by decide +kernel
theorem dX7_add_2 : decode cX7_add 2 = .ok (.putfield 68, 3) := by decide +kernel
theorem dX7_add_5 : decode cX7_add 5 = .ok (.aload_n 0, 1) := by decide +kernel
theorem dX7_add_6 : decode cX7_add 6 = .ok (.iload_n 1, 1) := by decide +kernel
theorem dX7_add_7 : decode cX7_add 7 = .ok (.invokevirtual 95, 3) := by decide +kernel
theorem dX7_add_10 : decode cX7_add 10 = .ok (.ifCond .eq 27, 3) := by decide +kernel
theorem dX7_add_13 : decode cX7_add 13 = .ok (.iload_n 2, 1) := by decide +kernel
theorem dX7_add_14 : decode cX7_add 14 = .ok (.iload_n 3, 1) := by decide +kernel
theorem dX7_add_15 : decode cX7_add 15 = .ok (.iload 4, 2) := by decide +kernel
theorem dX7_add_17 : decode cX7_add 17 = .ok (.invokestatic 84, 3) := by decide +kernel
theorem dX7_add_20 : decode cX7_add 20 = .ok (.ifCond .eq 17, 3) := by decide +kernel
theorem dX7_add_23 : decode cX7_add 23 = .ok (.aload_n 0, 1) := by decide +kernel
theorem dX7_add_24 : decode cX7_add 24 = .ok (.getfield 16, 3) := by decide +kernel
theorem dX7_add_27 : decode cX7_add 27 = .ok (.iload_n 1, 1) := by decide +kernel
theorem dX7_add_28 : decode cX7_add 28 = .ok (.iaload, 1) := by decide +kernel
theorem dX7_add_29 : decode cX7_add 29 = .ok (.iload 4, 2) := by decide +kernel
theorem dX7_add_31 : decode cX7_add 31 = .ok (.iadd, 1) := by decide +kernel
theorem dX7_add_32 : decode cX7_add 32 = .ok (.bipush 80, 2) := by decide +kernel
theorem dX7_add_34 : decode cX7_add 34 = .ok (.if_icmp .le 5, 3) := by decide +kernel
theorem dX7_add_37 : decode cX7_add 37 = .ok (.iconst (-1), 1) := by decide +kernel
theorem dX7_add_38 : decode cX7_add 38 = .ok (.ireturn, 1) := by decide +kernel
theorem dX7_add_39 : decode cX7_add 39 = .ok (.aload_n 0, 1) := by decide +kernel
theorem dX7_add_40 : decode cX7_add 40 = .ok (.iload_n 1, 1) := by decide +kernel
theorem dX7_add_41 : decode cX7_add 41 = .ok (.iload_n 2, 1) := by decide +kernel
theorem dX7_add_42 : decode cX7_add 42 = .ok (.iload_n 3, 1) := by decide +kernel
theorem dX7_add_43 : decode cX7_add 43 = .ok (.iload 4, 2) := by decide +kernel
theorem dX7_add_45 : decode cX7_add 45 = .ok (.invokevirtual 91, 3) := by decide +kernel
theorem dX7_add_48 : decode cX7_add 48 = .ok (.aload_n 0, 1) := by decide +kernel
theorem dX7_add_49 : decode cX7_add 49 = .ok (.getfield 16, 3) := by decide +kernel
theorem dX7_add_52 : decode cX7_add 52 = .ok (.iload_n 1, 1) := by decide +kernel
theorem dX7_add_53 : decode cX7_add 53 = .ok (.iaload, 1) := by decide +kernel
theorem dX7_add_54 : decode cX7_add 54 = .ok (.ireturn, 1) := by decide +kernel
theorem dX7_cut_0 : decode cX7_cut 0 = .ok (.aload_n 0, 1) := by decide +kernel
theorem dX7_cut_1 : decode cX7_cut 1 = .ok (.iconst 0, 1) := by decide +kernel
theorem dX7_cut_2 : decode cX7_cut 2 = .ok (.putfield 68, 3) := by decide +kernel
theorem dX7_cut_5 : decode cX7_cut 5 = .ok (.aload_n 0, 1) := by decide +kernel
theorem dX7_cut_6 : decode cX7_cut 6 = .ok (.iload_n 1, 1) := by decide +kernel
theorem dX7_cut_7 : decode cX7_cut 7 = .ok (.invokevirtual 95, 3) := by decide +kernel
theorem dX7_cut_10 : decode cX7_cut 10 = .ok (.ifCond .eq 45, 3) := by decide +kernel
theorem dX7_cut_13 : decode cX7_cut 13 = .ok (.iload_n 2, 1) := by decide +kernel
theorem dX7_cut_14 : decode cX7_cut 14 = .ok (.iconst 1, 1) := by decide +kernel
theorem dX7_cut_15 : decode cX7_cut 15 = .ok (.aload_n 0, 1) := by decide +kernel
theorem dX7_cut_16 : decode cX7_cut 16 = .ok (.getfield 16, 3) := by decide +kernel
theorem dX7_cut_19 : decode cX7_cut 19 = .ok (.iload_n 1, 1) := by decide +kernel
theorem dX7_cut_20 : decode cX7_cut 20 = .ok (.iaload, 1) := by decide +kernel
theorem dX7_cut_21 : decode cX7_cut 21 = .ok (.iconst 1, 1) := by decide +kernel
theorem dX7_cut_22 : decode cX7_cut 22 = .ok (.isub, 1) := by decide +kernel
theorem dX7_cut_23 : decode cX7_cut 23 = .ok (.invokestatic 74, 3) := by decide +kernel
theorem dX7_cut_26 : decode cX7_cut 26 = .ok (.ifCond .eq 29, 3) := by decide +kernel
theorem dX7_cut_29 : decode cX7_cut 29 = .ok (.aload_n 0, 1) := by decide +kernel
theorem dX7_cut_30 : decode cX7_cut 30 = .ok (.getfield 71, 3) := by decide +kernel
theorem dX7_cut_33 : decode cX7_cut 33 = .ok (.bipush 40, 2) := by decide +kernel
theorem dX7_cut_35 : decode cX7_cut 35 = .ok (.if_icmp .eq 20, 3) := by decide +kernel
theorem dX7_cut_38 : decode cX7_cut 38 = .ok (.aload_n 0, 1) := by decide +kernel
theorem dX7_cut_39 : decode cX7_cut 39 = .ok (.getfield 22, 3) := by decide +kernel
theorem dX7_cut_42 : decode cX7_cut 42 = .ok (.iload_n 1, 1) := by decide +kernel
theorem dX7_cut_43 : decode cX7_cut 43 = .ok (.iaload, 1) := by decide +kernel
theorem dX7_cut_44 : decode cX7_cut 44 = .ok (.ifCond .le 13, 3) := by decide +kernel
theorem dX7_cut_47 : decode cX7_cut 47 = .ok (.aload_n 0, 1) := by decide +kernel
theorem dX7_cut_48 : decode cX7_cut 48 = .ok (.iconst 1, 1) := by decide +kernel
theorem dX7_cut_49 : decode cX7_cut 49 = .ok (.invokevirtual 99, 3) := by decide +kernel
theorem dX7_cut_52 : decode cX7_cut 52 = .ok (.ifCond .ne 5, 3) := by decide +kernel
theorem dX7_cut_55 : decode cX7_cut 55 = .ok (.iconst (-1), 1) := by decide +kernel
theorem dX7_cut_56 : decode cX7_cut 56 = .ok (.ireturn, 1) := by decide +kernel
theorem dX7_cut_57 : decode cX7_cut 57 = .ok (.aload_n 0, 1) := by decide +kernel
theorem dX7_cut_58 : decode cX7_cut 58 = .ok (.aload_n 0, 1) := by decide +kernel
theorem dX7_cut_59 : decode cX7_cut 59 = .ok (.getfield 19, 3) := by decide +kernel
theorem dX7_cut_62 : decode cX7_cut 62 = .ok (.iload_n 1, 1) := by decide +kernel
theorem dX7_cut_63 : decode cX7_cut 63 = .ok (.iaload, 1) := by decide +kernel
theorem dX7_cut_64 : decode cX7_cut 64 = .ok (.invokevirtual 87, 3) := by decide +kernel
theorem dX7_cut_67 : decode cX7_cut 67 = .ok (.istore_n 3, 1) := by decide +kernel
theorem dX7_cut_68 : decode cX7_cut 68 = .ok (.iload_n 2, 1) := by decide +kernel
theorem dX7_cut_69 : decode cX7_cut 69 = .ok (.istore 4, 2) := by decide +kernel
theorem dX7_cut_71 : decode cX7_cut 71 = .ok (.iload 4, 2) := by decide +kernel
theorem dX7_cut_73 : decode cX7_cut 73 = .ok (.aload_n 0, 1) := by decide +kernel
theorem dX7_cut_74 : decode cX7_cut 74 = .ok (.getfield 16, 3) := by decide +kernel
theorem dX7_cut_77 : decode cX7_cut 77 = .ok (.iload_n 1, 1) := by decide +kernel
theorem dX7_cut_78 : decode cX7_cut 78 = .ok (.iaload, 1) := by decide +kernel
theorem dX7_cut_79 : decode cX7_cut 79 = .ok (.if_icmp .ge 39, 3) := by decide +kernel
theorem dX7_cut_82 : decode cX7_cut 82 = .ok (.aload_n 0, 1) := by decide +kernel
theorem dX7_cut_83 : decode cX7_cut 83 = .ok (.iload_n 3, 1) := by decide +kernel
theorem dX7_cut_84 : decode cX7_cut 84 = .ok (.aload_n 0, 1) := by decide +kernel
theorem dX7_cut_85 : decode cX7_cut 85 = .ok (.getfield 9, 3) := by decide +kernel
theorem dX7_cut_88 : decode cX7_cut 88 = .ok (.bipush 80, 2) := by decide +kernel
theorem dX7_cut_90 : decode cX7_cut 90 = .ok (.iload_n 1, 1) := by decide +kernel
theorem dX7_cut_91 : decode cX7_cut 91 = .ok (.imul, 1) := by decide +kernel
theorem dX7_cut_92 : decode cX7_cut 92 = .ok (.iload 4, 2) := by decide +kernel
theorem dX7_cut_94 : decode cX7_cut 94 = .ok (.iadd, 1) := by decide +kernel
theorem dX7_cut_95 : decode cX7_cut 95 = .ok (.iaload, 1) := by decide +kernel
theorem dX7_cut_96 : decode cX7_cut 96 = .ok (.aload_n 0, 1) := by decide +kernel
theorem dX7_cut_97 : decode cX7_cut 97 = .ok (.getfield 13, 3) := by decide +kernel
theorem dX7_cut_100 : decode cX7_cut 100 = .ok (.bipush 80, 2) := by decide +kernel
theorem dX7_cut_102 : decode cX7_cut 102 = .ok (.iload_n 1, 1) := by decide +kernel
theorem dX7_cut_103 : decode cX7_cut 103 = .ok (.imul, 1) := by decide +kernel
theorem dX7_cut_104 : decode cX7_cut 104 = .ok (.iload 4, 2) := by decide +kernel
theorem dX7_cut_106 : decode cX7_cut 106 = .ok (.iadd, 1) := by decide +kernel
theorem dX7_cut_107 : decode cX7_cut 107 = .ok (.iaload, 1) := by decide +kernel
theorem dX7_cut_108 : decode cX7_cut 108 = .ok (.iconst 1, 1) := by decide +kernel
theorem dX7_cut_109 : decode cX7_cut 109 = .ok (.invokevirtual 91, 3) := by decide +kernel
theorem dX7_cut_112 : decode cX7_cut 112 = .ok (.iinc 4 1, 3) := by decide +kernel
theorem dX7_cut_115 : decode cX7_cut 115 = .ok (.goto (-44), 3) := by decide +kernel
theorem dX7_cut_118 : decode cX7_cut 118 = .ok (.aload_n 0, 1) := by decide +kernel
theorem dX7_cut_119 : decode cX7_cut 119 = .ok (.getfield 16, 3) := by decide +kernel
theorem dX7_cut_122 : decode cX7_cut 122 = .ok (.iload_n 1, 1) := by decide +kernel
theorem dX7_cut_123 : decode cX7_cut 123 = .ok (.iload_n 2, 1) := by decide +kernel
theorem dX7_cut_124 : decode cX7_cut 124 = .ok (.iastore, 1) := by decide +kernel
theorem dX7_cut_125 : decode cX7_cut 125 = .ok (.aload_n 0, 1) := by decide +kernel
theorem dX7_cut_126 : decode cX7_cut 126 = .ok (.getfield 22, 3) := by decide +kernel
theorem dX7_cut_129 : decode cX7_cut 129 = .ok (.iload_n 1, 1) := by decide +kernel
theorem dX7_cut_130 : decode cX7_cut 130 = .ok (.iaload, 1) := by decide +kernel
theorem dX7_cut_131 : decode cX7_cut 131 = .ok (.istore 4, 2) := by decide +kernel
theorem dX7_cut_133 : decode cX7_cut 133 = .ok (.iload 4, 2) := by decide +kernel
theorem dX7_cut_135 : decode cX7_cut 135 = .ok (.ifCond .ne 5, 3) := by decide +kernel
theorem dX7_cut_138 : decode cX7_cut 138 = .ok (.iload_n 3, 1) := by decide +kernel
theorem dX7_cut_139 : decode cX7_cut 139 = .ok (.ireturn, 1) := by decide +kernel
theorem dX7_cut_140 : decode cX7_cut 140 = .ok (.aload_n 0, 1) := by decide +kernel
theorem dX7_cut_141 : decode cX7_cut 141 = .ok (.getfield 22, 3) := by decide +kernel
theorem dX7_cut_144 : decode cX7_cut 144 = .ok (.iload_n 1, 1) := by decide +kernel
theorem dX7_cut_145 : decode cX7_cut 145 = .ok (.iconst 0, 1) := by decide +kernel
theorem dX7_cut_146 : decode cX7_cut 146 = .ok (.iastore, 1) := by decide +kernel
theorem dX7_cut_147 : decode cX7_cut 147 = .ok (.aload_n 0, 1) := by decide +kernel
theorem dX7_cut_148 : decode cX7_cut 148 = .ok (.getfield 38, 3) := by decide +kernel
theorem dX7_cut_151 : decode cX7_cut 151 = .ok (.ifCond .ne 13, 3) := by decide +kernel
theorem dX7_cut_154 : decode cX7_cut 154 = .ok (.aload_n 0, 1) := by decide +kernel
theorem dX7_cut_155 : decode cX7_cut 155 = .ok (.iload 4, 2) := by decide +kernel
theorem dX7_cut_157 : decode cX7_cut 157 = .ok (.iconst 5, 1) := by decide +kernel
theorem dX7_cut_158 : decode cX7_cut 158 = .ok (.iconst 0, 1) := by decide +kernel
theorem dX7_cut_159 : decode cX7_cut 159 = .ok (.invokevirtual 102, 3) := by decide +kernel
theorem dX7_cut_162 : decode cX7_cut 162 = .ok (.iload_n 3, 1) := by decide +kernel
theorem dX7_cut_163 : decode cX7_cut 163 = .ok (.ireturn, 1) := by decide +kernel
theorem dX7_cut_164 : decode cX7_cut 164 = .ok (.aload_n 0, 1) := by decide +kernel
theorem dX7_cut_165 : decode cX7_cut 165 = .ok (.getfield 16, 3) := by decide +kernel
theorem dX7_cut_168 : decode cX7_cut 168 = .ok (.iload_n 3, 1) := by decide +kernel
theorem dX7_cut_169 : decode cX7_cut 169 = .ok (.iaload, 1) := by decide +kernel
theorem dX7_cut_170 : decode cX7_cut 170 = .ok (.aload_n 0, 1) := by decide +kernel
theorem dX7_cut_171 : decode cX7_cut 171 = .ok (.getfield 16, 3) := by decide +kernel
theorem dX7_cut_174 : decode cX7_cut 174 = .ok (.iload_n 1, 1) := by decide +kernel
theorem dX7_cut_175 : decode cX7_cut 175 = .ok (.iaload, 1) := by decide +kernel
theorem dX7_cut_176 : decode cX7_cut 176 = .ok (.if_icmp .le 7, 3) := by decide +kernel
theorem dX7_cut_179 : decode cX7_cut 179 = .ok (.iload_n 3, 1) := by decide +kernel
theorem dX7_cut_180 : decode cX7_cut 180 = .ok (.goto 4, 3) := by decide +kernel
theorem dX7_cut_183 : decode cX7_cut 183 = .ok (.iload_n 1, 1) := by decide +kernel
theorem dX7_cut_184 : decode cX7_cut 184 = .ok (.istore 5, 2) := by decide +kernel
theorem dX7_cut_186 : decode cX7_cut 186 = .ok (.aload_n 0, 1) := by decide +kernel
theorem dX7_cut_187 : decode cX7_cut 187 = .ok (.getfield 22, 3) := by decide +kernel
theorem dX7_cut_190 : decode cX7_cut 190 = .ok (.iload 5, 2) := by decide +kernel
theorem dX7_cut_192 : decode cX7_cut 192 = .ok (.iload 4, 2) := by decide +kernel
theorem dX7_cut_194 : decode cX7_cut 194 = .ok (.iastore, 1) := by decide +kernel
theorem dX7_cut_195 : decode cX7_cut 195 = .ok (.aload_n 0, 1) := by decide +kernel
theorem dX7_cut_196 : decode cX7_cut 196 = .ok (.iload 4, 2) := by decide +kernel
theorem dX7_cut_198 : decode cX7_cut 198 = .ok (.iconst 3, 1) := by decide +kernel
theorem dX7_cut_199 : decode cX7_cut 199 = .ok (.aload_n 0, 1) := by decide +kernel
theorem dX7_cut_200 : decode cX7_cut 200 = .ok (.getfield 16, 3) := by decide +kernel
theorem dX7_cut_203 : decode cX7_cut 203 = .ok (.iload 5, 2) := by decide +kernel
theorem dX7_cut_205 : decode cX7_cut 205 = .ok (.iaload, 1) := by decide +kernel
theorem dX7_cut_206 : decode cX7_cut 206 = .ok (.invokevirtual 102, 3) := by decide +kernel
theorem dX7_cut_209 : decode cX7_cut 209 = .ok (.iload_n 3, 1) := by decide +kernel
theorem dX7_cut_210 : decode cX7_cut 210 = .ok (.ireturn, 1) := by decide +kernel
theorem dX7_join_0 : decode cX7_join 0 = .ok (.aload_n 0, 1) := by decide +kernel
theorem dX7_join_1 : decode cX7_join 1 = .ok (.iconst 0, 1) := by decide +kernel
theorem dX7_join_2 : decode cX7_join 2 = .ok (.putfield 68, 3) := by decide +kernel
theorem dX7_join_5 : decode cX7_join 5 = .ok (.aload_n 0, 1) := by decide +kernel
theorem dX7_join_6 : decode cX7_join 6 = .ok (.iload_n 1, 1) := by decide +kernel
theorem dX7_join_7 : decode cX7_join 7 = .ok (.invokevirtual 95, 3) := by decide +kernel
theorem dX7_join_10 : decode cX7_join 10 = .ok (.ifCond .eq 49, 3) := by decide +kernel
theorem dX7_join_13 : decode cX7_join 13 = .ok (.aload_n 0, 1) := by decide +kernel
theorem dX7_join_14 : decode cX7_join 14 = .ok (.iload_n 2, 1) := by decide +kernel
theorem dX7_join_15 : decode cX7_join 15 = .ok (.invokevirtual 95, 3) := by decide +kernel
theorem dX7_join_18 : decode cX7_join 18 = .ok (.ifCond .eq 41, 3) := by decide +kernel
theorem dX7_join_21 : decode cX7_join 21 = .ok (.iload_n 1, 1) := by decide +kernel
theorem dX7_join_22 : decode cX7_join 22 = .ok (.iload_n 2, 1) := by decide +kernel
theorem dX7_join_23 : decode cX7_join 23 = .ok (.if_icmp .eq 36, 3) := by decide +kernel
theorem dX7_join_26 : decode cX7_join 26 = .ok (.aload_n 0, 1) := by decide +kernel
theorem dX7_join_27 : decode cX7_join 27 = .ok (.getfield 19, 3) := by decide +kernel
theorem dX7_join_30 : decode cX7_join 30 = .ok (.iload_n 1, 1) := by decide +kernel
theorem dX7_join_31 : decode cX7_join 31 = .ok (.iaload, 1) := by decide +kernel
theorem dX7_join_32 : decode cX7_join 32 = .ok (.aload_n 0, 1) := by decide +kernel
theorem dX7_join_33 : decode cX7_join 33 = .ok (.getfield 19, 3) := by decide +kernel
theorem dX7_join_36 : decode cX7_join 36 = .ok (.iload_n 2, 1) := by decide +kernel
theorem dX7_join_37 : decode cX7_join 37 = .ok (.iaload, 1) := by decide +kernel
theorem dX7_join_38 : decode cX7_join 38 = .ok (.if_icmp .ne 21, 3) := by decide +kernel
theorem dX7_join_41 : decode cX7_join 41 = .ok (.aload_n 0, 1) := by decide +kernel
theorem dX7_join_42 : decode cX7_join 42 = .ok (.getfield 16, 3) := by decide +kernel
theorem dX7_join_45 : decode cX7_join 45 = .ok (.iload_n 1, 1) := by decide +kernel
theorem dX7_join_46 : decode cX7_join 46 = .ok (.iaload, 1) := by decide +kernel
theorem dX7_join_47 : decode cX7_join 47 = .ok (.aload_n 0, 1) := by decide +kernel
theorem dX7_join_48 : decode cX7_join 48 = .ok (.getfield 16, 3) := by decide +kernel
theorem dX7_join_51 : decode cX7_join 51 = .ok (.iload_n 2, 1) := by decide +kernel
theorem dX7_join_52 : decode cX7_join 52 = .ok (.iaload, 1) := by decide +kernel
theorem dX7_join_53 : decode cX7_join 53 = .ok (.iadd, 1) := by decide +kernel
theorem dX7_join_54 : decode cX7_join 54 = .ok (.bipush 80, 2) := by decide +kernel
theorem dX7_join_56 : decode cX7_join 56 = .ok (.if_icmp .le 5, 3) := by decide +kernel
theorem dX7_join_59 : decode cX7_join 59 = .ok (.iconst (-1), 1) := by decide +kernel
theorem dX7_join_60 : decode cX7_join 60 = .ok (.ireturn, 1) := by decide +kernel
theorem dX7_join_61 : decode cX7_join 61 = .ok (.aload_n 0, 1) := by decide +kernel
theorem dX7_join_62 : decode cX7_join 62 = .ok (.getfield 22, 3) := by decide +kernel
theorem dX7_join_65 : decode cX7_join 65 = .ok (.iload_n 1, 1) := by decide +kernel
theorem dX7_join_66 : decode cX7_join 66 = .ok (.iaload, 1) := by decide +kernel
theorem dX7_join_67 : decode cX7_join 67 = .ok (.ifCond .le 7, 3) := by decide +kernel
theorem dX7_join_70 : decode cX7_join 70 = .ok (.iconst 1, 1) := by decide +kernel
theorem dX7_join_71 : decode cX7_join 71 = .ok (.goto 4, 3) := by decide +kernel
theorem dX7_join_74 : decode cX7_join 74 = .ok (.iconst 0, 1) := by decide +kernel
theorem dX7_join_75 : decode cX7_join 75 = .ok (.aload_n 0, 1) := by decide +kernel
theorem dX7_join_76 : decode cX7_join 76 = .ok (.getfield 22, 3) := by decide +kernel
theorem dX7_join_79 : decode cX7_join 79 = .ok (.iload_n 2, 1) := by decide +kernel
theorem dX7_join_80 : decode cX7_join 80 = .ok (.iaload, 1) := by decide +kernel
theorem dX7_join_81 : decode cX7_join 81 = .ok (.ifCond .le 7, 3) := by decide +kernel
theorem dX7_join_84 : decode cX7_join 84 = .ok (.iconst 1, 1) := by decide +kernel
theorem dX7_join_85 : decode cX7_join 85 = .ok (.goto 4, 3) := by decide +kernel
theorem dX7_join_88 : decode cX7_join 88 = .ok (.iconst 0, 1) := by decide +kernel
theorem dX7_join_89 : decode cX7_join 89 = .ok (.iadd, 1) := by decide +kernel
theorem dX7_join_90 : decode cX7_join 90 = .ok (.istore_n 3, 1) := by decide +kernel
theorem dX7_join_91 : decode cX7_join 91 = .ok (.aload_n 0, 1) := by decide +kernel
theorem dX7_join_92 : decode cX7_join 92 = .ok (.iload_n 3, 1) := by decide +kernel
theorem dX7_join_93 : decode cX7_join 93 = .ok (.invokevirtual 99, 3) := by decide +kernel
theorem dX7_join_96 : decode cX7_join 96 = .ok (.ifCond .ne 5, 3) := by decide +kernel
theorem dX7_join_99 : decode cX7_join 99 = .ok (.iconst (-1), 1) := by decide +kernel
theorem dX7_join_100 : decode cX7_join 100 = .ok (.ireturn, 1) := by decide +kernel
theorem dX7_join_101 : decode cX7_join 101 = .ok (.iconst 0, 1) := by decide +kernel
theorem dX7_join_102 : decode cX7_join 102 = .ok (.istore 4, 2) := by decide +kernel
theorem dX7_join_104 : decode cX7_join 104 = .ok (.iload 4, 2) := by decide +kernel
theorem dX7_join_106 : decode cX7_join 106 = .ok (.aload_n 0, 1) := by decide +kernel
theorem dX7_join_107 : decode cX7_join 107 = .ok (.getfield 16, 3) := by decide +kernel
theorem dX7_join_110 : decode cX7_join 110 = .ok (.iload_n 2, 1) := by decide +kernel
theorem dX7_join_111 : decode cX7_join 111 = .ok (.iaload, 1) := by decide +kernel
theorem dX7_join_112 : decode cX7_join 112 = .ok (.if_icmp .ge 39, 3) := by decide +kernel
theorem dX7_join_115 : decode cX7_join 115 = .ok (.aload_n 0, 1) := by decide +kernel
theorem dX7_join_116 : decode cX7_join 116 = .ok (.iload_n 1, 1) := by decide +kernel
theorem dX7_join_117 : decode cX7_join 117 = .ok (.aload_n 0, 1) := by decide +kernel
theorem dX7_join_118 : decode cX7_join 118 = .ok (.getfield 9, 3) := by decide +kernel
theorem dX7_join_121 : decode cX7_join 121 = .ok (.bipush 80, 2) := by decide +kernel
theorem dX7_join_123 : decode cX7_join 123 = .ok (.iload_n 2, 1) := by decide +kernel
theorem dX7_join_124 : decode cX7_join 124 = .ok (.imul, 1) := by decide +kernel
theorem dX7_join_125 : decode cX7_join 125 = .ok (.iload 4, 2) := by decide +kernel
theorem dX7_join_127 : decode cX7_join 127 = .ok (.iadd, 1) := by decide +kernel
theorem dX7_join_128 : decode cX7_join 128 = .ok (.iaload, 1) := by decide +kernel
theorem dX7_join_129 : decode cX7_join 129 = .ok (.aload_n 0, 1) := by decide +kernel
theorem dX7_join_130 : decode cX7_join 130 = .ok (.getfield 13, 3) := by decide +kernel
theorem dX7_join_133 : decode cX7_join 133 = .ok (.bipush 80, 2) := by decide +kernel
theorem dX7_join_135 : decode cX7_join 135 = .ok (.iload_n 2, 1) := by decide +kernel
theorem dX7_join_136 : decode cX7_join 136 = .ok (.imul, 1) := by decide +kernel
theorem dX7_join_137 : decode cX7_join 137 = .ok (.iload 4, 2) := by decide +kernel
theorem dX7_join_139 : decode cX7_join 139 = .ok (.iadd, 1) := by decide +kernel
theorem dX7_join_140 : decode cX7_join 140 = .ok (.iaload, 1) := by decide +kernel
theorem dX7_join_141 : decode cX7_join 141 = .ok (.iconst 1, 1) := by decide +kernel
theorem dX7_join_142 : decode cX7_join 142 = .ok (.invokevirtual 91, 3) := by decide +kernel
theorem dX7_join_145 : decode cX7_join 145 = .ok (.iinc 4 1, 3) := by decide +kernel
theorem dX7_join_148 : decode cX7_join 148 = .ok (.goto (-44), 3) := by decide +kernel
theorem dX7_join_151 : decode cX7_join 151 = .ok (.aload_n 0, 1) := by decide +kernel
theorem dX7_join_152 : decode cX7_join 152 = .ok (.getfield 16, 3) := by decide +kernel
theorem dX7_join_155 : decode cX7_join 155 = .ok (.iload_n 2, 1) := by decide +kernel
theorem dX7_join_156 : decode cX7_join 156 = .ok (.iconst 0, 1) := by decide +kernel
theorem dX7_join_157 : decode cX7_join 157 = .ok (.iastore, 1) := by decide +kernel
theorem dX7_join_158 : decode cX7_join 158 = .ok (.aload_n 0, 1) := by decide +kernel
theorem dX7_join_159 : decode cX7_join 159 = .ok (.getfield 22, 3) := by decide +kernel
theorem dX7_join_162 : decode cX7_join 162 = .ok (.iload_n 1, 1) := by decide +kernel
theorem dX7_join_163 : decode cX7_join 163 = .ok (.iaload, 1) := by decide +kernel
theorem dX7_join_164 : decode cX7_join 164 = .ok (.ifCond .le 24, 3) := by decide +kernel
theorem dX7_join_167 : decode cX7_join 167 = .ok (.aload_n 0, 1) := by decide +kernel
theorem dX7_join_168 : decode cX7_join 168 = .ok (.getfield 22, 3) := by decide +kernel
theorem dX7_join_171 : decode cX7_join 171 = .ok (.iload_n 2, 1) := by decide +kernel
theorem dX7_join_172 : decode cX7_join 172 = .ok (.iaload, 1) := by decide +kernel
theorem dX7_join_173 : decode cX7_join 173 = .ok (.ifCond .le 15, 3) := by decide +kernel
theorem dX7_join_176 : decode cX7_join 176 = .ok (.aload_n 0, 1) := by decide +kernel
theorem dX7_join_177 : decode cX7_join 177 = .ok (.aload_n 0, 1) := by decide +kernel
theorem dX7_join_178 : decode cX7_join 178 = .ok (.getfield 22, 3) := by decide +kernel
theorem dX7_join_181 : decode cX7_join 181 = .ok (.iload_n 2, 1) := by decide +kernel
theorem dX7_join_182 : decode cX7_join 182 = .ok (.iaload, 1) := by decide +kernel
theorem dX7_join_183 : decode cX7_join 183 = .ok (.iconst 5, 1) := by decide +kernel
theorem dX7_join_184 : decode cX7_join 184 = .ok (.iconst 0, 1) := by decide +kernel
theorem dX7_join_185 : decode cX7_join 185 = .ok (.invokevirtual 102, 3) := by decide +kernel
theorem dX7_join_188 : decode cX7_join 188 = .ok (.aload_n 0, 1) := by decide +kernel
theorem dX7_join_189 : decode cX7_join 189 = .ok (.getfield 22, 3) := by decide +kernel
theorem dX7_join_192 : decode cX7_join 192 = .ok (.iload_n 1, 1) := by decide +kernel
theorem dX7_join_193 : decode cX7_join 193 = .ok (.iaload, 1) := by decide +kernel
theorem dX7_join_194 : decode cX7_join 194 = .ok (.ifCond .ne 15, 3) := by decide +kernel
theorem dX7_join_197 : decode cX7_join 197 = .ok (.aload_n 0, 1) := by decide +kernel
theorem dX7_join_198 : decode cX7_join 198 = .ok (.getfield 22, 3) := by decide +kernel
theorem dX7_join_201 : decode cX7_join 201 = .ok (.iload_n 1, 1) := by decide +kernel
theorem dX7_join_202 : decode cX7_join 202 = .ok (.aload_n 0, 1) := by decide +kernel
theorem dX7_join_203 : decode cX7_join 203 = .ok (.getfield 22, 3) := by decide +kernel
theorem dX7_join_206 : decode cX7_join 206 = .ok (.iload_n 2, 1) := by decide +kernel
theorem dX7_join_207 : decode cX7_join 207 = .ok (.iaload, 1) := by decide +kernel
theorem dX7_join_208 : decode cX7_join 208 = .ok (.iastore, 1) := by decide +kernel
theorem dX7_join_209 : decode cX7_join 209 = .ok (.aload_n 0, 1) := by decide +kernel
theorem dX7_join_210 : decode cX7_join 210 = .ok (.getfield 22, 3) := by decide +kernel
theorem dX7_join_213 : decode cX7_join 213 = .ok (.iload_n 1, 1) := by decide +kernel
theorem dX7_join_214 : decode cX7_join 214 = .ok (.iaload, 1) := by decide +kernel
theorem dX7_join_215 : decode cX7_join 215 = .ok (.ifCond .le 20, 3) := by decide +kernel
theorem dX7_join_218 : decode cX7_join 218 = .ok (.aload_n 0, 1) := by decide +kernel
theorem dX7_join_219 : decode cX7_join 219 = .ok (.aload_n 0, 1) := by decide +kernel
theorem dX7_join_220 : decode cX7_join 220 = .ok (.getfield 22, 3) := by decide +kernel
theorem dX7_join_223 : decode cX7_join 223 = .ok (.iload_n 1, 1) := by decide +kernel
theorem dX7_join_224 : decode cX7_join 224 = .ok (.iaload, 1) := by decide +kernel
theorem dX7_join_225 : decode cX7_join 225 = .ok (.iconst 4, 1) := by decide +kernel
theorem dX7_join_226 : decode cX7_join 226 = .ok (.aload_n 0, 1) := by decide +kernel
theorem dX7_join_227 : decode cX7_join 227 = .ok (.getfield 16, 3) := by decide +kernel
theorem dX7_join_230 : decode cX7_join 230 = .ok (.iload_n 1, 1) := by decide +kernel
theorem dX7_join_231 : decode cX7_join 231 = .ok (.iaload, 1) := by decide +kernel
theorem dX7_join_232 : decode cX7_join 232 = .ok (.invokevirtual 102, 3) := by decide +kernel
theorem dX7_join_235 : decode cX7_join 235 = .ok (.aload_n 0, 1) := by decide +kernel
theorem dX7_join_236 : decode cX7_join 236 = .ok (.getfield 22, 3) := by decide +kernel
theorem dX7_join_239 : decode cX7_join 239 = .ok (.iload_n 2, 1) := by decide +kernel
theorem dX7_join_240 : decode cX7_join 240 = .ok (.iconst 0, 1) := by decide +kernel
theorem dX7_join_241 : decode cX7_join 241 = .ok (.iastore, 1) := by decide +kernel
theorem dX7_join_242 : decode cX7_join 242 = .ok (.aload_n 0, 1) := by decide +kernel
theorem dX7_join_243 : decode cX7_join 243 = .ok (.getfield 16, 3) := by decide +kernel
theorem dX7_join_246 : decode cX7_join 246 = .ok (.iload_n 1, 1) := by decide +kernel
theorem dX7_join_247 : decode cX7_join 247 = .ok (.iaload, 1) := by decide +kernel
theorem dX7_join_248 : decode cX7_join 248 = .ok (.ireturn, 1) := by decide +kernel
theorem dX7_turn_0 : decode cX7_turn 0 = .ok (.aload_n 0, 1) := by decide +kernel
theorem dX7_turn_1 : decode cX7_turn 1 = .ok (.iconst 0, 1) := by decide +kernel
theorem dX7_turn_2 : decode cX7_turn 2 = .ok (.putfield 68, 3) := by decide +kernel
theorem dX7_turn_5 : decode cX7_turn 5 = .ok (.aload_n 0, 1) := by decide +kernel
theorem dX7_turn_6 : decode cX7_turn 6 = .ok (.iload_n 1, 1) := by decide +kernel
theorem dX7_turn_7 : decode cX7_turn 7 = .ok (.invokevirtual 95, 3) := by decide +kernel
theorem dX7_turn_10 : decode cX7_turn 10 = .ok (.ifCond .ne 5, 3) := by decide +kernel
theorem dX7_turn_13 : decode cX7_turn 13 = .ok (.iconst 0, 1) := by decide +kernel
theorem dX7_turn_14 : decode cX7_turn 14 = .ok (.ireturn, 1) := by decide +kernel
theorem dX7_turn_15 : decode cX7_turn 15 = .ok (.iconst 0, 1) := by decide +kernel
theorem dX7_turn_16 : decode cX7_turn 16 = .ok (.istore_n 2, 1) := by decide +kernel
theorem dX7_turn_17 : decode cX7_turn 17 = .ok (.iload_n 2, 1) := by decide +kernel
theorem dX7_turn_18 : decode cX7_turn 18 = .ok (.aload_n 0, 1) := by decide +kernel
theorem dX7_turn_19 : decode cX7_turn 19 = .ok (.getfield 16, 3) := by decide +kernel
theorem dX7_turn_22 : decode cX7_turn 22 = .ok (.iload_n 1, 1) := by decide +kernel
theorem dX7_turn_23 : decode cX7_turn 23 = .ok (.iaload, 1) := by decide +kernel
theorem dX7_turn_24 : decode cX7_turn 24 = .ok (.iconst 2, 1) := by decide +kernel
theorem dX7_turn_25 : decode cX7_turn 25 = .ok (.idiv, 1) := by decide +kernel
theorem dX7_turn_26 : decode cX7_turn 26 = .ok (.if_icmp .ge 93, 3) := by decide +kernel
theorem dX7_turn_29 : decode cX7_turn 29 = .ok (.bipush 80, 2) := by decide +kernel
theorem dX7_turn_31 : decode cX7_turn 31 = .ok (.iload_n 1, 1) := by decide +kernel
theorem dX7_turn_32 : decode cX7_turn 32 = .ok (.imul, 1) := by decide +kernel
theorem dX7_turn_33 : decode cX7_turn 33 = .ok (.iload_n 2, 1) := by decide +kernel
theorem dX7_turn_34 : decode cX7_turn 34 = .ok (.iadd, 1) := by decide +kernel
theorem dX7_turn_35 : decode cX7_turn 35 = .ok (.istore_n 3, 1) := by decide +kernel
theorem dX7_turn_36 : decode cX7_turn 36 = .ok (.bipush 80, 2) := by decide +kernel
theorem dX7_turn_38 : decode cX7_turn 38 = .ok (.iload_n 1, 1) := by decide +kernel
theorem dX7_turn_39 : decode cX7_turn 39 = .ok (.imul, 1) := by decide +kernel
theorem dX7_turn_40 : decode cX7_turn 40 = .ok (.aload_n 0, 1) := by decide +kernel
theorem dX7_turn_41 : decode cX7_turn 41 = .ok (.getfield 16, 3) := by decide +kernel
theorem dX7_turn_44 : decode cX7_turn 44 = .ok (.iload_n 1, 1) := by decide +kernel
theorem dX7_turn_45 : decode cX7_turn 45 = .ok (.iaload, 1) := by decide +kernel
theorem dX7_turn_46 : decode cX7_turn 46 = .ok (.iadd, 1) := by decide +kernel
theorem dX7_turn_47 : decode cX7_turn 47 = .ok (.iconst 1, 1) := by decide +kernel
theorem dX7_turn_48 : decode cX7_turn 48 = .ok (.isub, 1) := by decide +kernel
theorem dX7_turn_49 : decode cX7_turn 49 = .ok (.iload_n 2, 1) := by decide +kernel
theorem dX7_turn_50 : decode cX7_turn 50 = .ok (.isub, 1) := by decide +kernel
theorem dX7_turn_51 : decode cX7_turn 51 = .ok (.istore 4, 2) := by decide +kernel
theorem dX7_turn_53 : decode cX7_turn 53 = .ok (.aload_n 0, 1) := by decide +kernel
theorem dX7_turn_54 : decode cX7_turn 54 = .ok (.getfield 9, 3) := by decide +kernel
theorem dX7_turn_57 : decode cX7_turn 57 = .ok (.iload_n 3, 1) := by decide +kernel
theorem dX7_turn_58 : decode cX7_turn 58 = .ok (.iaload, 1) := by decide +kernel
theorem dX7_turn_59 : decode cX7_turn 59 = .ok (.istore 5, 2) := by decide +kernel
theorem dX7_turn_61 : decode cX7_turn 61 = .ok (.aload_n 0, 1) := by decide +kernel
theorem dX7_turn_62 : decode cX7_turn 62 = .ok (.getfield 13, 3) := by decide +kernel
theorem dX7_turn_65 : decode cX7_turn 65 = .ok (.iload_n 3, 1) := by decide +kernel
theorem dX7_turn_66 : decode cX7_turn 66 = .ok (.iaload, 1) := by decide +kernel
theorem dX7_turn_67 : decode cX7_turn 67 = .ok (.istore 6, 2) := by decide +kernel
theorem dX7_turn_69 : decode cX7_turn 69 = .ok (.aload_n 0, 1) := by decide +kernel
theorem dX7_turn_70 : decode cX7_turn 70 = .ok (.getfield 9, 3) := by decide +kernel
theorem dX7_turn_73 : decode cX7_turn 73 = .ok (.iload_n 3, 1) := by decide +kernel
theorem dX7_turn_74 : decode cX7_turn 74 = .ok (.aload_n 0, 1) := by decide +kernel
theorem dX7_turn_75 : decode cX7_turn 75 = .ok (.getfield 9, 3) := by decide +kernel
theorem dX7_turn_78 : decode cX7_turn 78 = .ok (.iload 4, 2) := by decide +kernel
theorem dX7_turn_80 : decode cX7_turn 80 = .ok (.iaload, 1) := by decide +kernel
theorem dX7_turn_81 : decode cX7_turn 81 = .ok (.iastore, 1) := by decide +kernel
theorem dX7_turn_82 : decode cX7_turn 82 = .ok (.aload_n 0, 1) := by decide +kernel
theorem dX7_turn_83 : decode cX7_turn 83 = .ok (.getfield 13, 3) := by decide +kernel
theorem dX7_turn_86 : decode cX7_turn 86 = .ok (.iload_n 3, 1) := by decide +kernel
theorem dX7_turn_87 : decode cX7_turn 87 = .ok (.aload_n 0, 1) := by decide +kernel
theorem dX7_turn_88 : decode cX7_turn 88 = .ok (.getfield 13, 3) := by decide +kernel
theorem dX7_turn_91 : decode cX7_turn 91 = .ok (.iload 4, 2) := by decide +kernel
theorem dX7_turn_93 : decode cX7_turn 93 = .ok (.iaload, 1) := by decide +kernel
theorem dX7_turn_94 : decode cX7_turn 94 = .ok (.iastore, 1) := by decide +kernel
theorem dX7_turn_95 : decode cX7_turn 95 = .ok (.aload_n 0, 1) := by decide +kernel
theorem dX7_turn_96 : decode cX7_turn 96 = .ok (.getfield 9, 3) := by decide +kernel
theorem dX7_turn_99 : decode cX7_turn 99 = .ok (.iload 4, 2) := by decide +kernel
theorem dX7_turn_101 : decode cX7_turn 101 = .ok (.iload 5, 2) := by decide +kernel
theorem dX7_turn_103 : decode cX7_turn 103 = .ok (.iastore, 1) := by decide +kernel
theorem dX7_turn_104 : decode cX7_turn 104 = .ok (.aload_n 0, 1) := by decide +kernel
theorem dX7_turn_105 : decode cX7_turn 105 = .ok (.getfield 13, 3) := by decide +kernel
theorem dX7_turn_108 : decode cX7_turn 108 = .ok (.iload 4, 2) := by decide +kernel
theorem dX7_turn_110 : decode cX7_turn 110 = .ok (.iload 6, 2) := by decide +kernel
theorem dX7_turn_112 : decode cX7_turn 112 = .ok (.iastore, 1) := by decide +kernel
theorem dX7_turn_113 : decode cX7_turn 113 = .ok (.iinc 2 1, 3) := by decide +kernel
theorem dX7_turn_116 : decode cX7_turn 116 = .ok (.goto (-99), 3) := by decide +kernel
theorem dX7_turn_119 : decode cX7_turn 119 = .ok (.iconst 1, 1) := by decide +kernel
theorem dX7_turn_120 : decode cX7_turn 120 = .ok (.ireturn, 1) := by decide +kernel
theorem dX7_whose_0 : decode cX7_whose 0 = .ok (.iconst 0, 1) := by decide +kernel
theorem dX7_whose_1 : decode cX7_whose 1 = .ok (.istore_n 2, 1) := by decide +kernel
theorem dX7_whose_2 : decode cX7_whose 2 = .ok (.iload_n 2, 1) := by decide +kernel
theorem dX7_whose_3 : decode cX7_whose 3 = .ok (.aload_n 0, 1) := by decide +kernel
theorem dX7_whose_4 : decode cX7_whose 4 = .ok (.getfield 71, 3) := by decide +kernel
theorem dX7_whose_7 : decode cX7_whose 7 = .ok (.if_icmp .ge 34, 3) := by decide +kernel
theorem dX7_whose_10 : decode cX7_whose 10 = .ok (.iload_n 1, 1) := by decide +kernel
theorem dX7_whose_11 : decode cX7_whose 11 = .ok (.ifCond .le 24, 3) := by decide +kernel
theorem dX7_whose_14 : decode cX7_whose 14 = .ok (.aload_n 0, 1) := by decide +kernel
theorem dX7_whose_15 : decode cX7_whose 15 = .ok (.getfield 16, 3) := by decide +kernel
theorem dX7_whose_18 : decode cX7_whose 18 = .ok (.iload_n 2, 1) := by decide +kernel
theorem dX7_whose_19 : decode cX7_whose 19 = .ok (.iaload, 1) := by decide +kernel
theorem dX7_whose_20 : decode cX7_whose 20 = .ok (.ifCond .le 15, 3) := by decide +kernel
theorem dX7_whose_23 : decode cX7_whose 23 = .ok (.aload_n 0, 1) := by decide +kernel
theorem dX7_whose_24 : decode cX7_whose 24 = .ok (.getfield 22, 3) := by decide +kernel
theorem dX7_whose_27 : decode cX7_whose 27 = .ok (.iload_n 2, 1) := by decide +kernel
theorem dX7_whose_28 : decode cX7_whose 28 = .ok (.iaload, 1) := by decide +kernel
theorem dX7_whose_29 : decode cX7_whose 29 = .ok (.iload_n 1, 1) := by decide +kernel
theorem dX7_whose_30 : decode cX7_whose 30 = .ok (.if_icmp .ne 5, 3) := by decide +kernel
theorem dX7_whose_33 : decode cX7_whose 33 = .ok (.iload_n 2, 1) := by decide +kernel
theorem dX7_whose_34 : decode cX7_whose 34 = .ok (.ireturn, 1) := by decide +kernel
theorem dX7_whose_35 : decode cX7_whose 35 = .ok (.iinc 2 1, 3) := by decide +kernel
theorem dX7_whose_38 : decode cX7_whose 38 = .ok (.goto (-36), 3) := by decide +kernel
theorem dX7_whose_41 : decode cX7_whose 41 = .ok (.iconst (-1), 1) := by decide +kernel
theorem dX7_whose_42 : decode cX7_whose 42 = .ok (.ireturn, 1) := by decide +kernel
theorem dX7_name_0 : decode cX7_name 0 = .ok (.aload_n 0, 1) := by decide +kernel
theorem dX7_name_1 : decode cX7_name 1 = .ok (.iconst 0, 1) := by decide +kernel
theorem dX7_name_2 : decode cX7_name 2 = .ok (.putfield 68, 3) := by decide +kernel
theorem dX7_name_5 : decode cX7_name 5 = .ok (.aload_n 0, 1) := by decide +kernel
theorem dX7_name_6 : decode cX7_name 6 = .ok (.iload_n 1, 1) := by decide +kernel
theorem dX7_name_7 : decode cX7_name 7 = .ok (.invokevirtual 95, 3) := by decide +kernel
theorem dX7_name_10 : decode cX7_name 10 = .ok (.ifCond .eq 43, 3) := by decide +kernel
theorem dX7_name_13 : decode cX7_name 13 = .ok (.iload_n 2, 1) := by decide +kernel
theorem dX7_name_14 : decode cX7_name 14 = .ok (.iconst 1, 1) := by decide +kernel
theorem dX7_name_15 : decode cX7_name 15 = .ok (.bipush 99, 2) := by decide +kernel
theorem dX7_name_17 : decode cX7_name 17 = .ok (.invokestatic 74, 3) := by decide +kernel
theorem dX7_name_20 : decode cX7_name 20 = .ok (.ifCond .eq 33, 3) := by decide +kernel
theorem dX7_name_23 : decode cX7_name 23 = .ok (.aload_n 0, 1) := by decide +kernel
theorem dX7_name_24 : decode cX7_name 24 = .ok (.iload_n 2, 1) := by decide +kernel
theorem dX7_name_25 : decode cX7_name 25 = .ok (.invokevirtual 106, 3) := by decide +kernel
theorem dX7_name_28 : decode cX7_name 28 = .ok (.iconst (-1), 1) := by decide +kernel
theorem dX7_name_29 : decode cX7_name 29 = .ok (.if_icmp .ne 24, 3) := by decide +kernel
theorem dX7_name_32 : decode cX7_name 32 = .ok (.aload_n 0, 1) := by decide +kernel
theorem dX7_name_33 : decode cX7_name 33 = .ok (.aload_n 0, 1) := by decide +kernel
theorem dX7_name_34 : decode cX7_name 34 = .ok (.getfield 22, 3) := by decide +kernel
theorem dX7_name_37 : decode cX7_name 37 = .ok (.iload_n 1, 1) := by decide +kernel
theorem dX7_name_38 : decode cX7_name 38 = .ok (.iaload, 1) := by decide +kernel
theorem dX7_name_39 : decode cX7_name 39 = .ok (.ifCond .le 7, 3) := by decide +kernel
theorem dX7_name_42 : decode cX7_name 42 = .ok (.iconst 2, 1) := by decide +kernel
theorem dX7_name_43 : decode cX7_name 43 = .ok (.goto 4, 3) := by decide +kernel
theorem dX7_name_46 : decode cX7_name 46 = .ok (.iconst 1, 1) := by decide +kernel
theorem dX7_name_47 : decode cX7_name 47 = .ok (.invokevirtual 99, 3) := by decide +kernel
theorem dX7_name_50 : decode cX7_name 50 = .ok (.ifCond .ne 5, 3) := by decide +kernel
theorem dX7_name_53 : decode cX7_name 53 = .ok (.iconst 0, 1) := by decide +kernel
theorem dX7_name_54 : decode cX7_name 54 = .ok (.ireturn, 1) := by decide +kernel
theorem dX7_name_55 : decode cX7_name 55 = .ok (.aload_n 0, 1) := by decide +kernel
theorem dX7_name_56 : decode cX7_name 56 = .ok (.getfield 22, 3) := by decide +kernel
theorem dX7_name_59 : decode cX7_name 59 = .ok (.iload_n 1, 1) := by decide +kernel
theorem dX7_name_60 : decode cX7_name 60 = .ok (.iaload, 1) := by decide +kernel
theorem dX7_name_61 : decode cX7_name 61 = .ok (.ifCond .le 15, 3) := by decide +kernel
theorem dX7_name_64 : decode cX7_name 64 = .ok (.aload_n 0, 1) := by decide +kernel
theorem dX7_name_65 : decode cX7_name 65 = .ok (.aload_n 0, 1) := by decide +kernel
theorem dX7_name_66 : decode cX7_name 66 = .ok (.getfield 22, 3) := by decide +kernel
theorem dX7_name_69 : decode cX7_name 69 = .ok (.iload_n 1, 1) := by decide +kernel
theorem dX7_name_70 : decode cX7_name 70 = .ok (.iaload, 1) := by decide +kernel
theorem dX7_name_71 : decode cX7_name 71 = .ok (.iconst 5, 1) := by decide +kernel
theorem dX7_name_72 : decode cX7_name 72 = .ok (.iconst 0, 1) := by decide +kernel
theorem dX7_name_73 : decode cX7_name 73 = .ok (.invokevirtual 102, 3) := by decide +kernel
theorem dX7_name_76 : decode cX7_name 76 = .ok (.aload_n 0, 1) := by decide +kernel
theorem dX7_name_77 : decode cX7_name 77 = .ok (.getfield 22, 3) := by decide +kernel
theorem dX7_name_80 : decode cX7_name 80 = .ok (.iload_n 1, 1) := by decide +kernel
theorem dX7_name_81 : decode cX7_name 81 = .ok (.iload_n 2, 1) := by decide +kernel
theorem dX7_name_82 : decode cX7_name 82 = .ok (.iastore, 1) := by decide +kernel
theorem dX7_name_83 : decode cX7_name 83 = .ok (.aload_n 0, 1) := by decide +kernel
theorem dX7_name_84 : decode cX7_name 84 = .ok (.iload_n 2, 1) := by decide +kernel
theorem dX7_name_85 : decode cX7_name 85 = .ok (.iconst 1, 1) := by decide +kernel
theorem dX7_name_86 : decode cX7_name 86 = .ok (.aload_n 0, 1) := by decide +kernel
theorem dX7_name_87 : decode cX7_name 87 = .ok (.getfield 19, 3) := by decide +kernel
theorem dX7_name_90 : decode cX7_name 90 = .ok (.iload_n 1, 1) := by decide +kernel
theorem dX7_name_91 : decode cX7_name 91 = .ok (.iaload, 1) := by decide +kernel
theorem dX7_name_92 : decode cX7_name 92 = .ok (.invokevirtual 102, 3) := by decide +kernel
theorem dX7_name_95 : decode cX7_name 95 = .ok (.iconst 1, 1) := by decide +kernel
theorem dX7_name_96 : decode cX7_name 96 = .ok (.ireturn, 1) := by decide +kernel
theorem dX7_hand_0 : decode cX7_hand 0 = .ok (.aload_n 0, 1) := by decide +kernel
theorem dX7_hand_1 : decode cX7_hand 1 = .ok (.getfield 19, 3) := by decide +kernel
theorem dX7_hand_4 : decode cX7_hand 4 = .ok (.iload_n 1, 1) := by decide +kernel
theorem dX7_hand_5 : decode cX7_hand 5 = .ok (.iload_n 2, 1) := by decide +kernel
theorem dX7_hand_6 : decode cX7_hand 6 = .ok (.iastore, 1) := by decide +kernel
theorem dX7_hand_7 : decode cX7_hand 7 = .ok (.aload_n 0, 1) := by decide +kernel
theorem dX7_hand_8 : decode cX7_hand 8 = .ok (.getfield 22, 3) := by decide +kernel
theorem dX7_hand_11 : decode cX7_hand 11 = .ok (.iload_n 1, 1) := by decide +kernel
theorem dX7_hand_12 : decode cX7_hand 12 = .ok (.iaload, 1) := by decide +kernel
theorem dX7_hand_13 : decode cX7_hand 13 = .ok (.ifCond .le 15, 3) := by decide +kernel
theorem dX7_hand_16 : decode cX7_hand 16 = .ok (.aload_n 0, 1) := by decide +kernel
theorem dX7_hand_17 : decode cX7_hand 17 = .ok (.aload_n 0, 1) := by decide +kernel
theorem dX7_hand_18 : decode cX7_hand 18 = .ok (.getfield 22, 3) := by decide +kernel
theorem dX7_hand_21 : decode cX7_hand 21 = .ok (.iload_n 1, 1) := by decide +kernel
theorem dX7_hand_22 : decode cX7_hand 22 = .ok (.iaload, 1) := by decide +kernel
theorem dX7_hand_23 : decode cX7_hand 23 = .ok (.iconst 2, 1) := by decide +kernel
theorem dX7_hand_24 : decode cX7_hand 24 = .ok (.iload_n 2, 1) := by decide +kernel
theorem dX7_hand_25 : decode cX7_hand 25 = .ok (.invokevirtual 102, 3) := by decide +kernel
theorem dX7_hand_28 : decode cX7_hand 28 = .ok (.return_, 1) := by decide +kernel
theorem dX7_give_0 : decode cX7_give 0 = .ok (.aload_n 0, 1) := by decide +kernel
theorem dX7_give_1 : decode cX7_give 1 = .ok (.iconst 0, 1) := by decide +kernel
theorem dX7_give_2 : decode cX7_give 2 = .ok (.putfield 68, 3) := by decide +kernel
theorem dX7_give_5 : decode cX7_give 5 = .ok (.aload_n 0, 1) := by decide +kernel
theorem dX7_give_6 : decode cX7_give 6 = .ok (.iload_n 1, 1) := by decide +kernel
theorem dX7_give_7 : decode cX7_give 7 = .ok (.invokevirtual 95, 3) := by decide +kernel
theorem dX7_give_10 : decode cX7_give 10 = .ok (.ifCond .eq 40, 3) := by decide +kernel
theorem dX7_give_13 : decode cX7_give 13 = .ok (.iload_n 2, 1) := by decide +kernel
theorem dX7_give_14 : decode cX7_give 14 = .ok (.iconst 0, 1) := by decide +kernel
theorem dX7_give_15 : decode cX7_give 15 = .ok (.bipush 9, 2) := by decide +kernel
theorem dX7_give_17 : decode cX7_give 17 = .ok (.invokestatic 74, 3) := by decide +kernel
theorem dX7_give_20 : decode cX7_give 20 = .ok (.ifCond .eq 30, 3) := by decide +kernel
theorem dX7_give_23 : decode cX7_give 23 = .ok (.aload_n 0, 1) := by decide +kernel
theorem dX7_give_24 : decode cX7_give 24 = .ok (.getfield 19, 3) := by decide +kernel
theorem dX7_give_27 : decode cX7_give 27 = .ok (.iload_n 1, 1) := by decide +kernel
theorem dX7_give_28 : decode cX7_give 28 = .ok (.iaload, 1) := by decide +kernel
theorem dX7_give_29 : decode cX7_give 29 = .ok (.iload_n 2, 1) := by decide +kernel
theorem dX7_give_30 : decode cX7_give 30 = .ok (.if_icmp .eq 20, 3) := by decide +kernel
theorem dX7_give_33 : decode cX7_give 33 = .ok (.aload_n 0, 1) := by decide +kernel
theorem dX7_give_34 : decode cX7_give 34 = .ok (.getfield 22, 3) := by decide +kernel
theorem dX7_give_37 : decode cX7_give 37 = .ok (.iload_n 1, 1) := by decide +kernel
theorem dX7_give_38 : decode cX7_give 38 = .ok (.iaload, 1) := by decide +kernel
theorem dX7_give_39 : decode cX7_give 39 = .ok (.ifCond .le 13, 3) := by decide +kernel
theorem dX7_give_42 : decode cX7_give 42 = .ok (.aload_n 0, 1) := by decide +kernel
theorem dX7_give_43 : decode cX7_give 43 = .ok (.iconst 1, 1) := by decide +kernel
theorem dX7_give_44 : decode cX7_give 44 = .ok (.invokevirtual 99, 3) := by decide +kernel
theorem dX7_give_47 : decode cX7_give 47 = .ok (.ifCond .ne 5, 3) := by decide +kernel
theorem dX7_give_50 : decode cX7_give 50 = .ok (.iconst 0, 1) := by decide +kernel
theorem dX7_give_51 : decode cX7_give 51 = .ok (.ireturn, 1) := by decide +kernel
theorem dX7_give_52 : decode cX7_give 52 = .ok (.aload_n 0, 1) := by decide +kernel
theorem dX7_give_53 : decode cX7_give 53 = .ok (.iload_n 1, 1) := by decide +kernel
theorem dX7_give_54 : decode cX7_give 54 = .ok (.iload_n 2, 1) := by decide +kernel
theorem dX7_give_55 : decode cX7_give 55 = .ok (.invokevirtual 109, 3) := by decide +kernel
theorem dX7_give_58 : decode cX7_give 58 = .ok (.iconst 1, 1) := by decide +kernel
theorem dX7_give_59 : decode cX7_give 59 = .ok (.ireturn, 1) := by decide +kernel
theorem dX7_leastOf_0 : decode cX7_leastOf 0 = .ok (.iconst 5, 1) := by decide +kernel
theorem dX7_leastOf_1 : decode cX7_leastOf 1 = .ok (.istore 4, 2) := by decide +kernel
theorem dX7_leastOf_3 : decode cX7_leastOf 3 = .ok (.iload_n 2, 1) := by decide +kernel
theorem dX7_leastOf_4 : decode cX7_leastOf 4 = .ok (.istore 5, 2) := by decide +kernel
theorem dX7_leastOf_6 : decode cX7_leastOf 6 = .ok (.iload 5, 2) := by decide +kernel
theorem dX7_leastOf_8 : decode cX7_leastOf 8 = .ok (.iload_n 3, 1) := by decide +kernel
theorem dX7_leastOf_9 : decode cX7_leastOf 9 = .ok (.if_icmp .ge 45, 3) := by decide +kernel
theorem dX7_leastOf_12 : decode cX7_leastOf 12 = .ok (.aload_n 0, 1) := by decide +kernel
theorem dX7_leastOf_13 : decode cX7_leastOf 13 = .ok (.getfield 9, 3) := by decide +kernel
theorem dX7_leastOf_16 : decode cX7_leastOf 16 = .ok (.bipush 80, 2) := by decide +kernel
theorem dX7_leastOf_18 : decode cX7_leastOf 18 = .ok (.iload_n 1, 1) := by decide +kernel
theorem dX7_leastOf_19 : decode cX7_leastOf 19 = .ok (.imul, 1) := by decide +kernel
theorem dX7_leastOf_20 : decode cX7_leastOf 20 = .ok (.iload 5, 2) := by decide +kernel
theorem dX7_leastOf_22 : decode cX7_leastOf 22 = .ok (.iadd, 1) := by decide +kernel
theorem dX7_leastOf_23 : decode cX7_leastOf 23 = .ok (.iaload, 1) := by decide +kernel
theorem dX7_leastOf_24 : decode cX7_leastOf 24 = .ok (.iload 4, 2) := by decide +kernel
theorem dX7_leastOf_26 : decode cX7_leastOf 26 = .ok (.if_icmp .ge 18, 3) := by decide +kernel
theorem dX7_leastOf_29 : decode cX7_leastOf 29 = .ok (.aload_n 0, 1) := by decide +kernel
theorem dX7_leastOf_30 : decode cX7_leastOf 30 = .ok (.getfield 9, 3) := by decide +kernel
theorem dX7_leastOf_33 : decode cX7_leastOf 33 = .ok (.bipush 80, 2) := by decide +kernel
theorem dX7_leastOf_35 : decode cX7_leastOf 35 = .ok (.iload_n 1, 1) := by decide +kernel
theorem dX7_leastOf_36 : decode cX7_leastOf 36 = .ok (.imul, 1) := by decide +kernel
theorem dX7_leastOf_37 : decode cX7_leastOf 37 = .ok (.iload 5, 2) := by decide +kernel
theorem dX7_leastOf_39 : decode cX7_leastOf 39 = .ok (.iadd, 1) := by decide +kernel
theorem dX7_leastOf_40 : decode cX7_leastOf 40 = .ok (.iaload, 1) := by decide +kernel
theorem dX7_leastOf_41 : decode cX7_leastOf 41 = .ok (.goto 5, 3) := by decide +kernel
theorem dX7_leastOf_44 : decode cX7_leastOf 44 = .ok (.iload 4, 2) := by decide +kernel
theorem dX7_leastOf_46 : decode cX7_leastOf 46 = .ok (.istore 4, 2) := by decide +kernel
theorem dX7_leastOf_48 : decode cX7_leastOf 48 = .ok (.iinc 5 1, 3) := by decide +kernel
theorem dX7_leastOf_51 : decode cX7_leastOf 51 = .ok (.goto (-45), 3) := by decide +kernel
theorem dX7_leastOf_54 : decode cX7_leastOf 54 = .ok (.iload 4, 2) := by decide +kernel
theorem dX7_leastOf_56 : decode cX7_leastOf 56 = .ok (.ireturn, 1) := by decide +kernel
theorem dX7_rateOf_0 : decode cX7_rateOf 0 = .ok (.iconst 0, 1) := by decide +kernel
theorem dX7_rateOf_1 : decode cX7_rateOf 1 = .ok (.istore_n 2, 1) := by decide +kernel
theorem dX7_rateOf_2 : decode cX7_rateOf 2 = .ok (.iconst 0, 1) := by decide +kernel
theorem dX7_rateOf_3 : decode cX7_rateOf 3 = .ok (.istore_n 3, 1) := by decide +kernel
theorem dX7_rateOf_4 : decode cX7_rateOf 4 = .ok (.iload_n 3, 1) := by decide +kernel
theorem dX7_rateOf_5 : decode cX7_rateOf 5 = .ok (.aload_n 0, 1) := by decide +kernel
theorem dX7_rateOf_6 : decode cX7_rateOf 6 = .ok (.getfield 71, 3) := by decide +kernel
theorem dX7_rateOf_9 : decode cX7_rateOf 9 = .ok (.if_icmp .ge 48, 3) := by decide +kernel
theorem dX7_rateOf_12 : decode cX7_rateOf 12 = .ok (.iconst 0, 1) := by decide +kernel
theorem dX7_rateOf_13 : decode cX7_rateOf 13 = .ok (.istore 4, 2) := by decide +kernel
theorem dX7_rateOf_15 : decode cX7_rateOf 15 = .ok (.iload 4, 2) := by decide +kernel
theorem dX7_rateOf_17 : decode cX7_rateOf 17 = .ok (.aload_n 0, 1) := by decide +kernel
theorem dX7_rateOf_18 : decode cX7_rateOf 18 = .ok (.getfield 16, 3) := by decide +kernel
theorem dX7_rateOf_21 : decode cX7_rateOf 21 = .ok (.iload_n 3, 1) := by decide +kernel
theorem dX7_rateOf_22 : decode cX7_rateOf 22 = .ok (.iaload, 1) := by decide +kernel
theorem dX7_rateOf_23 : decode cX7_rateOf 23 = .ok (.if_icmp .ge 28, 3) := by decide +kernel
theorem dX7_rateOf_26 : decode cX7_rateOf 26 = .ok (.aload_n 0, 1) := by decide +kernel
theorem dX7_rateOf_27 : decode cX7_rateOf 27 = .ok (.getfield 9, 3) := by decide +kernel
theorem dX7_rateOf_30 : decode cX7_rateOf 30 = .ok (.bipush 80, 2) := by decide +kernel
theorem dX7_rateOf_32 : decode cX7_rateOf 32 = .ok (.iload_n 3, 1) := by decide +kernel
theorem dX7_rateOf_33 : decode cX7_rateOf 33 = .ok (.imul, 1) := by decide +kernel
theorem dX7_rateOf_34 : decode cX7_rateOf 34 = .ok (.iload 4, 2) := by decide +kernel
theorem dX7_rateOf_36 : decode cX7_rateOf 36 = .ok (.iadd, 1) := by decide +kernel
theorem dX7_rateOf_37 : decode cX7_rateOf 37 = .ok (.iaload, 1) := by decide +kernel
theorem dX7_rateOf_38 : decode cX7_rateOf 38 = .ok (.iload_n 1, 1) := by decide +kernel
theorem dX7_rateOf_39 : decode cX7_rateOf 39 = .ok (.if_icmp .ne 6, 3) := by decide +kernel
theorem dX7_rateOf_42 : decode cX7_rateOf 42 = .ok (.iinc 2 1, 3) := by decide +kernel
theorem dX7_rateOf_45 : decode cX7_rateOf 45 = .ok (.iinc 4 1, 3) := by decide +kernel
theorem dX7_rateOf_48 : decode cX7_rateOf 48 = .ok (.goto (-33), 3) := by decide +kernel
theorem dX7_rateOf_51 : decode cX7_rateOf 51 = .ok (.iinc 3 1, 3) := by decide +kernel
theorem dX7_rateOf_54 : decode cX7_rateOf 54 = .ok (.goto (-50), 3) := by decide +kernel
theorem dX7_rateOf_57 : decode cX7_rateOf 57 = .ok (.aload_n 0, 1) := by decide +kernel
theorem dX7_rateOf_58 : decode cX7_rateOf 58 = .ok (.getfield 25, 3) := by decide +kernel
theorem dX7_rateOf_61 : decode cX7_rateOf 61 = .ok (.iload_n 1, 1) := by decide +kernel
theorem dX7_rateOf_62 : decode cX7_rateOf 62 = .ok (.iaload, 1) := by decide +kernel
theorem dX7_rateOf_63 : decode cX7_rateOf 63 = .ok (.iload_n 2, 1) := by decide +kernel
theorem dX7_rateOf_64 : decode cX7_rateOf 64 = .ok (.aload_n 0, 1) := by decide +kernel
theorem dX7_rateOf_65 : decode cX7_rateOf 65 = .ok (.getfield 31, 3) := by decide +kernel
theorem dX7_rateOf_68 : decode cX7_rateOf 68 = .ok (.iload_n 1, 1) := by decide +kernel
theorem dX7_rateOf_69 : decode cX7_rateOf 69 = .ok (.iaload, 1) := by decide +kernel
theorem dX7_rateOf_70 : decode cX7_rateOf 70 = .ok (.idiv, 1) := by decide +kernel
theorem dX7_rateOf_71 : decode cX7_rateOf 71 = .ok (.isub, 1) := by decide +kernel
theorem dX7_rateOf_72 : decode cX7_rateOf 72 = .ok (.istore_n 3, 1) := by decide +kernel
theorem dX7_rateOf_73 : decode cX7_rateOf 73 = .ok (.iload_n 3, 1) := by decide +kernel
theorem dX7_rateOf_74 : decode cX7_rateOf 74 = .ok (.iconst 1, 1) := by decide +kernel
theorem dX7_rateOf_75 : decode cX7_rateOf 75 = .ok (.if_icmp .ge 7, 3) := by decide +kernel
theorem dX7_rateOf_78 : decode cX7_rateOf 78 = .ok (.iconst 1, 1) := by decide +kernel
theorem dX7_rateOf_79 : decode cX7_rateOf 79 = .ok (.goto 4, 3) := by decide +kernel
theorem dX7_rateOf_82 : decode cX7_rateOf 82 = .ok (.iload_n 3, 1) := by decide +kernel
theorem dX7_rateOf_83 : decode cX7_rateOf 83 = .ok (.ireturn, 1) := by decide +kernel
theorem dX7_beadsWorth_0 : decode cX7_beadsWorth 0 = .ok (.iload_n 1, 1) := by decide +kernel
theorem dX7_beadsWorth_1 : decode cX7_beadsWorth 1 = .ok (.aload_n 0, 1) := by decide +kernel
theorem dX7_beadsWorth_2 : decode cX7_beadsWorth 2 = .ok (.iload_n 2, 1) := by decide +kernel
theorem dX7_beadsWorth_3 : decode cX7_beadsWorth 3 = .ok (.invokevirtual 113, 3) := by decide +kernel
theorem dX7_beadsWorth_6 : decode cX7_beadsWorth 6 = .ok (.imul, 1) := by decide +kernel
theorem dX7_beadsWorth_7 : decode cX7_beadsWorth 7 = .ok (.iload_n 1, 1) := by decide +kernel
theorem dX7_beadsWorth_8 : decode cX7_beadsWorth 8 = .ok (.bipush 10, 2) := by decide +kernel
theorem dX7_beadsWorth_10 : decode cX7_beadsWorth 10 = .ok (.idiv, 1) := by decide +kernel
theorem dX7_beadsWorth_11 : decode cX7_beadsWorth 11 = .ok (.aload_n 0, 1) := by decide +kernel
theorem dX7_beadsWorth_12 : decode cX7_beadsWorth 12 = .ok (.getfield 28, 3) := by decide +kernel
theorem dX7_beadsWorth_15 : decode cX7_beadsWorth 15 = .ok (.iload_n 2, 1) := by decide +kernel
theorem dX7_beadsWorth_16 : decode cX7_beadsWorth 16 = .ok (.iaload, 1) := by decide +kernel
theorem dX7_beadsWorth_17 : decode cX7_beadsWorth 17 = .ok (.imul, 1) := by decide +kernel
theorem dX7_beadsWorth_18 : decode cX7_beadsWorth 18 = .ok (.iadd, 1) := by decide +kernel
theorem dX7_beadsWorth_19 : decode cX7_beadsWorth 19 = .ok (.ireturn, 1) := by decide +kernel
theorem dX7_worth_0 : decode cX7_worth 0 = .ok (.aload_n 0, 1) := by decide +kernel
theorem dX7_worth_1 : decode cX7_worth 1 = .ok (.getfield 16, 3) := by decide +kernel
theorem dX7_worth_4 : decode cX7_worth 4 = .ok (.iload_n 1, 1) := by decide +kernel
theorem dX7_worth_5 : decode cX7_worth 5 = .ok (.iaload, 1) := by decide +kernel
theorem dX7_worth_6 : decode cX7_worth 6 = .ok (.ifCond .ne 5, 3) := by decide +kernel
theorem dX7_worth_9 : decode cX7_worth 9 = .ok (.iconst 0, 1) := by decide +kernel
theorem dX7_worth_10 : decode cX7_worth 10 = .ok (.ireturn, 1) := by decide +kernel
theorem dX7_worth_11 : decode cX7_worth 11 = .ok (.aload_n 0, 1) := by decide +kernel
theorem dX7_worth_12 : decode cX7_worth 12 = .ok (.aload_n 0, 1) := by decide +kernel
theorem dX7_worth_13 : decode cX7_worth 13 = .ok (.getfield 16, 3) := by decide +kernel
theorem dX7_worth_16 : decode cX7_worth 16 = .ok (.iload_n 1, 1) := by decide +kernel
theorem dX7_worth_17 : decode cX7_worth 17 = .ok (.iaload, 1) := by decide +kernel
theorem dX7_worth_18 : decode cX7_worth 18 = .ok (.aload_n 0, 1) := by decide +kernel
theorem dX7_worth_19 : decode cX7_worth 19 = .ok (.iload_n 1, 1) := by decide +kernel
theorem dX7_worth_20 : decode cX7_worth 20 = .ok (.iconst 0, 1) := by decide +kernel
theorem dX7_worth_21 : decode cX7_worth 21 = .ok (.aload_n 0, 1) := by decide +kernel
theorem dX7_worth_22 : decode cX7_worth 22 = .ok (.getfield 16, 3) := by decide +kernel
theorem dX7_worth_25 : decode cX7_worth 25 = .ok (.iload_n 1, 1) := by decide +kernel
theorem dX7_worth_26 : decode cX7_worth 26 = .ok (.iaload, 1) := by decide +kernel
theorem dX7_worth_27 : decode cX7_worth 27 = .ok (.invokevirtual 116, 3) := by decide +kernel
theorem dX7_worth_30 : decode cX7_worth 30 = .ok (.invokevirtual 120, 3) := by decide +kernel
theorem dX7_worth_33 : decode cX7_worth 33 = .ok (.aload_n 0, 1) := by decide +kernel
theorem dX7_worth_34 : decode cX7_worth 34 = .ok (.getfield 22, 3) := by decide +kernel
theorem dX7_worth_37 : decode cX7_worth 37 = .ok (.iload_n 1, 1) := by decide +kernel
theorem dX7_worth_38 : decode cX7_worth 38 = .ok (.iaload, 1) := by decide +kernel
theorem dX7_worth_39 : decode cX7_worth 39 = .ok (.ifCond .le 10, 3) := by decide +kernel
theorem dX7_worth_42 : decode cX7_worth 42 = .ok (.aload_n 0, 1) := by decide +kernel
theorem dX7_worth_43 : decode cX7_worth 43 = .ok (.getfield 34, 3) := by decide +kernel
theorem dX7_worth_46 : decode cX7_worth 46 = .ok (.goto 4, 3) := by decide +kernel
theorem dX7_worth_49 : decode cX7_worth 49 = .ok (.iconst 0, 1) := by decide +kernel
theorem dX7_worth_50 : decode cX7_worth 50 = .ok (.iadd, 1) := by decide +kernel
theorem dX7_worth_51 : decode cX7_worth 51 = .ok (.ireturn, 1) := by decide +kernel
theorem dX7_makersOf_0 : decode cX7_makersOf 0 = .ok (.iconst 0, 1) := by decide +kernel
theorem dX7_makersOf_1 : decode cX7_makersOf 1 = .ok (.istore_n 2, 1) := by decide +kernel
theorem dX7_makersOf_2 : decode cX7_makersOf 2 = .ok (.iconst 0, 1) := by decide +kernel
theorem dX7_makersOf_3 : decode cX7_makersOf 3 = .ok (.istore_n 3, 1) := by decide +kernel
theorem dX7_makersOf_4 : decode cX7_makersOf 4 = .ok (.iload_n 3, 1) := by decide +kernel
theorem dX7_makersOf_5 : decode cX7_makersOf 5 = .ok (.aload_n 0, 1) := by decide +kernel
theorem dX7_makersOf_6 : decode cX7_makersOf 6 = .ok (.getfield 16, 3) := by decide +kernel
theorem dX7_makersOf_9 : decode cX7_makersOf 9 = .ok (.iload_n 1, 1) := by decide +kernel
theorem dX7_makersOf_10 : decode cX7_makersOf 10 = .ok (.iaload, 1) := by decide +kernel
theorem dX7_makersOf_11 : decode cX7_makersOf 11 = .ok (.if_icmp .ge 25, 3) := by decide +kernel
theorem dX7_makersOf_14 : decode cX7_makersOf 14 = .ok (.iload_n 2, 1) := by decide +kernel
theorem dX7_makersOf_15 : decode cX7_makersOf 15 = .ok (.iconst 1, 1) := by decide +kernel
theorem dX7_makersOf_16 : decode cX7_makersOf 16 = .ok (.aload_n 0, 1) := by decide +kernel
theorem dX7_makersOf_17 : decode cX7_makersOf 17 = .ok (.getfield 13, 3) := by decide +kernel
theorem dX7_makersOf_20 : decode cX7_makersOf 20 = .ok (.bipush 80, 2) := by decide +kernel
theorem dX7_makersOf_22 : decode cX7_makersOf 22 = .ok (.iload_n 1, 1) := by decide +kernel
theorem dX7_makersOf_23 : decode cX7_makersOf 23 = .ok (.imul, 1) := by decide +kernel
theorem dX7_makersOf_24 : decode cX7_makersOf 24 = .ok (.iload_n 3, 1) := by decide +kernel
theorem dX7_makersOf_25 : decode cX7_makersOf 25 = .ok (.iadd, 1) := by decide +kernel
theorem dX7_makersOf_26 : decode cX7_makersOf 26 = .ok (.iaload, 1) := by decide +kernel
theorem dX7_makersOf_27 : decode cX7_makersOf 27 = .ok (.ishl, 1) := by decide +kernel
theorem dX7_makersOf_28 : decode cX7_makersOf 28 = .ok (.ior, 1) := by decide +kernel
theorem dX7_makersOf_29 : decode cX7_makersOf 29 = .ok (.istore_n 2, 1) := by decide +kernel
theorem dX7_makersOf_30 : decode cX7_makersOf 30 = .ok (.iinc 3 1, 3) := by decide +kernel
theorem dX7_makersOf_33 : decode cX7_makersOf 33 = .ok (.goto (-29), 3) := by decide +kernel
theorem dX7_makersOf_36 : decode cX7_makersOf 36 = .ok (.iload_n 2, 1) := by decide +kernel
theorem dX7_makersOf_37 : decode cX7_makersOf 37 = .ok (.invokestatic 124, 3) := by decide +kernel
theorem dX7_makersOf_40 : decode cX7_makersOf 40 = .ok (.ireturn, 1) := by decide +kernel
theorem dX7_of_0 : decode cX7_of 0 = .ok (.aload_n 0, 1) := by decide +kernel
theorem dX7_of_1 : decode cX7_of 1 = .ok (.iconst 0, 1) := by decide +kernel
theorem dX7_of_2 : decode cX7_of 2 = .ok (.putfield 68, 3) := by decide +kernel
theorem dX7_of_5 : decode cX7_of 5 = .ok (.iload_n 1, 1) := by decide +kernel
theorem dX7_of_6 : decode cX7_of 6 = .ok (.iconst 0, 1) := by decide +kernel
theorem dX7_of_7 : decode cX7_of 7 = .ok (.aload_n 0, 1) := by decide +kernel
theorem dX7_of_8 : decode cX7_of 8 = .ok (.getfield 71, 3) := by decide +kernel
theorem dX7_of_11 : decode cX7_of 11 = .ok (.iconst 1, 1) := by decide +kernel
theorem dX7_of_12 : decode cX7_of 12 = .ok (.isub, 1) := by decide +kernel
theorem dX7_of_13 : decode cX7_of 13 = .ok (.invokestatic 74, 3) := by decide +kernel
theorem dX7_of_16 : decode cX7_of 16 = .ok (.ifCond .eq 13, 3) := by decide +kernel
theorem dX7_of_19 : decode cX7_of 19 = .ok (.iload_n 2, 1) := by decide +kernel
theorem dX7_of_20 : decode cX7_of 20 = .ok (.iconst 0, 1) := by decide +kernel
theorem dX7_of_21 : decode cX7_of 21 = .ok (.bipush 6, 2) := by decide +kernel
theorem dX7_of_23 : decode cX7_of 23 = .ok (.invokestatic 74, 3) := by decide +kernel
theorem dX7_of_26 : decode cX7_of 26 = .ok (.ifCond .ne 10, 3) := by decide +kernel
theorem dX7_of_29 : decode cX7_of 29 = .ok (.aload_n 0, 1) := by decide +kernel
theorem dX7_of_30 : decode cX7_of 30 = .ok (.iconst 1, 1) := by decide +kernel
theorem dX7_of_31 : decode cX7_of 31 = .ok (.putfield 68, 3) := by decide +kernel
theorem dX7_of_34 : decode cX7_of 34 = .ok (.iconst 0, 1) := by decide +kernel
theorem dX7_of_35 : decode cX7_of 35 = .ok (.ireturn, 1) := by decide +kernel
theorem dX7_of_36 : decode cX7_of 36 = .ok (.iload_n 2, 1) := by decide +kernel
theorem dX7_of_37 : decode cX7_of 37 = .ok (.tableswitch 102 0 5 #[39, 46, 53, 60, 86, 92], 39) := by decide +kernel
theorem dX7_of_76 : decode cX7_of 76 = .ok (.aload_n 0, 1) := by decide +kernel
theorem dX7_of_77 : decode cX7_of 77 = .ok (.getfield 16, 3) := by decide +kernel
theorem dX7_of_80 : decode cX7_of 80 = .ok (.iload_n 1, 1) := by decide +kernel
theorem dX7_of_81 : decode cX7_of 81 = .ok (.iaload, 1) := by decide +kernel
theorem dX7_of_82 : decode cX7_of 82 = .ok (.ireturn, 1) := by decide +kernel
theorem dX7_of_83 : decode cX7_of 83 = .ok (.aload_n 0, 1) := by decide +kernel
theorem dX7_of_84 : decode cX7_of 84 = .ok (.getfield 19, 3) := by decide +kernel
theorem dX7_of_87 : decode cX7_of 87 = .ok (.iload_n 1, 1) := by decide +kernel
theorem dX7_of_88 : decode cX7_of 88 = .ok (.iaload, 1) := by decide +kernel
theorem dX7_of_89 : decode cX7_of 89 = .ok (.ireturn, 1) := by decide +kernel
theorem dX7_of_90 : decode cX7_of 90 = .ok (.aload_n 0, 1) := by decide +kernel
theorem dX7_of_91 : decode cX7_of 91 = .ok (.getfield 22, 3) := by decide +kernel
theorem dX7_of_94 : decode cX7_of 94 = .ok (.iload_n 1, 1) := by decide +kernel
theorem dX7_of_95 : decode cX7_of 95 = .ok (.iaload, 1) := by decide +kernel
theorem dX7_of_96 : decode cX7_of 96 = .ok (.ireturn, 1) := by decide +kernel
theorem dX7_of_97 : decode cX7_of 97 = .ok (.aload_n 0, 1) := by decide +kernel
theorem dX7_of_98 : decode cX7_of 98 = .ok (.getfield 16, 3) := by decide +kernel
theorem dX7_of_101 : decode cX7_of 101 = .ok (.iload_n 1, 1) := by decide +kernel
theorem dX7_of_102 : decode cX7_of 102 = .ok (.iaload, 1) := by decide +kernel
theorem dX7_of_103 : decode cX7_of 103 = .ok (.ifCond .ne 7, 3) := by decide +kernel
theorem dX7_of_106 : decode cX7_of 106 = .ok (.iconst (-1), 1) := by decide +kernel
theorem dX7_of_107 : decode cX7_of 107 = .ok (.goto 15, 3) := by decide +kernel
theorem dX7_of_110 : decode cX7_of 110 = .ok (.aload_n 0, 1) := by decide +kernel
theorem dX7_of_111 : decode cX7_of 111 = .ok (.iload_n 1, 1) := by decide +kernel
theorem dX7_of_112 : decode cX7_of 112 = .ok (.iconst 0, 1) := by decide +kernel
theorem dX7_of_113 : decode cX7_of 113 = .ok (.aload_n 0, 1) := by decide +kernel
theorem dX7_of_114 : decode cX7_of 114 = .ok (.getfield 16, 3) := by decide +kernel
theorem dX7_of_117 : decode cX7_of 117 = .ok (.iload_n 1, 1) := by decide +kernel
theorem dX7_of_118 : decode cX7_of 118 = .ok (.iaload, 1) := by decide +kernel
theorem dX7_of_119 : decode cX7_of 119 = .ok (.invokevirtual 116, 3) := by decide +kernel
theorem dX7_of_122 : decode cX7_of 122 = .ok (.ireturn, 1) := by decide +kernel
theorem dX7_of_123 : decode cX7_of 123 = .ok (.aload_n 0, 1) := by decide +kernel
theorem dX7_of_124 : decode cX7_of 124 = .ok (.iload_n 1, 1) := by decide +kernel
theorem dX7_of_125 : decode cX7_of 125 = .ok (.invokevirtual 129, 3) := by decide +kernel
theorem dX7_of_128 : decode cX7_of 128 = .ok (.ireturn, 1) := by decide +kernel
theorem dX7_of_129 : decode cX7_of 129 = .ok (.aload_n 0, 1) := by decide +kernel
theorem dX7_of_130 : decode cX7_of 130 = .ok (.getfield 16, 3) := by decide +kernel
theorem dX7_of_133 : decode cX7_of 133 = .ok (.iload_n 1, 1) := by decide +kernel
theorem dX7_of_134 : decode cX7_of 134 = .ok (.iaload, 1) := by decide +kernel
theorem dX7_of_135 : decode cX7_of 135 = .ok (.bipush 10, 2) := by decide +kernel
theorem dX7_of_137 : decode cX7_of 137 = .ok (.idiv, 1) := by decide +kernel
theorem dX7_of_138 : decode cX7_of 138 = .ok (.ireturn, 1) := by decide +kernel
theorem dX7_of_139 : decode cX7_of 139 = .ok (.aload_n 0, 1) := by decide +kernel
theorem dX7_of_140 : decode cX7_of 140 = .ok (.iload_n 1, 1) := by decide +kernel
theorem dX7_of_141 : decode cX7_of 141 = .ok (.invokevirtual 132, 3) := by decide +kernel
theorem dX7_of_144 : decode cX7_of 144 = .ok (.ireturn, 1) := by decide +kernel
theorem dX7_bead_0 : decode cX7_bead 0 = .ok (.aload_n 0, 1) := by decide +kernel
theorem dX7_bead_1 : decode cX7_bead 1 = .ok (.iconst 0, 1) := by decide +kernel
theorem dX7_bead_2 : decode cX7_bead 2 = .ok (.putfield 68, 3) := by decide +kernel
theorem dX7_bead_5 : decode cX7_bead 5 = .ok (.iload_n 1, 1) := by decide +kernel
theorem dX7_bead_6 : decode cX7_bead 6 = .ok (.iconst 0, 1) := by decide +kernel
theorem dX7_bead_7 : decode cX7_bead 7 = .ok (.aload_n 0, 1) := by decide +kernel
theorem dX7_bead_8 : decode cX7_bead 8 = .ok (.getfield 71, 3) := by decide +kernel
theorem dX7_bead_11 : decode cX7_bead 11 = .ok (.iconst 1, 1) := by decide +kernel
theorem dX7_bead_12 : decode cX7_bead 12 = .ok (.isub, 1) := by decide +kernel
theorem dX7_bead_13 : decode cX7_bead 13 = .ok (.invokestatic 74, 3) := by decide +kernel
theorem dX7_bead_16 : decode cX7_bead 16 = .ok (.ifCond .eq 28, 3) := by decide +kernel
theorem dX7_bead_19 : decode cX7_bead 19 = .ok (.iload_n 2, 1) := by decide +kernel
theorem dX7_bead_20 : decode cX7_bead 20 = .ok (.iconst 0, 1) := by decide +kernel
theorem dX7_bead_21 : decode cX7_bead 21 = .ok (.aload_n 0, 1) := by decide +kernel
theorem dX7_bead_22 : decode cX7_bead 22 = .ok (.getfield 16, 3) := by decide +kernel
theorem dX7_bead_25 : decode cX7_bead 25 = .ok (.iload_n 1, 1) := by decide +kernel
theorem dX7_bead_26 : decode cX7_bead 26 = .ok (.iaload, 1) := by decide +kernel
theorem dX7_bead_27 : decode cX7_bead 27 = .ok (.iconst 1, 1) := by decide +kernel
theorem dX7_bead_28 : decode cX7_bead 28 = .ok (.isub, 1) := by decide +kernel
theorem dX7_bead_29 : decode cX7_bead 29 = .ok (.invokestatic 74, 3) := by decide +kernel
theorem dX7_bead_32 : decode cX7_bead 32 = .ok (.ifCond .eq 12, 3) := by decide +kernel
theorem dX7_bead_35 : decode cX7_bead 35 = .ok (.iload_n 3, 1) := by decide +kernel
theorem dX7_bead_36 : decode cX7_bead 36 = .ok (.iconst 0, 1) := by decide +kernel
theorem dX7_bead_37 : decode cX7_bead 37 = .ok (.iconst 1, 1) := by decide +kernel
theorem dX7_bead_38 : decode cX7_bead 38 = .ok (.invokestatic 74, 3) := by decide +kernel
theorem dX7_bead_41 : decode cX7_bead 41 = .ok (.ifCond .ne 5, 3) := by decide +kernel
theorem dX7_bead_44 : decode cX7_bead 44 = .ok (.iconst (-1), 1) := by decide +kernel
theorem dX7_bead_45 : decode cX7_bead 45 = .ok (.ireturn, 1) := by decide +kernel
theorem dX7_bead_46 : decode cX7_bead 46 = .ok (.iload_n 3, 1) := by decide +kernel
theorem dX7_bead_47 : decode cX7_bead 47 = .ok (.ifCond .ne 17, 3) := by decide +kernel
theorem dX7_bead_50 : decode cX7_bead 50 = .ok (.aload_n 0, 1) := by decide +kernel
theorem dX7_bead_51 : decode cX7_bead 51 = .ok (.getfield 9, 3) := by decide +kernel
theorem dX7_bead_54 : decode cX7_bead 54 = .ok (.bipush 80, 2) := by decide +kernel
theorem dX7_bead_56 : decode cX7_bead 56 = .ok (.iload_n 1, 1) := by decide +kernel
theorem dX7_bead_57 : decode cX7_bead 57 = .ok (.imul, 1) := by decide +kernel
theorem dX7_bead_58 : decode cX7_bead 58 = .ok (.iload_n 2, 1) := by decide +kernel
theorem dX7_bead_59 : decode cX7_bead 59 = .ok (.iadd, 1) := by decide +kernel
theorem dX7_bead_60 : decode cX7_bead 60 = .ok (.iaload, 1) := by decide +kernel
theorem dX7_bead_61 : decode cX7_bead 61 = .ok (.goto 14, 3) := by decide +kernel
theorem dX7_bead_64 : decode cX7_bead 64 = .ok (.aload_n 0, 1) := by decide +kernel
theorem dX7_bead_65 : decode cX7_bead 65 = .ok (.getfield 13, 3) := by decide +kernel
theorem dX7_bead_68 : decode cX7_bead 68 = .ok (.bipush 80, 2) := by decide +kernel
theorem dX7_bead_70 : decode cX7_bead 70 = .ok (.iload_n 1, 1) := by decide +kernel
theorem dX7_bead_71 : decode cX7_bead 71 = .ok (.imul, 1) := by decide +kernel
theorem dX7_bead_72 : decode cX7_bead 72 = .ok (.iload_n 2, 1) := by decide +kernel
theorem dX7_bead_73 : decode cX7_bead 73 = .ok (.iadd, 1) := by decide +kernel
theorem dX7_bead_74 : decode cX7_bead 74 = .ok (.iaload, 1) := by decide +kernel
theorem dX7_bead_75 : decode cX7_bead 75 = .ok (.ireturn, 1) := by decide +kernel
theorem dX7_named_0 : decode cX7_named 0 = .ok (.aload_n 0, 1) := by decide +kernel
theorem dX7_named_1 : decode cX7_named 1 = .ok (.iconst 0, 1) := by decide +kernel
theorem dX7_named_2 : decode cX7_named 2 = .ok (.putfield 68, 3) := by decide +kernel
theorem dX7_named_5 : decode cX7_named 5 = .ok (.aload_n 0, 1) := by decide +kernel
theorem dX7_named_6 : decode cX7_named 6 = .ok (.iload_n 1, 1) := by decide +kernel
theorem dX7_named_7 : decode cX7_named 7 = .ok (.invokevirtual 106, 3) := by decide +kernel
theorem dX7_named_10 : decode cX7_named 10 = .ok (.ireturn, 1) := by decide +kernel
theorem dX7_tale_0 : decode cX7_tale 0 = .ok (.aload_n 0, 1) := by decide +kernel
theorem dX7_tale_1 : decode cX7_tale 1 = .ok (.iconst 0, 1) := by decide +kernel
theorem dX7_tale_2 : decode cX7_tale 2 = .ok (.putfield 68, 3) := by decide +kernel
theorem dX7_tale_5 : decode cX7_tale 5 = .ok (.iload_n 2, 1) := by decide +kernel
theorem dX7_tale_6 : decode cX7_tale 6 = .ok (.ifCond .lt 12, 3) := by decide +kernel
theorem dX7_tale_9 : decode cX7_tale 9 = .ok (.iload_n 3, 1) := by decide +kernel
theorem dX7_tale_10 : decode cX7_tale 10 = .ok (.iconst 0, 1) := by decide +kernel
theorem dX7_tale_11 : decode cX7_tale 11 = .ok (.iconst 2, 1) := by decide +kernel
theorem dX7_tale_12 : decode cX7_tale 12 = .ok (.invokestatic 74, 3) := by decide +kernel
theorem dX7_tale_15 : decode cX7_tale 15 = .ok (.ifCond .ne 5, 3) := by decide +kernel
theorem dX7_tale_18 : decode cX7_tale 18 = .ok (.iconst (-1), 1) := by decide +kernel
theorem dX7_tale_19 : decode cX7_tale 19 = .ok (.ireturn, 1) := by decide +kernel
theorem dX7_tale_20 : decode cX7_tale 20 = .ok (.iload_n 2, 1) := by decide +kernel
theorem dX7_tale_21 : decode cX7_tale 21 = .ok (.istore 4, 2) := by decide +kernel
theorem dX7_tale_23 : decode cX7_tale 23 = .ok (.iconst 0, 1) := by decide +kernel
theorem dX7_tale_24 : decode cX7_tale 24 = .ok (.istore 5, 2) := by decide +kernel
theorem dX7_tale_26 : decode cX7_tale 26 = .ok (.iload 5, 2) := by decide +kernel
theorem dX7_tale_28 : decode cX7_tale 28 = .ok (.aload_n 0, 1) := by decide +kernel
theorem dX7_tale_29 : decode cX7_tale 29 = .ok (.getfield 78, 3) := by decide +kernel
theorem dX7_tale_32 : decode cX7_tale 32 = .ok (.if_icmp .ge 47, 3) := by decide +kernel
theorem dX7_tale_35 : decode cX7_tale 35 = .ok (.aload_n 0, 1) := by decide +kernel
theorem dX7_tale_36 : decode cX7_tale 36 = .ok (.getfield 44, 3) := by decide +kernel
theorem dX7_tale_39 : decode cX7_tale 39 = .ok (.iconst 4, 1) := by decide +kernel
theorem dX7_tale_40 : decode cX7_tale 40 = .ok (.iload 5, 2) := by decide +kernel
theorem dX7_tale_42 : decode cX7_tale 42 = .ok (.imul, 1) := by decide +kernel
theorem dX7_tale_43 : decode cX7_tale 43 = .ok (.iaload, 1) := by decide +kernel
theorem dX7_tale_44 : decode cX7_tale 44 = .ok (.iload_n 1, 1) := by decide +kernel
theorem dX7_tale_45 : decode cX7_tale 45 = .ok (.if_icmp .eq 6, 3) := by decide +kernel
theorem dX7_tale_48 : decode cX7_tale 48 = .ok (.goto 25, 3) := by decide +kernel
theorem dX7_tale_51 : decode cX7_tale 51 = .ok (.iload 4, 2) := by decide +kernel
theorem dX7_tale_53 : decode cX7_tale 53 = .ok (.ifCond .ne 17, 3) := by decide +kernel
theorem dX7_tale_56 : decode cX7_tale 56 = .ok (.aload_n 0, 1) := by decide +kernel
theorem dX7_tale_57 : decode cX7_tale 57 = .ok (.getfield 44, 3) := by decide +kernel
theorem dX7_tale_60 : decode cX7_tale 60 = .ok (.iconst 4, 1) := by decide +kernel
theorem dX7_tale_61 : decode cX7_tale 61 = .ok (.iload 5, 2) := by decide +kernel
theorem dX7_tale_63 : decode cX7_tale 63 = .ok (.imul, 1) := by decide +kernel
theorem dX7_tale_64 : decode cX7_tale 64 = .ok (.iconst 1, 1) := by decide +kernel
theorem dX7_tale_65 : decode cX7_tale 65 = .ok (.iadd, 1) := by decide +kernel
theorem dX7_tale_66 : decode cX7_tale 66 = .ok (.iload_n 3, 1) := by decide +kernel
theorem dX7_tale_67 : decode cX7_tale 67 = .ok (.iadd, 1) := by decide +kernel
theorem dX7_tale_68 : decode cX7_tale 68 = .ok (.iaload, 1) := by decide +kernel
theorem dX7_tale_69 : decode cX7_tale 69 = .ok (.ireturn, 1) := by decide +kernel
theorem dX7_tale_70 : decode cX7_tale 70 = .ok (.iinc 4 (-1), 3) := by decide +kernel
theorem dX7_tale_73 : decode cX7_tale 73 = .ok (.iinc 5 1, 3) := by decide +kernel
theorem dX7_tale_76 : decode cX7_tale 76 = .ok (.goto (-50), 3) := by decide +kernel
theorem dX7_tale_79 : decode cX7_tale 79 = .ok (.iconst (-1), 1) := by decide +kernel
theorem dX7_tale_80 : decode cX7_tale 80 = .ok (.ireturn, 1) := by decide +kernel
theorem dX7_set_0 : decode cX7_set 0 = .ok (.aload_n 0, 1) := by decide +kernel
theorem dX7_set_1 : decode cX7_set 1 = .ok (.iconst 0, 1) := by decide +kernel
theorem dX7_set_2 : decode cX7_set 2 = .ok (.putfield 68, 3) := by decide +kernel
theorem dX7_set_5 : decode cX7_set 5 = .ok (.iload_n 1, 1) := by decide +kernel
theorem dX7_set_6 : decode cX7_set 6 = .ok (.iconst 0, 1) := by decide +kernel
theorem dX7_set_7 : decode cX7_set 7 = .ok (.iconst 5, 1) := by decide +kernel
theorem dX7_set_8 : decode cX7_set 8 = .ok (.invokestatic 74, 3) := by decide +kernel
theorem dX7_set_11 : decode cX7_set 11 = .ok (.ifCond .eq 17, 3) := by decide +kernel
theorem dX7_set_14 : decode cX7_set 14 = .ok (.iload_n 1, 1) := by decide +kernel
theorem dX7_set_15 : decode cX7_set 15 = .ok (.iconst 3, 1) := by decide +kernel
theorem dX7_set_16 : decode cX7_set 16 = .ok (.if_icmp .ge 14, 3) := by decide +kernel
theorem dX7_set_19 : decode cX7_set 19 = .ok (.iload_n 2, 1) := by decide +kernel
end
section
theorem dX7_set_20 : decode cX7_set 20 = .ok (.iconst 0, 1) := by decide +kernel
theorem dX7_set_21 : decode cX7_set 21 = .ok (.iconst 4, 1) := by decide +kernel
theorem dX7_set_22 : decode cX7_set 22 = .ok (.invokestatic 74, 3) := by decide +kernel
theorem dX7_set_25 : decode cX7_set 25 = .ok (.ifCond .ne 5, 3) := by decide +kernel
theorem dX7_set_28 : decode cX7_set 28 = .ok (.iconst (-1), 1) := by decide +kernel
theorem dX7_set_29 : decode cX7_set 29 = .ok (.ireturn, 1) := by decide +kernel
theorem dX7_set_30 : decode cX7_set 30 = .ok (.iload_n 1, 1) := by decide +kernel
theorem dX7_set_31 : decode cX7_set 31 = .ok (.tableswitch 177 0 4 #[33, 63, 94, 125, 152], 33) := by decide +kernel
theorem dX7_set_64 : decode cX7_set 64 = .ok (.iload_n 3, 1) := by decide +kernel
theorem dX7_set_65 : decode cX7_set 65 = .ok (.iconst 1, 1) := by decide +kernel
theorem dX7_set_66 : decode cX7_set 66 = .ok (.bipush 100, 2) := by decide +kernel
theorem dX7_set_68 : decode cX7_set 68 = .ok (.invokestatic 74, 3) := by decide +kernel
theorem dX7_set_71 : decode cX7_set 71 = .ok (.ifCond .ne 5, 3) := by decide +kernel
theorem dX7_set_74 : decode cX7_set 74 = .ok (.iconst (-1), 1) := by decide +kernel
theorem dX7_set_75 : decode cX7_set 75 = .ok (.ireturn, 1) := by decide +kernel
theorem dX7_set_76 : decode cX7_set 76 = .ok (.aload_n 0, 1) := by decide +kernel
theorem dX7_set_77 : decode cX7_set 77 = .ok (.getfield 25, 3) := by decide +kernel
theorem dX7_set_80 : decode cX7_set 80 = .ok (.iload_n 2, 1) := by decide +kernel
theorem dX7_set_81 : decode cX7_set 81 = .ok (.iaload, 1) := by decide +kernel
theorem dX7_set_82 : decode cX7_set 82 = .ok (.istore 4, 2) := by decide +kernel
theorem dX7_set_84 : decode cX7_set 84 = .ok (.aload_n 0, 1) := by decide +kernel
theorem dX7_set_85 : decode cX7_set 85 = .ok (.getfield 25, 3) := by decide +kernel
theorem dX7_set_88 : decode cX7_set 88 = .ok (.iload_n 2, 1) := by decide +kernel
theorem dX7_set_89 : decode cX7_set 89 = .ok (.iload_n 3, 1) := by decide +kernel
theorem dX7_set_90 : decode cX7_set 90 = .ok (.iastore, 1) := by decide +kernel
theorem dX7_set_91 : decode cX7_set 91 = .ok (.iload 4, 2) := by decide +kernel
theorem dX7_set_93 : decode cX7_set 93 = .ok (.ireturn, 1) := by decide +kernel
theorem dX7_set_94 : decode cX7_set 94 = .ok (.iload_n 3, 1) := by decide +kernel
theorem dX7_set_95 : decode cX7_set 95 = .ok (.iconst 0, 1) := by decide +kernel
theorem dX7_set_96 : decode cX7_set 96 = .ok (.sipush 500, 3) := by decide +kernel
theorem dX7_set_99 : decode cX7_set 99 = .ok (.invokestatic 74, 3) := by decide +kernel
theorem dX7_set_102 : decode cX7_set 102 = .ok (.ifCond .ne 5, 3) := by decide +kernel
theorem dX7_set_105 : decode cX7_set 105 = .ok (.iconst (-1), 1) := by decide +kernel
theorem dX7_set_106 : decode cX7_set 106 = .ok (.ireturn, 1) := by decide +kernel
theorem dX7_set_107 : decode cX7_set 107 = .ok (.aload_n 0, 1) := by decide +kernel
theorem dX7_set_108 : decode cX7_set 108 = .ok (.getfield 28, 3) := by decide +kernel
theorem dX7_set_111 : decode cX7_set 111 = .ok (.iload_n 2, 1) := by decide +kernel
theorem dX7_set_112 : decode cX7_set 112 = .ok (.iaload, 1) := by decide +kernel
theorem dX7_set_113 : decode cX7_set 113 = .ok (.istore 4, 2) := by decide +kernel
theorem dX7_set_115 : decode cX7_set 115 = .ok (.aload_n 0, 1) := by decide +kernel
theorem dX7_set_116 : decode cX7_set 116 = .ok (.getfield 28, 3) := by decide +kernel
theorem dX7_set_119 : decode cX7_set 119 = .ok (.iload_n 2, 1) := by decide +kernel
theorem dX7_set_120 : decode cX7_set 120 = .ok (.iload_n 3, 1) := by decide +kernel
theorem dX7_set_121 : decode cX7_set 121 = .ok (.iastore, 1) := by decide +kernel
theorem dX7_set_122 : decode cX7_set 122 = .ok (.iload 4, 2) := by decide +kernel
theorem dX7_set_124 : decode cX7_set 124 = .ok (.ireturn, 1) := by decide +kernel
theorem dX7_set_125 : decode cX7_set 125 = .ok (.iload_n 3, 1) := by decide +kernel
theorem dX7_set_126 : decode cX7_set 126 = .ok (.iconst 1, 1) := by decide +kernel
theorem dX7_set_127 : decode cX7_set 127 = .ok (.sipush 1000, 3) := by decide +kernel
theorem dX7_set_130 : decode cX7_set 130 = .ok (.invokestatic 74, 3) := by decide +kernel
theorem dX7_set_133 : decode cX7_set 133 = .ok (.ifCond .ne 5, 3) := by decide +kernel
theorem dX7_set_136 : decode cX7_set 136 = .ok (.iconst (-1), 1) := by decide +kernel
theorem dX7_set_137 : decode cX7_set 137 = .ok (.ireturn, 1) := by decide +kernel
theorem dX7_set_138 : decode cX7_set 138 = .ok (.aload_n 0, 1) := by decide +kernel
theorem dX7_set_139 : decode cX7_set 139 = .ok (.getfield 31, 3) := by decide +kernel
theorem dX7_set_142 : decode cX7_set 142 = .ok (.iload_n 2, 1) := by decide +kernel
theorem dX7_set_143 : decode cX7_set 143 = .ok (.iaload, 1) := by decide +kernel
theorem dX7_set_144 : decode cX7_set 144 = .ok (.istore 4, 2) := by decide +kernel
theorem dX7_set_146 : decode cX7_set 146 = .ok (.aload_n 0, 1) := by decide +kernel
theorem dX7_set_147 : decode cX7_set 147 = .ok (.getfield 31, 3) := by decide +kernel
theorem dX7_set_150 : decode cX7_set 150 = .ok (.iload_n 2, 1) := by decide +kernel
theorem dX7_set_151 : decode cX7_set 151 = .ok (.iload_n 3, 1) := by decide +kernel
theorem dX7_set_152 : decode cX7_set 152 = .ok (.iastore, 1) := by decide +kernel
theorem dX7_set_153 : decode cX7_set 153 = .ok (.iload 4, 2) := by decide +kernel
theorem dX7_set_155 : decode cX7_set 155 = .ok (.ireturn, 1) := by decide +kernel
theorem dX7_set_156 : decode cX7_set 156 = .ok (.iload_n 3, 1) := by decide +kernel
theorem dX7_set_157 : decode cX7_set 157 = .ok (.iconst 0, 1) := by decide +kernel
theorem dX7_set_158 : decode cX7_set 158 = .ok (.sipush 500, 3) := by decide +kernel
theorem dX7_set_161 : decode cX7_set 161 = .ok (.invokestatic 74, 3) := by decide +kernel
theorem dX7_set_164 : decode cX7_set 164 = .ok (.ifCond .ne 5, 3) := by decide +kernel
theorem dX7_set_167 : decode cX7_set 167 = .ok (.iconst (-1), 1) := by decide +kernel
theorem dX7_set_168 : decode cX7_set 168 = .ok (.ireturn, 1) := by decide +kernel
theorem dX7_set_169 : decode cX7_set 169 = .ok (.aload_n 0, 1) := by decide +kernel
theorem dX7_set_170 : decode cX7_set 170 = .ok (.getfield 34, 3) := by decide +kernel
theorem dX7_set_173 : decode cX7_set 173 = .ok (.istore 4, 2) := by decide +kernel
theorem dX7_set_175 : decode cX7_set 175 = .ok (.aload_n 0, 1) := by decide +kernel
theorem dX7_set_176 : decode cX7_set 176 = .ok (.iload_n 3, 1) := by decide +kernel
theorem dX7_set_177 : decode cX7_set 177 = .ok (.putfield 34, 3) := by decide +kernel
theorem dX7_set_180 : decode cX7_set 180 = .ok (.iload 4, 2) := by decide +kernel
theorem dX7_set_182 : decode cX7_set 182 = .ok (.ireturn, 1) := by decide +kernel
theorem dX7_set_183 : decode cX7_set 183 = .ok (.iload_n 3, 1) := by decide +kernel
theorem dX7_set_184 : decode cX7_set 184 = .ok (.iconst 0, 1) := by decide +kernel
theorem dX7_set_185 : decode cX7_set 185 = .ok (.iconst 1, 1) := by decide +kernel
theorem dX7_set_186 : decode cX7_set 186 = .ok (.invokestatic 74, 3) := by decide +kernel
theorem dX7_set_189 : decode cX7_set 189 = .ok (.ifCond .ne 5, 3) := by decide +kernel
theorem dX7_set_192 : decode cX7_set 192 = .ok (.iconst (-1), 1) := by decide +kernel
theorem dX7_set_193 : decode cX7_set 193 = .ok (.ireturn, 1) := by decide +kernel
theorem dX7_set_194 : decode cX7_set 194 = .ok (.aload_n 0, 1) := by decide +kernel
theorem dX7_set_195 : decode cX7_set 195 = .ok (.getfield 38, 3) := by decide +kernel
theorem dX7_set_198 : decode cX7_set 198 = .ok (.istore 4, 2) := by decide +kernel
theorem dX7_set_200 : decode cX7_set 200 = .ok (.aload_n 0, 1) := by decide +kernel
theorem dX7_set_201 : decode cX7_set 201 = .ok (.iload_n 3, 1) := by decide +kernel
theorem dX7_set_202 : decode cX7_set 202 = .ok (.putfield 38, 3) := by decide +kernel
theorem dX7_set_205 : decode cX7_set 205 = .ok (.iload 4, 2) := by decide +kernel
theorem dX7_set_207 : decode cX7_set 207 = .ok (.ireturn, 1) := by decide +kernel
theorem dX7_set_208 : decode cX7_set 208 = .ok (.iload_n 3, 1) := by decide +kernel
theorem dX7_set_209 : decode cX7_set 209 = .ok (.iconst 0, 1) := by decide +kernel
theorem dX7_set_210 : decode cX7_set 210 = .ok (.bipush 50, 2) := by decide +kernel
theorem dX7_set_212 : decode cX7_set 212 = .ok (.invokestatic 74, 3) := by decide +kernel
theorem dX7_set_215 : decode cX7_set 215 = .ok (.ifCond .ne 5, 3) := by decide +kernel
theorem dX7_set_218 : decode cX7_set 218 = .ok (.iconst (-1), 1) := by decide +kernel
theorem dX7_set_219 : decode cX7_set 219 = .ok (.ireturn, 1) := by decide +kernel
theorem dX7_set_220 : decode cX7_set 220 = .ok (.aload_n 0, 1) := by decide +kernel
theorem dX7_set_221 : decode cX7_set 221 = .ok (.getfield 41, 3) := by decide +kernel
theorem dX7_set_224 : decode cX7_set 224 = .ok (.istore 4, 2) := by decide +kernel
theorem dX7_set_226 : decode cX7_set 226 = .ok (.aload_n 0, 1) := by decide +kernel
theorem dX7_set_227 : decode cX7_set 227 = .ok (.iload_n 3, 1) := by decide +kernel
theorem dX7_set_228 : decode cX7_set 228 = .ok (.putfield 41, 3) := by decide +kernel
theorem dX7_set_231 : decode cX7_set 231 = .ok (.iload 4, 2) := by decide +kernel
theorem dX7_set_233 : decode cX7_set 233 = .ok (.ireturn, 1) := by decide +kernel
theorem dX7_rate_0 : decode cX7_rate 0 = .ok (.aload_n 0, 1) := by decide +kernel
theorem dX7_rate_1 : decode cX7_rate 1 = .ok (.iconst 0, 1) := by decide +kernel
theorem dX7_rate_2 : decode cX7_rate 2 = .ok (.putfield 68, 3) := by decide +kernel
theorem dX7_rate_5 : decode cX7_rate 5 = .ok (.iload_n 1, 1) := by decide +kernel
theorem dX7_rate_6 : decode cX7_rate 6 = .ok (.iconst 0, 1) := by decide +kernel
theorem dX7_rate_7 : decode cX7_rate 7 = .ok (.iconst 4, 1) := by decide +kernel
theorem dX7_rate_8 : decode cX7_rate 8 = .ok (.invokestatic 74, 3) := by decide +kernel
theorem dX7_rate_11 : decode cX7_rate 11 = .ok (.ifCond .eq 11, 3) := by decide +kernel
theorem dX7_rate_14 : decode cX7_rate 14 = .ok (.aload_n 0, 1) := by decide +kernel
theorem dX7_rate_15 : decode cX7_rate 15 = .ok (.iload_n 1, 1) := by decide +kernel
theorem dX7_rate_16 : decode cX7_rate 16 = .ok (.invokevirtual 113, 3) := by decide +kernel
theorem dX7_rate_19 : decode cX7_rate 19 = .ok (.goto 4, 3) := by decide +kernel
theorem dX7_rate_22 : decode cX7_rate 22 = .ok (.iconst (-1), 1) := by decide +kernel
theorem dX7_rate_23 : decode cX7_rate 23 = .ok (.ireturn, 1) := by decide +kernel
theorem dX7_rich_0 : decode cX7_rich 0 = .ok (.aload_n 0, 1) := by decide +kernel
theorem dX7_rich_1 : decode cX7_rich 1 = .ok (.iconst 0, 1) := by decide +kernel
theorem dX7_rich_2 : decode cX7_rich 2 = .ok (.putfield 68, 3) := by decide +kernel
theorem dX7_rich_5 : decode cX7_rich 5 = .ok (.iload_n 1, 1) := by decide +kernel
theorem dX7_rich_6 : decode cX7_rich 6 = .ok (.iconst 0, 1) := by decide +kernel
theorem dX7_rich_7 : decode cX7_rich 7 = .ok (.bipush 9, 2) := by decide +kernel
theorem dX7_rich_9 : decode cX7_rich 9 = .ok (.invokestatic 74, 3) := by decide +kernel
theorem dX7_rich_12 : decode cX7_rich 12 = .ok (.ifCond .ne 5, 3) := by decide +kernel
theorem dX7_rich_15 : decode cX7_rich 15 = .ok (.iconst (-1), 1) := by decide +kernel
theorem dX7_rich_16 : decode cX7_rich 16 = .ok (.ireturn, 1) := by decide +kernel
theorem dX7_rich_17 : decode cX7_rich 17 = .ok (.iconst 0, 1) := by decide +kernel
theorem dX7_rich_18 : decode cX7_rich 18 = .ok (.istore_n 2, 1) := by decide +kernel
theorem dX7_rich_19 : decode cX7_rich 19 = .ok (.iconst 0, 1) := by decide +kernel
theorem dX7_rich_20 : decode cX7_rich 20 = .ok (.istore_n 3, 1) := by decide +kernel
theorem dX7_rich_21 : decode cX7_rich 21 = .ok (.iload_n 3, 1) := by decide +kernel
theorem dX7_rich_22 : decode cX7_rich 22 = .ok (.aload_n 0, 1) := by decide +kernel
theorem dX7_rich_23 : decode cX7_rich 23 = .ok (.getfield 71, 3) := by decide +kernel
theorem dX7_rich_26 : decode cX7_rich 26 = .ok (.if_icmp .ge 27, 3) := by decide +kernel
theorem dX7_rich_29 : decode cX7_rich 29 = .ok (.aload_n 0, 1) := by decide +kernel
theorem dX7_rich_30 : decode cX7_rich 30 = .ok (.getfield 19, 3) := by decide +kernel
theorem dX7_rich_33 : decode cX7_rich 33 = .ok (.iload_n 3, 1) := by decide +kernel
theorem dX7_rich_34 : decode cX7_rich 34 = .ok (.iaload, 1) := by decide +kernel
theorem dX7_rich_35 : decode cX7_rich 35 = .ok (.iload_n 1, 1) := by decide +kernel
theorem dX7_rich_36 : decode cX7_rich 36 = .ok (.if_icmp .ne 11, 3) := by decide +kernel
theorem dX7_rich_39 : decode cX7_rich 39 = .ok (.iload_n 2, 1) := by decide +kernel
theorem dX7_rich_40 : decode cX7_rich 40 = .ok (.aload_n 0, 1) := by decide +kernel
theorem dX7_rich_41 : decode cX7_rich 41 = .ok (.iload_n 3, 1) := by decide +kernel
theorem dX7_rich_42 : decode cX7_rich 42 = .ok (.invokevirtual 129, 3) := by decide +kernel
theorem dX7_rich_45 : decode cX7_rich 45 = .ok (.iadd, 1) := by decide +kernel
theorem dX7_rich_46 : decode cX7_rich 46 = .ok (.istore_n 2, 1) := by decide +kernel
theorem dX7_rich_47 : decode cX7_rich 47 = .ok (.iinc 3 1, 3) := by decide +kernel
theorem dX7_rich_50 : decode cX7_rich 50 = .ok (.goto (-29), 3) := by decide +kernel
theorem dX7_rich_53 : decode cX7_rich 53 = .ok (.iload_n 2, 1) := by decide +kernel
theorem dX7_rich_54 : decode cX7_rich 54 = .ok (.ireturn, 1) := by decide +kernel
theorem dX7_drawn_0 : decode cX7_drawn 0 = .ok (.aload_n 0, 1) := by decide +kernel
theorem dX7_drawn_1 : decode cX7_drawn 1 = .ok (.iconst 0, 1) := by decide +kernel
theorem dX7_drawn_2 : decode cX7_drawn 2 = .ok (.putfield 68, 3) := by decide +kernel
theorem dX7_drawn_5 : decode cX7_drawn 5 = .ok (.aload_n 0, 1) := by decide +kernel
theorem dX7_drawn_6 : decode cX7_drawn 6 = .ok (.iload_n 1, 1) := by decide +kernel
theorem dX7_drawn_7 : decode cX7_drawn 7 = .ok (.invokevirtual 95, 3) := by decide +kernel
theorem dX7_drawn_10 : decode cX7_drawn 10 = .ok (.ifCond .eq 34, 3) := by decide +kernel
theorem dX7_drawn_13 : decode cX7_drawn 13 = .ok (.iload_n 2, 1) := by decide +kernel
theorem dX7_drawn_14 : decode cX7_drawn 14 = .ok (.ifCond .lt 30, 3) := by decide +kernel
theorem dX7_drawn_17 : decode cX7_drawn 17 = .ok (.iload_n 3, 1) := by decide +kernel
theorem dX7_drawn_18 : decode cX7_drawn 18 = .ok (.iconst 1, 1) := by decide +kernel
theorem dX7_drawn_19 : decode cX7_drawn 19 = .ok (.if_icmp .lt 25, 3) := by decide +kernel
theorem dX7_drawn_22 : decode cX7_drawn 22 = .ok (.iload_n 3, 1) := by decide +kernel
theorem dX7_drawn_23 : decode cX7_drawn 23 = .ok (.aload_n 0, 1) := by decide +kernel
theorem dX7_drawn_24 : decode cX7_drawn 24 = .ok (.getfield 16, 3) := by decide +kernel
theorem dX7_drawn_27 : decode cX7_drawn 27 = .ok (.iload_n 1, 1) := by decide +kernel
theorem dX7_drawn_28 : decode cX7_drawn 28 = .ok (.iaload, 1) := by decide +kernel
theorem dX7_drawn_29 : decode cX7_drawn 29 = .ok (.if_icmp .gt 15, 3) := by decide +kernel
theorem dX7_drawn_32 : decode cX7_drawn 32 = .ok (.iload_n 2, 1) := by decide +kernel
theorem dX7_drawn_33 : decode cX7_drawn 33 = .ok (.aload_n 0, 1) := by decide +kernel
theorem dX7_drawn_34 : decode cX7_drawn 34 = .ok (.getfield 16, 3) := by decide +kernel
theorem dX7_drawn_37 : decode cX7_drawn 37 = .ok (.iload_n 1, 1) := by decide +kernel
theorem dX7_drawn_38 : decode cX7_drawn 38 = .ok (.iaload, 1) := by decide +kernel
theorem dX7_drawn_39 : decode cX7_drawn 39 = .ok (.iload_n 3, 1) := by decide +kernel
theorem dX7_drawn_40 : decode cX7_drawn 40 = .ok (.isub, 1) := by decide +kernel
theorem dX7_drawn_41 : decode cX7_drawn 41 = .ok (.if_icmp .le 5, 3) := by decide +kernel
theorem dX7_drawn_44 : decode cX7_drawn 44 = .ok (.iconst (-1), 1) := by decide +kernel
theorem dX7_drawn_45 : decode cX7_drawn 45 = .ok (.ireturn, 1) := by decide +kernel
theorem dX7_drawn_46 : decode cX7_drawn 46 = .ok (.aload_n 0, 1) := by decide +kernel
theorem dX7_drawn_47 : decode cX7_drawn 47 = .ok (.iload_n 1, 1) := by decide +kernel
theorem dX7_drawn_48 : decode cX7_drawn 48 = .ok (.iload_n 2, 1) := by decide +kernel
theorem dX7_drawn_49 : decode cX7_drawn 49 = .ok (.iload_n 2, 1) := by decide +kernel
theorem dX7_drawn_50 : decode cX7_drawn 50 = .ok (.iload_n 3, 1) := by decide +kernel
theorem dX7_drawn_51 : decode cX7_drawn 51 = .ok (.iadd, 1) := by decide +kernel
theorem dX7_drawn_52 : decode cX7_drawn 52 = .ok (.invokevirtual 116, 3) := by decide +kernel
theorem dX7_drawn_55 : decode cX7_drawn 55 = .ok (.ireturn, 1) := by decide +kernel
theorem dX7_cheat_0 : decode cX7_cheat 0 = .ok (.aload_n 0, 1) := by decide +kernel
theorem dX7_cheat_1 : decode cX7_cheat 1 = .ok (.iconst 0, 1) := by decide +kernel
theorem dX7_cheat_2 : decode cX7_cheat 2 = .ok (.putfield 68, 3) := by decide +kernel
theorem dX7_cheat_5 : decode cX7_cheat 5 = .ok (.aload_n 0, 1) := by decide +kernel
theorem dX7_cheat_6 : decode cX7_cheat 6 = .ok (.iload_n 1, 1) := by decide +kernel
theorem dX7_cheat_7 : decode cX7_cheat 7 = .ok (.invokevirtual 95, 3) := by decide +kernel
theorem dX7_cheat_10 : decode cX7_cheat 10 = .ok (.ifCond .ne 5, 3) := by decide +kernel
theorem dX7_cheat_13 : decode cX7_cheat 13 = .ok (.iconst (-1), 1) := by decide +kernel
theorem dX7_cheat_14 : decode cX7_cheat 14 = .ok (.ireturn, 1) := by decide +kernel
theorem dX7_cheat_15 : decode cX7_cheat 15 = .ok (.iconst 0, 1) := by decide +kernel
theorem dX7_cheat_16 : decode cX7_cheat 16 = .ok (.istore_n 3, 1) := by decide +kernel
theorem dX7_cheat_17 : decode cX7_cheat 17 = .ok (.iload_n 3, 1) := by decide +kernel
theorem dX7_cheat_18 : decode cX7_cheat 18 = .ok (.aload_n 0, 1) := by decide +kernel
theorem dX7_cheat_19 : decode cX7_cheat 19 = .ok (.getfield 16, 3) := by decide +kernel
theorem dX7_cheat_22 : decode cX7_cheat 22 = .ok (.iload_n 1, 1) := by decide +kernel
theorem dX7_cheat_23 : decode cX7_cheat 23 = .ok (.iaload, 1) := by decide +kernel
theorem dX7_cheat_24 : decode cX7_cheat 24 = .ok (.if_icmp .ge 26, 3) := by decide +kernel
theorem dX7_cheat_27 : decode cX7_cheat 27 = .ok (.aload_n 0, 1) := by decide +kernel
theorem dX7_cheat_28 : decode cX7_cheat 28 = .ok (.getfield 9, 3) := by decide +kernel
theorem dX7_cheat_31 : decode cX7_cheat 31 = .ok (.bipush 80, 2) := by decide +kernel
theorem dX7_cheat_33 : decode cX7_cheat 33 = .ok (.iload_n 1, 1) := by decide +kernel
theorem dX7_cheat_34 : decode cX7_cheat 34 = .ok (.imul, 1) := by decide +kernel
theorem dX7_cheat_35 : decode cX7_cheat 35 = .ok (.iload_n 3, 1) := by decide +kernel
theorem dX7_cheat_36 : decode cX7_cheat 36 = .ok (.iadd, 1) := by decide +kernel
theorem dX7_cheat_37 : decode cX7_cheat 37 = .ok (.iaload, 1) := by decide +kernel
theorem dX7_cheat_38 : decode cX7_cheat 38 = .ok (.iload_n 2, 1) := by decide +kernel
theorem dX7_cheat_39 : decode cX7_cheat 39 = .ok (.if_icmp .ge 5, 3) := by decide +kernel
theorem dX7_cheat_42 : decode cX7_cheat 42 = .ok (.iload_n 3, 1) := by decide +kernel
theorem dX7_cheat_43 : decode cX7_cheat 43 = .ok (.ireturn, 1) := by decide +kernel
theorem dX7_cheat_44 : decode cX7_cheat 44 = .ok (.iinc 3 1, 3) := by decide +kernel
theorem dX7_cheat_47 : decode cX7_cheat 47 = .ok (.goto (-30), 3) := by decide +kernel
theorem dX7_cheat_50 : decode cX7_cheat 50 = .ok (.iconst (-1), 1) := by decide +kernel
theorem dX7_cheat_51 : decode cX7_cheat 51 = .ok (.ireturn, 1) := by decide +kernel
theorem dX7_blame_0 : decode cX7_blame 0 = .ok (.aload_n 0, 1) := by decide +kernel
theorem dX7_blame_1 : decode cX7_blame 1 = .ok (.iconst 0, 1) := by decide +kernel
theorem dX7_blame_2 : decode cX7_blame 2 = .ok (.putfield 68, 3) := by decide +kernel
theorem dX7_blame_5 : decode cX7_blame 5 = .ok (.iload_n 1, 1) := by decide +kernel
theorem dX7_blame_6 : decode cX7_blame 6 = .ok (.iconst 0, 1) := by decide +kernel
theorem dX7_blame_7 : decode cX7_blame 7 = .ok (.iconst 4, 1) := by decide +kernel
theorem dX7_blame_8 : decode cX7_blame 8 = .ok (.invokestatic 74, 3) := by decide +kernel
theorem dX7_blame_11 : decode cX7_blame 11 = .ok (.ifCond .ne 5, 3) := by decide +kernel
theorem dX7_blame_14 : decode cX7_blame 14 = .ok (.iconst (-1), 1) := by decide +kernel
theorem dX7_blame_15 : decode cX7_blame 15 = .ok (.ireturn, 1) := by decide +kernel
theorem dX7_blame_16 : decode cX7_blame 16 = .ok (.iconst (-1), 1) := by decide +kernel
theorem dX7_blame_17 : decode cX7_blame 17 = .ok (.istore_n 2, 1) := by decide +kernel
theorem dX7_blame_18 : decode cX7_blame 18 = .ok (.iconst 0, 1) := by decide +kernel
theorem dX7_blame_19 : decode cX7_blame 19 = .ok (.istore_n 3, 1) := by decide +kernel
theorem dX7_blame_20 : decode cX7_blame 20 = .ok (.iconst 0, 1) := by decide +kernel
theorem dX7_blame_21 : decode cX7_blame 21 = .ok (.istore 4, 2) := by decide +kernel
theorem dX7_blame_23 : decode cX7_blame 23 = .ok (.iload 4, 2) := by decide +kernel
theorem dX7_blame_25 : decode cX7_blame 25 = .ok (.bipush 10, 2) := by decide +kernel
theorem dX7_blame_27 : decode cX7_blame 27 = .ok (.if_icmp .ge 104, 3) := by decide +kernel
theorem dX7_blame_30 : decode cX7_blame 30 = .ok (.iconst 0, 1) := by decide +kernel
theorem dX7_blame_31 : decode cX7_blame 31 = .ok (.istore 5, 2) := by decide +kernel
theorem dX7_blame_33 : decode cX7_blame 33 = .ok (.iconst 0, 1) := by decide +kernel
theorem dX7_blame_34 : decode cX7_blame 34 = .ok (.istore 6, 2) := by decide +kernel
theorem dX7_blame_36 : decode cX7_blame 36 = .ok (.iload 6, 2) := by decide +kernel
theorem dX7_blame_38 : decode cX7_blame 38 = .ok (.aload_n 0, 1) := by decide +kernel
theorem dX7_blame_39 : decode cX7_blame 39 = .ok (.getfield 71, 3) := by decide +kernel
theorem dX7_blame_42 : decode cX7_blame 42 = .ok (.if_icmp .ge 68, 3) := by decide +kernel
theorem dX7_blame_45 : decode cX7_blame 45 = .ok (.iconst 0, 1) := by decide +kernel
theorem dX7_blame_46 : decode cX7_blame 46 = .ok (.istore 7, 2) := by decide +kernel
theorem dX7_blame_48 : decode cX7_blame 48 = .ok (.iload 7, 2) := by decide +kernel
theorem dX7_blame_50 : decode cX7_blame 50 = .ok (.aload_n 0, 1) := by decide +kernel
theorem dX7_blame_51 : decode cX7_blame 51 = .ok (.getfield 16, 3) := by decide +kernel
theorem dX7_blame_54 : decode cX7_blame 54 = .ok (.iload 6, 2) := by decide +kernel
theorem dX7_blame_56 : decode cX7_blame 56 = .ok (.iaload, 1) := by decide +kernel
theorem dX7_blame_57 : decode cX7_blame 57 = .ok (.if_icmp .ge 47, 3) := by decide +kernel
theorem dX7_blame_60 : decode cX7_blame 60 = .ok (.aload_n 0, 1) := by decide +kernel
theorem dX7_blame_61 : decode cX7_blame 61 = .ok (.getfield 13, 3) := by decide +kernel
theorem dX7_blame_64 : decode cX7_blame 64 = .ok (.bipush 80, 2) := by decide +kernel
theorem dX7_blame_66 : decode cX7_blame 66 = .ok (.iload 6, 2) := by decide +kernel
theorem dX7_blame_68 : decode cX7_blame 68 = .ok (.imul, 1) := by decide +kernel
theorem dX7_blame_69 : decode cX7_blame 69 = .ok (.iload 7, 2) := by decide +kernel
theorem dX7_blame_71 : decode cX7_blame 71 = .ok (.iadd, 1) := by decide +kernel
theorem dX7_blame_72 : decode cX7_blame 72 = .ok (.iaload, 1) := by decide +kernel
theorem dX7_blame_73 : decode cX7_blame 73 = .ok (.iload 4, 2) := by decide +kernel
theorem dX7_blame_75 : decode cX7_blame 75 = .ok (.if_icmp .ne 23, 3) := by decide +kernel
theorem dX7_blame_78 : decode cX7_blame 78 = .ok (.aload_n 0, 1) := by decide +kernel
theorem dX7_blame_79 : decode cX7_blame 79 = .ok (.getfield 9, 3) := by decide +kernel
theorem dX7_blame_82 : decode cX7_blame 82 = .ok (.bipush 80, 2) := by decide +kernel
theorem dX7_blame_84 : decode cX7_blame 84 = .ok (.iload 6, 2) := by decide +kernel
theorem dX7_blame_86 : decode cX7_blame 86 = .ok (.imul, 1) := by decide +kernel
theorem dX7_blame_87 : decode cX7_blame 87 = .ok (.iload 7, 2) := by decide +kernel
theorem dX7_blame_89 : decode cX7_blame 89 = .ok (.iadd, 1) := by decide +kernel
theorem dX7_blame_90 : decode cX7_blame 90 = .ok (.iaload, 1) := by decide +kernel
theorem dX7_blame_91 : decode cX7_blame 91 = .ok (.iload_n 1, 1) := by decide +kernel
theorem dX7_blame_92 : decode cX7_blame 92 = .ok (.if_icmp .ge 6, 3) := by decide +kernel
theorem dX7_blame_95 : decode cX7_blame 95 = .ok (.iinc 5 1, 3) := by decide +kernel
theorem dX7_blame_98 : decode cX7_blame 98 = .ok (.iinc 7 1, 3) := by decide +kernel
theorem dX7_blame_101 : decode cX7_blame 101 = .ok (.goto (-53), 3) := by decide +kernel
theorem dX7_blame_104 : decode cX7_blame 104 = .ok (.iinc 6 1, 3) := by decide +kernel
theorem dX7_blame_107 : decode cX7_blame 107 = .ok (.goto (-71), 3) := by decide +kernel
theorem dX7_blame_110 : decode cX7_blame 110 = .ok (.iload 5, 2) := by decide +kernel
theorem dX7_blame_112 : decode cX7_blame 112 = .ok (.iload_n 3, 1) := by decide +kernel
theorem dX7_blame_113 : decode cX7_blame 113 = .ok (.if_icmp .gt 6, 3) := by decide +kernel
theorem dX7_blame_116 : decode cX7_blame 116 = .ok (.goto 9, 3) := by decide +kernel
theorem dX7_blame_119 : decode cX7_blame 119 = .ok (.iload 5, 2) := by decide +kernel
theorem dX7_blame_121 : decode cX7_blame 121 = .ok (.istore_n 3, 1) := by decide +kernel
theorem dX7_blame_122 : decode cX7_blame 122 = .ok (.iload 4, 2) := by decide +kernel
theorem dX7_blame_124 : decode cX7_blame 124 = .ok (.istore_n 2, 1) := by decide +kernel
theorem dX7_blame_125 : decode cX7_blame 125 = .ok (.iinc 4 1, 3) := by decide +kernel
theorem dX7_blame_128 : decode cX7_blame 128 = .ok (.goto (-105), 3) := by decide +kernel
theorem dX7_blame_131 : decode cX7_blame 131 = .ok (.iload_n 2, 1) := by decide +kernel
theorem dX7_blame_132 : decode cX7_blame 132 = .ok (.ireturn, 1) := by decide +kernel
theorem dX7_gather_0 : decode cX7_gather 0 = .ok (.aload_n 0, 1) := by decide +kernel
theorem dX7_gather_1 : decode cX7_gather 1 = .ok (.iconst 0, 1) := by decide +kernel
theorem dX7_gather_2 : decode cX7_gather 2 = .ok (.putfield 135, 3) := by decide +kernel
theorem dX7_gather_5 : decode cX7_gather 5 = .ok (.iconst 0, 1) := by decide +kernel
theorem dX7_gather_6 : decode cX7_gather 6 = .ok (.istore_n 2, 1) := by decide +kernel
theorem dX7_gather_7 : decode cX7_gather 7 = .ok (.iload_n 2, 1) := by decide +kernel
theorem dX7_gather_8 : decode cX7_gather 8 = .ok (.aload_n 0, 1) := by decide +kernel
theorem dX7_gather_9 : decode cX7_gather 9 = .ok (.getfield 71, 3) := by decide +kernel
theorem dX7_gather_12 : decode cX7_gather 12 = .ok (.if_icmp .ge 76, 3) := by decide +kernel
theorem dX7_gather_15 : decode cX7_gather 15 = .ok (.aload_n 0, 1) := by decide +kernel
theorem dX7_gather_16 : decode cX7_gather 16 = .ok (.getfield 16, 3) := by decide +kernel
theorem dX7_gather_19 : decode cX7_gather 19 = .ok (.iload_n 2, 1) := by decide +kernel
theorem dX7_gather_20 : decode cX7_gather 20 = .ok (.iaload, 1) := by decide +kernel
theorem dX7_gather_21 : decode cX7_gather 21 = .ok (.ifCond .eq 61, 3) := by decide +kernel
theorem dX7_gather_24 : decode cX7_gather 24 = .ok (.aload_n 0, 1) := by decide +kernel
theorem dX7_gather_25 : decode cX7_gather 25 = .ok (.getfield 19, 3) := by decide +kernel
theorem dX7_gather_28 : decode cX7_gather 28 = .ok (.iload_n 2, 1) := by decide +kernel
theorem dX7_gather_29 : decode cX7_gather 29 = .ok (.iaload, 1) := by decide +kernel
theorem dX7_gather_30 : decode cX7_gather 30 = .ok (.iload_n 1, 1) := by decide +kernel
theorem dX7_gather_31 : decode cX7_gather 31 = .ok (.if_icmp .eq 6, 3) := by decide +kernel
theorem dX7_gather_34 : decode cX7_gather 34 = .ok (.goto 48, 3) := by decide +kernel
theorem dX7_gather_37 : decode cX7_gather 37 = .ok (.aload_n 0, 1) := by decide +kernel
theorem dX7_gather_38 : decode cX7_gather 38 = .ok (.getfield 135, 3) := by decide +kernel
theorem dX7_gather_41 : decode cX7_gather 41 = .ok (.bipush 12, 2) := by decide +kernel
theorem dX7_gather_43 : decode cX7_gather 43 = .ok (.if_icmp .ne 5, 3) := by decide +kernel
theorem dX7_gather_46 : decode cX7_gather 46 = .ok (.iconst 0, 1) := by decide +kernel
theorem dX7_gather_47 : decode cX7_gather 47 = .ok (.ireturn, 1) := by decide +kernel
theorem dX7_gather_48 : decode cX7_gather 48 = .ok (.aload_n 0, 1) := by decide +kernel
theorem dX7_gather_49 : decode cX7_gather 49 = .ok (.getfield 53, 3) := by decide +kernel
theorem dX7_gather_52 : decode cX7_gather 52 = .ok (.aload_n 0, 1) := by decide +kernel
theorem dX7_gather_53 : decode cX7_gather 53 = .ok (.getfield 135, 3) := by decide +kernel
theorem dX7_gather_56 : decode cX7_gather 56 = .ok (.iload_n 2, 1) := by decide +kernel
theorem dX7_gather_57 : decode cX7_gather 57 = .ok (.iastore, 1) := by decide +kernel
theorem dX7_gather_58 : decode cX7_gather 58 = .ok (.aload_n 0, 1) := by decide +kernel
theorem dX7_gather_59 : decode cX7_gather 59 = .ok (.getfield 56, 3) := by decide +kernel
theorem dX7_gather_62 : decode cX7_gather 62 = .ok (.aload_n 0, 1) := by decide +kernel
theorem dX7_gather_63 : decode cX7_gather 63 = .ok (.getfield 135, 3) := by decide +kernel
theorem dX7_gather_66 : decode cX7_gather 66 = .ok (.aload_n 0, 1) := by decide +kernel
theorem dX7_gather_67 : decode cX7_gather 67 = .ok (.iload_n 2, 1) := by decide +kernel
theorem dX7_gather_68 : decode cX7_gather 68 = .ok (.invokevirtual 129, 3) := by decide +kernel
theorem dX7_gather_71 : decode cX7_gather 71 = .ok (.iastore, 1) := by decide +kernel
theorem dX7_gather_72 : decode cX7_gather 72 = .ok (.aload_n 0, 1) := by decide +kernel
theorem dX7_gather_73 : decode cX7_gather 73 = .ok (.dup, 1) := by decide +kernel
theorem dX7_gather_74 : decode cX7_gather 74 = .ok (.getfield 135, 3) := by decide +kernel
theorem dX7_gather_77 : decode cX7_gather 77 = .ok (.iconst 1, 1) := by decide +kernel
theorem dX7_gather_78 : decode cX7_gather 78 = .ok (.iadd, 1) := by decide +kernel
theorem dX7_gather_79 : decode cX7_gather 79 = .ok (.putfield 135, 3) := by decide +kernel
theorem dX7_gather_82 : decode cX7_gather 82 = .ok (.iinc 2 1, 3) := by decide +kernel
theorem dX7_gather_85 : decode cX7_gather 85 = .ok (.goto (-78), 3) := by decide +kernel
theorem dX7_gather_88 : decode cX7_gather 88 = .ok (.iconst 1, 1) := by decide +kernel
theorem dX7_gather_89 : decode cX7_gather 89 = .ok (.ireturn, 1) := by decide +kernel
theorem dX7_worthOf_0 : decode cX7_worthOf 0 = .ok (.iconst 0, 1) := by decide +kernel
theorem dX7_worthOf_1 : decode cX7_worthOf 1 = .ok (.istore_n 2, 1) := by decide +kernel
theorem dX7_worthOf_2 : decode cX7_worthOf 2 = .ok (.iconst 0, 1) := by decide +kernel
theorem dX7_worthOf_3 : decode cX7_worthOf 3 = .ok (.istore_n 3, 1) := by decide +kernel
theorem dX7_worthOf_4 : decode cX7_worthOf 4 = .ok (.iload_n 3, 1) := by decide +kernel
theorem dX7_worthOf_5 : decode cX7_worthOf 5 = .ok (.aload_n 0, 1) := by decide +kernel
theorem dX7_worthOf_6 : decode cX7_worthOf 6 = .ok (.getfield 135, 3) := by decide +kernel
theorem dX7_worthOf_9 : decode cX7_worthOf 9 = .ok (.if_icmp .ge 27, 3) := by decide +kernel
theorem dX7_worthOf_12 : decode cX7_worthOf 12 = .ok (.iload_n 1, 1) := by decide +kernel
theorem dX7_worthOf_13 : decode cX7_worthOf 13 = .ok (.iload_n 3, 1) := by decide +kernel
theorem dX7_worthOf_14 : decode cX7_worthOf 14 = .ok (.ishr, 1) := by decide +kernel
theorem dX7_worthOf_15 : decode cX7_worthOf 15 = .ok (.iconst 1, 1) := by decide +kernel
theorem dX7_worthOf_16 : decode cX7_worthOf 16 = .ok (.iand, 1) := by decide +kernel
theorem dX7_worthOf_17 : decode cX7_worthOf 17 = .ok (.iconst 1, 1) := by decide +kernel
theorem dX7_worthOf_18 : decode cX7_worthOf 18 = .ok (.if_icmp .ne 12, 3) := by decide +kernel
theorem dX7_worthOf_21 : decode cX7_worthOf 21 = .ok (.iload_n 2, 1) := by decide +kernel
theorem dX7_worthOf_22 : decode cX7_worthOf 22 = .ok (.aload_n 0, 1) := by decide +kernel
theorem dX7_worthOf_23 : decode cX7_worthOf 23 = .ok (.getfield 56, 3) := by decide +kernel
theorem dX7_worthOf_26 : decode cX7_worthOf 26 = .ok (.iload_n 3, 1) := by decide +kernel
theorem dX7_worthOf_27 : decode cX7_worthOf 27 = .ok (.iaload, 1) := by decide +kernel
theorem dX7_worthOf_28 : decode cX7_worthOf 28 = .ok (.iadd, 1) := by decide +kernel
theorem dX7_worthOf_29 : decode cX7_worthOf 29 = .ok (.istore_n 2, 1) := by decide +kernel
theorem dX7_worthOf_30 : decode cX7_worthOf 30 = .ok (.iinc 3 1, 3) := by decide +kernel
theorem dX7_worthOf_33 : decode cX7_worthOf 33 = .ok (.goto (-29), 3) := by decide +kernel
theorem dX7_worthOf_36 : decode cX7_worthOf 36 = .ok (.iload_n 2, 1) := by decide +kernel
theorem dX7_worthOf_37 : decode cX7_worthOf 37 = .ok (.ireturn, 1) := by decide +kernel
theorem dX7_serving_0 : decode cX7_serving 0 = .ok (.iconst 0, 1) := by decide +kernel
theorem dX7_serving_1 : decode cX7_serving 1 = .ok (.istore_n 2, 1) := by decide +kernel
theorem dX7_serving_2 : decode cX7_serving 2 = .ok (.iconst 0, 1) := by decide +kernel
theorem dX7_serving_3 : decode cX7_serving 3 = .ok (.istore_n 3, 1) := by decide +kernel
theorem dX7_serving_4 : decode cX7_serving 4 = .ok (.iconst 1, 1) := by decide +kernel
theorem dX7_serving_5 : decode cX7_serving 5 = .ok (.istore 4, 2) := by decide +kernel
theorem dX7_serving_7 : decode cX7_serving 7 = .ok (.iload 4, 2) := by decide +kernel
theorem dX7_serving_9 : decode cX7_serving 9 = .ok (.iconst 1, 1) := by decide +kernel
theorem dX7_serving_10 : decode cX7_serving 10 = .ok (.aload_n 0, 1) := by decide +kernel
theorem dX7_serving_11 : decode cX7_serving 11 = .ok (.getfield 135, 3) := by decide +kernel
theorem dX7_serving_14 : decode cX7_serving 14 = .ok (.ishl, 1) := by decide +kernel
theorem dX7_serving_15 : decode cX7_serving 15 = .ok (.if_icmp .ge 60, 3) := by decide +kernel
theorem dX7_serving_18 : decode cX7_serving 18 = .ok (.aload_n 0, 1) := by decide +kernel
theorem dX7_serving_19 : decode cX7_serving 19 = .ok (.iload 4, 2) := by decide +kernel
theorem dX7_serving_21 : decode cX7_serving 21 = .ok (.invokevirtual 138, 3) := by decide +kernel
theorem dX7_serving_24 : decode cX7_serving 24 = .ok (.istore 5, 2) := by decide +kernel
theorem dX7_serving_26 : decode cX7_serving 26 = .ok (.iload 5, 2) := by decide +kernel
theorem dX7_serving_28 : decode cX7_serving 28 = .ok (.iload_n 1, 1) := by decide +kernel
theorem dX7_serving_29 : decode cX7_serving 29 = .ok (.if_icmp .lt 40, 3) := by decide +kernel
theorem dX7_serving_32 : decode cX7_serving 32 = .ok (.iload_n 2, 1) := by decide +kernel
theorem dX7_serving_33 : decode cX7_serving 33 = .ok (.ifCond .eq 30, 3) := by decide +kernel
theorem dX7_serving_36 : decode cX7_serving 36 = .ok (.iload 5, 2) := by decide +kernel
theorem dX7_serving_38 : decode cX7_serving 38 = .ok (.iload_n 3, 1) := by decide +kernel
theorem dX7_serving_39 : decode cX7_serving 39 = .ok (.if_icmp .gt 30, 3) := by decide +kernel
theorem dX7_serving_42 : decode cX7_serving 42 = .ok (.iload 5, 2) := by decide +kernel
theorem dX7_serving_44 : decode cX7_serving 44 = .ok (.iload_n 3, 1) := by decide +kernel
theorem dX7_serving_45 : decode cX7_serving 45 = .ok (.if_icmp .ne 18, 3) := by decide +kernel
theorem dX7_serving_48 : decode cX7_serving 48 = .ok (.iload 4, 2) := by decide +kernel
theorem dX7_serving_50 : decode cX7_serving 50 = .ok (.invokestatic 124, 3) := by decide +kernel
theorem dX7_serving_53 : decode cX7_serving 53 = .ok (.iload_n 2, 1) := by decide +kernel
theorem dX7_serving_54 : decode cX7_serving 54 = .ok (.invokestatic 124, 3) := by decide +kernel
theorem dX7_serving_57 : decode cX7_serving 57 = .ok (.if_icmp .lt 6, 3) := by decide +kernel
theorem dX7_serving_60 : decode cX7_serving 60 = .ok (.goto 9, 3) := by decide +kernel
theorem dX7_serving_63 : decode cX7_serving 63 = .ok (.iload 4, 2) := by decide +kernel
theorem dX7_serving_65 : decode cX7_serving 65 = .ok (.istore_n 2, 1) := by decide +kernel
theorem dX7_serving_66 : decode cX7_serving 66 = .ok (.iload 5, 2) := by decide +kernel
theorem dX7_serving_68 : decode cX7_serving 68 = .ok (.istore_n 3, 1) := by decide +kernel
theorem dX7_serving_69 : decode cX7_serving 69 = .ok (.iinc 4 1, 3) := by decide +kernel
theorem dX7_serving_72 : decode cX7_serving 72 = .ok (.goto (-65), 3) := by decide +kernel
theorem dX7_serving_75 : decode cX7_serving 75 = .ok (.iload_n 2, 1) := by decide +kernel
theorem dX7_serving_76 : decode cX7_serving 76 = .ok (.ireturn, 1) := by decide +kernel
theorem dX7_serves_0 : decode cX7_serves 0 = .ok (.aload_n 0, 1) := by decide +kernel
theorem dX7_serves_1 : decode cX7_serves 1 = .ok (.iconst 0, 1) := by decide +kernel
theorem dX7_serves_2 : decode cX7_serves 2 = .ok (.putfield 68, 3) := by decide +kernel
theorem dX7_serves_5 : decode cX7_serves 5 = .ok (.iload_n 1, 1) := by decide +kernel
theorem dX7_serves_6 : decode cX7_serves 6 = .ok (.iconst 0, 1) := by decide +kernel
theorem dX7_serves_7 : decode cX7_serves 7 = .ok (.bipush 9, 2) := by decide +kernel
theorem dX7_serves_9 : decode cX7_serves 9 = .ok (.invokestatic 74, 3) := by decide +kernel
theorem dX7_serves_12 : decode cX7_serves 12 = .ok (.ifCond .eq 21, 3) := by decide +kernel
theorem dX7_serves_15 : decode cX7_serves 15 = .ok (.iload_n 2, 1) := by decide +kernel
theorem dX7_serves_16 : decode cX7_serves 16 = .ok (.iconst 1, 1) := by decide +kernel
theorem dX7_serves_17 : decode cX7_serves 17 = .ok (.ldc 141, 2) := by decide +kernel
theorem dX7_serves_19 : decode cX7_serves 19 = .ok (.invokestatic 74, 3) := by decide +kernel
theorem dX7_serves_22 : decode cX7_serves 22 = .ok (.ifCond .eq 11, 3) := by decide +kernel
theorem dX7_serves_25 : decode cX7_serves 25 = .ok (.aload_n 0, 1) := by decide +kernel
theorem dX7_serves_26 : decode cX7_serves 26 = .ok (.iload_n 1, 1) := by decide +kernel
theorem dX7_serves_27 : decode cX7_serves 27 = .ok (.invokevirtual 142, 3) := by decide +kernel
theorem dX7_serves_30 : decode cX7_serves 30 = .ok (.ifCond .ne 5, 3) := by decide +kernel
theorem dX7_serves_33 : decode cX7_serves 33 = .ok (.iconst (-1), 1) := by decide +kernel
theorem dX7_serves_34 : decode cX7_serves 34 = .ok (.ireturn, 1) := by decide +kernel
theorem dX7_serves_35 : decode cX7_serves 35 = .ok (.aload_n 0, 1) := by decide +kernel
theorem dX7_serves_36 : decode cX7_serves 36 = .ok (.iload_n 2, 1) := by decide +kernel
theorem dX7_serves_37 : decode cX7_serves 37 = .ok (.invokevirtual 145, 3) := by decide +kernel
theorem dX7_serves_40 : decode cX7_serves 40 = .ok (.istore_n 3, 1) := by decide +kernel
theorem dX7_serves_41 : decode cX7_serves 41 = .ok (.iload_n 3, 1) := by decide +kernel
theorem dX7_serves_42 : decode cX7_serves 42 = .ok (.ifCond .ne 8, 3) := by decide +kernel
theorem dX7_serves_45 : decode cX7_serves 45 = .ok (.bipush (-2), 2) := by decide +kernel
theorem dX7_serves_47 : decode cX7_serves 47 = .ok (.goto 8, 3) := by decide +kernel
theorem dX7_serves_50 : decode cX7_serves 50 = .ok (.aload_n 0, 1) := by decide +kernel
theorem dX7_serves_51 : decode cX7_serves 51 = .ok (.iload_n 3, 1) := by decide +kernel
theorem dX7_serves_52 : decode cX7_serves 52 = .ok (.invokevirtual 138, 3) := by decide +kernel
theorem dX7_serves_55 : decode cX7_serves 55 = .ok (.ireturn, 1) := by decide +kernel
theorem dX7_pay_0 : decode cX7_pay 0 = .ok (.aload_n 0, 1) := by decide +kernel
theorem dX7_pay_1 : decode cX7_pay 1 = .ok (.iconst 0, 1) := by decide +kernel
theorem dX7_pay_2 : decode cX7_pay 2 = .ok (.putfield 68, 3) := by decide +kernel
theorem dX7_pay_5 : decode cX7_pay 5 = .ok (.iload_n 1, 1) := by decide +kernel
theorem dX7_pay_6 : decode cX7_pay 6 = .ok (.iconst 0, 1) := by decide +kernel
theorem dX7_pay_7 : decode cX7_pay 7 = .ok (.bipush 9, 2) := by decide +kernel
theorem dX7_pay_9 : decode cX7_pay 9 = .ok (.invokestatic 74, 3) := by decide +kernel
theorem dX7_pay_12 : decode cX7_pay 12 = .ok (.ifCond .eq 36, 3) := by decide +kernel
theorem dX7_pay_15 : decode cX7_pay 15 = .ok (.iload_n 2, 1) := by decide +kernel
theorem dX7_pay_16 : decode cX7_pay 16 = .ok (.iconst 0, 1) := by decide +kernel
theorem dX7_pay_17 : decode cX7_pay 17 = .ok (.bipush 9, 2) := by decide +kernel
theorem dX7_pay_19 : decode cX7_pay 19 = .ok (.invokestatic 74, 3) := by decide +kernel
theorem dX7_pay_22 : decode cX7_pay 22 = .ok (.ifCond .eq 26, 3) := by decide +kernel
theorem dX7_pay_25 : decode cX7_pay 25 = .ok (.iload_n 1, 1) := by decide +kernel
theorem dX7_pay_26 : decode cX7_pay 26 = .ok (.iload_n 2, 1) := by decide +kernel
theorem dX7_pay_27 : decode cX7_pay 27 = .ok (.if_icmp .eq 21, 3) := by decide +kernel
theorem dX7_pay_30 : decode cX7_pay 30 = .ok (.iload_n 3, 1) := by decide +kernel
theorem dX7_pay_31 : decode cX7_pay 31 = .ok (.iconst 1, 1) := by decide +kernel
theorem dX7_pay_32 : decode cX7_pay 32 = .ok (.ldc 141, 2) := by decide +kernel
theorem dX7_pay_34 : decode cX7_pay 34 = .ok (.invokestatic 74, 3) := by decide +kernel
theorem dX7_pay_37 : decode cX7_pay 37 = .ok (.ifCond .eq 11, 3) := by decide +kernel
theorem dX7_pay_40 : decode cX7_pay 40 = .ok (.aload_n 0, 1) := by decide +kernel
theorem dX7_pay_41 : decode cX7_pay 41 = .ok (.iload_n 1, 1) := by decide +kernel
theorem dX7_pay_42 : decode cX7_pay 42 = .ok (.invokevirtual 142, 3) := by decide +kernel
theorem dX7_pay_45 : decode cX7_pay 45 = .ok (.ifCond .ne 5, 3) := by decide +kernel
theorem dX7_pay_48 : decode cX7_pay 48 = .ok (.iconst (-1), 1) := by decide +kernel
theorem dX7_pay_49 : decode cX7_pay 49 = .ok (.ireturn, 1) := by decide +kernel
theorem dX7_pay_50 : decode cX7_pay 50 = .ok (.aload_n 0, 1) := by decide +kernel
theorem dX7_pay_51 : decode cX7_pay 51 = .ok (.iload_n 3, 1) := by decide +kernel
theorem dX7_pay_52 : decode cX7_pay 52 = .ok (.invokevirtual 145, 3) := by decide +kernel
theorem dX7_pay_55 : decode cX7_pay 55 = .ok (.istore 4, 2) := by decide +kernel
theorem dX7_pay_57 : decode cX7_pay 57 = .ok (.iload 4, 2) := by decide +kernel
theorem dX7_pay_59 : decode cX7_pay 59 = .ok (.ifCond .ne 6, 3) := by decide +kernel
theorem dX7_pay_62 : decode cX7_pay 62 = .ok (.bipush (-2), 2) := by decide +kernel
theorem dX7_pay_64 : decode cX7_pay 64 = .ok (.ireturn, 1) := by decide +kernel
theorem dX7_pay_65 : decode cX7_pay 65 = .ok (.iconst 0, 1) := by decide +kernel
theorem dX7_pay_66 : decode cX7_pay 66 = .ok (.istore 5, 2) := by decide +kernel
theorem dX7_pay_68 : decode cX7_pay 68 = .ok (.iconst 0, 1) := by decide +kernel
theorem dX7_pay_69 : decode cX7_pay 69 = .ok (.istore 6, 2) := by decide +kernel
theorem dX7_pay_71 : decode cX7_pay 71 = .ok (.iload 6, 2) := by decide +kernel
theorem dX7_pay_73 : decode cX7_pay 73 = .ok (.aload_n 0, 1) := by decide +kernel
theorem dX7_pay_74 : decode cX7_pay 74 = .ok (.getfield 135, 3) := by decide +kernel
theorem dX7_pay_77 : decode cX7_pay 77 = .ok (.if_icmp .ge 38, 3) := by decide +kernel
theorem dX7_pay_80 : decode cX7_pay 80 = .ok (.iload 4, 2) := by decide +kernel
theorem dX7_pay_82 : decode cX7_pay 82 = .ok (.iload 6, 2) := by decide +kernel
theorem dX7_pay_84 : decode cX7_pay 84 = .ok (.ishr, 1) := by decide +kernel
theorem dX7_pay_85 : decode cX7_pay 85 = .ok (.iconst 1, 1) := by decide +kernel
theorem dX7_pay_86 : decode cX7_pay 86 = .ok (.iand, 1) := by decide +kernel
theorem dX7_pay_87 : decode cX7_pay 87 = .ok (.iconst 1, 1) := by decide +kernel
theorem dX7_pay_88 : decode cX7_pay 88 = .ok (.if_icmp .ne 21, 3) := by decide +kernel
theorem dX7_pay_91 : decode cX7_pay 91 = .ok (.aload_n 0, 1) := by decide +kernel
theorem dX7_pay_92 : decode cX7_pay 92 = .ok (.getfield 22, 3) := by decide +kernel
theorem dX7_pay_95 : decode cX7_pay 95 = .ok (.aload_n 0, 1) := by decide +kernel
theorem dX7_pay_96 : decode cX7_pay 96 = .ok (.getfield 53, 3) := by decide +kernel
theorem dX7_pay_99 : decode cX7_pay 99 = .ok (.iload 6, 2) := by decide +kernel
theorem dX7_pay_101 : decode cX7_pay 101 = .ok (.iaload, 1) := by decide +kernel
theorem dX7_pay_102 : decode cX7_pay 102 = .ok (.iaload, 1) := by decide +kernel
theorem dX7_pay_103 : decode cX7_pay 103 = .ok (.ifCond .le 6, 3) := by decide +kernel
theorem dX7_pay_106 : decode cX7_pay 106 = .ok (.iinc 5 1, 3) := by decide +kernel
theorem dX7_pay_109 : decode cX7_pay 109 = .ok (.iinc 6 1, 3) := by decide +kernel
theorem dX7_pay_112 : decode cX7_pay 112 = .ok (.goto (-41), 3) := by decide +kernel
theorem dX7_pay_115 : decode cX7_pay 115 = .ok (.aload_n 0, 1) := by decide +kernel
theorem dX7_pay_116 : decode cX7_pay 116 = .ok (.iload 5, 2) := by decide +kernel
theorem dX7_pay_118 : decode cX7_pay 118 = .ok (.invokevirtual 99, 3) := by decide +kernel
theorem dX7_pay_121 : decode cX7_pay 121 = .ok (.ifCond .ne 5, 3) := by decide +kernel
theorem dX7_pay_124 : decode cX7_pay 124 = .ok (.iconst (-1), 1) := by decide +kernel
theorem dX7_pay_125 : decode cX7_pay 125 = .ok (.ireturn, 1) := by decide +kernel
theorem dX7_pay_126 : decode cX7_pay 126 = .ok (.iconst 0, 1) := by decide +kernel
theorem dX7_pay_127 : decode cX7_pay 127 = .ok (.istore 6, 2) := by decide +kernel
theorem dX7_pay_129 : decode cX7_pay 129 = .ok (.iload 6, 2) := by decide +kernel
theorem dX7_pay_131 : decode cX7_pay 131 = .ok (.aload_n 0, 1) := by decide +kernel
theorem dX7_pay_132 : decode cX7_pay 132 = .ok (.getfield 135, 3) := by decide +kernel
theorem dX7_pay_135 : decode cX7_pay 135 = .ok (.if_icmp .ge 32, 3) := by decide +kernel
theorem dX7_pay_138 : decode cX7_pay 138 = .ok (.iload 4, 2) := by decide +kernel
theorem dX7_pay_140 : decode cX7_pay 140 = .ok (.iload 6, 2) := by decide +kernel
theorem dX7_pay_142 : decode cX7_pay 142 = .ok (.ishr, 1) := by decide +kernel
theorem dX7_pay_143 : decode cX7_pay 143 = .ok (.iconst 1, 1) := by decide +kernel
theorem dX7_pay_144 : decode cX7_pay 144 = .ok (.iand, 1) := by decide +kernel
theorem dX7_pay_145 : decode cX7_pay 145 = .ok (.iconst 1, 1) := by decide +kernel
theorem dX7_pay_146 : decode cX7_pay 146 = .ok (.if_icmp .ne 15, 3) := by decide +kernel
theorem dX7_pay_149 : decode cX7_pay 149 = .ok (.aload_n 0, 1) := by decide +kernel
theorem dX7_pay_150 : decode cX7_pay 150 = .ok (.aload_n 0, 1) := by decide +kernel
theorem dX7_pay_151 : decode cX7_pay 151 = .ok (.getfield 53, 3) := by decide +kernel
theorem dX7_pay_154 : decode cX7_pay 154 = .ok (.iload 6, 2) := by decide +kernel
theorem dX7_pay_156 : decode cX7_pay 156 = .ok (.iaload, 1) := by decide +kernel
theorem dX7_pay_157 : decode cX7_pay 157 = .ok (.iload_n 2, 1) := by decide +kernel
theorem dX7_pay_158 : decode cX7_pay 158 = .ok (.invokevirtual 109, 3) := by decide +kernel
theorem dX7_pay_161 : decode cX7_pay 161 = .ok (.iinc 6 1, 3) := by decide +kernel
theorem dX7_pay_164 : decode cX7_pay 164 = .ok (.goto (-35), 3) := by decide +kernel
theorem dX7_pay_167 : decode cX7_pay 167 = .ok (.aload_n 0, 1) := by decide +kernel
theorem dX7_pay_168 : decode cX7_pay 168 = .ok (.iload 4, 2) := by decide +kernel
theorem dX7_pay_170 : decode cX7_pay 170 = .ok (.invokevirtual 138, 3) := by decide +kernel
theorem dX7_pay_173 : decode cX7_pay 173 = .ok (.iload_n 3, 1) := by decide +kernel
theorem dX7_pay_174 : decode cX7_pay 174 = .ok (.isub, 1) := by decide +kernel
theorem dX7_pay_175 : decode cX7_pay 175 = .ok (.ireturn, 1) := by decide +kernel
theorem dX7_owe_0 : decode cX7_owe 0 = .ok (.aload_n 0, 1) := by decide +kernel
theorem dX7_owe_1 : decode cX7_owe 1 = .ok (.iconst 0, 1) := by decide +kernel
theorem dX7_owe_2 : decode cX7_owe 2 = .ok (.putfield 68, 3) := by decide +kernel
theorem dX7_owe_5 : decode cX7_owe 5 = .ok (.iload_n 1, 1) := by decide +kernel
theorem dX7_owe_6 : decode cX7_owe 6 = .ok (.iconst 0, 1) := by decide +kernel
theorem dX7_owe_7 : decode cX7_owe 7 = .ok (.bipush 9, 2) := by decide +kernel
theorem dX7_owe_9 : decode cX7_owe 9 = .ok (.invokestatic 74, 3) := by decide +kernel
theorem dX7_owe_12 : decode cX7_owe 12 = .ok (.ifCond .eq 47, 3) := by decide +kernel
theorem dX7_owe_15 : decode cX7_owe 15 = .ok (.iload_n 2, 1) := by decide +kernel
theorem dX7_owe_16 : decode cX7_owe 16 = .ok (.iconst 0, 1) := by decide +kernel
theorem dX7_owe_17 : decode cX7_owe 17 = .ok (.bipush 9, 2) := by decide +kernel
theorem dX7_owe_19 : decode cX7_owe 19 = .ok (.invokestatic 74, 3) := by decide +kernel
theorem dX7_owe_22 : decode cX7_owe 22 = .ok (.ifCond .eq 37, 3) := by decide +kernel
theorem dX7_owe_25 : decode cX7_owe 25 = .ok (.iload_n 1, 1) := by decide +kernel
theorem dX7_owe_26 : decode cX7_owe 26 = .ok (.iload_n 2, 1) := by decide +kernel
theorem dX7_owe_27 : decode cX7_owe 27 = .ok (.if_icmp .eq 32, 3) := by decide +kernel
theorem dX7_owe_30 : decode cX7_owe 30 = .ok (.iload_n 3, 1) := by decide +kernel
theorem dX7_owe_31 : decode cX7_owe 31 = .ok (.iconst 1, 1) := by decide +kernel
theorem dX7_owe_32 : decode cX7_owe 32 = .ok (.bipush 99, 2) := by decide +kernel
theorem dX7_owe_34 : decode cX7_owe 34 = .ok (.invokestatic 74, 3) := by decide +kernel
theorem dX7_owe_37 : decode cX7_owe 37 = .ok (.ifCond .eq 22, 3) := by decide +kernel
theorem dX7_owe_40 : decode cX7_owe 40 = .ok (.iload 4, 2) := by decide +kernel
theorem dX7_owe_42 : decode cX7_owe 42 = .ok (.iconst 0, 1) := by decide +kernel
theorem dX7_owe_43 : decode cX7_owe 43 = .ok (.iconst 4, 1) := by decide +kernel
theorem dX7_owe_44 : decode cX7_owe 44 = .ok (.invokestatic 74, 3) := by decide +kernel
theorem dX7_owe_47 : decode cX7_owe 47 = .ok (.ifCond .eq 12, 3) := by decide +kernel
theorem dX7_owe_50 : decode cX7_owe 50 = .ok (.aload_n 0, 1) := by decide +kernel
theorem dX7_owe_51 : decode cX7_owe 51 = .ok (.getfield 148, 3) := by decide +kernel
theorem dX7_owe_54 : decode cX7_owe 54 = .ok (.bipush 60, 2) := by decide +kernel
theorem dX7_owe_56 : decode cX7_owe 56 = .ok (.if_icmp .ne 5, 3) := by decide +kernel
theorem dX7_owe_59 : decode cX7_owe 59 = .ok (.iconst (-1), 1) := by decide +kernel
theorem dX7_owe_60 : decode cX7_owe 60 = .ok (.ireturn, 1) := by decide +kernel
theorem dX7_owe_61 : decode cX7_owe 61 = .ok (.iconst 5, 1) := by decide +kernel
theorem dX7_owe_62 : decode cX7_owe 62 = .ok (.aload_n 0, 1) := by decide +kernel
theorem dX7_owe_63 : decode cX7_owe 63 = .ok (.getfield 148, 3) := by decide +kernel
theorem dX7_owe_66 : decode cX7_owe 66 = .ok (.imul, 1) := by decide +kernel
theorem dX7_owe_67 : decode cX7_owe 67 = .ok (.istore 5, 2) := by decide +kernel
theorem dX7_owe_69 : decode cX7_owe 69 = .ok (.aload_n 0, 1) := by decide +kernel
theorem dX7_owe_70 : decode cX7_owe 70 = .ok (.getfield 47, 3) := by decide +kernel
theorem dX7_owe_73 : decode cX7_owe 73 = .ok (.iload 5, 2) := by decide +kernel
theorem dX7_owe_75 : decode cX7_owe 75 = .ok (.iload_n 1, 1) := by decide +kernel
theorem dX7_owe_76 : decode cX7_owe 76 = .ok (.iastore, 1) := by decide +kernel
theorem dX7_owe_77 : decode cX7_owe 77 = .ok (.aload_n 0, 1) := by decide +kernel
theorem dX7_owe_78 : decode cX7_owe 78 = .ok (.getfield 47, 3) := by decide +kernel
theorem dX7_owe_81 : decode cX7_owe 81 = .ok (.iload 5, 2) := by decide +kernel
theorem dX7_owe_83 : decode cX7_owe 83 = .ok (.iconst 1, 1) := by decide +kernel
theorem dX7_owe_84 : decode cX7_owe 84 = .ok (.iadd, 1) := by decide +kernel
theorem dX7_owe_85 : decode cX7_owe 85 = .ok (.iload_n 2, 1) := by decide +kernel
theorem dX7_owe_86 : decode cX7_owe 86 = .ok (.iastore, 1) := by decide +kernel
theorem dX7_owe_87 : decode cX7_owe 87 = .ok (.aload_n 0, 1) := by decide +kernel
theorem dX7_owe_88 : decode cX7_owe 88 = .ok (.getfield 47, 3) := by decide +kernel
theorem dX7_owe_91 : decode cX7_owe 91 = .ok (.iload 5, 2) := by decide +kernel
theorem dX7_owe_93 : decode cX7_owe 93 = .ok (.iconst 2, 1) := by decide +kernel
theorem dX7_owe_94 : decode cX7_owe 94 = .ok (.iadd, 1) := by decide +kernel
theorem dX7_owe_95 : decode cX7_owe 95 = .ok (.iload_n 3, 1) := by decide +kernel
theorem dX7_owe_96 : decode cX7_owe 96 = .ok (.iastore, 1) := by decide +kernel
theorem dX7_owe_97 : decode cX7_owe 97 = .ok (.aload_n 0, 1) := by decide +kernel
theorem dX7_owe_98 : decode cX7_owe 98 = .ok (.getfield 47, 3) := by decide +kernel
theorem dX7_owe_101 : decode cX7_owe 101 = .ok (.iload 5, 2) := by decide +kernel
theorem dX7_owe_103 : decode cX7_owe 103 = .ok (.iconst 3, 1) := by decide +kernel
theorem dX7_owe_104 : decode cX7_owe 104 = .ok (.iadd, 1) := by decide +kernel
theorem dX7_owe_105 : decode cX7_owe 105 = .ok (.iload 4, 2) := by decide +kernel
theorem dX7_owe_107 : decode cX7_owe 107 = .ok (.iastore, 1) := by decide +kernel
theorem dX7_owe_108 : decode cX7_owe 108 = .ok (.aload_n 0, 1) := by decide +kernel
theorem dX7_owe_109 : decode cX7_owe 109 = .ok (.getfield 47, 3) := by decide +kernel
theorem dX7_owe_112 : decode cX7_owe 112 = .ok (.iload 5, 2) := by decide +kernel
theorem dX7_owe_114 : decode cX7_owe 114 = .ok (.iconst 4, 1) := by decide +kernel
theorem dX7_owe_115 : decode cX7_owe 115 = .ok (.iadd, 1) := by decide +kernel
theorem dX7_owe_116 : decode cX7_owe 116 = .ok (.iconst (-1), 1) := by decide +kernel
theorem dX7_owe_117 : decode cX7_owe 117 = .ok (.iastore, 1) := by decide +kernel
theorem dX7_owe_118 : decode cX7_owe 118 = .ok (.aload_n 0, 1) := by decide +kernel
theorem dX7_owe_119 : decode cX7_owe 119 = .ok (.dup, 1) := by decide +kernel
theorem dX7_owe_120 : decode cX7_owe 120 = .ok (.getfield 148, 3) := by decide +kernel
theorem dX7_owe_123 : decode cX7_owe 123 = .ok (.iconst 1, 1) := by decide +kernel
theorem dX7_owe_124 : decode cX7_owe 124 = .ok (.iadd, 1) := by decide +kernel
theorem dX7_owe_125 : decode cX7_owe 125 = .ok (.putfield 148, 3) := by decide +kernel
theorem dX7_owe_128 : decode cX7_owe 128 = .ok (.aload_n 0, 1) := by decide +kernel
theorem dX7_owe_129 : decode cX7_owe 129 = .ok (.getfield 148, 3) := by decide +kernel
theorem dX7_owe_132 : decode cX7_owe 132 = .ok (.iconst 1, 1) := by decide +kernel
theorem dX7_owe_133 : decode cX7_owe 133 = .ok (.isub, 1) := by decide +kernel
theorem dX7_owe_134 : decode cX7_owe 134 = .ok (.ireturn, 1) := by decide +kernel
theorem dX7_settle_0 : decode cX7_settle 0 = .ok (.aload_n 0, 1) := by decide +kernel
theorem dX7_settle_1 : decode cX7_settle 1 = .ok (.iconst 0, 1) := by decide +kernel
theorem dX7_settle_2 : decode cX7_settle 2 = .ok (.putfield 68, 3) := by decide +kernel
theorem dX7_settle_5 : decode cX7_settle 5 = .ok (.iload_n 1, 1) := by decide +kernel
theorem dX7_settle_6 : decode cX7_settle 6 = .ok (.iconst 0, 1) := by decide +kernel
theorem dX7_settle_7 : decode cX7_settle 7 = .ok (.aload_n 0, 1) := by decide +kernel
theorem dX7_settle_8 : decode cX7_settle 8 = .ok (.getfield 148, 3) := by decide +kernel
theorem dX7_settle_11 : decode cX7_settle 11 = .ok (.iconst 1, 1) := by decide +kernel
theorem dX7_settle_12 : decode cX7_settle 12 = .ok (.isub, 1) := by decide +kernel
theorem dX7_settle_13 : decode cX7_settle 13 = .ok (.invokestatic 74, 3) := by decide +kernel
theorem dX7_settle_16 : decode cX7_settle 16 = .ok (.ifCond .eq 11, 3) := by decide +kernel
theorem dX7_settle_19 : decode cX7_settle 19 = .ok (.aload_n 0, 1) := by decide +kernel
theorem dX7_settle_20 : decode cX7_settle 20 = .ok (.iload_n 2, 1) := by decide +kernel
theorem dX7_settle_21 : decode cX7_settle 21 = .ok (.invokevirtual 95, 3) := by decide +kernel
theorem dX7_settle_24 : decode cX7_settle 24 = .ok (.ifCond .ne 5, 3) := by decide +kernel
theorem dX7_settle_27 : decode cX7_settle 27 = .ok (.iconst 0, 1) := by decide +kernel
theorem dX7_settle_28 : decode cX7_settle 28 = .ok (.ireturn, 1) := by decide +kernel
theorem dX7_settle_29 : decode cX7_settle 29 = .ok (.iconst 5, 1) := by decide +kernel
theorem dX7_settle_30 : decode cX7_settle 30 = .ok (.iload_n 1, 1) := by decide +kernel
theorem dX7_settle_31 : decode cX7_settle 31 = .ok (.imul, 1) := by decide +kernel
theorem dX7_settle_32 : decode cX7_settle 32 = .ok (.istore_n 3, 1) := by decide +kernel
theorem dX7_settle_33 : decode cX7_settle 33 = .ok (.aload_n 0, 1) := by decide +kernel
theorem dX7_settle_34 : decode cX7_settle 34 = .ok (.getfield 47, 3) := by decide +kernel
theorem dX7_settle_37 : decode cX7_settle 37 = .ok (.iload_n 3, 1) := by decide +kernel
theorem dX7_settle_38 : decode cX7_settle 38 = .ok (.iconst 4, 1) := by decide +kernel
theorem dX7_settle_39 : decode cX7_settle 39 = .ok (.iadd, 1) := by decide +kernel
theorem dX7_settle_40 : decode cX7_settle 40 = .ok (.iaload, 1) := by decide +kernel
theorem dX7_settle_41 : decode cX7_settle 41 = .ok (.iconst (-1), 1) := by decide +kernel
theorem dX7_settle_42 : decode cX7_settle 42 = .ok (.if_icmp .ne 78, 3) := by decide +kernel
theorem dX7_settle_45 : decode cX7_settle 45 = .ok (.aload_n 0, 1) := by decide +kernel
theorem dX7_settle_46 : decode cX7_settle 46 = .ok (.getfield 19, 3) := by decide +kernel
theorem dX7_settle_49 : decode cX7_settle 49 = .ok (.iload_n 2, 1) := by decide +kernel
theorem dX7_settle_50 : decode cX7_settle 50 = .ok (.iaload, 1) := by decide +kernel
theorem dX7_settle_51 : decode cX7_settle 51 = .ok (.aload_n 0, 1) := by decide +kernel
theorem dX7_settle_52 : decode cX7_settle 52 = .ok (.getfield 47, 3) := by decide +kernel
theorem dX7_settle_55 : decode cX7_settle 55 = .ok (.iload_n 3, 1) := by decide +kernel
theorem dX7_settle_56 : decode cX7_settle 56 = .ok (.iaload, 1) := by decide +kernel
theorem dX7_settle_57 : decode cX7_settle 57 = .ok (.if_icmp .ne 63, 3) := by decide +kernel
theorem dX7_settle_60 : decode cX7_settle 60 = .ok (.aload_n 0, 1) := by decide +kernel
theorem dX7_settle_61 : decode cX7_settle 61 = .ok (.getfield 16, 3) := by decide +kernel
theorem dX7_settle_64 : decode cX7_settle 64 = .ok (.iload_n 2, 1) := by decide +kernel
theorem dX7_settle_65 : decode cX7_settle 65 = .ok (.iaload, 1) := by decide +kernel
theorem dX7_settle_66 : decode cX7_settle 66 = .ok (.bipush 10, 2) := by decide +kernel
theorem dX7_settle_68 : decode cX7_settle 68 = .ok (.idiv, 1) := by decide +kernel
theorem dX7_settle_69 : decode cX7_settle 69 = .ok (.aload_n 0, 1) := by decide +kernel
theorem dX7_settle_70 : decode cX7_settle 70 = .ok (.getfield 47, 3) := by decide +kernel
theorem dX7_settle_73 : decode cX7_settle 73 = .ok (.iload_n 3, 1) := by decide +kernel
theorem dX7_settle_74 : decode cX7_settle 74 = .ok (.iconst 2, 1) := by decide +kernel
theorem dX7_settle_75 : decode cX7_settle 75 = .ok (.iadd, 1) := by decide +kernel
theorem dX7_settle_76 : decode cX7_settle 76 = .ok (.iaload, 1) := by decide +kernel
theorem dX7_settle_77 : decode cX7_settle 77 = .ok (.if_icmp .lt 43, 3) := by decide +kernel
theorem dX7_settle_80 : decode cX7_settle 80 = .ok (.aload_n 0, 1) := by decide +kernel
theorem dX7_settle_81 : decode cX7_settle 81 = .ok (.iload_n 2, 1) := by decide +kernel
theorem dX7_settle_82 : decode cX7_settle 82 = .ok (.iconst 0, 1) := by decide +kernel
theorem dX7_settle_83 : decode cX7_settle 83 = .ok (.aload_n 0, 1) := by decide +kernel
theorem dX7_settle_84 : decode cX7_settle 84 = .ok (.getfield 16, 3) := by decide +kernel
theorem dX7_settle_87 : decode cX7_settle 87 = .ok (.iload_n 2, 1) := by decide +kernel
theorem dX7_settle_88 : decode cX7_settle 88 = .ok (.iaload, 1) := by decide +kernel
theorem dX7_settle_89 : decode cX7_settle 89 = .ok (.invokevirtual 116, 3) := by decide +kernel
theorem dX7_settle_92 : decode cX7_settle 92 = .ok (.aload_n 0, 1) := by decide +kernel
theorem dX7_settle_93 : decode cX7_settle 93 = .ok (.getfield 47, 3) := by decide +kernel
theorem dX7_settle_96 : decode cX7_settle 96 = .ok (.iload_n 3, 1) := by decide +kernel
theorem dX7_settle_97 : decode cX7_settle 97 = .ok (.iconst 3, 1) := by decide +kernel
theorem dX7_settle_98 : decode cX7_settle 98 = .ok (.iadd, 1) := by decide +kernel
theorem dX7_settle_99 : decode cX7_settle 99 = .ok (.iaload, 1) := by decide +kernel
theorem dX7_settle_100 : decode cX7_settle 100 = .ok (.if_icmp .lt 20, 3) := by decide +kernel
theorem dX7_settle_103 : decode cX7_settle 103 = .ok (.aload_n 0, 1) := by decide +kernel
theorem dX7_settle_104 : decode cX7_settle 104 = .ok (.getfield 22, 3) := by decide +kernel
theorem dX7_settle_107 : decode cX7_settle 107 = .ok (.iload_n 2, 1) := by decide +kernel
theorem dX7_settle_108 : decode cX7_settle 108 = .ok (.iaload, 1) := by decide +kernel
theorem dX7_settle_109 : decode cX7_settle 109 = .ok (.ifCond .le 13, 3) := by decide +kernel
theorem dX7_settle_112 : decode cX7_settle 112 = .ok (.aload_n 0, 1) := by decide +kernel
theorem dX7_settle_113 : decode cX7_settle 113 = .ok (.iconst 1, 1) := by decide +kernel
theorem dX7_settle_114 : decode cX7_settle 114 = .ok (.invokevirtual 99, 3) := by decide +kernel
theorem dX7_settle_117 : decode cX7_settle 117 = .ok (.ifCond .ne 5, 3) := by decide +kernel
theorem dX7_settle_120 : decode cX7_settle 120 = .ok (.iconst 0, 1) := by decide +kernel
theorem dX7_settle_121 : decode cX7_settle 121 = .ok (.ireturn, 1) := by decide +kernel
theorem dX7_settle_122 : decode cX7_settle 122 = .ok (.aload_n 0, 1) := by decide +kernel
theorem dX7_settle_123 : decode cX7_settle 123 = .ok (.iload_n 2, 1) := by decide +kernel
theorem dX7_settle_124 : decode cX7_settle 124 = .ok (.aload_n 0, 1) := by decide +kernel
theorem dX7_settle_125 : decode cX7_settle 125 = .ok (.getfield 47, 3) := by decide +kernel
theorem dX7_settle_128 : decode cX7_settle 128 = .ok (.iload_n 3, 1) := by decide +kernel
theorem dX7_settle_129 : decode cX7_settle 129 = .ok (.iconst 1, 1) := by decide +kernel
theorem dX7_settle_130 : decode cX7_settle 130 = .ok (.iadd, 1) := by decide +kernel
theorem dX7_settle_131 : decode cX7_settle 131 = .ok (.iaload, 1) := by decide +kernel
theorem dX7_settle_132 : decode cX7_settle 132 = .ok (.invokevirtual 109, 3) := by decide +kernel
theorem dX7_settle_135 : decode cX7_settle 135 = .ok (.aload_n 0, 1) := by decide +kernel
theorem dX7_settle_136 : decode cX7_settle 136 = .ok (.getfield 47, 3) := by decide +kernel
theorem dX7_settle_139 : decode cX7_settle 139 = .ok (.iload_n 3, 1) := by decide +kernel
theorem dX7_settle_140 : decode cX7_settle 140 = .ok (.iconst 4, 1) := by decide +kernel
theorem dX7_settle_141 : decode cX7_settle 141 = .ok (.iadd, 1) := by decide +kernel
theorem dX7_settle_142 : decode cX7_settle 142 = .ok (.aload_n 0, 1) := by decide +kernel
theorem dX7_settle_143 : decode cX7_settle 143 = .ok (.getfield 81, 3) := by decide +kernel
theorem dX7_settle_146 : decode cX7_settle 146 = .ok (.iastore, 1) := by decide +kernel
theorem dX7_settle_147 : decode cX7_settle 147 = .ok (.iconst 1, 1) := by decide +kernel
theorem dX7_settle_148 : decode cX7_settle 148 = .ok (.ireturn, 1) := by decide +kernel
theorem dX7_debt_0 : decode cX7_debt 0 = .ok (.aload_n 0, 1) := by decide +kernel
theorem dX7_debt_1 : decode cX7_debt 1 = .ok (.iconst 0, 1) := by decide +kernel
theorem dX7_debt_2 : decode cX7_debt 2 = .ok (.putfield 68, 3) := by decide +kernel
theorem dX7_debt_5 : decode cX7_debt 5 = .ok (.iload_n 1, 1) := by decide +kernel
theorem dX7_debt_6 : decode cX7_debt 6 = .ok (.iconst 0, 1) := by decide +kernel
theorem dX7_debt_7 : decode cX7_debt 7 = .ok (.aload_n 0, 1) := by decide +kernel
theorem dX7_debt_8 : decode cX7_debt 8 = .ok (.getfield 148, 3) := by decide +kernel
theorem dX7_debt_11 : decode cX7_debt 11 = .ok (.iconst 1, 1) := by decide +kernel
theorem dX7_debt_12 : decode cX7_debt 12 = .ok (.isub, 1) := by decide +kernel
theorem dX7_debt_13 : decode cX7_debt 13 = .ok (.invokestatic 74, 3) := by decide +kernel
theorem dX7_debt_16 : decode cX7_debt 16 = .ok (.ifCond .eq 12, 3) := by decide +kernel
theorem dX7_debt_19 : decode cX7_debt 19 = .ok (.iload_n 2, 1) := by decide +kernel
theorem dX7_debt_20 : decode cX7_debt 20 = .ok (.iconst 0, 1) := by decide +kernel
theorem dX7_debt_21 : decode cX7_debt 21 = .ok (.iconst 4, 1) := by decide +kernel
theorem dX7_debt_22 : decode cX7_debt 22 = .ok (.invokestatic 74, 3) := by decide +kernel
theorem dX7_debt_25 : decode cX7_debt 25 = .ok (.ifCond .ne 5, 3) := by decide +kernel
theorem dX7_debt_28 : decode cX7_debt 28 = .ok (.iconst (-1), 1) := by decide +kernel
theorem dX7_debt_29 : decode cX7_debt 29 = .ok (.ireturn, 1) := by decide +kernel
theorem dX7_debt_30 : decode cX7_debt 30 = .ok (.iconst 5, 1) := by decide +kernel
theorem dX7_debt_31 : decode cX7_debt 31 = .ok (.iload_n 1, 1) := by decide +kernel
theorem dX7_debt_32 : decode cX7_debt 32 = .ok (.imul, 1) := by decide +kernel
theorem dX7_debt_33 : decode cX7_debt 33 = .ok (.istore_n 3, 1) := by decide +kernel
theorem dX7_debt_34 : decode cX7_debt 34 = .ok (.iload_n 2, 1) := by decide +kernel
theorem dX7_debt_35 : decode cX7_debt 35 = .ok (.iconst 2, 1) := by decide +kernel
theorem dX7_debt_36 : decode cX7_debt 36 = .ok (.if_icmp .ne 19, 3) := by decide +kernel
theorem dX7_debt_39 : decode cX7_debt 39 = .ok (.aload_n 0, 1) := by decide +kernel
theorem dX7_debt_40 : decode cX7_debt 40 = .ok (.getfield 47, 3) := by decide +kernel
theorem dX7_debt_43 : decode cX7_debt 43 = .ok (.iload_n 3, 1) := by decide +kernel
theorem dX7_debt_44 : decode cX7_debt 44 = .ok (.iconst 4, 1) := by decide +kernel
theorem dX7_debt_45 : decode cX7_debt 45 = .ok (.iadd, 1) := by decide +kernel
theorem dX7_debt_46 : decode cX7_debt 46 = .ok (.iaload, 1) := by decide +kernel
theorem dX7_debt_47 : decode cX7_debt 47 = .ok (.iconst (-1), 1) := by decide +kernel
theorem dX7_debt_48 : decode cX7_debt 48 = .ok (.if_icmp .eq 7, 3) := by decide +kernel
theorem dX7_debt_51 : decode cX7_debt 51 = .ok (.iconst 0, 1) := by decide +kernel
theorem dX7_debt_52 : decode cX7_debt 52 = .ok (.goto 11, 3) := by decide +kernel
theorem dX7_debt_55 : decode cX7_debt 55 = .ok (.aload_n 0, 1) := by decide +kernel
theorem dX7_debt_56 : decode cX7_debt 56 = .ok (.getfield 47, 3) := by decide +kernel
theorem dX7_debt_59 : decode cX7_debt 59 = .ok (.iload_n 3, 1) := by decide +kernel
theorem dX7_debt_60 : decode cX7_debt 60 = .ok (.iload_n 2, 1) := by decide +kernel
theorem dX7_debt_61 : decode cX7_debt 61 = .ok (.iadd, 1) := by decide +kernel
theorem dX7_debt_62 : decode cX7_debt 62 = .ok (.iaload, 1) := by decide +kernel
theorem dX7_debt_63 : decode cX7_debt 63 = .ok (.ireturn, 1) := by decide +kernel
theorem dX7_year_0 : decode cX7_year 0 = .ok (.aload_n 0, 1) := by decide +kernel
theorem dX7_year_1 : decode cX7_year 1 = .ok (.iconst 0, 1) := by decide +kernel
theorem dX7_year_2 : decode cX7_year 2 = .ok (.putfield 68, 3) := by decide +kernel
theorem dX7_year_5 : decode cX7_year 5 = .ok (.aload_n 0, 1) := by decide +kernel
theorem dX7_year_6 : decode cX7_year 6 = .ok (.getfield 81, 3) := by decide +kernel
theorem dX7_year_9 : decode cX7_year 9 = .ok (.bipush 100, 2) := by decide +kernel
theorem dX7_year_11 : decode cX7_year 11 = .ok (.if_icmp .ne 5, 3) := by decide +kernel
theorem dX7_year_14 : decode cX7_year 14 = .ok (.iconst (-1), 1) := by decide +kernel
theorem dX7_year_15 : decode cX7_year 15 = .ok (.ireturn, 1) := by decide +kernel
theorem dX7_year_16 : decode cX7_year 16 = .ok (.aload_n 0, 1) := by decide +kernel
theorem dX7_year_17 : decode cX7_year 17 = .ok (.dup, 1) := by decide +kernel
theorem dX7_year_18 : decode cX7_year 18 = .ok (.getfield 81, 3) := by decide +kernel
theorem dX7_year_21 : decode cX7_year 21 = .ok (.iconst 1, 1) := by decide +kernel
theorem dX7_year_22 : decode cX7_year 22 = .ok (.iadd, 1) := by decide +kernel
theorem dX7_year_23 : decode cX7_year 23 = .ok (.putfield 81, 3) := by decide +kernel
theorem dX7_year_26 : decode cX7_year 26 = .ok (.iconst 0, 1) := by decide +kernel
theorem dX7_year_27 : decode cX7_year 27 = .ok (.istore_n 1, 1) := by decide +kernel
theorem dX7_year_28 : decode cX7_year 28 = .ok (.iload_n 1, 1) := by decide +kernel
theorem dX7_year_29 : decode cX7_year 29 = .ok (.aload_n 0, 1) := by decide +kernel
theorem dX7_year_30 : decode cX7_year 30 = .ok (.getfield 148, 3) := by decide +kernel
theorem dX7_year_33 : decode cX7_year 33 = .ok (.if_icmp .ge 76, 3) := by decide +kernel
theorem dX7_year_36 : decode cX7_year 36 = .ok (.iconst 5, 1) := by decide +kernel
theorem dX7_year_37 : decode cX7_year 37 = .ok (.iload_n 1, 1) := by decide +kernel
theorem dX7_year_38 : decode cX7_year 38 = .ok (.imul, 1) := by decide +kernel
theorem dX7_year_39 : decode cX7_year 39 = .ok (.istore_n 2, 1) := by decide +kernel
theorem dX7_year_40 : decode cX7_year 40 = .ok (.aload_n 0, 1) := by decide +kernel
theorem dX7_year_41 : decode cX7_year 41 = .ok (.getfield 47, 3) := by decide +kernel
theorem dX7_year_44 : decode cX7_year 44 = .ok (.iload_n 2, 1) := by decide +kernel
theorem dX7_year_45 : decode cX7_year 45 = .ok (.iconst 4, 1) := by decide +kernel
theorem dX7_year_46 : decode cX7_year 46 = .ok (.iadd, 1) := by decide +kernel
theorem dX7_year_47 : decode cX7_year 47 = .ok (.iaload, 1) := by decide +kernel
theorem dX7_year_48 : decode cX7_year 48 = .ok (.iconst (-1), 1) := by decide +kernel
theorem dX7_year_49 : decode cX7_year 49 = .ok (.if_icmp .eq 6, 3) := by decide +kernel
theorem dX7_year_52 : decode cX7_year 52 = .ok (.goto 51, 3) := by decide +kernel
theorem dX7_year_55 : decode cX7_year 55 = .ok (.aload_n 0, 1) := by decide +kernel
theorem dX7_year_56 : decode cX7_year 56 = .ok (.getfield 47, 3) := by decide +kernel
theorem dX7_year_59 : decode cX7_year 59 = .ok (.iload_n 2, 1) := by decide +kernel
theorem dX7_year_60 : decode cX7_year 60 = .ok (.iconst 2, 1) := by decide +kernel
theorem dX7_year_61 : decode cX7_year 61 = .ok (.iadd, 1) := by decide +kernel
theorem dX7_year_62 : decode cX7_year 62 = .ok (.iaload, 1) := by decide +kernel
theorem dX7_year_63 : decode cX7_year 63 = .ok (.aload_n 0, 1) := by decide +kernel
theorem dX7_year_64 : decode cX7_year 64 = .ok (.getfield 47, 3) := by decide +kernel
theorem dX7_year_67 : decode cX7_year 67 = .ok (.iload_n 2, 1) := by decide +kernel
theorem dX7_year_68 : decode cX7_year 68 = .ok (.iconst 2, 1) := by decide +kernel
theorem dX7_year_69 : decode cX7_year 69 = .ok (.iadd, 1) := by decide +kernel
theorem dX7_year_70 : decode cX7_year 70 = .ok (.iaload, 1) := by decide +kernel
theorem dX7_year_71 : decode cX7_year 71 = .ok (.aload_n 0, 1) := by decide +kernel
theorem dX7_year_72 : decode cX7_year 72 = .ok (.getfield 41, 3) := by decide +kernel
theorem dX7_year_75 : decode cX7_year 75 = .ok (.imul, 1) := by decide +kernel
theorem dX7_year_76 : decode cX7_year 76 = .ok (.bipush 100, 2) := by decide +kernel
theorem dX7_year_78 : decode cX7_year 78 = .ok (.idiv, 1) := by decide +kernel
theorem dX7_year_79 : decode cX7_year 79 = .ok (.iadd, 1) := by decide +kernel
theorem dX7_year_80 : decode cX7_year 80 = .ok (.istore_n 3, 1) := by decide +kernel
theorem dX7_year_81 : decode cX7_year 81 = .ok (.aload_n 0, 1) := by decide +kernel
theorem dX7_year_82 : decode cX7_year 82 = .ok (.getfield 47, 3) := by decide +kernel
theorem dX7_year_85 : decode cX7_year 85 = .ok (.iload_n 2, 1) := by decide +kernel
theorem dX7_year_86 : decode cX7_year 86 = .ok (.iconst 2, 1) := by decide +kernel
theorem dX7_year_87 : decode cX7_year 87 = .ok (.iadd, 1) := by decide +kernel
theorem dX7_year_88 : decode cX7_year 88 = .ok (.iload_n 3, 1) := by decide +kernel
theorem dX7_year_89 : decode cX7_year 89 = .ok (.sipush 10000, 3) := by decide +kernel
theorem dX7_year_92 : decode cX7_year 92 = .ok (.if_icmp .le 9, 3) := by decide +kernel
theorem dX7_year_95 : decode cX7_year 95 = .ok (.sipush 10000, 3) := by decide +kernel
theorem dX7_year_98 : decode cX7_year 98 = .ok (.goto 4, 3) := by decide +kernel
theorem dX7_year_101 : decode cX7_year 101 = .ok (.iload_n 3, 1) := by decide +kernel
theorem dX7_year_102 : decode cX7_year 102 = .ok (.iastore, 1) := by decide +kernel
theorem dX7_year_103 : decode cX7_year 103 = .ok (.iinc 1 1, 3) := by decide +kernel
theorem dX7_year_106 : decode cX7_year 106 = .ok (.goto (-78), 3) := by decide +kernel
theorem dX7_year_109 : decode cX7_year 109 = .ok (.aload_n 0, 1) := by decide +kernel
theorem dX7_year_110 : decode cX7_year 110 = .ok (.getfield 81, 3) := by decide +kernel
theorem dX7_year_113 : decode cX7_year 113 = .ok (.ireturn, 1) := by decide +kernel
theorem dX7_count_0 : decode cX7_count 0 = .ok (.aload_n 0, 1) := by decide +kernel
theorem dX7_count_1 : decode cX7_count 1 = .ok (.iconst 0, 1) := by decide +kernel
theorem dX7_count_2 : decode cX7_count 2 = .ok (.putfield 68, 3) := by decide +kernel
theorem dX7_count_5 : decode cX7_count 5 = .ok (.iconst 0, 1) := by decide +kernel
theorem dX7_count_6 : decode cX7_count 6 = .ok (.istore_n 2, 1) := by decide +kernel
theorem dX7_count_7 : decode cX7_count 7 = .ok (.iload_n 1, 1) := by decide +kernel
theorem dX7_count_8 : decode cX7_count 8 = .ok (.tableswitch 165 0 7 #[48, 53, 83, 88, 123, 128, 133, 160], 48) := by decide +kernel
theorem dX7_count_56 : decode cX7_count 56 = .ok (.aload_n 0, 1) := by decide +kernel
theorem dX7_count_57 : decode cX7_count 57 = .ok (.getfield 71, 3) := by decide +kernel
theorem dX7_count_60 : decode cX7_count 60 = .ok (.ireturn, 1) := by decide +kernel
theorem dX7_count_61 : decode cX7_count 61 = .ok (.iconst 0, 1) := by decide +kernel
theorem dX7_count_62 : decode cX7_count 62 = .ok (.istore_n 3, 1) := by decide +kernel
theorem dX7_count_63 : decode cX7_count 63 = .ok (.iload_n 3, 1) := by decide +kernel
theorem dX7_count_64 : decode cX7_count 64 = .ok (.aload_n 0, 1) := by decide +kernel
theorem dX7_count_65 : decode cX7_count 65 = .ok (.getfield 71, 3) := by decide +kernel
theorem dX7_count_68 : decode cX7_count 68 = .ok (.if_icmp .ge 21, 3) := by decide +kernel
theorem dX7_count_71 : decode cX7_count 71 = .ok (.aload_n 0, 1) := by decide +kernel
theorem dX7_count_72 : decode cX7_count 72 = .ok (.getfield 16, 3) := by decide +kernel
theorem dX7_count_75 : decode cX7_count 75 = .ok (.iload_n 3, 1) := by decide +kernel
theorem dX7_count_76 : decode cX7_count 76 = .ok (.iaload, 1) := by decide +kernel
theorem dX7_count_77 : decode cX7_count 77 = .ok (.ifCond .ne 6, 3) := by decide +kernel
theorem dX7_count_80 : decode cX7_count 80 = .ok (.iinc 2 1, 3) := by decide +kernel
theorem dX7_count_83 : decode cX7_count 83 = .ok (.iinc 3 1, 3) := by decide +kernel
theorem dX7_count_86 : decode cX7_count 86 = .ok (.goto (-23), 3) := by decide +kernel
theorem dX7_count_89 : decode cX7_count 89 = .ok (.iload_n 2, 1) := by decide +kernel
theorem dX7_count_90 : decode cX7_count 90 = .ok (.ireturn, 1) := by decide +kernel
theorem dX7_count_91 : decode cX7_count 91 = .ok (.aload_n 0, 1) := by decide +kernel
theorem dX7_count_92 : decode cX7_count 92 = .ok (.getfield 148, 3) := by decide +kernel
theorem dX7_count_95 : decode cX7_count 95 = .ok (.ireturn, 1) := by decide +kernel
theorem dX7_count_96 : decode cX7_count 96 = .ok (.iconst 0, 1) := by decide +kernel
theorem dX7_count_97 : decode cX7_count 97 = .ok (.istore_n 3, 1) := by decide +kernel
theorem dX7_count_98 : decode cX7_count 98 = .ok (.iload_n 3, 1) := by decide +kernel
theorem dX7_count_99 : decode cX7_count 99 = .ok (.aload_n 0, 1) := by decide +kernel
theorem dX7_count_100 : decode cX7_count 100 = .ok (.getfield 148, 3) := by decide +kernel
theorem dX7_count_103 : decode cX7_count 103 = .ok (.if_icmp .ge 26, 3) := by decide +kernel
theorem dX7_count_106 : decode cX7_count 106 = .ok (.aload_n 0, 1) := by decide +kernel
theorem dX7_count_107 : decode cX7_count 107 = .ok (.getfield 47, 3) := by decide +kernel
theorem dX7_count_110 : decode cX7_count 110 = .ok (.iconst 5, 1) := by decide +kernel
theorem dX7_count_111 : decode cX7_count 111 = .ok (.iload_n 3, 1) := by decide +kernel
theorem dX7_count_112 : decode cX7_count 112 = .ok (.imul, 1) := by decide +kernel
theorem dX7_count_113 : decode cX7_count 113 = .ok (.iconst 4, 1) := by decide +kernel
theorem dX7_count_114 : decode cX7_count 114 = .ok (.iadd, 1) := by decide +kernel
theorem dX7_count_115 : decode cX7_count 115 = .ok (.iaload, 1) := by decide +kernel
theorem dX7_count_116 : decode cX7_count 116 = .ok (.iconst (-1), 1) := by decide +kernel
theorem dX7_count_117 : decode cX7_count 117 = .ok (.if_icmp .eq 6, 3) := by decide +kernel
theorem dX7_count_120 : decode cX7_count 120 = .ok (.iinc 2 1, 3) := by decide +kernel
theorem dX7_count_123 : decode cX7_count 123 = .ok (.iinc 3 1, 3) := by decide +kernel
theorem dX7_count_126 : decode cX7_count 126 = .ok (.goto (-28), 3) := by decide +kernel
theorem dX7_count_129 : decode cX7_count 129 = .ok (.iload_n 2, 1) := by decide +kernel
theorem dX7_count_130 : decode cX7_count 130 = .ok (.ireturn, 1) := by decide +kernel
theorem dX7_count_131 : decode cX7_count 131 = .ok (.aload_n 0, 1) := by decide +kernel
theorem dX7_count_132 : decode cX7_count 132 = .ok (.getfield 81, 3) := by decide +kernel
theorem dX7_count_135 : decode cX7_count 135 = .ok (.ireturn, 1) := by decide +kernel
theorem dX7_count_136 : decode cX7_count 136 = .ok (.aload_n 0, 1) := by decide +kernel
theorem dX7_count_137 : decode cX7_count 137 = .ok (.getfield 78, 3) := by decide +kernel
theorem dX7_count_140 : decode cX7_count 140 = .ok (.ireturn, 1) := by decide +kernel
theorem dX7_count_141 : decode cX7_count 141 = .ok (.iconst 0, 1) := by decide +kernel
theorem dX7_count_142 : decode cX7_count 142 = .ok (.istore_n 3, 1) := by decide +kernel
theorem dX7_count_143 : decode cX7_count 143 = .ok (.iload_n 3, 1) := by decide +kernel
theorem dX7_count_144 : decode cX7_count 144 = .ok (.aload_n 0, 1) := by decide +kernel
theorem dX7_count_145 : decode cX7_count 145 = .ok (.getfield 71, 3) := by decide +kernel
theorem dX7_count_148 : decode cX7_count 148 = .ok (.if_icmp .ge 18, 3) := by decide +kernel
theorem dX7_count_151 : decode cX7_count 151 = .ok (.iload_n 2, 1) := by decide +kernel
theorem dX7_count_152 : decode cX7_count 152 = .ok (.aload_n 0, 1) := by decide +kernel
theorem dX7_count_153 : decode cX7_count 153 = .ok (.getfield 16, 3) := by decide +kernel
theorem dX7_count_156 : decode cX7_count 156 = .ok (.iload_n 3, 1) := by decide +kernel
theorem dX7_count_157 : decode cX7_count 157 = .ok (.iaload, 1) := by decide +kernel
theorem dX7_count_158 : decode cX7_count 158 = .ok (.iadd, 1) := by decide +kernel
theorem dX7_count_159 : decode cX7_count 159 = .ok (.istore_n 2, 1) := by decide +kernel
theorem dX7_count_160 : decode cX7_count 160 = .ok (.iinc 3 1, 3) := by decide +kernel
theorem dX7_count_163 : decode cX7_count 163 = .ok (.goto (-20), 3) := by decide +kernel
theorem dX7_count_166 : decode cX7_count 166 = .ok (.iload_n 2, 1) := by decide +kernel
theorem dX7_count_167 : decode cX7_count 167 = .ok (.ireturn, 1) := by decide +kernel
theorem dX7_count_168 : decode cX7_count 168 = .ok (.aload_n 0, 1) := by decide +kernel
theorem dX7_count_169 : decode cX7_count 169 = .ok (.invokevirtual 151, 3) := by decide +kernel
theorem dX7_count_172 : decode cX7_count 172 = .ok (.ireturn, 1) := by decide +kernel
theorem dX7_count_173 : decode cX7_count 173 = .ok (.iconst (-1), 1) := by decide +kernel
theorem dX7_count_174 : decode cX7_count 174 = .ok (.ireturn, 1) := by decide +kernel
theorem dX7_heaped_0 : decode cX7_heaped 0 = .ok (.iconst 0, 1) := by decide +kernel
theorem dX7_heaped_1 : decode cX7_heaped 1 = .ok (.istore_n 1, 1) := by decide +kernel
theorem dX7_heaped_2 : decode cX7_heaped 2 = .ok (.iconst 0, 1) := by decide +kernel
theorem dX7_heaped_3 : decode cX7_heaped 3 = .ok (.istore_n 2, 1) := by decide +kernel
theorem dX7_heaped_4 : decode cX7_heaped 4 = .ok (.iload_n 2, 1) := by decide +kernel
theorem dX7_heaped_5 : decode cX7_heaped 5 = .ok (.iconst 5, 1) := by decide +kernel
theorem dX7_heaped_6 : decode cX7_heaped 6 = .ok (.if_icmp .ge 18, 3) := by decide +kernel
theorem dX7_heaped_9 : decode cX7_heaped 9 = .ok (.iload_n 1, 1) := by decide +kernel
theorem dX7_heaped_10 : decode cX7_heaped 10 = .ok (.aload_n 0, 1) := by decide +kernel
theorem dX7_heaped_11 : decode cX7_heaped 11 = .ok (.getfield 50, 3) := by decide +kernel
theorem dX7_heaped_14 : decode cX7_heaped 14 = .ok (.iload_n 2, 1) := by decide +kernel
theorem dX7_heaped_15 : decode cX7_heaped 15 = .ok (.iaload, 1) := by decide +kernel
theorem dX7_heaped_16 : decode cX7_heaped 16 = .ok (.iadd, 1) := by decide +kernel
theorem dX7_heaped_17 : decode cX7_heaped 17 = .ok (.istore_n 1, 1) := by decide +kernel
theorem dX7_heaped_18 : decode cX7_heaped 18 = .ok (.iinc 2 1, 3) := by decide +kernel
theorem dX7_heaped_21 : decode cX7_heaped 21 = .ok (.goto (-17), 3) := by decide +kernel
theorem dX7_heaped_24 : decode cX7_heaped 24 = .ok (.iload_n 1, 1) := by decide +kernel
theorem dX7_heaped_25 : decode cX7_heaped 25 = .ok (.ireturn, 1) := by decide +kernel
theorem dX7_heap_0 : decode cX7_heap 0 = .ok (.aload_n 0, 1) := by decide +kernel
theorem dX7_heap_1 : decode cX7_heap 1 = .ok (.iconst 0, 1) := by decide +kernel
theorem dX7_heap_2 : decode cX7_heap 2 = .ok (.putfield 68, 3) := by decide +kernel
theorem dX7_heap_5 : decode cX7_heap 5 = .ok (.iload_n 1, 1) := by decide +kernel
theorem dX7_heap_6 : decode cX7_heap 6 = .ok (.iconst 0, 1) := by decide +kernel
theorem dX7_heap_7 : decode cX7_heap 7 = .ok (.iconst 4, 1) := by decide +kernel
theorem dX7_heap_8 : decode cX7_heap 8 = .ok (.invokestatic 74, 3) := by decide +kernel
theorem dX7_heap_11 : decode cX7_heap 11 = .ok (.ifCond .eq 31, 3) := by decide +kernel
theorem dX7_heap_14 : decode cX7_heap 14 = .ok (.iload_n 2, 1) := by decide +kernel
theorem dX7_heap_15 : decode cX7_heap 15 = .ok (.iconst 0, 1) := by decide +kernel
theorem dX7_heap_16 : decode cX7_heap 16 = .ok (.bipush 60, 2) := by decide +kernel
theorem dX7_heap_18 : decode cX7_heap 18 = .ok (.invokestatic 74, 3) := by decide +kernel
theorem dX7_heap_21 : decode cX7_heap 21 = .ok (.ifCond .eq 21, 3) := by decide +kernel
theorem dX7_heap_24 : decode cX7_heap 24 = .ok (.aload_n 0, 1) := by decide +kernel
theorem dX7_heap_25 : decode cX7_heap 25 = .ok (.invokevirtual 151, 3) := by decide +kernel
theorem dX7_heap_28 : decode cX7_heap 28 = .ok (.aload_n 0, 1) := by decide +kernel
theorem dX7_heap_29 : decode cX7_heap 29 = .ok (.getfield 50, 3) := by decide +kernel
theorem dX7_heap_32 : decode cX7_heap 32 = .ok (.iload_n 1, 1) := by decide +kernel
theorem dX7_heap_33 : decode cX7_heap 33 = .ok (.iaload, 1) := by decide +kernel
theorem dX7_heap_34 : decode cX7_heap 34 = .ok (.isub, 1) := by decide +kernel
theorem dX7_heap_35 : decode cX7_heap 35 = .ok (.iload_n 2, 1) := by decide +kernel
theorem dX7_heap_36 : decode cX7_heap 36 = .ok (.iadd, 1) := by decide +kernel
theorem dX7_heap_37 : decode cX7_heap 37 = .ok (.bipush 60, 2) := by decide +kernel
theorem dX7_heap_39 : decode cX7_heap 39 = .ok (.if_icmp .le 5, 3) := by decide +kernel
theorem dX7_heap_42 : decode cX7_heap 42 = .ok (.iconst 0, 1) := by decide +kernel
theorem dX7_heap_43 : decode cX7_heap 43 = .ok (.ireturn, 1) := by decide +kernel
theorem dX7_heap_44 : decode cX7_heap 44 = .ok (.aload_n 0, 1) := by decide +kernel
theorem dX7_heap_45 : decode cX7_heap 45 = .ok (.getfield 50, 3) := by decide +kernel
theorem dX7_heap_48 : decode cX7_heap 48 = .ok (.iload_n 1, 1) := by decide +kernel
theorem dX7_heap_49 : decode cX7_heap 49 = .ok (.iload_n 2, 1) := by decide +kernel
theorem dX7_heap_50 : decode cX7_heap 50 = .ok (.iastore, 1) := by decide +kernel
theorem dX7_heap_51 : decode cX7_heap 51 = .ok (.iconst 1, 1) := by decide +kernel
theorem dX7_heap_52 : decode cX7_heap 52 = .ok (.ireturn, 1) := by decide +kernel
theorem dX7_gradeAt_0 : decode cX7_gradeAt 0 = .ok (.iload_n 1, 1) := by decide +kernel
theorem dX7_gradeAt_1 : decode cX7_gradeAt 1 = .ok (.istore_n 2, 1) := by decide +kernel
theorem dX7_gradeAt_2 : decode cX7_gradeAt 2 = .ok (.iconst 4, 1) := by decide +kernel
theorem dX7_gradeAt_3 : decode cX7_gradeAt 3 = .ok (.istore_n 3, 1) := by decide +kernel
theorem dX7_gradeAt_4 : decode cX7_gradeAt 4 = .ok (.iload_n 2, 1) := by decide +kernel
theorem dX7_gradeAt_5 : decode cX7_gradeAt 5 = .ok (.aload_n 0, 1) := by decide +kernel
theorem dX7_gradeAt_6 : decode cX7_gradeAt 6 = .ok (.getfield 50, 3) := by decide +kernel
theorem dX7_gradeAt_9 : decode cX7_gradeAt 9 = .ok (.iload_n 3, 1) := by decide +kernel
theorem dX7_gradeAt_10 : decode cX7_gradeAt 10 = .ok (.iaload, 1) := by decide +kernel
theorem dX7_gradeAt_11 : decode cX7_gradeAt 11 = .ok (.if_icmp .lt 18, 3) := by decide +kernel
theorem dX7_gradeAt_14 : decode cX7_gradeAt 14 = .ok (.iload_n 2, 1) := by decide +kernel
theorem dX7_gradeAt_15 : decode cX7_gradeAt 15 = .ok (.aload_n 0, 1) := by decide +kernel
theorem dX7_gradeAt_16 : decode cX7_gradeAt 16 = .ok (.getfield 50, 3) := by decide +kernel
theorem dX7_gradeAt_19 : decode cX7_gradeAt 19 = .ok (.iload_n 3, 1) := by decide +kernel
theorem dX7_gradeAt_20 : decode cX7_gradeAt 20 = .ok (.iaload, 1) := by decide +kernel
theorem dX7_gradeAt_21 : decode cX7_gradeAt 21 = .ok (.isub, 1) := by decide +kernel
theorem dX7_gradeAt_22 : decode cX7_gradeAt 22 = .ok (.istore_n 2, 1) := by decide +kernel
theorem dX7_gradeAt_23 : decode cX7_gradeAt 23 = .ok (.iinc 3 (-1), 3) := by decide +kernel
theorem dX7_gradeAt_26 : decode cX7_gradeAt 26 = .ok (.goto (-22), 3) := by decide +kernel
theorem dX7_gradeAt_29 : decode cX7_gradeAt 29 = .ok (.iload_n 3, 1) := by decide +kernel
theorem dX7_gradeAt_30 : decode cX7_gradeAt 30 = .ok (.ireturn, 1) := by decide +kernel
theorem dX7_string__0 : decode cX7_string_ 0 = .ok (.aload_n 0, 1) := by decide +kernel
theorem dX7_string__1 : decode cX7_string_ 1 = .ok (.invokevirtual 151, 3) := by decide +kernel
theorem dX7_string__4 : decode cX7_string_ 4 = .ok (.istore_n 1, 1) := by decide +kernel
theorem dX7_string__5 : decode cX7_string_ 5 = .ok (.aload_n 0, 1) := by decide +kernel
theorem dX7_string__6 : decode cX7_string_ 6 = .ok (.getfield 59, 3) := by decide +kernel
theorem dX7_string__9 : decode cX7_string_ 9 = .ok (.iload_n 1, 1) := by decide +kernel
theorem dX7_string__10 : decode cX7_string_ 10 = .ok (.iconst 0, 1) := by decide +kernel
theorem dX7_string__11 : decode cX7_string_ 11 = .ok (.iastore, 1) := by decide +kernel
theorem dX7_string__12 : decode cX7_string_ 12 = .ok (.aload_n 0, 1) := by decide +kernel
theorem dX7_string__13 : decode cX7_string_ 13 = .ok (.getfield 62, 3) := by decide +kernel
theorem dX7_string__16 : decode cX7_string_ 16 = .ok (.iload_n 1, 1) := by decide +kernel
theorem dX7_string__17 : decode cX7_string_ 17 = .ok (.iconst 0, 1) := by decide +kernel
theorem dX7_string__18 : decode cX7_string_ 18 = .ok (.iastore, 1) := by decide +kernel
theorem dX7_string__19 : decode cX7_string_ 19 = .ok (.iload_n 1, 1) := by decide +kernel
theorem dX7_string__20 : decode cX7_string_ 20 = .ok (.iconst 1, 1) := by decide +kernel
theorem dX7_string__21 : decode cX7_string_ 21 = .ok (.isub, 1) := by decide +kernel
theorem dX7_string__22 : decode cX7_string_ 22 = .ok (.istore_n 2, 1) := by decide +kernel
theorem dX7_string__23 : decode cX7_string_ 23 = .ok (.iload_n 2, 1) := by decide +kernel
theorem dX7_string__24 : decode cX7_string_ 24 = .ok (.ifCond .lt 121, 3) := by decide +kernel
theorem dX7_string__27 : decode cX7_string_ 27 = .ok (.aload_n 0, 1) := by decide +kernel
theorem dX7_string__28 : decode cX7_string_ 28 = .ok (.getfield 59, 3) := by decide +kernel
theorem dX7_string__31 : decode cX7_string_ 31 = .ok (.iload_n 2, 1) := by decide +kernel
theorem dX7_string__32 : decode cX7_string_ 32 = .ok (.iconst (-1), 1) := by decide +kernel
theorem dX7_string__33 : decode cX7_string_ 33 = .ok (.iastore, 1) := by decide +kernel
theorem dX7_string__34 : decode cX7_string_ 34 = .ok (.iload_n 1, 1) := by decide +kernel
theorem dX7_string__35 : decode cX7_string_ 35 = .ok (.istore_n 3, 1) := by decide +kernel
theorem dX7_string__36 : decode cX7_string_ 36 = .ok (.iload_n 3, 1) := by decide +kernel
theorem dX7_string__37 : decode cX7_string_ 37 = .ok (.iload_n 2, 1) := by decide +kernel
theorem dX7_string__38 : decode cX7_string_ 38 = .ok (.if_icmp .le 101, 3) := by decide +kernel
theorem dX7_string__41 : decode cX7_string_ 41 = .ok (.aload_n 0, 1) := by decide +kernel
theorem dX7_string__42 : decode cX7_string_ 42 = .ok (.iload_n 3, 1) := by decide +kernel
theorem dX7_string__43 : decode cX7_string_ 43 = .ok (.iload_n 2, 1) := by decide +kernel
theorem dX7_string__44 : decode cX7_string_ 44 = .ok (.isub, 1) := by decide +kernel
theorem dX7_string__45 : decode cX7_string_ 45 = .ok (.aload_n 0, 1) := by decide +kernel
theorem dX7_string__46 : decode cX7_string_ 46 = .ok (.iload_n 3, 1) := by decide +kernel
theorem dX7_string__47 : decode cX7_string_ 47 = .ok (.iconst 1, 1) := by decide +kernel
theorem dX7_string__48 : decode cX7_string_ 48 = .ok (.isub, 1) := by decide +kernel
theorem dX7_string__49 : decode cX7_string_ 49 = .ok (.invokevirtual 155, 3) := by decide +kernel
theorem dX7_string__52 : decode cX7_string_ 52 = .ok (.invokevirtual 120, 3) := by decide +kernel
theorem dX7_string__55 : decode cX7_string_ 55 = .ok (.aload_n 0, 1) := by decide +kernel
theorem dX7_string__56 : decode cX7_string_ 56 = .ok (.getfield 59, 3) := by decide +kernel
theorem dX7_string__59 : decode cX7_string_ 59 = .ok (.iload_n 3, 1) := by decide +kernel
theorem dX7_string__60 : decode cX7_string_ 60 = .ok (.iaload, 1) := by decide +kernel
theorem dX7_string__61 : decode cX7_string_ 61 = .ok (.iadd, 1) := by decide +kernel
theorem dX7_string__62 : decode cX7_string_ 62 = .ok (.istore 4, 2) := by decide +kernel
theorem dX7_string__64 : decode cX7_string_ 64 = .ok (.iconst 1, 1) := by decide +kernel
theorem dX7_string__65 : decode cX7_string_ 65 = .ok (.aload_n 0, 1) := by decide +kernel
theorem dX7_string__66 : decode cX7_string_ 66 = .ok (.getfield 62, 3) := by decide +kernel
theorem dX7_string__69 : decode cX7_string_ 69 = .ok (.iload_n 3, 1) := by decide +kernel
theorem dX7_string__70 : decode cX7_string_ 70 = .ok (.iaload, 1) := by decide +kernel
theorem dX7_string__71 : decode cX7_string_ 71 = .ok (.iadd, 1) := by decide +kernel
theorem dX7_string__72 : decode cX7_string_ 72 = .ok (.istore 5, 2) := by decide +kernel
theorem dX7_string__74 : decode cX7_string_ 74 = .ok (.iload 4, 2) := by decide +kernel
theorem dX7_string__76 : decode cX7_string_ 76 = .ok (.aload_n 0, 1) := by decide +kernel
theorem dX7_string__77 : decode cX7_string_ 77 = .ok (.getfield 59, 3) := by decide +kernel
theorem dX7_string__80 : decode cX7_string_ 80 = .ok (.iload_n 2, 1) := by decide +kernel
theorem dX7_string__81 : decode cX7_string_ 81 = .ok (.iaload, 1) := by decide +kernel
theorem dX7_string__82 : decode cX7_string_ 82 = .ok (.if_icmp .lt 51, 3) := by decide +kernel
theorem dX7_string__85 : decode cX7_string_ 85 = .ok (.iload 4, 2) := by decide +kernel
theorem dX7_string__87 : decode cX7_string_ 87 = .ok (.aload_n 0, 1) := by decide +kernel
theorem dX7_string__88 : decode cX7_string_ 88 = .ok (.getfield 59, 3) := by decide +kernel
theorem dX7_string__91 : decode cX7_string_ 91 = .ok (.iload_n 2, 1) := by decide +kernel
theorem dX7_string__92 : decode cX7_string_ 92 = .ok (.iaload, 1) := by decide +kernel
theorem dX7_string__93 : decode cX7_string_ 93 = .ok (.if_icmp .ne 17, 3) := by decide +kernel
theorem dX7_string__96 : decode cX7_string_ 96 = .ok (.iload 5, 2) := by decide +kernel
theorem dX7_string__98 : decode cX7_string_ 98 = .ok (.aload_n 0, 1) := by decide +kernel
theorem dX7_string__99 : decode cX7_string_ 99 = .ok (.getfield 62, 3) := by decide +kernel
theorem dX7_string__102 : decode cX7_string_ 102 = .ok (.iload_n 2, 1) := by decide +kernel
theorem dX7_string__103 : decode cX7_string_ 103 = .ok (.iaload, 1) := by decide +kernel
theorem dX7_string__104 : decode cX7_string_ 104 = .ok (.if_icmp .lt 6, 3) := by decide +kernel
theorem dX7_string__107 : decode cX7_string_ 107 = .ok (.goto 26, 3) := by decide +kernel
theorem dX7_string__110 : decode cX7_string_ 110 = .ok (.aload_n 0, 1) := by decide +kernel
theorem dX7_string__111 : decode cX7_string_ 111 = .ok (.getfield 59, 3) := by decide +kernel
theorem dX7_string__114 : decode cX7_string_ 114 = .ok (.iload_n 2, 1) := by decide +kernel
theorem dX7_string__115 : decode cX7_string_ 115 = .ok (.iload 4, 2) := by decide +kernel
theorem dX7_string__117 : decode cX7_string_ 117 = .ok (.iastore, 1) := by decide +kernel
theorem dX7_string__118 : decode cX7_string_ 118 = .ok (.aload_n 0, 1) := by decide +kernel
theorem dX7_string__119 : decode cX7_string_ 119 = .ok (.getfield 62, 3) := by decide +kernel
theorem dX7_string__122 : decode cX7_string_ 122 = .ok (.iload_n 2, 1) := by decide +kernel
theorem dX7_string__123 : decode cX7_string_ 123 = .ok (.iload 5, 2) := by decide +kernel
theorem dX7_string__125 : decode cX7_string_ 125 = .ok (.iastore, 1) := by decide +kernel
theorem dX7_string__126 : decode cX7_string_ 126 = .ok (.aload_n 0, 1) := by decide +kernel
theorem dX7_string__127 : decode cX7_string_ 127 = .ok (.getfield 65, 3) := by decide +kernel
theorem dX7_string__130 : decode cX7_string_ 130 = .ok (.iload_n 2, 1) := by decide +kernel
theorem dX7_string__131 : decode cX7_string_ 131 = .ok (.iload_n 3, 1) := by decide +kernel
theorem dX7_string__132 : decode cX7_string_ 132 = .ok (.iastore, 1) := by decide +kernel
theorem dX7_string__133 : decode cX7_string_ 133 = .ok (.iinc 3 (-1), 3) := by decide +kernel
theorem dX7_string__136 : decode cX7_string_ 136 = .ok (.goto (-100), 3) := by decide +kernel
theorem dX7_string__139 : decode cX7_string_ 139 = .ok (.iinc 2 (-1), 3) := by decide +kernel
theorem dX7_string__142 : decode cX7_string_ 142 = .ok (.goto (-119), 3) := by decide +kernel
theorem dX7_string__145 : decode cX7_string_ 145 = .ok (.return_, 1) := by decide +kernel
theorem dX7_strung_0 : decode cX7_strung 0 = .ok (.aload_n 0, 1) := by decide +kernel
theorem dX7_strung_1 : decode cX7_strung 1 = .ok (.iconst 0, 1) := by decide +kernel
theorem dX7_strung_2 : decode cX7_strung 2 = .ok (.putfield 68, 3) := by decide +kernel
theorem dX7_strung_5 : decode cX7_strung 5 = .ok (.aload_n 0, 1) := by decide +kernel
theorem dX7_strung_6 : decode cX7_strung 6 = .ok (.invokevirtual 158, 3) := by decide +kernel
theorem dX7_strung_9 : decode cX7_strung 9 = .ok (.aload_n 0, 1) := by decide +kernel
theorem dX7_strung_10 : decode cX7_strung 10 = .ok (.getfield 59, 3) := by decide +kernel
theorem dX7_strung_13 : decode cX7_strung 13 = .ok (.iconst 0, 1) := by decide +kernel
theorem dX7_strung_14 : decode cX7_strung 14 = .ok (.iaload, 1) := by decide +kernel
theorem dX7_strung_15 : decode cX7_strung 15 = .ok (.ireturn, 1) := by decide +kernel
theorem dX7_strings_0 : decode cX7_strings 0 = .ok (.aload_n 0, 1) := by decide +kernel
theorem dX7_strings_1 : decode cX7_strings 1 = .ok (.iconst 0, 1) := by decide +kernel
theorem dX7_strings_2 : decode cX7_strings 2 = .ok (.putfield 68, 3) := by decide +kernel
theorem dX7_strings_5 : decode cX7_strings 5 = .ok (.aload_n 0, 1) := by decide +kernel
theorem dX7_strings_6 : decode cX7_strings 6 = .ok (.invokevirtual 158, 3) := by decide +kernel
theorem dX7_strings_9 : decode cX7_strings 9 = .ok (.aload_n 0, 1) := by decide +kernel
theorem dX7_strings_10 : decode cX7_strings 10 = .ok (.getfield 62, 3) := by decide +kernel
theorem dX7_strings_13 : decode cX7_strings 13 = .ok (.iconst 0, 1) := by decide +kernel
theorem dX7_strings_14 : decode cX7_strings 14 = .ok (.iaload, 1) := by decide +kernel
theorem dX7_strings_15 : decode cX7_strings 15 = .ok (.ireturn, 1) := by decide +kernel
theorem dX7_part_0 : decode cX7_part 0 = .ok (.aload_n 0, 1) := by decide +kernel
theorem dX7_part_1 : decode cX7_part 1 = .ok (.iconst 0, 1) := by decide +kernel
theorem dX7_part_2 : decode cX7_part 2 = .ok (.putfield 68, 3) := by decide +kernel
theorem dX7_part_5 : decode cX7_part 5 = .ok (.aload_n 0, 1) := by decide +kernel
theorem dX7_part_6 : decode cX7_part 6 = .ok (.invokevirtual 158, 3) := by decide +kernel
theorem dX7_part_9 : decode cX7_part 9 = .ok (.iload_n 1, 1) := by decide +kernel
theorem dX7_part_10 : decode cX7_part 10 = .ok (.iconst 0, 1) := by decide +kernel
theorem dX7_part_11 : decode cX7_part 11 = .ok (.aload_n 0, 1) := by decide +kernel
theorem dX7_part_12 : decode cX7_part 12 = .ok (.getfield 62, 3) := by decide +kernel
theorem dX7_part_15 : decode cX7_part 15 = .ok (.iconst 0, 1) := by decide +kernel
theorem dX7_part_16 : decode cX7_part 16 = .ok (.iaload, 1) := by decide +kernel
theorem dX7_part_17 : decode cX7_part 17 = .ok (.iconst 1, 1) := by decide +kernel
theorem dX7_part_18 : decode cX7_part 18 = .ok (.isub, 1) := by decide +kernel
theorem dX7_part_19 : decode cX7_part 19 = .ok (.invokestatic 74, 3) := by decide +kernel
theorem dX7_part_22 : decode cX7_part 22 = .ok (.ifCond .ne 5, 3) := by decide +kernel
theorem dX7_part_25 : decode cX7_part 25 = .ok (.iconst (-1), 1) := by decide +kernel
theorem dX7_part_26 : decode cX7_part 26 = .ok (.ireturn, 1) := by decide +kernel
theorem dX7_part_27 : decode cX7_part 27 = .ok (.iconst 0, 1) := by decide +kernel
theorem dX7_part_28 : decode cX7_part 28 = .ok (.istore_n 2, 1) := by decide +kernel
theorem dX7_part_29 : decode cX7_part 29 = .ok (.iconst 0, 1) := by decide +kernel
theorem dX7_part_30 : decode cX7_part 30 = .ok (.istore_n 3, 1) := by decide +kernel
theorem dX7_part_31 : decode cX7_part 31 = .ok (.iload_n 3, 1) := by decide +kernel
theorem dX7_part_32 : decode cX7_part 32 = .ok (.iload_n 1, 1) := by decide +kernel
theorem dX7_part_33 : decode cX7_part 33 = .ok (.if_icmp .ge 16, 3) := by decide +kernel
theorem dX7_part_36 : decode cX7_part 36 = .ok (.aload_n 0, 1) := by decide +kernel
theorem dX7_part_37 : decode cX7_part 37 = .ok (.getfield 65, 3) := by decide +kernel
theorem dX7_part_40 : decode cX7_part 40 = .ok (.iload_n 2, 1) := by decide +kernel
theorem dX7_part_41 : decode cX7_part 41 = .ok (.iaload, 1) := by decide +kernel
theorem dX7_part_42 : decode cX7_part 42 = .ok (.istore_n 2, 1) := by decide +kernel
theorem dX7_part_43 : decode cX7_part 43 = .ok (.iinc 3 1, 3) := by decide +kernel
theorem dX7_part_46 : decode cX7_part 46 = .ok (.goto (-15), 3) := by decide +kernel
theorem dX7_part_49 : decode cX7_part 49 = .ok (.aload_n 0, 1) := by decide +kernel
theorem dX7_part_50 : decode cX7_part 50 = .ok (.getfield 65, 3) := by decide +kernel
theorem dX7_part_53 : decode cX7_part 53 = .ok (.iload_n 2, 1) := by decide +kernel
theorem dX7_part_54 : decode cX7_part 54 = .ok (.iaload, 1) := by decide +kernel
theorem dX7_part_55 : decode cX7_part 55 = .ok (.iload_n 2, 1) := by decide +kernel
theorem dX7_part_56 : decode cX7_part 56 = .ok (.isub, 1) := by decide +kernel
theorem dX7_part_57 : decode cX7_part 57 = .ok (.ireturn, 1) := by decide +kernel
end
section
/-! THE PURE HEAP: cells by number (address minus base b), what they hold; int rows, rows of references, objects; 'none' is a cell of which nothing is said -/
abbrev sm_C : Type := (Nat × (Nat → Int32)) ⊕ ((Nat × Nat × (Nat → Option Nat)) ⊕ (Nat × List Value))
abbrev sm_M : Type := List (Option sm_C)
abbrev sm_i (n : Nat) (f : Nat → Int32) : Option sm_C := some (.inl (n, f))
abbrev sm_r (t n : Nat) (f : Nat → Option Nat) : Option sm_C := some (.inr (.inl (t, n, f)))
abbrev sm_o (c : Nat) (fs : List Value) : Option sm_C := some (.inr (.inr (c, fs)))
/-- a pure value as the machine has it -/
def sm_s (b : Nat) (v : Value) : Value := match v with
  | .ref k => .ref (b + k)
  | w => w
theorem sm_s_cat (b : Nat) (v : Value) : (sm_s b v).category = v.category := by cases v <;> rfl
def sm_v (b : Nat) (cA : Nat → ClassId) (x : sm_C) : va_E := match x with
  | .inl (n, f) => .inl (cA 0, n, .inl f)
  | .inr (.inl (t, n, f)) => .inl (cA t, n, .inr (.inr (.inr (.inr (fun j => (f j).map (fun k => b + k))))))
  | .inr (.inr (c, fs)) => .inr (c, fs.map (sm_s b))
def sm_H (b : Nat) (D : va_G) (cA : Nat → ClassId) (M : sm_M) (H : Heap) : Prop := H.size = b + M.length ∧ ∀ (k : Nat) (x : sm_C), M[k]? = some (some x) → va_at D vwCl (b + k, sm_v b cA x) H
def sm_ty (cA : Nat → ClassId) : List (ClassId × FieldType) := [(cA 0, .int), (cA 1, .object RX4), (cA 2, .object RX0)]
/-! words: the good ones of the tables; those of nest mates -/
def sm_isN (w : Cond) : Bool := match w with
  | .fieldLinkNest .. => true
  | .methodLinkNest .. => true
  | .castable .. => true
  | .arrayOver (.object _) => true
  | _ => false
def sm_nb : List Cond := tables_1.filter sm_isN
def sm_tb : List Cond := lw_tbl.filter goodWord
/-- the static rows that nobody writes -/
def sm_Zs : List (String × (Nat → Value)) := [("FIRST_RATES", fun j => .int (([1, 2, 4, 7, 11] : List Int32).getD j 0)), ("FIRST_BONUSES", fun j => .int (([0, 5, 10, 20, 40] : List Int32).getD j 0)), ("FIRST_FLOODS", fun _ => .int 50)]
def sm_Z (b : Nat) (U : State) : Prop := ∀ q ∈ sm_Zs, ∃ t : Nat, va_Z RX6 q.1 "[I" (.ref t) (fun a => b ≤ a) U U.heap ∧ va_T .int t 5 q.2 (fun a => b ≤ a) U U.heap
def sm_K (b : Nat) (D : va_G) (cA : Nat → ClassId) (U : State) : Prop := va_K D vwCl (sm_ty cA) U ∧ (∀ w ∈ sm_nb, va_Nw w U) ∧ sm_Z b U
theorem sm_Z.to {b : Nat} {s U : State} (hv : s.vm.Alike U.vm) (hq : ∀ a : Nat, a < s.heap.size → ¬ b ≤ a → U.heap[a]? = s.heap[a]?) (h : sm_Z b s) : sm_Z b U := fun q hq2 => by
  obtain ⟨t, h1, h2⟩ := h q hq2
  exact ⟨t, (h1.kept hq).moved hv, (h2.kept hq).moved hv⟩
theorem sm_K.warm {b : Nat} {D : va_G} {cA : Nat → ClassId} {s U : State} (hW : s.WarmedH U.vm) (hq : ∀ a : Nat, a < s.heap.size → ¬ b ≤ a → U.heap[a]? = s.heap[a]?) (h : sm_K b D cA s) : sm_K b D cA U := by
  refine ⟨va_K.moved hW.alike h.1, fun w hw => ?_, h.2.2.to hW.alike hq⟩
  have h1 := h.2.1 w hw
  have h2 := (List.mem_filter.mp hw).2
  cases w <;> first | exact va_Nw.warmF hW h1 | exact va_Nw.warmM hW h1 | exact va_Nw.warmC hW h1 | cases h2 | (rename_i t; cases t <;> first | exact va_AO.moved hW.alike h1 | cases h2)
theorem sm_K.same {b : Nat} {D : va_G} {cA : Nat → ClassId} {u U : State} (hv : u.vm = U.vm) (hh : u.heap = U.heap) (h : sm_K b D cA u) : sm_K b D cA U := by
  refine ⟨va_K.moved (by rw [hv]; exact Vm.Alike.refl U.vm) h.1, fun w hw => ?_, h.2.2.to (by rw [hv]; exact Vm.Alike.refl U.vm) (fun a _ _ => by rw [hh])⟩
  have h1 := h.2.1 w hw
  have h2 := (List.mem_filter.mp hw).2
  cases w <;> first | exact va_Nw.same rfl hv h1 | cases h2 | (rename_i t; cases t <;> first | exact va_AO.moved (by rw [hv]; exact Vm.Alike.refl U.vm) h1 | cases h2)
/-! locals -/
def sm_L (b nL : Nat) (L : List (Option Value)) (ls : Array Slot) : Prop := ls.size = nL ∧ lv_wf ls ∧ ∀ (i : Nat) (v : Value), L[i]? = some (some v) → v.category = 1 ∧ ls[i]? = some (.val (sm_s b v))
theorem sm_L.at {b nL : Nat} {L : List (Option Value)} {ls : Array Slot} (h : sm_L b nL L ls) {i : Nat} {v : Value} (hi : L[i]? = some (some v)) : ls[i]? = some (.val (sm_s b v)) := (h.2.2 i v hi).2
def sm_pr (b : Nat) (L : List (Option Value)) : List (Nat × Value) := (List.range L.length).filterMap (fun j => match L[j]? with
  | some (some v) => some (j, sm_s b v)
  | _ => none)
theorem sm_pr_mem {b : Nat} {L : List (Option Value)} {q : Nat × Value} : q ∈ sm_pr b L ↔ ∃ v, L[q.1]? = some (some v) ∧ q.2 = sm_s b v := by
  unfold sm_pr
  rw [List.mem_filterMap]
  constructor
  · rintro ⟨j, -, h⟩
    cases hj : L[j]? with
    | none => rw [hj] at h; cases h
    | some o =>
      cases o with
      | none => rw [hj] at h; cases h
      | some v =>
        rw [hj] at h
        cases h
        exact ⟨v, hj, rfl⟩
  · rintro ⟨v, h1, h2⟩
    refine ⟨q.1, List.mem_range.mpr (List.getElem?_eq_some_iff.mp h1).1, ?_⟩
    rw [h1]
    show some (q.1, sm_s b v) = some q
    rw [← h2]
theorem sm_L.pairs {b nL : Nat} {L : List (Option Value)} {ls : Array Slot} (h : sm_L b nL L ls) : lv_has ls nL (sm_pr b L) := by
  refine ⟨h.1, h.2.1, fun q hq => ?_⟩
  obtain ⟨v, h1, h2⟩ := sm_pr_mem.mp hq
  rw [h2]
  exact h.at h1
theorem sm_L.back {b nL i : Nat} {L : List (Option Value)} {ls ls' : Array Slot} {v : Value} (h0 : sm_L b nL L ls) (hc : v.category = 1) (h : lv_has ls' nL ((i, sm_s b v) :: (sm_pr b L).filter (fun q => !(q.1 == i) && !(q.1 + 1 == i && q.2.category == 2)))) : sm_L b nL (L.set i (some v)) ls' := by
  refine ⟨h.1, h.2.1, fun j w hj => ?_⟩
  by_cases hji : j = i
  · subst hji
    have hl : j < L.length := by
      have := (List.getElem?_eq_some_iff.mp hj).1
      rwa [List.length_set] at this
    rw [List.getElem?_set_self hl] at hj
    cases hj
    exact ⟨hc, h.2.2 (j, sm_s b v) List.mem_cons_self⟩
  · rw [List.getElem?_set_ne (Ne.symm hji)] at hj
    obtain ⟨c1, c2⟩ := h0.2.2 j w hj
    refine ⟨c1, h.2.2 (j, sm_s b w) (List.mem_cons_of_mem _ (List.mem_filter.mpr ⟨sm_pr_mem.mpr ⟨w, hj, rfl⟩, ?_⟩))⟩
    have hcat := sm_s_cat b w
    rw [c1] at hcat
    simp [hji, hcat]
theorem sm_args_mem {b : Nat} : ∀ (vs : List Value) (k : Nat), vs.all (fun v => v.category == 1) = true → ∀ (i : Nat) (v : Value), vs[i]? = some v → (k + i, sm_s b v) ∈ lv_args k (vs.map (sm_s b))
  | [], _, _, i, v, h => by simp at h
  | w :: vs, k, hc, i, v, h => by
    simp only [List.all_cons, Bool.and_eq_true, beq_iff_eq] at hc
    have hw : ¬ (sm_s b w).category = 2 := by rw [sm_s_cat, hc.1]; decide
    show (k + i, sm_s b v) ∈ (k, sm_s b w) :: lv_args (if (sm_s b w).category = 2 then k + 2 else k + 1) (vs.map (sm_s b))
    rw [if_neg hw]
    cases i with
    | zero =>
      cases h
      exact List.mem_cons_self
    | succ i =>
      refine List.mem_cons_of_mem _ ?_
      have := sm_args_mem (b := b) vs (k + 1) hc.2 i v h
      rwa [show k + 1 + i = k + (i + 1) by omega] at this
theorem sm_L.entry {b nL : Nat} {vs : List Value} {ls : Array Slot} (hc : vs.all (fun v => v.category == 1) = true) (h : lv_has ls nL (lv_args 0 (vs.map (sm_s b)))) : sm_L b nL (vs.map some ++ List.replicate (nL - vs.length) none) ls := by
  refine ⟨h.1, h.2.1, fun i v hi => ?_⟩
  by_cases hl : i < vs.length
  · rw [List.getElem?_append_left (by rw [List.length_map]; exact hl), List.getElem?_map] at hi
    cases hv : vs[i]? with
    | none => rw [hv] at hi; cases hi
    | some w =>
      rw [hv] at hi
      have hwv : w = v := Option.some.inj (Option.some.inj hi)
      subst hwv
      have hm : w ∈ vs := List.mem_of_getElem? hv
      have h1 := sm_args_mem (b := b) vs 0 hc i w hv
      rw [Nat.zero_add] at h1
      exact ⟨by simpa using List.all_eq_true.mp hc w hm, h.2.2 _ h1⟩
  · rw [List.getElem?_append_right (by rw [List.length_map]; omega)] at hi
    have := List.eq_of_mem_replicate (List.mem_of_getElem? hi)
    cases this
/-! what a method's activation stands on; its end; the judgement G: from here the method comes to its end with Post -/
def sm_Cx (b : Nat) (D : va_G) (cA : Nat → ClassId) (y : MethodName) (cc : ByteArray) (nL : Nat) (ret : Option FieldType) (fr mc ms : Nat) (p : Program) (R : Room) (s : State) (m : MethodId) (args : Array Value) (meth : Method) (c : Code) : Prop :=
  p.tables.exec = Jvm.exec ∧ c.code = cc ∧ c.maxLocals = nL ∧ s.vm.findClass y.cls = some m.cls ∧ (∀ w ∈ sm_tb, w.before args s = true) ∧ meth.locks = false ∧ meth.sig.returnType = ret ∧ sm_K b D cA s ∧ meth.name = y.name ∧ R.frames = fr ∧ R.cells = mc ∧ R.slots = ms ∧ R.locals = 32 * fr
def sm_Q (b : Nat) (D : va_G) (cA : Nat → ClassId) (Post : Option Value → sm_M → Prop) : Array Value → State → Outcome → State → Prop := fun _ st oc t => (∃ (r : Option Value) (M1 : sm_M), oc = .returned (r.map (sm_s b)) ∧ Post r M1 ∧ sm_H b D cA M1 t.heap) ∧ va_F (fun q => b ≤ q) st t
def sm_G (l : Launch) (b : Nat) (D : va_G) (cA : Nat → ClassId) (y : MethodName) (cc : ByteArray) (nL : Nat) (ret : Option FieldType) (fr mc ms : Nat) (Post : Option Value → sm_M → Prop) (k n pc : Nat) (L : List (Option Value)) (st : List Value) (M : sm_M) : Prop :=
  ∀ (p : Program) (e : Env) (R : Room) (s : State) (m : MethodId) (args : Array Value) (below : List Frame) (meth : Method) (c : Code), sm_Cx b D cA y cc nL ret fr mc ms p R s m args meth c →
    ∀ (H : Heap) (locs : List Loc) (ls : Array Slot), sm_H b D cA M H → va_S (fun q => b ≤ q) s.heap H locs → sm_L b nL L ls →
      W p l e R s m args below meth c H locs k n (MQ below (sm_Q b D cA Post) args s mc ms (fun q => b ≤ q)) (F0 m pc ls (st.map (sm_s b)))
/-- a method's contract -/
def sm_Ct (l : Launch) (b : Nat) (D : va_G) (cA : Nat → ClassId) (y : MethodName) (cc : ByteArray) (nL : Nat) (ret : Option FieldType) (fr mc ms : Nat) (av : List Value) (M : sm_M) (Post : Option Value → sm_M → Prop) : Prop :=
  Met l y (.code y cc nL ret :: sm_tb) ({ frames := fr, cells := mc, slots := ms, locals := 32 * fr }) (va_Pc (av.map (sm_s b)) (fun U => sm_H b D cA M U.heap ∧ sm_K b D cA U)) (sm_Q b D cA Post) mc ms (fun q => b ≤ q)
section SMR
variable {l : Launch} {b : Nat} {D : va_G} {cA : Nat → ClassId} {y : MethodName} {cc : ByteArray} {nL : Nat} {ret : Option FieldType} {fr mc ms : Nat} {Post : Option Value → sm_M → Prop} {k n pc : Nat} {L : List (Option Value)} {st : List Value} {M : sm_M}
theorem sm_enter {av : List Value} (hy : plainName y.cls = true) (hc : av.all (fun v => v.category == 1) = true) (hlen : ∀ b : Nat, (lg_sl (av.map (sm_s b))).length ≤ nL) (h : sm_G l b D cA y cc nL ret fr mc ms Post 0 0 0 (av.map some ++ List.replicate (nL - av.length) none) [] M) : sm_Ct l b D cA y cc nL ret fr mc ms av M Post := by
  refine Met.ofW (cc := cc) (maxL := nL) (ret := ret) hy rfl ?_
  intro p e s m args below meth c s₁ B hml hv
  obtain ⟨rfl, hH, hK⟩ := hv
  have hts := atoms_spec (ws := .code y cc nL ret :: sm_tb) B.pre
  have hl := lv_entry (av.map (sm_s b)) (n := nL) (hlen b)
  rw [lg_entry_eq]
  generalize (lg_sl (av.map (sm_s b)) ++ List.replicate (nL - (lg_sl (av.map (sm_s b))).length) Slot.unset).toArray = ls at hl ⊢
  exact h p e _ s m _ below meth c ⟨B.exec, B.bytes, hml, findClass_of_methodNamed B.named, fun w hw => hts w (List.mem_cons_of_mem _ hw), B.notSynchronized, B.returns, hK, (name_of_methodNamed B.named B.method).1, rfl, rfl, rfl, rfl⟩ s.heap [] ls hH va_S.rf (sm_L.entry hc hl)
theorem sg_eq {M2 : sm_M} (e : M = M2) (h : sm_G l b D cA y cc nL ret fr mc ms Post k n pc L st M2) : sm_G l b D cA y cc nL ret fr mc ms Post k n pc L st M := e ▸ h
theorem sg_iconst {z : Int} (x : Int32) (hd : decode cc pc = .ok (.iconst z, 1)) (hx : Int32.ofInt z = x) (h : sm_G l b D cA y cc nL ret fr mc ms Post k n (pc + 1) L (.int x :: st) M) : sm_G l b D cA y cc nL ret fr mc ms Post k n pc L st M := fun p e R s m args below meth c C H locs ls hH hS hL => lv_iconst C.1 C.2.1 hd hx (h p e R s m args below meth c C H locs ls hH hS hL)
theorem sg_bipush {z : Int} (x : Int32) (hd : decode cc pc = .ok (.bipush z, 2)) (hx : (Int8.ofInt z).toInt32 = x) (h : sm_G l b D cA y cc nL ret fr mc ms Post k n (pc + 2) L (.int x :: st) M) : sm_G l b D cA y cc nL ret fr mc ms Post k n pc L st M := fun p e R s m args below meth c C H locs ls hH hS hL => lv_bipush C.1 C.2.1 hd hx (h p e R s m args below meth c C H locs ls hH hS hL)
theorem sg_sipush {z : Int} (x : Int32) (hd : decode cc pc = .ok (.sipush z, 3)) (hx : (Int16.ofInt z).toInt32 = x) (h : sm_G l b D cA y cc nL ret fr mc ms Post k n (pc + 3) L (.int x :: st) M) : sm_G l b D cA y cc nL ret fr mc ms Post k n pc L st M := fun p e R s m args below meth c C H locs ls hH hS hL => lv_sipush C.1 C.2.1 hd hx (h p e R s m args below meth c C H locs ls hH hS hL)
theorem sg_ldc {i : Nat} (x : Int32) (hd : decode cc pc = .ok (.ldc i, 2)) (hx : Cond.constant y.cls i x ∈ sm_tb) (h : sm_G l b D cA y cc nL ret fr mc ms Post k n (pc + 2) L (.int x :: st) M) : sm_G l b D cA y cc nL ret fr mc ms Post k n pc L st M := fun p e R s m args below meth c C H locs ls hH hS hL => lv_ldc C.1 C.2.1 C.2.2.2.1 (C.2.2.2.2.1 _ hx) hd (h p e R s m args below meth c C H locs ls hH hS hL)
theorem sg_ldcw {i : Nat} (x : Int32) (hd : decode cc pc = .ok (.ldc_w i, 3)) (hx : Cond.constant y.cls i x ∈ sm_tb) (h : sm_G l b D cA y cc nL ret fr mc ms Post k n (pc + 3) L (.int x :: st) M) : sm_G l b D cA y cc nL ret fr mc ms Post k n pc L st M := fun p e R s m args below meth c C H locs ls hH hS hL => lv_ldcw C.1 C.2.1 C.2.2.2.1 (C.2.2.2.2.1 _ hx) hd (h p e R s m args below meth c C H locs ls hH hS hL)
theorem sg_iload_n {j : Fin 4} {x : Int32} (hd : decode cc pc = .ok (.iload_n j, 1)) (hl : L[(j : Nat)]? = some (some (.int x))) (h : sm_G l b D cA y cc nL ret fr mc ms Post k n (pc + 1) L (.int x :: st) M) : sm_G l b D cA y cc nL ret fr mc ms Post k n pc L st M := fun p e R s m args below meth c C H locs ls hH hS hL => lv_iload_n C.1 C.2.1 hd rfl (hL.at hl) (h p e R s m args below meth c C H locs ls hH hS hL)
theorem sg_iload {j : Nat} {x : Int32} (hd : decode cc pc = .ok (.iload j, 2)) (hl : L[j]? = some (some (.int x))) (h : sm_G l b D cA y cc nL ret fr mc ms Post k n (pc + 2) L (.int x :: st) M) : sm_G l b D cA y cc nL ret fr mc ms Post k n pc L st M := fun p e R s m args below meth c C H locs ls hH hS hL => lv_iload C.1 C.2.1 hd (hL.at hl) (h p e R s m args below meth c C H locs ls hH hS hL)
theorem sg_aload_n {j : Fin 4} {x : Nat} (hd : decode cc pc = .ok (.aload_n j, 1)) (hl : L[(j : Nat)]? = some (some (.ref x))) (h : sm_G l b D cA y cc nL ret fr mc ms Post k n (pc + 1) L (.ref x :: st) M) : sm_G l b D cA y cc nL ret fr mc ms Post k n pc L st M := fun p e R s m args below meth c C H locs ls hH hS hL => lv_aload_n C.1 C.2.1 hd rfl (hL.at hl) (h p e R s m args below meth c C H locs ls hH hS hL)
theorem sg_aload {j x : Nat} (hd : decode cc pc = .ok (.aload j, 2)) (hl : L[j]? = some (some (.ref x))) (h : sm_G l b D cA y cc nL ret fr mc ms Post k n (pc + 2) L (.ref x :: st) M) : sm_G l b D cA y cc nL ret fr mc ms Post k n pc L st M := fun p e R s m args below meth c C H locs ls hH hS hL => lv_aload C.1 C.2.1 hd (hL.at hl) (h p e R s m args below meth c C H locs ls hH hS hL)
theorem sg_aload_nN {j : Fin 4} (hd : decode cc pc = .ok (.aload_n j, 1)) (hl : L[(j : Nat)]? = some (some .null)) (h : sm_G l b D cA y cc nL ret fr mc ms Post k n (pc + 1) L (.null :: st) M) : sm_G l b D cA y cc nL ret fr mc ms Post k n pc L st M := fun p e R s m args below meth c C H locs ls hH hS hL => lv_aload_nN C.1 C.2.1 hd rfl (hL.at hl) (h p e R s m args below meth c C H locs ls hH hS hL)
theorem sg_aloadN {j : Nat} (hd : decode cc pc = .ok (.aload j, 2)) (hl : L[j]? = some (some .null)) (h : sm_G l b D cA y cc nL ret fr mc ms Post k n (pc + 2) L (.null :: st) M) : sm_G l b D cA y cc nL ret fr mc ms Post k n pc L st M := fun p e R s m args below meth c C H locs ls hH hS hL => lv_aloadN C.1 C.2.1 hd (hL.at hl) (h p e R s m args below meth c C H locs ls hH hS hL)
theorem sg_null (hd : decode cc pc = .ok (.aconst_null, 1)) (h : sm_G l b D cA y cc nL ret fr mc ms Post k n (pc + 1) L (.null :: st) M) : sm_G l b D cA y cc nL ret fr mc ms Post k n pc L st M := fun p e R s m args below meth c C H locs ls hH hS hL => lv_null C.1 C.2.1 hd (h p e R s m args below meth c C H locs ls hH hS hL)
theorem sg_istore_n {j : Fin 4} {x : Int32} (hd : decode cc pc = .ok (.istore_n j, 1)) (hn : (j : Nat) < nL) (h : sm_G l b D cA y cc nL ret fr mc ms Post k n (pc + 1) (L.set (j : Nat) (some (.int x))) st M) : sm_G l b D cA y cc nL ret fr mc ms Post k n pc L (.int x :: st) M := fun p e R s m args below meth c C H locs ls hH hS hL => lv_istore_n C.1 C.2.1 hd rfl hL.pairs hn rfl (fun ls' hl' => h p e R s m args below meth c C H locs ls' hH hS (hL.back (v := .int x) rfl hl'))
theorem sg_istore {j : Nat} {x : Int32} (hd : decode cc pc = .ok (.istore j, 2)) (hn : j < nL) (h : sm_G l b D cA y cc nL ret fr mc ms Post k n (pc + 2) (L.set j (some (.int x))) st M) : sm_G l b D cA y cc nL ret fr mc ms Post k n pc L (.int x :: st) M := fun p e R s m args below meth c C H locs ls hH hS hL => lv_istore C.1 C.2.1 hd hL.pairs hn rfl (fun ls' hl' => h p e R s m args below meth c C H locs ls' hH hS (hL.back (v := .int x) rfl hl'))
theorem sg_astore_n {j : Fin 4} {x : Nat} (hd : decode cc pc = .ok (.astore_n j, 1)) (hn : (j : Nat) < nL) (h : sm_G l b D cA y cc nL ret fr mc ms Post k n (pc + 1) (L.set (j : Nat) (some (.ref x))) st M) : sm_G l b D cA y cc nL ret fr mc ms Post k n pc L (.ref x :: st) M := fun p e R s m args below meth c C H locs ls hH hS hL => lv_astore_n C.1 C.2.1 hd rfl hL.pairs hn rfl (fun ls' hl' => h p e R s m args below meth c C H locs ls' hH hS (hL.back (v := .ref x) rfl hl'))
theorem sg_astore {j x : Nat} (hd : decode cc pc = .ok (.astore j, 2)) (hn : j < nL) (h : sm_G l b D cA y cc nL ret fr mc ms Post k n (pc + 2) (L.set j (some (.ref x))) st M) : sm_G l b D cA y cc nL ret fr mc ms Post k n pc L (.ref x :: st) M := fun p e R s m args below meth c C H locs ls hH hS hL => lv_astore C.1 C.2.1 hd hL.pairs hn rfl (fun ls' hl' => h p e R s m args below meth c C H locs ls' hH hS (hL.back (v := .ref x) rfl hl'))
theorem sg_astore_nN {j : Fin 4} (hd : decode cc pc = .ok (.astore_n j, 1)) (hn : (j : Nat) < nL) (h : sm_G l b D cA y cc nL ret fr mc ms Post k n (pc + 1) (L.set (j : Nat) (some .null)) st M) : sm_G l b D cA y cc nL ret fr mc ms Post k n pc L (.null :: st) M := fun p e R s m args below meth c C H locs ls hH hS hL => lv_astore_nN C.1 C.2.1 hd rfl hL.pairs hn rfl (fun ls' hl' => h p e R s m args below meth c C H locs ls' hH hS (hL.back (v := .null) rfl hl'))
theorem sg_astoreN {j : Nat} (hd : decode cc pc = .ok (.astore j, 2)) (hn : j < nL) (h : sm_G l b D cA y cc nL ret fr mc ms Post k n (pc + 2) (L.set j (some .null)) st M) : sm_G l b D cA y cc nL ret fr mc ms Post k n pc L (.null :: st) M := fun p e R s m args below meth c C H locs ls hH hS hL => lv_astoreN C.1 C.2.1 hd hL.pairs hn rfl (fun ls' hl' => h p e R s m args below meth c C H locs ls' hH hS (hL.back (v := .null) rfl hl'))
theorem sg_iinc {j : Nat} {z : Int} {x : Int32} (v : Int32) (hd : decode cc pc = .ok (.iinc j z, 3)) (hl : L[j]? = some (some (.int x))) (hv : x + Int32.ofInt z = v) (hn : j < nL) (h : sm_G l b D cA y cc nL ret fr mc ms Post k n (pc + 3) (L.set j (some (.int v))) st M) : sm_G l b D cA y cc nL ret fr mc ms Post k n pc L st M := fun p e R s m args below meth c C H locs ls hH hS hL => by
  obtain ⟨q, hq⟩ := List.getElem?_of_mem (sm_pr_mem (b := b) (L := L) (q := (j, .int x)).mpr ⟨.int x, hl, rfl⟩)
  exact lv_iinc C.1 C.2.1 hd hL.pairs hq hv hn rfl (fun ls' hl' => h p e R s m args below meth c C H locs ls' hH hS (hL.back (v := .int v) rfl hl'))
theorem sg_iadd {x z : Int32} (hd : decode cc pc = .ok (.iadd, 1)) (h : sm_G l b D cA y cc nL ret fr mc ms Post k n (pc + 1) L (.int (x + z) :: st) M) : sm_G l b D cA y cc nL ret fr mc ms Post k n pc L (.int z :: .int x :: st) M := fun p e R s m args below meth c C H locs ls hH hS hL => lv_iadd C.1 C.2.1 hd (h p e R s m args below meth c C H locs ls hH hS hL)
theorem sg_isub {x z : Int32} (hd : decode cc pc = .ok (.isub, 1)) (h : sm_G l b D cA y cc nL ret fr mc ms Post k n (pc + 1) L (.int (x - z) :: st) M) : sm_G l b D cA y cc nL ret fr mc ms Post k n pc L (.int z :: .int x :: st) M := fun p e R s m args below meth c C H locs ls hH hS hL => lv_isub C.1 C.2.1 hd (h p e R s m args below meth c C H locs ls hH hS hL)
theorem sg_imul {x z : Int32} (hd : decode cc pc = .ok (.imul, 1)) (h : sm_G l b D cA y cc nL ret fr mc ms Post k n (pc + 1) L (.int (x * z) :: st) M) : sm_G l b D cA y cc nL ret fr mc ms Post k n pc L (.int z :: .int x :: st) M := fun p e R s m args below meth c C H locs ls hH hS hL => lv_imul C.1 C.2.1 hd (h p e R s m args below meth c C H locs ls hH hS hL)
theorem sg_idiv {x z : Int32} (hd : decode cc pc = .ok (.idiv, 1)) (hz : ¬ z = 0) (h : sm_G l b D cA y cc nL ret fr mc ms Post k n (pc + 1) L (.int (x / z) :: st) M) : sm_G l b D cA y cc nL ret fr mc ms Post k n pc L (.int z :: .int x :: st) M := fun p e R s m args below meth c C H locs ls hH hS hL => lv_idiv C.1 C.2.1 hd hz (h p e R s m args below meth c C H locs ls hH hS hL)
theorem sg_iand {x z : Int32} (hd : decode cc pc = .ok (.iand, 1)) (h : sm_G l b D cA y cc nL ret fr mc ms Post k n (pc + 1) L (.int (x &&& z) :: st) M) : sm_G l b D cA y cc nL ret fr mc ms Post k n pc L (.int z :: .int x :: st) M := fun p e R s m args below meth c C H locs ls hH hS hL => lv_iand C.1 C.2.1 hd (h p e R s m args below meth c C H locs ls hH hS hL)
theorem sg_ior {x z : Int32} (hd : decode cc pc = .ok (.ior, 1)) (h : sm_G l b D cA y cc nL ret fr mc ms Post k n (pc + 1) L (.int (x ||| z) :: st) M) : sm_G l b D cA y cc nL ret fr mc ms Post k n pc L (.int z :: .int x :: st) M := fun p e R s m args below meth c C H locs ls hH hS hL => lv_ior C.1 C.2.1 hd (h p e R s m args below meth c C H locs ls hH hS hL)
theorem sg_ishl {x z : Int32} (hd : decode cc pc = .ok (.ishl, 1)) (h : sm_G l b D cA y cc nL ret fr mc ms Post k n (pc + 1) L (.int (x <<< (z &&& 31)) :: st) M) : sm_G l b D cA y cc nL ret fr mc ms Post k n pc L (.int z :: .int x :: st) M := fun p e R s m args below meth c C H locs ls hH hS hL => lv_ishl C.1 C.2.1 hd (h p e R s m args below meth c C H locs ls hH hS hL)
theorem sg_ishr {x z : Int32} (hd : decode cc pc = .ok (.ishr, 1)) (h : sm_G l b D cA y cc nL ret fr mc ms Post k n (pc + 1) L (.int (x >>> (z &&& 31)) :: st) M) : sm_G l b D cA y cc nL ret fr mc ms Post k n pc L (.int z :: .int x :: st) M := fun p e R s m args below meth c C H locs ls hH hS hL => lv_ishr C.1 C.2.1 hd (h p e R s m args below meth c C H locs ls hH hS hL)
theorem sg_iushr {x z : Int32} (hd : decode cc pc = .ok (.iushr, 1)) (h : sm_G l b D cA y cc nL ret fr mc ms Post k n (pc + 1) L (.int ((x.toUInt32 >>> (z.toUInt32 &&& Int32.toUInt32 31)).toInt32) :: st) M) : sm_G l b D cA y cc nL ret fr mc ms Post k n pc L (.int z :: .int x :: st) M := fun p e R s m args below meth c C H locs ls hH hS hL => lv_iushr C.1 C.2.1 hd rfl (h p e R s m args below meth c C H locs ls hH hS hL)
theorem sg_dup {v : Value} (hd : decode cc pc = .ok (.dup, 1)) (hv : v.category = 1) (h : sm_G l b D cA y cc nL ret fr mc ms Post k n (pc + 1) L (v :: v :: st) M) : sm_G l b D cA y cc nL ret fr mc ms Post k n pc L (v :: st) M := fun p e R s m args below meth c C H locs ls hH hS hL => lv_dup C.1 C.2.1 hd ((sm_s_cat b v).trans hv) (h p e R s m args below meth c C H locs ls hH hS hL)
theorem sg_dup2 {v w : Value} (hd : decode cc pc = .ok (.dup2, 1)) (hv : v.category = 1) (hw : w.category = 1) (h : sm_G l b D cA y cc nL ret fr mc ms Post k n (pc + 1) L (v :: w :: v :: w :: st) M) : sm_G l b D cA y cc nL ret fr mc ms Post k n pc L (v :: w :: st) M := fun p e R s m args below meth c C H locs ls hH hS hL => lv_dup2_11 C.1 C.2.1 hd ((sm_s_cat b v).trans hv) ((sm_s_cat b w).trans hw) (h p e R s m args below meth c C H locs ls hH hS hL)
theorem sg_goto {off : Int} (tgt : Nat) (hd : decode cc pc = .ok (.goto off, 3)) (ht : (pc : Int) + off = (tgt : Int)) (h : sm_G l b D cA y cc nL ret fr mc ms Post k n tgt L st M) : sm_G l b D cA y cc nL ret fr mc ms Post k n pc L st M := fun p e R s m args below meth c C H locs ls hH hS hL => lv_goto C.1 C.2.1 hd ht (h p e R s m args below meth c C H locs ls hH hS hL)
theorem sg_ifnull {x : Nat} {off : Int} (hd : decode cc pc = .ok (.ifnull off, 3)) (h : sm_G l b D cA y cc nL ret fr mc ms Post k n (pc + 3) L st M) : sm_G l b D cA y cc nL ret fr mc ms Post k n pc L (.ref x :: st) M := fun p e R s m args below meth c C H locs ls hH hS hL => lv_ifnull C.1 C.2.1 hd (h p e R s m args below meth c C H locs ls hH hS hL)
theorem sg_ifnullN {off : Int} (tgt : Nat) (hd : decode cc pc = .ok (.ifnull off, 3)) (ht : (pc : Int) + off = (tgt : Int)) (h : sm_G l b D cA y cc nL ret fr mc ms Post k n tgt L st M) : sm_G l b D cA y cc nL ret fr mc ms Post k n pc L (.null :: st) M := fun p e R s m args below meth c C H locs ls hH hS hL => lv_ifnullN C.1 C.2.1 hd ht (h p e R s m args below meth c C H locs ls hH hS hL)
theorem sg_ifnonnull {x : Nat} {off : Int} (tgt : Nat) (hd : decode cc pc = .ok (.ifnonnull off, 3)) (ht : (pc : Int) + off = (tgt : Int)) (h : sm_G l b D cA y cc nL ret fr mc ms Post k n tgt L st M) : sm_G l b D cA y cc nL ret fr mc ms Post k n pc L (.ref x :: st) M := fun p e R s m args below meth c C H locs ls hH hS hL => lv_ifnonnull C.1 C.2.1 hd ht (h p e R s m args below meth c C H locs ls hH hS hL)
theorem sg_ifnonnullN {off : Int} (hd : decode cc pc = .ok (.ifnonnull off, 3)) (h : sm_G l b D cA y cc nL ret fr mc ms Post k n (pc + 3) L st M) : sm_G l b D cA y cc nL ret fr mc ms Post k n pc L (.null :: st) M := fun p e R s m args below meth c C H locs ls hH hS hL => lv_ifnonnullN C.1 C.2.1 hd (h p e R s m args below meth c C H locs ls hH hS hL)
theorem sg_if_eq {x : Int32} {off : Int} (tgt : Nat) (hd : decode cc pc = .ok (.ifCond .eq off, 3)) (ht : (pc : Int) + off = (tgt : Int)) (kt : x = 0 → sm_G l b D cA y cc nL ret fr mc ms Post k n tgt L st M) (kf : ¬ x = 0 → sm_G l b D cA y cc nL ret fr mc ms Post k n (pc + 3) L st M) : sm_G l b D cA y cc nL ret fr mc ms Post k n pc L (.int x :: st) M := fun p e R s m args below meth c C H locs ls hH hS hL => lv_if_eq C.1 C.2.1 hd ht (fun q => kt q p e R s m args below meth c C H locs ls hH hS hL) (fun q => kf q p e R s m args below meth c C H locs ls hH hS hL)
theorem sg_if_ne {x : Int32} {off : Int} (tgt : Nat) (hd : decode cc pc = .ok (.ifCond .ne off, 3)) (ht : (pc : Int) + off = (tgt : Int)) (kt : ¬ x = 0 → sm_G l b D cA y cc nL ret fr mc ms Post k n tgt L st M) (kf : x = 0 → sm_G l b D cA y cc nL ret fr mc ms Post k n (pc + 3) L st M) : sm_G l b D cA y cc nL ret fr mc ms Post k n pc L (.int x :: st) M := fun p e R s m args below meth c C H locs ls hH hS hL => lv_if_ne C.1 C.2.1 hd ht (fun q => kt q p e R s m args below meth c C H locs ls hH hS hL) (fun q => kf q p e R s m args below meth c C H locs ls hH hS hL)
theorem sg_if_lt {x : Int32} {off : Int} (tgt : Nat) (hd : decode cc pc = .ok (.ifCond .lt off, 3)) (ht : (pc : Int) + off = (tgt : Int)) (kt : x < 0 → sm_G l b D cA y cc nL ret fr mc ms Post k n tgt L st M) (kf : ¬ x < 0 → sm_G l b D cA y cc nL ret fr mc ms Post k n (pc + 3) L st M) : sm_G l b D cA y cc nL ret fr mc ms Post k n pc L (.int x :: st) M := fun p e R s m args below meth c C H locs ls hH hS hL => lv_if_lt C.1 C.2.1 hd ht (fun q => kt q p e R s m args below meth c C H locs ls hH hS hL) (fun q => kf q p e R s m args below meth c C H locs ls hH hS hL)
theorem sg_if_ge {x : Int32} {off : Int} (tgt : Nat) (hd : decode cc pc = .ok (.ifCond .ge off, 3)) (ht : (pc : Int) + off = (tgt : Int)) (kt : 0 ≤ x → sm_G l b D cA y cc nL ret fr mc ms Post k n tgt L st M) (kf : ¬ 0 ≤ x → sm_G l b D cA y cc nL ret fr mc ms Post k n (pc + 3) L st M) : sm_G l b D cA y cc nL ret fr mc ms Post k n pc L (.int x :: st) M := fun p e R s m args below meth c C H locs ls hH hS hL => lv_if_ge C.1 C.2.1 hd ht (fun q => kt q p e R s m args below meth c C H locs ls hH hS hL) (fun q => kf q p e R s m args below meth c C H locs ls hH hS hL)
theorem sg_if_gt {x : Int32} {off : Int} (tgt : Nat) (hd : decode cc pc = .ok (.ifCond .gt off, 3)) (ht : (pc : Int) + off = (tgt : Int)) (kt : 0 < x → sm_G l b D cA y cc nL ret fr mc ms Post k n tgt L st M) (kf : ¬ 0 < x → sm_G l b D cA y cc nL ret fr mc ms Post k n (pc + 3) L st M) : sm_G l b D cA y cc nL ret fr mc ms Post k n pc L (.int x :: st) M := fun p e R s m args below meth c C H locs ls hH hS hL => lv_if_gt C.1 C.2.1 hd ht (fun q => kt q p e R s m args below meth c C H locs ls hH hS hL) (fun q => kf q p e R s m args below meth c C H locs ls hH hS hL)
theorem sg_if_le {x : Int32} {off : Int} (tgt : Nat) (hd : decode cc pc = .ok (.ifCond .le off, 3)) (ht : (pc : Int) + off = (tgt : Int)) (kt : x ≤ 0 → sm_G l b D cA y cc nL ret fr mc ms Post k n tgt L st M) (kf : ¬ x ≤ 0 → sm_G l b D cA y cc nL ret fr mc ms Post k n (pc + 3) L st M) : sm_G l b D cA y cc nL ret fr mc ms Post k n pc L (.int x :: st) M := fun p e R s m args below meth c C H locs ls hH hS hL => lv_if_le C.1 C.2.1 hd ht (fun q => kt q p e R s m args below meth c C H locs ls hH hS hL) (fun q => kf q p e R s m args below meth c C H locs ls hH hS hL)
theorem sg_icmp_eq {x z : Int32} {off : Int} (tgt : Nat) (hd : decode cc pc = .ok (.if_icmp .eq off, 3)) (ht : (pc : Int) + off = (tgt : Int)) (kt : x = z → sm_G l b D cA y cc nL ret fr mc ms Post k n tgt L st M) (kf : ¬ x = z → sm_G l b D cA y cc nL ret fr mc ms Post k n (pc + 3) L st M) : sm_G l b D cA y cc nL ret fr mc ms Post k n pc L (.int z :: .int x :: st) M := fun p e R s m args below meth c C H locs ls hH hS hL => lv_icmp_eq C.1 C.2.1 hd ht (fun q => kt q p e R s m args below meth c C H locs ls hH hS hL) (fun q => kf q p e R s m args below meth c C H locs ls hH hS hL)
theorem sg_icmp_ne {x z : Int32} {off : Int} (tgt : Nat) (hd : decode cc pc = .ok (.if_icmp .ne off, 3)) (ht : (pc : Int) + off = (tgt : Int)) (kt : ¬ x = z → sm_G l b D cA y cc nL ret fr mc ms Post k n tgt L st M) (kf : x = z → sm_G l b D cA y cc nL ret fr mc ms Post k n (pc + 3) L st M) : sm_G l b D cA y cc nL ret fr mc ms Post k n pc L (.int z :: .int x :: st) M := fun p e R s m args below meth c C H locs ls hH hS hL => lv_icmp_ne C.1 C.2.1 hd ht (fun q => kt q p e R s m args below meth c C H locs ls hH hS hL) (fun q => kf q p e R s m args below meth c C H locs ls hH hS hL)
theorem sg_icmp_lt {x z : Int32} {off : Int} (tgt : Nat) (hd : decode cc pc = .ok (.if_icmp .lt off, 3)) (ht : (pc : Int) + off = (tgt : Int)) (kt : x < z → sm_G l b D cA y cc nL ret fr mc ms Post k n tgt L st M) (kf : ¬ x < z → sm_G l b D cA y cc nL ret fr mc ms Post k n (pc + 3) L st M) : sm_G l b D cA y cc nL ret fr mc ms Post k n pc L (.int z :: .int x :: st) M := fun p e R s m args below meth c C H locs ls hH hS hL => lv_icmp_lt C.1 C.2.1 hd ht (fun q => kt q p e R s m args below meth c C H locs ls hH hS hL) (fun q => kf q p e R s m args below meth c C H locs ls hH hS hL)
theorem sg_icmp_ge {x z : Int32} {off : Int} (tgt : Nat) (hd : decode cc pc = .ok (.if_icmp .ge off, 3)) (ht : (pc : Int) + off = (tgt : Int)) (kt : z ≤ x → sm_G l b D cA y cc nL ret fr mc ms Post k n tgt L st M) (kf : ¬ z ≤ x → sm_G l b D cA y cc nL ret fr mc ms Post k n (pc + 3) L st M) : sm_G l b D cA y cc nL ret fr mc ms Post k n pc L (.int z :: .int x :: st) M := fun p e R s m args below meth c C H locs ls hH hS hL => lv_icmp_ge C.1 C.2.1 hd ht (fun q => kt q p e R s m args below meth c C H locs ls hH hS hL) (fun q => kf q p e R s m args below meth c C H locs ls hH hS hL)
theorem sg_icmp_gt {x z : Int32} {off : Int} (tgt : Nat) (hd : decode cc pc = .ok (.if_icmp .gt off, 3)) (ht : (pc : Int) + off = (tgt : Int)) (kt : z < x → sm_G l b D cA y cc nL ret fr mc ms Post k n tgt L st M) (kf : ¬ z < x → sm_G l b D cA y cc nL ret fr mc ms Post k n (pc + 3) L st M) : sm_G l b D cA y cc nL ret fr mc ms Post k n pc L (.int z :: .int x :: st) M := fun p e R s m args below meth c C H locs ls hH hS hL => lv_icmp_gt C.1 C.2.1 hd ht (fun q => kt q p e R s m args below meth c C H locs ls hH hS hL) (fun q => kf q p e R s m args below meth c C H locs ls hH hS hL)
theorem sg_icmp_le {x z : Int32} {off : Int} (tgt : Nat) (hd : decode cc pc = .ok (.if_icmp .le off, 3)) (ht : (pc : Int) + off = (tgt : Int)) (kt : x ≤ z → sm_G l b D cA y cc nL ret fr mc ms Post k n tgt L st M) (kf : ¬ x ≤ z → sm_G l b D cA y cc nL ret fr mc ms Post k n (pc + 3) L st M) : sm_G l b D cA y cc nL ret fr mc ms Post k n pc L (.int z :: .int x :: st) M := fun p e R s m args below meth c C H locs ls hH hS hL => lv_icmp_le C.1 C.2.1 hd ht (fun q => kt q p e R s m args below meth c C H locs ls hH hS hL) (fun q => kf q p e R s m args below meth c C H locs ls hH hS hL)
end SMR
-- x
end
section
/-! the pure heap under a write, and with a new cell -/
theorem sm_H.set {b : Nat} {D : va_G} {cA : Nat → ClassId} {M : sm_M} {H H1 : Heap} {q : Nat} {x x0 : sm_C} (h : sm_H b D cA M H) (hq : M[q]? = some (some x0)) (hat : va_at D vwCl (b + q, sm_v b cA x) H1) (z : H1.size = H.size) (oq : ∀ a : Nat, a ≠ b + q → H1[a]? = H[a]?) : sm_H b D cA (M.set q (some x)) H1 := by
  have hl := (List.getElem?_eq_some_iff.mp hq).1
  refine ⟨by rw [z, List.length_set]; exact h.1, fun j w hj => ?_⟩
  by_cases hjq : j = q
  · subst hjq
    rw [List.getElem?_set_self hl] at hj
    cases hj
    exact hat
  · rw [List.getElem?_set_ne (Ne.symm hjq)] at hj
    exact (h.2 j w hj).kept (oq (b + j) (by omega))
theorem sm_H.push {b : Nat} {D : va_G} {cA : Nat → ClassId} {M : sm_M} {H H1 : Heap} {x : sm_C} (h : sm_H b D cA M H) (hat : va_at D vwCl (b + M.length, sm_v b cA x) H1) (z : H1.size = H.size + 1) (oq : ∀ a : Nat, a < H.size → H1[a]? = H[a]?) : sm_H b D cA (M ++ [some x]) H1 := by
  refine ⟨by rw [z, List.length_append]; simp only [List.length_cons, List.length_nil]; rw [h.1]; omega, fun j w hj => ?_⟩
  by_cases hl : j < M.length
  · rw [List.getElem?_append_left hl] at hj
    exact (h.2 j w hj).kept (oq (b + j) (h.2 j w hj).lt)
  · rw [List.getElem?_append_right (by omega)] at hj
    have hz : j - M.length < 1 := (List.getElem?_eq_some_iff.mp hj).1
    have hjm : j = M.length := by omega
    subst hjm
    rw [Nat.sub_self] at hj
    cases hj
    exact hat
theorem sm_Pone {D : va_G} {H : Heap} {a : Nat} {x : va_E} (h : va_at D vwCl (a, x) H) : va_P D vwCl [(a, x)] H := by
  intro k q hk
  have hz : k < 1 := (List.getElem?_eq_some_iff.mp hk).1
  rw [show k = 0 by omega] at hk
  cases hk
  exact h
theorem va_S.two {A : Nat → Prop} {H0 H H1 : Heap} {locs L : List Loc} (h : va_S A H0 H locs) (z : H.size ≤ H1.size) (o : ∀ q : Nat, q < H.size → ¬ A q → H1[q]? = H[q]?) (hL : ∀ q ∈ L, A q.base) : va_S A H0 H1 (locs ++ L) :=
  ⟨Nat.le_trans h.1 z, fun q h1 h2 => (o q (Nat.lt_of_lt_of_le h1 h.1) h2).trans (h.2.1 q h1 h2), fun q hq => (List.mem_append.mp hq).elim (h.2.2 q) (hL q)⟩
/-- a field's place: its own class's link, or a nest mate's -/
def sm_FL (own : String) (idx ci kk : Nat) (C : String) (T : u_T) (N : Nat) : Prop := vwCl[ci]? = some (C, T, N) ∧ kk < N ∧ (∀ w ∈ u_ws C T N, w ∈ sm_tb) ∧ (Cond.fieldLink own idx C (T kk).2.1 (T kk).2.2.1 ∈ sm_tb ∨ ∃ host, Cond.fieldLinkNest own idx C (T kk).2.1 (T kk).2.2.1 host ∈ sm_nb) ∧ (T kk).1 = C
/-- its type -/
def sm_FT (kk : Nat) (ty : FieldType) (fin : Bool) (T : u_T) (N : Nat) : Prop := (T kk).2.2.2 = fin ∧ parseFieldDescriptor (T kk).2.2.1 = some ty ∧ ∃ ty0 : Nat → FieldType, (∀ k, k < N → parseFieldDescriptor (T k).2.2.1 = some (ty0 k)) ∧ (∀ a, a < N → ∀ b, b < N → a ≠ b → (T a).2.1 ≠ (T b).2.1)
section SMW
variable {p : Program} {l : Launch} {e : Env} {R : Room} {s : State} {m : MethodId} {args : Array Value} {below : List Frame} {meth : Method} {c : Code} {H : Heap} {locs : List Loc} {cells slots : Nat} {Q : State → Prop}
variable {cc : ByteArray} {pc : Nat} {ls : Array Slot} {rest : List Value} {D : va_G} {cl : List vw_C} {a : Nat} {tys : List (ClassId × FieldType)}
theorem sm_Wput (hexec : p.tables.exec = Jvm.exec) (hb : c.code = cc) {own C : String} {T : u_T} {N ci index : Nat} {Ts : List Cond} (hts : ∀ w ∈ Ts, w.before args s = true) (hin : ∀ w ∈ u_ws C T N, w ∈ Ts) (ty0 : Nat → FieldType) (hty : ∀ k, k < N → parseFieldDescriptor (T k).2.2.1 = some (ty0 k)) (hnm : ∀ a, a < N → ∀ b, b < N → a ≠ b → (T a).2.1 ≠ (T b).2.1) (hown : s.vm.findClass own = some m.cls) (hK : va_K D cl tys s) {fs : List Value} (hP : va_at D cl (a, .inr (ci, fs)) H) (hc : cl[ci]? = some (C, T, N)) (k : Nat) (hk : k < N)
    (hlink : (Cond.fieldLink own index C (T k).2.1 (T k).2.2.1).before args s = true ∨ ∃ host, (Cond.fieldLinkNest own index C (T k).2.1 (T k).2.2.1 host).before args s = true) (hcls : (T k).1 = C) (hfin : (T k).2.2.2 = false) {ty : FieldType} {v : Value} (hd : parseFieldDescriptor (T k).2.2.1 = some ty) (hn : narrow ty v = v) (hfit : fits ty v = true) (hl : k < fs.length)
    (hdg : decode cc pc = .ok (.putfield index, 3)) (kk : ∀ (H1 : Heap) (j : Nat), va_at D cl (a, .inr (ci, fs.set k v)) H1 → H1.size = H.size → (∀ q : Nat, q ≠ a → H1[q]? = H[q]?) → W p l e R s m args below meth c H1 (locs ++ [⟨a, j⟩]) cells slots Q (F0 m (pc + 3) ls rest)) : W p l e R s m args below meth c H locs cells slots Q (F0 m pc ls (v :: .ref a :: rest)) := by
  have hap := va_apart (own := own) hts hin ty0 hty hnm hK hc
  obtain ⟨r, h1, cell, q1, q2, q3, q4⟩ := hP
  have hr : r = (C, T, N) := Option.some.inj (h1.symm.trans hc)
  subst hr
  obtain ⟨hS, hfc, kC, hkC, hkind⟩ := hK.1 ci _ hc
  obtain ⟨cf, kf, fi, f, hi, hsl⟩ := hS k hk
  have hlay := hts _ (hin _ (u_in_lay hk))
  unfold u_lay at hlay
  rw [if_neg (by rw [hfin]; decide)] at hlay
  have hst := (u_facts hfc hkC (u_lays hts hin hk) hi).1
  have h6 := u_store hfc hkC hkind hlay hi hd hn hfit
  have hi2 : s.fieldFound? C (T k).2.1 (T k).2.2.1 = some (cf, kf, fi, f) := by rw [← hi, hcls]
  rcases hlink with hlink | ⟨host, hlink⟩
  · refine W.putK hexec hb (f := f) ⟨hown, hlink, ⟨_, _, _, hi2⟩, hst⟩ (by rw [q2]; exact h6) q1 q3 (by rw [hsl]; exact k2_hasslot (q4 k hk)) rfl rfl hdg fun H' e1 e2 e3 => ?_
    rw [hsl] at e1
    exact kk H' _ ⟨_, hc, t_OB.to (V := updV (vp_V fs) k v) ⟨_, e1, q2, q3, t_set q4 hap hk v⟩ (fun j _ => vp_updV_set hl v j)⟩ e2 e3
  · refine va_WputK hexec hb (f := f) hown hlink hi2 hst (by rw [q2]; exact h6) q1 q3 (by rw [hsl]; exact k2_hasslot (q4 k hk)) rfl rfl hdg fun H' e1 e2 e3 => ?_
    rw [hsl] at e1
    exact kk H' _ ⟨_, hc, t_OB.to (V := updV (vp_V fs) k v) ⟨_, e1, q2, q3, t_set q4 hap hk v⟩ (fun j _ => vp_updV_set hl v j)⟩ e2 e3
theorem sm_WputF (hexec : p.tables.exec = Jvm.exec) (hb : c.code = cc) {own C : String} {T : u_T} {N ci index : Nat} {Ts : List Cond} (hts : ∀ w ∈ Ts, w.before args s = true) (hin : ∀ w ∈ u_ws C T N, w ∈ Ts) (ty0 : Nat → FieldType) (hty : ∀ k, k < N → parseFieldDescriptor (T k).2.2.1 = some (ty0 k)) (hnm : ∀ a, a < N → ∀ b, b < N → a ≠ b → (T a).2.1 ≠ (T b).2.1) (hown : s.vm.findClass own = some m.cls) (hK : va_K D cl tys s) {fs : List Value} (hP : va_at D cl (a, .inr (ci, fs)) H) (hc : cl[ci]? = some (C, T, N)) (k : Nat) (hk : k < N)
    (hlink : (Cond.fieldLink own index C (T k).2.1 (T k).2.2.1).before args s = true) (hcls : (T k).1 = C) (hdecl : C = own) (hin2 : meth.name = "<init>") (hfin : (T k).2.2.2 = true) {ty : FieldType} {v : Value} (hd : parseFieldDescriptor (T k).2.2.1 = some ty) (hn : narrow ty v = v) (hfit : fits ty v = true) (hl : k < fs.length)
    (hdg : decode cc pc = .ok (.putfield index, 3)) (kk : ∀ (H1 : Heap) (j : Nat), va_at D cl (a, .inr (ci, fs.set k v)) H1 → H1.size = H.size → (∀ q : Nat, q ≠ a → H1[q]? = H[q]?) → W p l e R s m args below meth c H1 (locs ++ [⟨a, j⟩]) cells slots Q (F0 m (pc + 3) ls rest)) : W p l e R s m args below meth c H locs cells slots Q (F0 m pc ls (v :: .ref a :: rest)) := by
  have hap := va_apart (own := own) hts hin ty0 hty hnm hK hc
  obtain ⟨r, h1, cell, q1, q2, q3, q4⟩ := hP
  have hr : r = (C, T, N) := Option.some.inj (h1.symm.trans hc)
  subst hr
  obtain ⟨hS, hfc, kC, hkC, hkind⟩ := hK.1 ci _ hc
  obtain ⟨cf, kf, fi, f, hi, hsl⟩ := hS k hk
  have hlay := hts _ (hin _ (u_in_lay hk))
  unfold u_lay at hlay
  rw [if_pos hfin] at hlay
  have hst := (u_facts hfc hkC (u_lays hts hin hk) hi).1
  have hcf : m.cls = cf := by
    obtain ⟨_, _, c', _, _, _, -, -, hf', -, -, -, hown2, -⟩ := Cond.laysFinal_spec hlay
    have e1 : c' = cf := by have := hi.symm.trans hf'; simp at this; exact this.1.symm
    rw [hcls, hdecl] at hown2
    rw [← e1]; exact Option.some.inj (hown.symm.trans hown2)
  have h6 := u_fits hfc hkC hkind (Or.inr hlay) hi hd hn hfit
  have hi2 : s.fieldFound? C (T k).2.1 (T k).2.2.1 = some (cf, kf, fi, f) := by rw [← hi, hcls]
  refine W.putFinK hexec hb hown hlink hi2 hst hcf hin2 (by rw [q2]; exact h6) q1 q3 (by rw [hsl]; exact k2_hasslot (q4 k hk)) rfl rfl hdg fun H' e1 e2 e3 => ?_
  rw [hsl] at e1
  exact kk H' _ ⟨_, hc, t_OB.to (V := updV (vp_V fs) k v) ⟨_, e1, q2, q3, t_set q4 hap hk v⟩ (fun j _ => vp_updV_set hl v j)⟩ e2 e3
end SMW
section SMH
variable {l : Launch} {b : Nat} {D : va_G} {cA : Nat → ClassId} {y : MethodName} {cc : ByteArray} {nL : Nat} {ret : Option FieldType} {fr mc ms : Nat} {Post : Option Value → sm_M → Prop} {k n pc : Nat} {L : List (Option Value)} {st : List Value} {M : sm_M}
theorem sg_get {idx ci kk q N : Nat} {C : String} {T : u_T} {fs : List Value} {v : Value} (hd : decode cc pc = .ok (.getfield idx, 3)) (hf : sm_FL y.cls idx ci kk C T N) (hM : M[q]? = some (sm_o ci fs)) (hv : fs[kk]? = some v) (h : sm_G l b D cA y cc nL ret fr mc ms Post k n (pc + 3) L (v :: st) M) : sm_G l b D cA y cc nL ret fr mc ms Post k n pc L (.ref q :: st) M := by
  intro p e R s m args below meth c hC H locs ls hH hS hL
  have hw := h p e R s m args below meth c hC H locs ls hH hS hL
  obtain ⟨hx, hb, -, hown, hts, -, -, hK, -⟩ := hC
  obtain ⟨hc, hk, hin, hlink, hcls⟩ := hf
  have hP := sm_Pone (hH.2 q _ hM)
  have hv' : (fs.map (sm_s b))[kk]? = some (sm_s b v) := by rw [List.getElem?_map, hv]; rfl
  rcases hlink with hl | ⟨host, hl⟩
  · exact va_get (D := D) hx hb hts hin hown hK.1 hP 0 rfl hc kk hk (hts _ hl) (fun x h9 => by rw [hcls] at h9; exact h9) hv' hd hw
  · exact va_getN (D := D) hx hb hts hin hown hK.1 hP 0 rfl hc kk hk (va_Nw.use rfl (hK.2.1 _ hl)) (fun x h9 => by rw [hcls] at h9; exact h9) hv' hd hw
theorem sg_put {idx ci kk q N : Nat} {C : String} {T : u_T} {fs : List Value} {x : Int32} (hd : decode cc pc = .ok (.putfield idx, 3)) (hf : sm_FL y.cls idx ci kk C T N) (ht : sm_FT kk .int false T N) (hM : M[q]? = some (sm_o ci fs)) (hl : kk < fs.length) (h : sm_G l b D cA y cc nL ret fr mc ms Post k n (pc + 3) L st (M.set q (sm_o ci (fs.set kk (.int x))))) : sm_G l b D cA y cc nL ret fr mc ms Post k n pc L (.int x :: .ref q :: st) M := by
  intro p e R s m args below meth c hC H locs ls hH hS hL
  obtain ⟨hx, hb, -, hown, hts, -, -, hK, -⟩ := id hC
  obtain ⟨hc, hk, hin, hlink, hcls⟩ := hf
  obtain ⟨hfin, hpd, ty0, hty, hnm⟩ := ht
  refine sm_Wput (v := .int x) (ty := .int) hx hb hts hin ty0 hty hnm hown hK.1 (hH.2 q _ hM) hc kk hk (hlink.elim (fun hl => Or.inl (hts _ hl)) (fun ⟨host, hl⟩ => Or.inr ⟨host, va_Nw.use rfl (hK.2.1 _ hl)⟩)) hcls hfin hpd rfl rfl (by rw [List.length_map]; exact hl) hd (fun H1 j hat z oq => ?_)
  refine h p e R s m args below meth c hC H1 _ ls (hH.set hM ?_ z oq) (hS.put z oq (Nat.le_add_right b q)) hL
  show va_at D vwCl (b + q, .inr (ci, (fs.set kk (.int x)).map (sm_s b))) H1
  rw [List.map_set]
  exact hat
theorem sg_putFi {idx ci kk q N : Nat} {C : String} {T : u_T} {fs : List Value} {x : Int32} (hd : decode cc pc = .ok (.putfield idx, 3)) (hf : sm_FL y.cls idx ci kk C T N) (ht : sm_FT kk .int true T N) (hfl : Cond.fieldLink y.cls idx C (T kk).2.1 (T kk).2.2.1 ∈ sm_tb) (hdc : C = y.cls) (hnm0 : y.name = "<init>") (hM : M[q]? = some (sm_o ci fs)) (hl : kk < fs.length) (h : sm_G l b D cA y cc nL ret fr mc ms Post k n (pc + 3) L st (M.set q (sm_o ci (fs.set kk (.int x))))) : sm_G l b D cA y cc nL ret fr mc ms Post k n pc L (.int x :: .ref q :: st) M := by
  intro p e R s m args below meth c hC H locs ls hH hS hL
  obtain ⟨hx, hb, -, hown, hts, -, -, hK, hmn, -⟩ := id hC
  obtain ⟨hc, hk, hin, hlink, hcls⟩ := hf
  obtain ⟨hfin, hpd, ty0, hty, hnm⟩ := ht
  refine sm_WputF (v := .int x) (ty := .int) hx hb hts hin ty0 hty hnm hown hK.1 (hH.2 q _ hM) hc kk hk (hts _ hfl) hcls hdc (hmn.trans hnm0) hfin hpd rfl rfl (by rw [List.length_map]; exact hl) hd (fun H1 j hat z oq => ?_)
  refine h p e R s m args below meth c hC H1 _ ls (hH.set hM ?_ z oq) (hS.put z oq (Nat.le_add_right b q)) hL
  show va_at D vwCl (b + q, .inr (ci, (fs.set kk (.int x)).map (sm_s b))) H1
  rw [List.map_set]
  exact hat
theorem sg_putFr {idx ci kk q N v : Nat} {C : String} {T : u_T} {fs : List Value} {ty : FieldType} (hd : decode cc pc = .ok (.putfield idx, 3)) (hf : sm_FL y.cls idx ci kk C T N) (ht : sm_FT kk ty true T N) (hn : ∀ a : Nat, narrow ty (.ref a) = .ref a ∧ fits ty (.ref a) = true) (hfl : Cond.fieldLink y.cls idx C (T kk).2.1 (T kk).2.2.1 ∈ sm_tb) (hdc : C = y.cls) (hnm0 : y.name = "<init>") (hM : M[q]? = some (sm_o ci fs)) (hl : kk < fs.length) (h : sm_G l b D cA y cc nL ret fr mc ms Post k n (pc + 3) L st (M.set q (sm_o ci (fs.set kk (.ref v))))) : sm_G l b D cA y cc nL ret fr mc ms Post k n pc L (.ref v :: .ref q :: st) M := by
  intro p e R s m args below meth c hC H locs ls hH hS hL
  obtain ⟨hx, hb, -, hown, hts, -, -, hK, hmn, -⟩ := id hC
  obtain ⟨hc, hk, hin, hlink, hcls⟩ := hf
  obtain ⟨hfin, hpd, ty0, hty, hnm⟩ := ht
  refine sm_WputF (v := .ref (b + v)) (ty := ty) hx hb hts hin ty0 hty hnm hown hK.1 (hH.2 q _ hM) hc kk hk (hts _ hfl) hcls hdc (hmn.trans hnm0) hfin hpd (hn _).1 (hn _).2 (by rw [List.length_map]; exact hl) hd (fun H1 j hat z oq => ?_)
  refine h p e R s m args below meth c hC H1 _ ls (hH.set hM ?_ z oq) (hS.put z oq (Nat.le_add_right b q)) hL
  show va_at D vwCl (b + q, .inr (ci, (fs.set kk (.ref v)).map (sm_s b))) H1
  rw [List.map_set]
  exact hat
theorem sg_iald {q N : Nat} {f : Nat → Int32} {i : Int32} (hd : decode cc pc = .ok (.iaload, 1)) (hM : M[q]? = some (sm_i N f)) (hin : vp_in i N) (h : sm_G l b D cA y cc nL ret fr mc ms Post k n (pc + 1) L (.int (f i.toNatClampNeg) :: st) M) : sm_G l b D cA y cc nL ret fr mc ms Post k n pc L (.int i :: .ref q :: st) M := by
  intro p e R s m args below meth c hC H locs ls hH hS hL
  exact va_iald (D := D) hC.1 hC.2.1 hC.2.2.2.2.2.2.2.1.1 (sm_Pone (hH.2 q _ hM)) 0 0 rfl rfl hin hd (h p e R s m args below meth c hC H locs ls hH hS hL)
theorem sg_ald {q N : Nat} {f : Nat → Int32} {i : Int32} (j : Nat) (hd : decode cc pc = .ok (.iaload, 1)) (hM : M[q]? = some (sm_i N f)) (hi : i = nI j) (hj : j < N) (hN : N < 2 ^ 31) (h : sm_G l b D cA y cc nL ret fr mc ms Post k n (pc + 1) L (.int (f j) :: st) M) : sm_G l b D cA y cc nL ret fr mc ms Post k n pc L (.int i :: .ref q :: st) M := by
  subst hi
  refine sg_iald hd hM (vp_in_nI hj hN) ?_
  rw [nI_clamp (by omega)]
  exact h
theorem sg_iast {q N : Nat} {f : Nat → Int32} {i x : Int32} (hd : decode cc pc = .ok (.iastore, 1)) (hM : M[q]? = some (sm_i N f)) (hin : vp_in i N) (h : sm_G l b D cA y cc nL ret fr mc ms Post k n (pc + 1) L st (M.set q (sm_i N (upd f i.toNatClampNeg x)))) : sm_G l b D cA y cc nL ret fr mc ms Post k n pc L (.int x :: .int i :: .ref q :: st) M := by
  intro p e R s m args below meth c hC H locs ls hH hS hL
  obtain ⟨hx, hb, -, hown, hts, -, -, hK, -⟩ := id hC
  have hcell : H[b + q]? = some (vp_cell (cA 0) (N, .inl f)) := hH.2 q _ hM
  refine W.iast hx hb hcell ((hK.1.2 0 _ rfl).1 N (fun j => .int (f j))) (fun q => by cases q) (by show ¬ (i < 0 ∨ (arrV _ _ _).slots.size ≤ _); rw [arrV_size]; exact hin) rfl rfl hd fun H1 e1 z oq => ?_
  refine h p e R s m args below meth c hC H1 _ ls (hH.set hM ?_ z oq) (hS.put z oq (Nat.le_add_right b q)) hL
  show H1[b + q]? = some (vp_cell (cA 0) (N, .inl (upd f i.toNatClampNeg x)))
  rw [e1, vp_cell_i, vp_cell_i, arrV_store]
  congr 2
  funext q
  by_cases hq : q = i.toNatClampNeg
  · subst hq
    simp [updV, upd]
  · simp [updV, upd, hq]
theorem sg_ast {q N : Nat} {f : Nat → Int32} {i x : Int32} (j : Nat) (hd : decode cc pc = .ok (.iastore, 1)) (hM : M[q]? = some (sm_i N f)) (hi : i = nI j) (hj : j < N) (hN : N < 2 ^ 31) (h : sm_G l b D cA y cc nL ret fr mc ms Post k n (pc + 1) L st (M.set q (sm_i N (upd f j x)))) : sm_G l b D cA y cc nL ret fr mc ms Post k n pc L (.int x :: .int i :: .ref q :: st) M := by
  subst hi
  refine sg_iast hd hM (vp_in_nI hj hN) ?_
  rw [nI_clamp (by omega)]
  exact h
theorem sg_alen {q N : Nat} {f : Nat → Int32} (hd : decode cc pc = .ok (.arraylength, 1)) (hM : M[q]? = some (sm_i N f)) (h : sm_G l b D cA y cc nL ret fr mc ms Post k n (pc + 1) L (.int (nI N) :: st) M) : sm_G l b D cA y cc nL ret fr mc ms Post k n pc L (.ref q :: st) M := by
  intro p e R s m args below meth c hC H locs ls hH hS hL
  exact va_alen (D := D) hC.1 hC.2.1 hC.2.2.2.2.2.2.2.1.1 (sm_Pone (hH.2 q _ hM)) 0 0 rfl rfl rfl hd (h p e R s m args below meth c hC H locs ls hH hS hL)
theorem sg_alenr {q N t : Nat} {f : Nat → Option Nat} (hd : decode cc pc = .ok (.arraylength, 1)) (hM : M[q]? = some (sm_r t N f)) (ht : t < 3) (h : sm_G l b D cA y cc nL ret fr mc ms Post k n (pc + 1) L (.int (nI N) :: st) M) : sm_G l b D cA y cc nL ret fr mc ms Post k n pc L (.ref q :: st) M := by
  intro p e R s m args below meth c hC H locs ls hH hS hL
  have hty : ∃ x, (sm_ty cA)[t]? = some (cA t, x) := by
    rcases (show t = 0 ∨ t = 1 ∨ t = 2 by omega) with rfl | rfl | rfl <;> exact ⟨_, rfl⟩
  obtain ⟨x, hx⟩ := hty
  exact va_alen (D := D) hC.1 hC.2.1 hC.2.2.2.2.2.2.2.1.1 (sm_Pone (hH.2 q _ hM)) 0 t rfl hx rfl hd (h p e R s m args below meth c hC H locs ls hH hS hL)
theorem sm_rf (b : Nat) (r : Option Nat) : va_rf (r.map (fun k => b + k)) = sm_s b (va_rf r) := by cases r <;> rfl
theorem sg_aald {q N t : Nat} {f : Nat → Option Nat} {i : Int32} {C : String} (j : Nat) (hd : decode cc pc = .ok (.aaload, 1)) (hM : M[q]? = some (sm_r t N f)) (ht : ∀ cA : Nat → ClassId, (sm_ty cA)[t]? = some (cA t, .object C)) (hi : i = nI j) (hj : j < N) (hN : N < 2 ^ 31) (h : sm_G l b D cA y cc nL ret fr mc ms Post k n (pc + 1) L (va_rf (f j) :: st) M) : sm_G l b D cA y cc nL ret fr mc ms Post k n pc L (.int i :: .ref q :: st) M := by
  subst hi
  intro p e R s m args below meth c hC H locs ls hH hS hL
  refine va_aldq (D := D) hC.1 hC.2.1 hC.2.2.2.2.2.2.2.1.1 (sm_Pone (hH.2 q _ hM)) 0 t rfl (ht cA) (vp_in_nI hj hN) hd ?_
  rw [nI_clamp (by omega), sm_rf]
  exact h p e R s m args below meth c hC H locs ls hH hS hL
theorem sg_aast {q N t v ci : Nat} {f : Nat → Option Nat} {i : Int32} {r : vw_C} {vs : List Value} (j : Nat) (hd : decode cc pc = .ok (.aastore, 1)) (hM : M[q]? = some (sm_r t N f)) (ht : ∀ cA : Nat → ClassId, (sm_ty cA)[t]? = some (cA t, .object r.1)) (hv : M[v]? = some (sm_o ci vs)) (hc : vwCl[ci]? = some r) (hi : i = nI j) (hj : j < N) (hN : N < 2 ^ 31) (h : sm_G l b D cA y cc nL ret fr mc ms Post k n (pc + 1) L st (M.set q (sm_r t N (va_up f j (some v))))) : sm_G l b D cA y cc nL ret fr mc ms Post k n pc L (.ref v :: .int i :: .ref q :: st) M := by
  subst hi
  intro p e R s m args below meth c hC H locs ls hH hS hL
  obtain ⟨hx, hb, -, hown, hts, -, -, hK, -⟩ := id hC
  obtain ⟨r', hr', cellV, g1, g2, g3, -⟩ := hH.2 v _ hv
  have hcls := (hK.1.1 ci r hc).2
  obtain ⟨kA, comp, k1, k2, k3, -⟩ := (hK.1.2 t _ (ht cA)).2
  have hcomp : comp = D.1 ci := Option.some.inj (k3.symm.trans hcls.1)
  subst hcomp
  obtain ⟨kC, hkC, -⟩ := hcls.2
  have hcell : H[b + q]? = some (vp_cell (cA t) (N, .inr (.inr (.inr (.inr (fun j => (f j).map (fun k => b + k))))))) := hH.2 q _ hM
  have h0 : ¬ (nI j < 0) := nI_pos (by omega)
  have hcl : (nI j).toNatClampNeg = j := nI_clamp (by omega)
  refine W.aast hx hb hcell (fun q h => by cases h) (fun h => by cases h) k1 k2 rfl hkC ⟨h0, by show _ < (arrV _ _ _).slots.size; rw [arrV_size, hcl]; exact hj⟩ g1 (fun q h => by rw [g3] at h; cases h) (by rw [g2]; exact hkC) (by rw [g2]; exact va_assign hcls) rfl rfl hd fun H1 e1 z oq => ?_
  refine h p e R s m args below meth c hC H1 _ ls (hH.set hM ?_ z oq) (hS.put z oq (Nat.le_add_right b q)) hL
  show H1[b + q]? = some (vp_cell (cA t) (N, .inr (.inr (.inr (.inr (fun i => (va_up f j (some v) i).map (fun k => b + k)))))))
  rw [e1, vp_cell_q, vp_cell_q, arrV_store, hcl]
  congr 2
  funext q
  by_cases hq : q = j
  · subst hq
    simp [updV, va_up, va_rf]
  · simp [updV, va_up, hq]
theorem sg_new {idx ci N : Nat} {C : String} {T : u_T} {fs : List Value} {ty : Nat → FieldType} (hd : decode cc pc = .ok (.new idx, 3)) (hc : vwCl[ci]? = some (C, T, N)) (hin : ∀ w ∈ u_ws C T N, w ∈ sm_tb) (hty : ∀ k, k < N → parseFieldDescriptor (T k).2.2.1 = some (ty k)) (hcl : Cond.classLink y.cls idx C ∈ sm_tb) (hinst : Cond.instantiable C N ∈ sm_tb) (hini : Cond.initialized C ∈ sm_tb) (hfs : ∀ b : Nat, ∀ j, j < N → defaultValue (ty j) = vp_V (fs.map (sm_s b)) j) (hk1 : k + 1 ≤ mc) (hn1 : n + N ≤ ms) (h : sm_G l b D cA y cc nL ret fr mc ms Post (k + 1) (n + N) (pc + 3) L (.ref M.length :: st) (M ++ [sm_o ci fs])) : sm_G l b D cA y cc nL ret fr mc ms Post k n pc L st M := by
  intro p e R s m args below meth c hC H locs ls hH hS hL
  obtain ⟨hx, hb, -, hown, hts, -, -, hK, -, -, hRc, hRs, -⟩ := id hC
  have hKn := hK.1.1 ci _ hc
  refine W.newcK hx hb hown (hts _ hcl) (hts _ hinst) (hts _ hini) rfl hd (by rw [hRc]; exact hk1) (by rw [hRs]; exact hn1) hKn.2.1 rfl fun H1 kC hkC e1 z1 o1 => ?_
  have hz := hH.1
  rw [hz] at e1 z1 ⊢
  refine h p e R s m args below meth c hC H1 locs ls (hH.push ?_ (by rw [z1, hz]) (fun a ha => o1 a ha)) ⟨Nat.le_trans hS.1 (by omega), fun x h1 h2 => (o1 x (Nat.lt_of_lt_of_le h1 hS.1)).trans (hS.2.1 x h1 h2), hS.2.2⟩ hL
  exact ⟨_, hc, (u_born ty hts hin hKn hkC e1 hty).to (hfs b)⟩
theorem sg_newa {i : Int32} (N : Nat) (hd : decode cc pc = .ok (.newarray .int, 2)) (ha : Cond.arrayClass .int ∈ sm_tb) (hi : i = nI N) (hN : N < 100000) (hk1 : k + 1 ≤ mc) (hn1 : n + N ≤ ms) (h : sm_G l b D cA y cc nL ret fr mc ms Post (k + 1) (n + N) (pc + 2) L (.ref M.length :: st) (M ++ [sm_i N (fun _ => 0)])) : sm_G l b D cA y cc nL ret fr mc ms Post k n pc L (.int i :: st) M := by
  subst hi
  intro p e R s m args below meth c hC H locs ls hH hS hL
  obtain ⟨hx, hb, -, hown, hts, -, -, hK, -, -, hRc, hRs, -⟩ := id hC
  refine va_newaK (atype := .int) (N := N) hx hb (hts _ ha) rfl hd rfl (nI_pos (by omega)) (nI_clamp (by omega)) (by show N * 4 ≤ _; omega) (by rw [hRc]; exact hk1) (by rw [hRs]; exact hn1) rfl fun H1 cA' e1 z1 o1 hAr hNm => ?_
  have hA2 : s.vm.findClass ("[" ++ FieldType.int.toString) = some (cA 0) := (hK.1.2 0 _ rfl).2
  have hcc : cA' = cA 0 := Option.some.inj (hNm.symm.trans hA2)
  subst hcc
  have hz := hH.1
  rw [hz] at e1 z1 ⊢
  exact h p e R s m args below meth c hC H1 locs ls (hH.push (x := .inl (N, fun _ => 0)) e1 (by rw [z1, hz]) (fun a ha => o1 a ha)) ⟨Nat.le_trans hS.1 (by omega), fun x h1 h2 => (o1 x (Nat.lt_of_lt_of_le h1 hS.1)).trans (hS.2.1 x h1 h2), hS.2.2⟩ hL
theorem sg_ireturn {x : Int32} (hd : decode cc pc = .ok (.ireturn, 1)) (hr : ret = some .int) (hk : k ≤ mc) (hn : n ≤ ms) (hp : Post (some (.int x)) M) : sm_G l b D cA y cc nL ret fr mc ms Post k n pc L [.int x] M := by
  intro p e R s m args below meth c hC H locs ls hH hS hL
  obtain ⟨hx, hb, -, hown, hts, hlk, hrt, -⟩ := id hC
  refine W.widen hk hn ?_
  exact W.iret (v := x) hx hb (hrt.trans hr) (fun t ht hW => ⟨⟨some (.int x), M, rfl, hp, by rw [ht]; exact hH⟩, hS.F ht⟩) hS.2.2 hd hlk
theorem sg_zreturn {x : Int32} (hd : decode cc pc = .ok (.ireturn, 1)) (hr : ret = some .boolean) (hz : narrow .boolean (.int x) = .int x) (hk : k ≤ mc) (hn : n ≤ ms) (hp : Post (some (.int x)) M) : sm_G l b D cA y cc nL ret fr mc ms Post k n pc L [.int x] M := by
  intro p e R s m args below meth c hC H locs ls hH hS hL
  obtain ⟨hx, hb, -, hown, hts, hlk, hrt, -⟩ := id hC
  refine W.widen hk hn ?_
  exact W.zret (v := x) hx hb (hrt.trans hr) hz (fun t ht hW => ⟨⟨some (.int x), M, rfl, hp, by rw [ht]; exact hH⟩, hS.F ht⟩) hS.2.2 hd hlk
theorem sg_return (hd : decode cc pc = .ok (.return_, 1)) (hr : ret = none) (hk : k ≤ mc) (hn : n ≤ ms) (hp : Post none M) : sm_G l b D cA y cc nL ret fr mc ms Post k n pc L [] M := by
  intro p e R s m args below meth c hC H locs ls hH hS hL
  obtain ⟨hx, hb, -, hown, hts, hlk, hrt, -⟩ := id hC
  refine W.widen hk hn ?_
  exact W.vret hx hb (hrt.trans hr) (fun t ht hW => ⟨⟨none, M, rfl, hp, by rw [ht]; exact hH⟩, hS.F ht⟩) hS.2.2 hd hlk
theorem sg_areturn {r : Option Nat} {C : String} (hd : decode cc pc = .ok (.areturn, 1)) (hr : ret = some (.object C)) (hk : k ≤ mc) (hn : n ≤ ms) (hp : Post (some (va_rf r)) M) : sm_G l b D cA y cc nL ret fr mc ms Post k n pc L [va_rf r] M := by
  intro p e R s m args below meth c hC H locs ls hH hS hL
  obtain ⟨hx, hb, -, hown, hts, hlk, hrt, -⟩ := id hC
  refine W.widen hk hn ?_
  exact W.aret (v := sm_s b (va_rf r)) hx hb (hrt.trans hr) (Or.inl ⟨C, rfl⟩) (by cases r with
    | none => exact Or.inl rfl
    | some a => exact Or.inr ⟨b + a, rfl⟩) (fun t ht hW => ⟨⟨some (va_rf r), M, rfl, hp, by rw [ht]; exact hH⟩, hS.F ht⟩) hS.2.2 hd hlk
theorem sg_tableOut {dflt lo hi : Int} {offs : Array Int} {len : Nat} {x : Int32} (tgt : Nat) (hd : decode cc pc = .ok (.tableswitch dflt lo hi offs, len)) (hx : x.toInt < lo ∨ hi < x.toInt) (ht : (pc : Int) + dflt = (tgt : Int)) (h : sm_G l b D cA y cc nL ret fr mc ms Post k n tgt L st M) : sm_G l b D cA y cc nL ret fr mc ms Post k n pc L (.int x :: st) M := fun p e R s m args below meth c C H locs ls hH hS hL => lv_tableOut C.1 C.2.1 hd hx ht (h p e R s m args below meth c C H locs ls hH hS hL)
theorem sg_tableIn {dflt lo hi off : Int} {offs : Array Int} {len : Nat} {x : Int32} (tgt : Nat) (hd : decode cc pc = .ok (.tableswitch dflt lo hi offs, len)) (h1 : ¬ x.toInt < lo) (h2 : ¬ hi < x.toInt) (ho : offs[(x.toInt - lo).toNat]? = some off) (ht : (pc : Int) + off = (tgt : Int)) (h : sm_G l b D cA y cc nL ret fr mc ms Post k n tgt L st M) : sm_G l b D cA y cc nL ret fr mc ms Post k n pc L (.int x :: st) M := fun p e R s m args below meth c C H locs ls hH hS hL => lv_tableIn C.1 C.2.1 hd h1 h2 ho ht (h p e R s m args below meth c C H locs ls hH hS hL)
theorem sg_lookup {dflt off : Int} {ps : Array (Int × Int)} {len : Nat} {x : Int32} (tgt : Nat) (hd : decode cc pc = .ok (.lookupswitch dflt ps, len)) (hp : (ps.toList.zip (ps.toList.drop 1)).all (fun (a, next) => a.1 < next.1) = true) (ho : Op.lookupswitch.offset ps.toList dflt x.toInt = off) (ht : (pc : Int) + off = (tgt : Int)) (h : sm_G l b D cA y cc nL ret fr mc ms Post k n tgt L st M) : sm_G l b D cA y cc nL ret fr mc ms Post k n pc L (.int x :: st) M := fun p e R s m args below meth c C H locs ls hH hS hL => lv_lookup C.1 C.2.1 hd hp ho ht (h p e R s m args below meth c C H locs ls hH hS hL)
end SMH
end
section
/-! calls -/
theorem sm_good : GoodIn sm_tb sm_tb := fun w hw => ⟨hw, good_of_word (List.mem_filter.mp hw).2⟩
def sm_ML (own : String) (idx : Nat) (yc : MethodName) : Prop := Cond.methodLink own idx yc ∈ sm_tb ∨ ∃ host, Cond.methodLinkNest own idx yc host ∈ sm_nb
def sm_Y (yc : MethodName) (ccc : ByteArray) (nLc : Nat) (retc : Option FieldType) (np : Nat) : Prop := Cond.code yc ccc nLc retc ∈ sm_tb ∧ Cond.initialized yc.cls ∈ sm_tb ∧ (yc.cls ≠ "java/lang/invoke/MethodHandle" ∧ yc.cls ≠ "java/lang/invoke/VarHandle" ∧ (parseMethodDescriptor yc.desc).map (fun d => d.parameters.length) = some np) ∧ nLc ≤ 13
/-- what a call of an instance's method, of a static one, of a constructor stands on -/
def sm_CV (own : String) (idx : Nat) (yc : MethodName) (ccc : ByteArray) (nLc : Nat) (retc : Option FieldType) (np ci : Nat) : Prop := sm_Y yc ccc nLc retc np ∧ sm_ML own idx yc ∧ Cond.instanceMethod yc ∈ sm_tb ∧ Cond.selects yc.cls yc yc ∈ sm_tb ∧ ∃ (T : u_T) (N : Nat), vwCl[ci]? = some (yc.cls, T, N)
def sm_CS (own : String) (idx : Nat) (yc : MethodName) (ccc : ByteArray) (nLc : Nat) (retc : Option FieldType) (np : Nat) : Prop := sm_Y yc ccc nLc retc np ∧ sm_ML own idx yc ∧ Cond.static yc ∈ sm_tb
def sm_CI (own : String) (idx : Nat) (yc : MethodName) (ccc : ByteArray) (nLc np : Nat) : Prop := sm_Y yc ccc nLc none np ∧ sm_ML own idx yc ∧ Cond.instanceMethod yc ∈ sm_tb ∧ yc.name = "<init>"
theorem sm_GC {yc : MethodName} {ccc : ByteArray} {nLc : Nat} {retc : Option FieldType} (h : Cond.code yc ccc nLc retc ∈ sm_tb) : GoodIn sm_tb (.code yc ccc nLc retc :: sm_tb) := fun w hw => (List.mem_cons.mp hw).elim (fun e => sm_good w (by rw [e]; exact h)) (sm_good w)
section SMC
variable {l : Launch} {b : Nat} {D : va_G} {cA : Nat → ClassId} {y : MethodName} {cc : ByteArray} {nL : Nat} {ret : Option FieldType} {fr mc ms : Nat} {Post : Option Value → sm_M → Prop} {k n pc : Nat} {L : List (Option Value)} {st : List Value} {M : sm_M}
theorem sm_catsum (b : Nat) (st : List Value) : ((st.map (sm_s b)).map fun v => v.category).sum = (st.map fun v => v.category).sum := by
  rw [List.map_map]
  congr 1
  exact List.map_congr_left (fun v _ => sm_s_cat b v)
theorem sm_after {p : Program} {e : Env} {R : Room} {s : State} {m : MethodId} {args a : Array Value} {below : List Frame} {meth : Method} {c : Code} {H : Heap} {locs : List Loc} {ls : Array Slot} {stk rest : List Value} {mcc msc : Nat} {Q : State → Prop} {P1 : Option Value → sm_M → Prop}
    (hr : va_Run p l e R s m args below meth c H locs k n mcc msc (F0 m pc ls stk) rest (sm_Q b D cA P1 a) (fun q => b ≤ q)) (hS : va_S (fun q => b ≤ q) s.heap H locs)
    (h : ∀ (r : Option Value) (M1 : sm_M) (H1 : Heap) (locs1 : List Loc), P1 r M1 → sm_H b D cA M1 H1 → va_S (fun q => b ≤ q) s.heap H1 locs1 → W p l e R s m args below meth c H1 locs1 (k + mcc) (n + msc) Q (F0 m (pc + 3) ls ((r.map (sm_s b)).toList ++ rest))) :
    W p l e R s m args below meth c H locs k n Q (F0 m pc ls stk) := by
  intro T hT X
  obtain ⟨v, st₀, t, T', L, h0, X', hL, e1, e2, ⟨⟨r, M1, hv, hp, hH1⟩, hz, hk⟩, stp⟩ := hr T hT X
  cases hv
  rw [h0] at hz hk
  obtain ⟨t2, a1, b1⟩ := h r M1 T'.heap (locs ++ L) hp (by rw [e1]; exact hH1) (hS.two (by rw [e1]; exact hz) (fun q h1 h2 => by rw [e1]; exact hk q h1 h2) hL) T' rfl X'
  exact ⟨t2, stp t2 a1, b1⟩
theorem sm_blind {av : List Value} : FrameBlind (va_Pc (av.map (sm_s b)) (fun U => sm_H b D cA M U.heap ∧ sm_K b D cA U)) := fun a U g mk q => ⟨q.1, q.2.1, sm_K.same (u := U) (U := U.calling g mk a) rfl rfl q.2.2⟩
theorem sm_toList (b : Nat) (r : Option Value) (st : List Value) : (r.map (sm_s b)).toList ++ st.map (sm_s b) = (r.toList ++ st).map (sm_s b) := by cases r <;> rfl
theorem sg_callV {idx np ci q nLc frc mcc msc : Nat} {yc : MethodName} {ccc : ByteArray} {retc : Option FieldType} {As fs : List Value} {P1 : Option Value → sm_M → Prop} (hd : decode cc pc = .ok (.invokevirtual idx, 3)) (hcv : sm_CV y.cls idx yc ccc nLc retc np ci) (hM : M[q]? = some (sm_o ci fs)) (hCt : sm_Ct l b D cA yc ccc nLc retc frc mcc msc (.ref q :: As) M P1) (hlen : As.length = np) (hfr : frc + 1 ≤ fr) (hst : (st.map fun v => v.category).sum ≤ 8) (hmc : k + mcc ≤ mc) (hms : n + msc ≤ ms)
    (h : ∀ (r : Option Value) (M1 : sm_M), P1 r M1 → sm_G l b D cA y cc nL ret fr mc ms Post (k + mcc) (n + msc) (pc + 3) L (r.toList ++ st) M1) : sm_G l b D cA y cc nL ret fr mc ms Post k n pc L (As.reverse ++ .ref q :: st) M := by
  intro p e R s m args below meth c hC H locs ls hH hS hL
  obtain ⟨hx, hb, hml, hown, hts, hlk, hrt, hK, hmn, hRf, hRc, hRs, hRl⟩ := id hC
  obtain ⟨⟨hcode, hini, hyd, hnl⟩, hlink, hinm, hsel, T, N, hci⟩ := hcv
  have hpre : PreV s H yc.cls (b + q) (va_Pc ((Value.ref q :: As).map (sm_s b)) (fun U => sm_H b D cA M U.heap ∧ sm_K b D cA U)) (As.map (sm_s b)) :=
    ⟨sm_blind, va_recv hK.1 (sm_Pone (hH.2 q _ hM)) hci (q0 := 0) rfl, fun U hU hW => ⟨rfl, by rw [hU]; exact hH, hK.warm hW (fun a h1 h2 => by rw [hU]; exact hS.2.1 a h1 h2)⟩⟩
  have hR : frc + 1 ≤ R.frames ∧ 8 + (nLc + 11) + 32 * frc ≤ R.locals := ⟨by rw [hRf]; exact hfr, by rw [hRl]; omega⟩
  have hstack : (As.reverse ++ Value.ref q :: st).map (sm_s b) = (As.map (sm_s b)).reverse ++ Value.ref (b + q) :: st.map (sm_s b) := by
    rw [List.map_append, List.map_reverse]
    rfl
  have hroom : 2 * (F0 m pc ls ((As.reverse ++ Value.ref q :: st).map (sm_s b))).monitorRoom + ((st.map (sm_s b)).map fun v => v.category).sum ≤ 8 := lv_room (by rw [sm_catsum]; exact hst)
  have hrun : va_Run p l e R s m args below meth c H locs k n mcc msc (F0 m pc ls ((As.reverse ++ Value.ref q :: st).map (sm_s b))) (st.map (sm_s b)) (sm_Q b D cA P1 (Value.ref (b + q) :: As.map (sm_s b)).toArray) (fun q => b ≤ q) := by
    rcases hlink with hl | ⟨host, hl⟩
    · exact va_runV ⟨hx, hb, hml, hown, hts⟩ hCt ⟨callB_of np hts (sm_GC hcode) rfl rfl rfl (hts _ hini) (hts _ hl) hyd hR, hts _ hinm, hts _ hsel⟩ hpre rfl (by rw [List.length_map]; exact hlen) hL.1 hstack hroom hd ⟨by rw [hRc]; exact hmc, by rw [hRs]; exact hms⟩
    · exact va_runVN ⟨hx, hb, hml, hown, hts⟩ hCt ⟨va_cnB np hts (sm_GC hcode) rfl rfl rfl (hK.2.1 _ hl) (hts _ hini) hyd hR, hts _ hinm, hts _ hsel⟩ hpre rfl (by rw [List.length_map]; exact hlen) hL.1 hstack hroom hd ⟨by rw [hRc]; exact hmc, by rw [hRs]; exact hms⟩
  refine sm_after hrun hS (fun r M1 H1 locs1 hp hH1 hS1 => ?_)
  rw [sm_toList]
  exact h r M1 hp p e R s m args below meth c hC H1 locs1 ls hH1 hS1 hL
theorem sg_callS {idx np nLc frc mcc msc : Nat} {yc : MethodName} {ccc : ByteArray} {retc : Option FieldType} {As : List Value} {P1 : Option Value → sm_M → Prop} (hd : decode cc pc = .ok (.invokestatic idx, 3)) (hcs : sm_CS y.cls idx yc ccc nLc retc np) (hCt : sm_Ct l b D cA yc ccc nLc retc frc mcc msc As M P1) (hlen : As.length = np) (hfr : frc + 1 ≤ fr) (hst : (st.map fun v => v.category).sum ≤ 8) (hmc : k + mcc ≤ mc) (hms : n + msc ≤ ms)
    (h : ∀ (r : Option Value) (M1 : sm_M), P1 r M1 → sm_G l b D cA y cc nL ret fr mc ms Post (k + mcc) (n + msc) (pc + 3) L (r.toList ++ st) M1) : sm_G l b D cA y cc nL ret fr mc ms Post k n pc L (As.reverse ++ st) M := by
  intro p e R s m args below meth c hC H locs ls hH hS hL
  obtain ⟨hx, hb, hml, hown, hts, hlk, hrt, hK, hmn, hRf, hRc, hRs, hRl⟩ := id hC
  obtain ⟨⟨hcode, hini, hyd, hnl⟩, hlink, hstt⟩ := hcs
  have hpre : PreS s H (va_Pc (As.map (sm_s b)) (fun U => sm_H b D cA M U.heap ∧ sm_K b D cA U)) (As.map (sm_s b)) :=
    ⟨sm_blind, fun U hU hW => ⟨rfl, by rw [hU]; exact hH, hK.warm hW (fun a h1 h2 => by rw [hU]; exact hS.2.1 a h1 h2)⟩⟩
  have hR : frc + 1 ≤ R.frames ∧ 8 + (nLc + 11) + 32 * frc ≤ R.locals := ⟨by rw [hRf]; exact hfr, by rw [hRl]; omega⟩
  have hstack : (As.reverse ++ st).map (sm_s b) = (As.map (sm_s b)).reverse ++ st.map (sm_s b) := by
    rw [List.map_append, List.map_reverse]
  have hroom : 2 * (F0 m pc ls ((As.reverse ++ st).map (sm_s b))).monitorRoom + ((st.map (sm_s b)).map fun v => v.category).sum ≤ 8 := lv_room (by rw [sm_catsum]; exact hst)
  have hrun : va_Run p l e R s m args below meth c H locs k n mcc msc (F0 m pc ls ((As.reverse ++ st).map (sm_s b))) (st.map (sm_s b)) (sm_Q b D cA P1 (As.map (sm_s b)).toArray) (fun q => b ≤ q) := by
    rcases hlink with hl | ⟨host, hl⟩
    · exact va_runS ⟨hx, hb, hml, hown, hts⟩ hCt ⟨callB_of np hts (sm_GC hcode) rfl rfl rfl (hts _ hini) (hts _ hl) hyd hR, hts _ hstt⟩ hpre rfl (by rw [List.length_map]; exact hlen) hL.1 hstack hroom hd ⟨by rw [hRc]; exact hmc, by rw [hRs]; exact hms⟩
    · exact va_runSN ⟨hx, hb, hml, hown, hts⟩ hCt ⟨va_cnB np hts (sm_GC hcode) rfl rfl rfl (hK.2.1 _ hl) (hts _ hini) hyd hR, hts _ hstt, trivial⟩ hpre rfl (by rw [List.length_map]; exact hlen) hL.1 hstack hroom hd ⟨by rw [hRc]; exact hmc, by rw [hRs]; exact hms⟩
  refine sm_after hrun hS (fun r M1 H1 locs1 hp hH1 hS1 => ?_)
  rw [sm_toList]
  exact h r M1 hp p e R s m args below meth c hC H1 locs1 ls hH1 hS1 hL
theorem sg_callI {idx np q nLc frc mcc msc : Nat} {yc : MethodName} {ccc : ByteArray} {As : List Value} {P1 : Option Value → sm_M → Prop} (hd : decode cc pc = .ok (.invokespecial idx, 3)) (hci : sm_CI y.cls idx yc ccc nLc np) (hCt : sm_Ct l b D cA yc ccc nLc none frc mcc msc (.ref q :: As) M P1) (hlen : As.length = np) (hfr : frc + 1 ≤ fr) (hst : (st.map fun v => v.category).sum ≤ 8) (hmc : k + mcc ≤ mc) (hms : n + msc ≤ ms)
    (h : ∀ (r : Option Value) (M1 : sm_M), P1 r M1 → sm_G l b D cA y cc nL ret fr mc ms Post (k + mcc) (n + msc) (pc + 3) L (r.toList ++ st) M1) : sm_G l b D cA y cc nL ret fr mc ms Post k n pc L (As.reverse ++ .ref q :: st) M := by
  intro p e R s m args below meth c hC H locs ls hH hS hL
  obtain ⟨hx, hb, hml, hown, hts, hlk, hrt, hK, hmn, hRf, hRc, hRs, hRl⟩ := id hC
  obtain ⟨⟨hcode, hini, hyd, hnl⟩, hlink, hinm, hnm⟩ := hci
  have hpre : PreS s H (va_Pc ((Value.ref q :: As).map (sm_s b)) (fun U => sm_H b D cA M U.heap ∧ sm_K b D cA U)) (.ref (b + q) :: As.map (sm_s b)) :=
    ⟨sm_blind, fun U hU hW => ⟨rfl, by rw [hU]; exact hH, hK.warm hW (fun a h1 h2 => by rw [hU]; exact hS.2.1 a h1 h2)⟩⟩
  have hR : frc + 1 ≤ R.frames ∧ 8 + (nLc + 11) + 32 * frc ≤ R.locals := ⟨by rw [hRf]; exact hfr, by rw [hRl]; omega⟩
  have hstack : (As.reverse ++ Value.ref q :: st).map (sm_s b) = (As.map (sm_s b)).reverse ++ Value.ref (b + q) :: st.map (sm_s b) := by
    rw [List.map_append, List.map_reverse]
    rfl
  have hroom : 2 * (F0 m pc ls ((As.reverse ++ Value.ref q :: st).map (sm_s b))).monitorRoom + ((st.map (sm_s b)).map fun v => v.category).sum ≤ 8 := lv_room (by rw [sm_catsum]; exact hst)
  have hrun : va_Run p l e R s m args below meth c H locs k n mcc msc (F0 m pc ls ((As.reverse ++ Value.ref q :: st).map (sm_s b))) (st.map (sm_s b)) (sm_Q b D cA P1 (Value.ref (b + q) :: As.map (sm_s b)).toArray) (fun q => b ≤ q) := by
    rcases hlink with hl | ⟨host, hl⟩
    · exact va_runI ⟨hx, hb, hml, hown, hts⟩ hCt ⟨callB_of np hts (sm_GC hcode) rfl rfl rfl (hts _ hini) (hts _ hl) hyd hR, hnm, hts _ hinm⟩ hpre rfl (by rw [List.length_map]; exact hlen) hL.1 hstack hroom hd ⟨by rw [hRc]; exact hmc, by rw [hRs]; exact hms⟩
    · exact va_runIN ⟨hx, hb, hml, hown, hts⟩ hCt ⟨va_cnB np hts (sm_GC hcode) rfl rfl rfl (hK.2.1 _ hl) (hts _ hini) hyd hR, hnm, hts _ hinm⟩ hpre rfl (by rw [List.length_map]; exact hlen) hL.1 hstack hroom hd ⟨by rw [hRc]; exact hmc, by rw [hRs]; exact hms⟩
  refine sm_after hrun hS (fun r M1 H1 locs1 hp hH1 hS1 => ?_)
  rw [sm_toList]
  exact h r M1 hp p e R s m args below meth c hC H1 locs1 ls hH1 hS1 hL
theorem sg_mmax {idx : Nat} {x z : Int32} (hd : decode cc pc = .ok (.invokestatic idx, 3)) (hl : Cond.methodLink y.cls idx Lib.Math.max.name ∈ sm_tb) (hs : Cond.static Lib.Math.max.name ∈ sm_tb) (hi : Cond.initialized "java/lang/Math" ∈ sm_tb) (hc : Cond.code Lib.Math.max.name Lib.Math.max.code 2 (some .int) ∈ sm_tb) (hfr : 1 ≤ fr) (hst : (st.map fun v => v.category).sum ≤ 8) (hmc : k ≤ mc) (hms : n ≤ ms) (h : sm_G l b D cA y cc nL ret fr mc ms Post k n (pc + 3) L (.int (if x < z then z else x) :: st) M) : sm_G l b D cA y cc nL ret fr mc ms Post k n pc L (.int z :: .int x :: st) M := by
  intro p e R s m args below meth c hC H locs ls hH hS hL
  obtain ⟨hx, hb, hml, hown, hts, hlk, hrt, hK, hmn, hRf, hRc, hRs, hRl⟩ := id hC
  exact va_mmax hx hb (by rw [hml, hL.1]) hown (hts _ hl) (hts _ hs) (hts _ hi) (hts _ hc) (by rw [hRf]; exact hfr) (by rw [sm_catsum, hRl]; omega) (by rw [hRc]; exact hmc) (by rw [hRs]; exact hms) hd (h p e R s m args below meth c hC H locs ls hH hS hL)
theorem sg_mmin {idx : Nat} {x z : Int32} (hd : decode cc pc = .ok (.invokestatic idx, 3)) (hl : Cond.methodLink y.cls idx Lib.Math.min.name ∈ sm_tb) (hs : Cond.static Lib.Math.min.name ∈ sm_tb) (hi : Cond.initialized "java/lang/Math" ∈ sm_tb) (hc : Cond.code Lib.Math.min.name Lib.Math.min.code 2 (some .int) ∈ sm_tb) (hfr : 1 ≤ fr) (hst : (st.map fun v => v.category).sum ≤ 8) (hmc : k ≤ mc) (hms : n ≤ ms) (h : sm_G l b D cA y cc nL ret fr mc ms Post k n (pc + 3) L (.int (if z < x then z else x) :: st) M) : sm_G l b D cA y cc nL ret fr mc ms Post k n pc L (.int z :: .int x :: st) M := by
  intro p e R s m args below meth c hC H locs ls hH hS hL
  obtain ⟨hx, hb, hml, hown, hts, hlk, hrt, hK, hmn, hRf, hRc, hRs, hRl⟩ := id hC
  exact va_mmin hx hb (by rw [hml, hL.1]) hown (hts _ hl) (hts _ hs) (hts _ hi) (hts _ hc) (by rw [hRf]; exact hfr) (by rw [sm_catsum, hRl]; omega) (by rw [hRc]; exact hmc) (by rw [hRs]; exact hms) hd (h p e R s m args below meth c hC H locs ls hH hS hL)
theorem sg_objInit {idx q : Nat} (hd : decode cc pc = .ok (.invokespecial idx, 3)) (hl : Cond.methodLink y.cls idx objectInit ∈ sm_tb) (hi : Cond.instanceMethod objectInit ∈ sm_tb) (hc : Cond.code objectInit ⟨#[0xb1]⟩ 1 none ∈ sm_tb) (hfr : 1 ≤ fr) (hst : (st.map fun v => v.category).sum ≤ 8) (h : sm_G l b D cA y cc nL ret fr mc ms Post k n (pc + 3) L st M) : sm_G l b D cA y cc nL ret fr mc ms Post k n pc L (.ref q :: st) M := by
  intro p e R s m args below meth c hC H locs ls hH hS hL
  obtain ⟨hx, hb, hml, hown, hts, hlk, hrt, hK, hmn, hRf, hRc, hRs, hRl⟩ := id hC
  refine W.objInit hx hb hown (hts _ hl) (hts _ hi) (hts _ hc) rfl (by rw [hml]; exact hL.1) rfl hd (by rw [hRf]; exact hfr) ?_ (h p e R s m args below meth c hC H locs ls hH hS hL)
  have h9 := lv_room (m := m) (pc := pc) (ls := ls) (rest := (Value.ref q :: st).map (sm_s b)) (st := st.map (sm_s b)) (by rw [sm_catsum]; exact hst)
  rw [hRl]
  exact Nat.le_trans (Nat.add_le_add_right h9 12) (by omega)
theorem sg_anew {idx t : Nat} {i : Int32} {C : String} (N : Nat) (hd : decode cc pc = .ok (.anewarray idx, 3)) (hcl : Cond.classLink y.cls idx C ∈ sm_tb) (hao : Cond.arrayOver (.object C) ∈ sm_nb) (ht : ∀ cA : Nat → ClassId, (sm_ty cA)[t]? = some (cA t, .object C)) (hi : i = nI N) (hN : N < 100000) (hk1 : k + 1 ≤ mc) (hn1 : n + N ≤ ms) (h : sm_G l b D cA y cc nL ret fr mc ms Post (k + 1) (n + N) (pc + 3) L (.ref M.length :: st) (M ++ [sm_r t N (fun _ => none)])) : sm_G l b D cA y cc nL ret fr mc ms Post k n pc L (.int i :: st) M := by
  subst hi
  intro p e R s m args below meth c hC H locs ls hH hS hL
  obtain ⟨hx, hb, hml, hown, hts, hlk, hrt, hK, hmn, hRf, hRc, hRs, hRl⟩ := id hC
  have hcn : (nI N).toNatClampNeg = N := nI_clamp (by omega)
  refine W.anew hx hb hown (hts _ hcl) (va_AO.use (hK.2.1 _ hao)) rfl hd rfl (nI_pos (by omega)) (by rw [hcn]; omega) (by rw [hRc]; exact hk1) (by rw [hRs, hcn]; exact hn1) fun cA' kA comp f1 f2 f3 f4 => ?_
  obtain ⟨kA2, comp2, -, -, -, f6⟩ := (hK.1.2 t _ (ht cA)).2
  have hcc : cA' = cA t := Option.some.inj (f1.symm.trans f6)
  subst hcc
  rw [hcn]
  generalize hH1 : H.push ({ cls := cA t, slots := Array.replicate N .null, vm := .none } : Cell) = H1
  have z1 : H1.size = H.size + 1 := by rw [← hH1, Array.size_push]
  have e1 : H1[H.size]? = some (arrV (cA t) N (fun _ => .null)) := by rw [← hH1, Array.getElem?_push_size, ← arrV_new]
  have o1 : ∀ q : Nat, q < H.size → H1[q]? = H[q]? := fun q hq => by rw [← hH1, Array.getElem?_push, if_neg (Nat.ne_of_lt hq)]
  have hz := hH.1
  rw [hz] at e1 ⊢
  exact h p e R s m args below meth c hC H1 locs ls (hH.push (x := .inr (.inl (t, N, fun _ => none))) e1 z1 o1) ⟨Nat.le_trans hS.1 (by omega), fun x h1 h2 => (o1 x (Nat.lt_of_lt_of_le h1 hS.1)).trans (hS.2.1 x h1 h2), hS.2.2⟩ hL
end SMC
end
section
/-! facts of the tables, by program (wip/whole/gen13.py) -/
theorem sm_in {w : Cond} (i : Nat) (h : tables_1[i]? = some w) (g : goodWord w = true) : w ∈ sm_tb := List.mem_filter.mpr ⟨List.mem_append_right _ (List.mem_of_getElem? h), g⟩
theorem sm_inP {w : Cond} (i : Nat) (h : (k2_sels lw_privs)[i]? = some w) (g : goodWord w = true) : w ∈ sm_tb := List.mem_filter.mpr ⟨List.mem_append_left _ (List.mem_of_getElem? h), g⟩
theorem sm_inN {w : Cond} (i : Nat) (h : tables_1[i]? = some w) (g : sm_isN w = true) : w ∈ sm_nb := List.mem_filter.mpr ⟨List.mem_of_getElem? h, g⟩
theorem inTX0 : ∀ w ∈ u_ws RX0 TX0 5, w ∈ sm_tb := by
  intro w hw
  obtain ⟨j, hj, rfl⟩ := List.mem_map.mp hw
  have hj := List.mem_range.mp hj
  match j, hj with
  | 0, _ => exact sm_in 484 (by decide +kernel) (by decide +kernel)
  | 1, _ => exact sm_in 486 (by decide +kernel) (by decide +kernel)
  | 2, _ => exact sm_in 488 (by decide +kernel) (by decide +kernel)
  | 3, _ => exact sm_in 490 (by decide +kernel) (by decide +kernel)
  | 4, _ => exact sm_in 492 (by decide +kernel) (by decide +kernel)
  | j + 5, h => omega
theorem ft_X0_0 : sm_FT 0 (.int) true TX0 5 := ⟨rfl, tyX0_ok 0 (by decide), tyX0, tyX0_ok, nmX0⟩
theorem ft_X0_1 : sm_FT 1 (.int) true TX0 5 := ⟨rfl, tyX0_ok 1 (by decide), tyX0, tyX0_ok, nmX0⟩
theorem ft_X0_2 : sm_FT 2 (.int) true TX0 5 := ⟨rfl, tyX0_ok 2 (by decide), tyX0, tyX0_ok, nmX0⟩
theorem ft_X0_3 : sm_FT 3 (.int) false TX0 5 := ⟨rfl, tyX0_ok 3 (by decide), tyX0, tyX0_ok, nmX0⟩
theorem ft_X0_4 : sm_FT 4 (.int) false TX0 5 := ⟨rfl, tyX0_ok 4 (by decide), tyX0, tyX0_ok, nmX0⟩
theorem inTX1 : ∀ w ∈ u_ws RX1 TX1 6, w ∈ sm_tb := by
  intro w hw
  obtain ⟨j, hj, rfl⟩ := List.mem_map.mp hw
  have hj := List.mem_range.mp hj
  match j, hj with
  | 0, _ => exact sm_in 134 (by decide +kernel) (by decide +kernel)
  | 1, _ => exact sm_in 136 (by decide +kernel) (by decide +kernel)
  | 2, _ => exact sm_in 138 (by decide +kernel) (by decide +kernel)
  | 3, _ => exact sm_in 140 (by decide +kernel) (by decide +kernel)
  | 4, _ => exact sm_in 142 (by decide +kernel) (by decide +kernel)
  | 5, _ => exact sm_in 144 (by decide +kernel) (by decide +kernel)
  | j + 6, h => omega
theorem ft_X1_0 : sm_FT 0 (.array .int) true TX1 6 := ⟨rfl, tyX1_ok 0 (by decide), tyX1, tyX1_ok, nmX1⟩
theorem ft_X1_1 : sm_FT 1 (.int) false TX1 6 := ⟨rfl, tyX1_ok 1 (by decide), tyX1, tyX1_ok, nmX1⟩
theorem ft_X1_2 : sm_FT 2 (.array .int) true TX1 6 := ⟨rfl, tyX1_ok 2 (by decide), tyX1, tyX1_ok, nmX1⟩
theorem ft_X1_3 : sm_FT 3 (.array .int) true TX1 6 := ⟨rfl, tyX1_ok 3 (by decide), tyX1, tyX1_ok, nmX1⟩
theorem ft_X1_4 : sm_FT 4 (.array .int) true TX1 6 := ⟨rfl, tyX1_ok 4 (by decide), tyX1, tyX1_ok, nmX1⟩
theorem ft_X1_5 : sm_FT 5 (.array .int) true TX1 6 := ⟨rfl, tyX1_ok 5 (by decide), tyX1, tyX1_ok, nmX1⟩
theorem inTX2 : ∀ w ∈ u_ws RX2 TX2 7, w ∈ sm_tb := by
  intro w hw
  obtain ⟨j, hj, rfl⟩ := List.mem_map.mp hw
  have hj := List.mem_range.mp hj
  match j, hj with
  | 0, _ => exact sm_in 104 (by decide +kernel) (by decide +kernel)
  | 1, _ => exact sm_in 106 (by decide +kernel) (by decide +kernel)
  | 2, _ => exact sm_in 108 (by decide +kernel) (by decide +kernel)
  | 3, _ => exact sm_in 110 (by decide +kernel) (by decide +kernel)
  | 4, _ => exact sm_in 112 (by decide +kernel) (by decide +kernel)
  | 5, _ => exact sm_in 114 (by decide +kernel) (by decide +kernel)
  | 6, _ => exact sm_in 116 (by decide +kernel) (by decide +kernel)
  | j + 7, h => omega
theorem ft_X2_0 : sm_FT 0 (.array .int) true TX2 7 := ⟨rfl, tyX2_ok 0 (by decide), tyX2, tyX2_ok, nmX2⟩
theorem ft_X2_1 : sm_FT 1 (.array .int) true TX2 7 := ⟨rfl, tyX2_ok 1 (by decide), tyX2, tyX2_ok, nmX2⟩
theorem ft_X2_2 : sm_FT 2 (.int) false TX2 7 := ⟨rfl, tyX2_ok 2 (by decide), tyX2, tyX2_ok, nmX2⟩
theorem ft_X2_3 : sm_FT 3 (.int) false TX2 7 := ⟨rfl, tyX2_ok 3 (by decide), tyX2, tyX2_ok, nmX2⟩
theorem ft_X2_4 : sm_FT 4 (.int) false TX2 7 := ⟨rfl, tyX2_ok 4 (by decide), tyX2, tyX2_ok, nmX2⟩
theorem ft_X2_5 : sm_FT 5 (.int) false TX2 7 := ⟨rfl, tyX2_ok 5 (by decide), tyX2, tyX2_ok, nmX2⟩
theorem ft_X2_6 : sm_FT 6 (.int) false TX2 7 := ⟨rfl, tyX2_ok 6 (by decide), tyX2, tyX2_ok, nmX2⟩
theorem inTX3 : ∀ w ∈ u_ws RX3 TX3 5, w ∈ sm_tb := by
  intro w hw
  obtain ⟨j, hj, rfl⟩ := List.mem_map.mp hw
  have hj := List.mem_range.mp hj
  match j, hj with
  | 0, _ => exact sm_in 53 (by decide +kernel) (by decide +kernel)
  | 1, _ => exact sm_in 55 (by decide +kernel) (by decide +kernel)
  | 2, _ => exact sm_in 57 (by decide +kernel) (by decide +kernel)
  | 3, _ => exact sm_in 59 (by decide +kernel) (by decide +kernel)
  | 4, _ => exact sm_in 61 (by decide +kernel) (by decide +kernel)
  | j + 5, h => omega
theorem ft_X3_0 : sm_FT 0 (.array .int) true TX3 5 := ⟨rfl, tyX3_ok 0 (by decide), tyX3, tyX3_ok, nmX3⟩
theorem ft_X3_1 : sm_FT 1 (.array .int) true TX3 5 := ⟨rfl, tyX3_ok 1 (by decide), tyX3, tyX3_ok, nmX3⟩
theorem ft_X3_2 : sm_FT 2 (.array .int) true TX3 5 := ⟨rfl, tyX3_ok 2 (by decide), tyX3, tyX3_ok, nmX3⟩
theorem ft_X3_3 : sm_FT 3 (.array .int) true TX3 5 := ⟨rfl, tyX3_ok 3 (by decide), tyX3, tyX3_ok, nmX3⟩
theorem ft_X3_4 : sm_FT 4 (.int) false TX3 5 := ⟨rfl, tyX3_ok 4 (by decide), tyX3, tyX3_ok, nmX3⟩
theorem inTX4 : ∀ w ∈ u_ws RX4 TX4 5, w ∈ sm_tb := by
  intro w hw
  obtain ⟨j, hj, rfl⟩ := List.mem_map.mp hw
  have hj := List.mem_range.mp hj
  match j, hj with
  | 0, _ => exact sm_in 210 (by decide +kernel) (by decide +kernel)
  | 1, _ => exact sm_in 212 (by decide +kernel) (by decide +kernel)
  | 2, _ => exact sm_in 214 (by decide +kernel) (by decide +kernel)
  | 3, _ => exact sm_in 216 (by decide +kernel) (by decide +kernel)
  | 4, _ => exact sm_in 218 (by decide +kernel) (by decide +kernel)
  | j + 5, h => omega
theorem ft_X4_0 : sm_FT 0 (.array .int) true TX4 5 := ⟨rfl, tyX4_ok 0 (by decide), tyX4, tyX4_ok, nmX4⟩
theorem ft_X4_1 : sm_FT 1 (.array .int) true TX4 5 := ⟨rfl, tyX4_ok 1 (by decide), tyX4, tyX4_ok, nmX4⟩
theorem ft_X4_2 : sm_FT 2 (.int) false TX4 5 := ⟨rfl, tyX4_ok 2 (by decide), tyX4, tyX4_ok, nmX4⟩
theorem ft_X4_3 : sm_FT 3 (.int) false TX4 5 := ⟨rfl, tyX4_ok 3 (by decide), tyX4, tyX4_ok, nmX4⟩
theorem ft_X4_4 : sm_FT 4 (.int) false TX4 5 := ⟨rfl, tyX4_ok 4 (by decide), tyX4, tyX4_ok, nmX4⟩
theorem inTX5 : ∀ w ∈ u_ws RX5 TX5 5, w ∈ sm_tb := by
  intro w hw
  obtain ⟨j, hj, rfl⟩ := List.mem_map.mp hw
  have hj := List.mem_range.mp hj
  match j, hj with
  | 0, _ => exact sm_in 77 (by decide +kernel) (by decide +kernel)
  | 1, _ => exact sm_in 79 (by decide +kernel) (by decide +kernel)
  | 2, _ => exact sm_in 81 (by decide +kernel) (by decide +kernel)
  | 3, _ => exact sm_in 83 (by decide +kernel) (by decide +kernel)
  | 4, _ => exact sm_in 85 (by decide +kernel) (by decide +kernel)
  | j + 5, h => omega
theorem ft_X5_0 : sm_FT 0 (.array .int) true TX5 5 := ⟨rfl, tyX5_ok 0 (by decide), tyX5, tyX5_ok, nmX5⟩
theorem ft_X5_1 : sm_FT 1 (.array .int) true TX5 5 := ⟨rfl, tyX5_ok 1 (by decide), tyX5, tyX5_ok, nmX5⟩
theorem ft_X5_2 : sm_FT 2 (.array .int) true TX5 5 := ⟨rfl, tyX5_ok 2 (by decide), tyX5, tyX5_ok, nmX5⟩
theorem ft_X5_3 : sm_FT 3 (.array .int) true TX5 5 := ⟨rfl, tyX5_ok 3 (by decide), tyX5, tyX5_ok, nmX5⟩
theorem ft_X5_4 : sm_FT 4 (.int) false TX5 5 := ⟨rfl, tyX5_ok 4 (by decide), tyX5, tyX5_ok, nmX5⟩
theorem inTX6 : ∀ w ∈ u_ws RX6 TX6 12, w ∈ sm_tb := by
  intro w hw
  obtain ⟨j, hj, rfl⟩ := List.mem_map.mp hw
  have hj := List.mem_range.mp hj
  match j, hj with
  | 0, _ => exact sm_in 159 (by decide +kernel) (by decide +kernel)
  | 1, _ => exact sm_in 161 (by decide +kernel) (by decide +kernel)
  | 2, _ => exact sm_in 163 (by decide +kernel) (by decide +kernel)
  | 3, _ => exact sm_in 165 (by decide +kernel) (by decide +kernel)
  | 4, _ => exact sm_in 167 (by decide +kernel) (by decide +kernel)
  | 5, _ => exact sm_in 169 (by decide +kernel) (by decide +kernel)
  | 6, _ => exact sm_in 171 (by decide +kernel) (by decide +kernel)
  | 7, _ => exact sm_in 173 (by decide +kernel) (by decide +kernel)
  | 8, _ => exact sm_in 175 (by decide +kernel) (by decide +kernel)
  | 9, _ => exact sm_in 177 (by decide +kernel) (by decide +kernel)
  | 10, _ => exact sm_in 179 (by decide +kernel) (by decide +kernel)
  | 11, _ => exact sm_in 181 (by decide +kernel) (by decide +kernel)
  | j + 12, h => omega
theorem ft_X6_0 : sm_FT 0 (.array (.object "ShellMoney$Strand")) true TX6 12 := ⟨rfl, tyX6_ok 0 (by decide), tyX6, tyX6_ok, nmX6⟩
theorem ft_X6_1 : sm_FT 1 (.int) false TX6 12 := ⟨rfl, tyX6_ok 1 (by decide), tyX6, tyX6_ok, nmX6⟩
theorem ft_X6_2 : sm_FT 2 (.array .int) true TX6 12 := ⟨rfl, tyX6_ok 2 (by decide), tyX6, tyX6_ok, nmX6⟩
theorem ft_X6_3 : sm_FT 3 (.object "ShellMoney$Rates") true TX6 12 := ⟨rfl, tyX6_ok 3 (by decide), tyX6, tyX6_ok, nmX6⟩
theorem ft_X6_4 : sm_FT 4 (.object "ShellMoney$Tales") true TX6 12 := ⟨rfl, tyX6_ok 4 (by decide), tyX6, tyX6_ok, nmX6⟩
theorem ft_X6_5 : sm_FT 5 (.object "ShellMoney$Purse") true TX6 12 := ⟨rfl, tyX6_ok 5 (by decide), tyX6, tyX6_ok, nmX6⟩
theorem ft_X6_6 : sm_FT 6 (.array (.object "ShellMoney$Debt")) true TX6 12 := ⟨rfl, tyX6_ok 6 (by decide), tyX6, tyX6_ok, nmX6⟩
theorem ft_X6_7 : sm_FT 7 (.int) false TX6 12 := ⟨rfl, tyX6_ok 7 (by decide), tyX6, tyX6_ok, nmX6⟩
theorem ft_X6_8 : sm_FT 8 (.object "ShellMoney$Heap") true TX6 12 := ⟨rfl, tyX6_ok 8 (by decide), tyX6, tyX6_ok, nmX6⟩
theorem ft_X6_9 : sm_FT 9 (.int) false TX6 12 := ⟨rfl, tyX6_ok 9 (by decide), tyX6, tyX6_ok, nmX6⟩
theorem ft_X6_10 : sm_FT 10 (.int) false TX6 12 := ⟨rfl, tyX6_ok 10 (by decide), tyX6, tyX6_ok, nmX6⟩
theorem ft_X6_11 : sm_FT 11 (.int) false TX6 12 := ⟨rfl, tyX6_ok 11 (by decide), tyX6, tyX6_ok, nmX6⟩
theorem inTX7 : ∀ w ∈ u_ws RX7 TX7 25, w ∈ sm_tb := by
  intro w hw
  obtain ⟨j, hj, rfl⟩ := List.mem_map.mp hw
  have hj := List.mem_range.mp hj
  match j, hj with
  | 0, _ => exact sm_in 703 (by decide +kernel) (by decide +kernel)
  | 1, _ => exact sm_in 705 (by decide +kernel) (by decide +kernel)
  | 2, _ => exact sm_in 707 (by decide +kernel) (by decide +kernel)
  | 3, _ => exact sm_in 709 (by decide +kernel) (by decide +kernel)
  | 4, _ => exact sm_in 711 (by decide +kernel) (by decide +kernel)
  | 5, _ => exact sm_in 713 (by decide +kernel) (by decide +kernel)
  | 6, _ => exact sm_in 715 (by decide +kernel) (by decide +kernel)
  | 7, _ => exact sm_in 717 (by decide +kernel) (by decide +kernel)
  | 8, _ => exact sm_in 719 (by decide +kernel) (by decide +kernel)
  | 9, _ => exact sm_in 721 (by decide +kernel) (by decide +kernel)
  | 10, _ => exact sm_in 723 (by decide +kernel) (by decide +kernel)
  | 11, _ => exact sm_in 725 (by decide +kernel) (by decide +kernel)
  | 12, _ => exact sm_in 727 (by decide +kernel) (by decide +kernel)
  | 13, _ => exact sm_in 729 (by decide +kernel) (by decide +kernel)
  | 14, _ => exact sm_in 731 (by decide +kernel) (by decide +kernel)
  | 15, _ => exact sm_in 733 (by decide +kernel) (by decide +kernel)
  | 16, _ => exact sm_in 735 (by decide +kernel) (by decide +kernel)
  | 17, _ => exact sm_in 737 (by decide +kernel) (by decide +kernel)
  | 18, _ => exact sm_in 739 (by decide +kernel) (by decide +kernel)
  | 19, _ => exact sm_in 741 (by decide +kernel) (by decide +kernel)
  | 20, _ => exact sm_in 743 (by decide +kernel) (by decide +kernel)
  | 21, _ => exact sm_in 745 (by decide +kernel) (by decide +kernel)
  | 22, _ => exact sm_in 747 (by decide +kernel) (by decide +kernel)
  | 23, _ => exact sm_in 749 (by decide +kernel) (by decide +kernel)
  | 24, _ => exact sm_in 751 (by decide +kernel) (by decide +kernel)
  | j + 25, h => omega
theorem ft_X7_0 : sm_FT 0 (.array .int) true TX7 25 := ⟨rfl, tyX7_ok 0 (by decide), tyX7, tyX7_ok, nmX7⟩
theorem ft_X7_1 : sm_FT 1 (.array .int) true TX7 25 := ⟨rfl, tyX7_ok 1 (by decide), tyX7, tyX7_ok, nmX7⟩
theorem ft_X7_2 : sm_FT 2 (.array .int) true TX7 25 := ⟨rfl, tyX7_ok 2 (by decide), tyX7, tyX7_ok, nmX7⟩
theorem ft_X7_3 : sm_FT 3 (.array .int) true TX7 25 := ⟨rfl, tyX7_ok 3 (by decide), tyX7, tyX7_ok, nmX7⟩
theorem ft_X7_4 : sm_FT 4 (.array .int) true TX7 25 := ⟨rfl, tyX7_ok 4 (by decide), tyX7, tyX7_ok, nmX7⟩
theorem ft_X7_5 : sm_FT 5 (.int) false TX7 25 := ⟨rfl, tyX7_ok 5 (by decide), tyX7, tyX7_ok, nmX7⟩
theorem ft_X7_6 : sm_FT 6 (.array .int) true TX7 25 := ⟨rfl, tyX7_ok 6 (by decide), tyX7, tyX7_ok, nmX7⟩
theorem ft_X7_7 : sm_FT 7 (.array .int) true TX7 25 := ⟨rfl, tyX7_ok 7 (by decide), tyX7, tyX7_ok, nmX7⟩
theorem ft_X7_8 : sm_FT 8 (.array .int) true TX7 25 := ⟨rfl, tyX7_ok 8 (by decide), tyX7, tyX7_ok, nmX7⟩
theorem ft_X7_9 : sm_FT 9 (.int) false TX7 25 := ⟨rfl, tyX7_ok 9 (by decide), tyX7, tyX7_ok, nmX7⟩
theorem ft_X7_10 : sm_FT 10 (.int) false TX7 25 := ⟨rfl, tyX7_ok 10 (by decide), tyX7, tyX7_ok, nmX7⟩
theorem ft_X7_11 : sm_FT 11 (.int) false TX7 25 := ⟨rfl, tyX7_ok 11 (by decide), tyX7, tyX7_ok, nmX7⟩
theorem ft_X7_12 : sm_FT 12 (.array .int) true TX7 25 := ⟨rfl, tyX7_ok 12 (by decide), tyX7, tyX7_ok, nmX7⟩
theorem ft_X7_13 : sm_FT 13 (.int) false TX7 25 := ⟨rfl, tyX7_ok 13 (by decide), tyX7, tyX7_ok, nmX7⟩
theorem ft_X7_14 : sm_FT 14 (.int) false TX7 25 := ⟨rfl, tyX7_ok 14 (by decide), tyX7, tyX7_ok, nmX7⟩
theorem ft_X7_15 : sm_FT 15 (.array .int) true TX7 25 := ⟨rfl, tyX7_ok 15 (by decide), tyX7, tyX7_ok, nmX7⟩
theorem ft_X7_16 : sm_FT 16 (.int) false TX7 25 := ⟨rfl, tyX7_ok 16 (by decide), tyX7, tyX7_ok, nmX7⟩
theorem ft_X7_17 : sm_FT 17 (.array .int) true TX7 25 := ⟨rfl, tyX7_ok 17 (by decide), tyX7, tyX7_ok, nmX7⟩
theorem ft_X7_18 : sm_FT 18 (.int) false TX7 25 := ⟨rfl, tyX7_ok 18 (by decide), tyX7, tyX7_ok, nmX7⟩
theorem ft_X7_19 : sm_FT 19 (.array .int) true TX7 25 := ⟨rfl, tyX7_ok 19 (by decide), tyX7, tyX7_ok, nmX7⟩
theorem ft_X7_20 : sm_FT 20 (.array .int) true TX7 25 := ⟨rfl, tyX7_ok 20 (by decide), tyX7, tyX7_ok, nmX7⟩
theorem ft_X7_21 : sm_FT 21 (.int) false TX7 25 := ⟨rfl, tyX7_ok 21 (by decide), tyX7, tyX7_ok, nmX7⟩
theorem ft_X7_22 : sm_FT 22 (.array .int) true TX7 25 := ⟨rfl, tyX7_ok 22 (by decide), tyX7, tyX7_ok, nmX7⟩
theorem ft_X7_23 : sm_FT 23 (.array .int) true TX7 25 := ⟨rfl, tyX7_ok 23 (by decide), tyX7, tyX7_ok, nmX7⟩
theorem ft_X7_24 : sm_FT 24 (.array .int) true TX7 25 := ⟨rfl, tyX7_ok 24 (by decide), tyX7, tyX7_ok, nmX7⟩
theorem fl_X3_18 : sm_FL RX3 18 3 0 RX3 TX3 5 := ⟨rfl, by decide, inTX3, Or.inl (sm_in 44 (by decide +kernel) (by decide +kernel)), rfl⟩
theorem fi_X3_18 : Cond.fieldLink RX3 18 RX3 (TX3 0).2.1 (TX3 0).2.2.1 ∈ sm_tb := sm_in 44 (by decide +kernel) (by decide +kernel)
theorem fl_X6_175 : sm_FL RX6 175 3 0 RX3 TX3 5 := ⟨rfl, by decide, inTX3, Or.inr ⟨"ShellMoney", sm_inN 45 (by decide +kernel) rfl⟩, rfl⟩
theorem fl_X3_26 : sm_FL RX3 26 3 1 RX3 TX3 5 := ⟨rfl, by decide, inTX3, Or.inl (sm_in 46 (by decide +kernel) (by decide +kernel)), rfl⟩
theorem fi_X3_26 : Cond.fieldLink RX3 26 RX3 (TX3 1).2.1 (TX3 1).2.2.1 ∈ sm_tb := sm_in 46 (by decide +kernel) (by decide +kernel)
theorem fl_X6_182 : sm_FL RX6 182 3 1 RX3 TX3 5 := ⟨rfl, by decide, inTX3, Or.inr ⟨"ShellMoney", sm_inN 47 (by decide +kernel) rfl⟩, rfl⟩
theorem fl_X3_32 : sm_FL RX3 32 3 2 RX3 TX3 5 := ⟨rfl, by decide, inTX3, Or.inl (sm_in 48 (by decide +kernel) (by decide +kernel)), rfl⟩
theorem fi_X3_32 : Cond.fieldLink RX3 32 RX3 (TX3 2).2.1 (TX3 2).2.2.1 ∈ sm_tb := sm_in 48 (by decide +kernel) (by decide +kernel)
theorem fl_X6_185 : sm_FL RX6 185 3 2 RX3 TX3 5 := ⟨rfl, by decide, inTX3, Or.inr ⟨"ShellMoney", sm_inN 49 (by decide +kernel) rfl⟩, rfl⟩
theorem fl_X3_35 : sm_FL RX3 35 3 3 RX3 TX3 5 := ⟨rfl, by decide, inTX3, Or.inl (sm_in 50 (by decide +kernel) (by decide +kernel)), rfl⟩
theorem fi_X3_35 : Cond.fieldLink RX3 35 RX3 (TX3 3).2.1 (TX3 3).2.2.1 ∈ sm_tb := sm_in 50 (by decide +kernel) (by decide +kernel)
theorem fl_X3_38 : sm_FL RX3 38 3 4 RX3 TX3 5 := ⟨rfl, by decide, inTX3, Or.inl (sm_in 51 (by decide +kernel) (by decide +kernel)), rfl⟩
theorem fl_X6_278 : sm_FL RX6 278 3 4 RX3 TX3 5 := ⟨rfl, by decide, inTX3, Or.inr ⟨"ShellMoney", sm_inN 52 (by decide +kernel) rfl⟩, rfl⟩
theorem fl_X5_9 : sm_FL RX5 9 5 0 RX5 TX5 5 := ⟨rfl, by decide, inTX5, Or.inl (sm_in 71 (by decide +kernel) (by decide +kernel)), rfl⟩
theorem fi_X5_9 : Cond.fieldLink RX5 9 RX5 (TX5 0).2.1 (TX5 0).2.2.1 ∈ sm_tb := sm_in 71 (by decide +kernel) (by decide +kernel)
theorem fl_X5_15 : sm_FL RX5 15 5 1 RX5 TX5 5 := ⟨rfl, by decide, inTX5, Or.inl (sm_in 72 (by decide +kernel) (by decide +kernel)), rfl⟩
theorem fi_X5_15 : Cond.fieldLink RX5 15 RX5 (TX5 1).2.1 (TX5 1).2.2.1 ∈ sm_tb := sm_in 72 (by decide +kernel) (by decide +kernel)
theorem fl_X5_18 : sm_FL RX5 18 5 2 RX5 TX5 5 := ⟨rfl, by decide, inTX5, Or.inl (sm_in 73 (by decide +kernel) (by decide +kernel)), rfl⟩
theorem fi_X5_18 : Cond.fieldLink RX5 18 RX5 (TX5 2).2.1 (TX5 2).2.2.1 ∈ sm_tb := sm_in 73 (by decide +kernel) (by decide +kernel)
theorem fl_X5_21 : sm_FL RX5 21 5 3 RX5 TX5 5 := ⟨rfl, by decide, inTX5, Or.inl (sm_in 74 (by decide +kernel) (by decide +kernel)), rfl⟩
theorem fi_X5_21 : Cond.fieldLink RX5 21 RX5 (TX5 3).2.1 (TX5 3).2.2.1 ∈ sm_tb := sm_in 74 (by decide +kernel) (by decide +kernel)
theorem fl_X5_24 : sm_FL RX5 24 5 4 RX5 TX5 5 := ⟨rfl, by decide, inTX5, Or.inl (sm_in 75 (by decide +kernel) (by decide +kernel)), rfl⟩
theorem fl_X6_251 : sm_FL RX6 251 5 4 RX5 TX5 5 := ⟨rfl, by decide, inTX5, Or.inr ⟨"ShellMoney", sm_inN 76 (by decide +kernel) rfl⟩, rfl⟩
theorem fl_X2_9 : sm_FL RX2 9 2 0 RX2 TX2 7 := ⟨rfl, by decide, inTX2, Or.inl (sm_in 94 (by decide +kernel) (by decide +kernel)), rfl⟩
theorem fi_X2_9 : Cond.fieldLink RX2 9 RX2 (TX2 0).2.1 (TX2 0).2.2.1 ∈ sm_tb := sm_in 94 (by decide +kernel) (by decide +kernel)
theorem fl_X2_15 : sm_FL RX2 15 2 1 RX2 TX2 7 := ⟨rfl, by decide, inTX2, Or.inl (sm_in 95 (by decide +kernel) (by decide +kernel)), rfl⟩
theorem fi_X2_15 : Cond.fieldLink RX2 15 RX2 (TX2 1).2.1 (TX2 1).2.2.1 ∈ sm_tb := sm_in 95 (by decide +kernel) (by decide +kernel)
theorem fl_X2_18 : sm_FL RX2 18 2 2 RX2 TX2 7 := ⟨rfl, by decide, inTX2, Or.inl (sm_in 96 (by decide +kernel) (by decide +kernel)), rfl⟩
theorem fl_X6_301 : sm_FL RX6 301 2 2 RX2 TX2 7 := ⟨rfl, by decide, inTX2, Or.inr ⟨"ShellMoney", sm_inN 97 (by decide +kernel) rfl⟩, rfl⟩
theorem fl_X2_22 : sm_FL RX2 22 2 3 RX2 TX2 7 := ⟨rfl, by decide, inTX2, Or.inl (sm_in 98 (by decide +kernel) (by decide +kernel)), rfl⟩
theorem fl_X6_288 : sm_FL RX6 288 2 3 RX2 TX2 7 := ⟨rfl, by decide, inTX2, Or.inr ⟨"ShellMoney", sm_inN 99 (by decide +kernel) rfl⟩, rfl⟩
theorem fl_X2_25 : sm_FL RX2 25 2 4 RX2 TX2 7 := ⟨rfl, by decide, inTX2, Or.inl (sm_in 100 (by decide +kernel) (by decide +kernel)), rfl⟩
theorem fl_X2_28 : sm_FL RX2 28 2 5 RX2 TX2 7 := ⟨rfl, by decide, inTX2, Or.inl (sm_in 101 (by decide +kernel) (by decide +kernel)), rfl⟩
theorem fl_X2_31 : sm_FL RX2 31 2 6 RX2 TX2 7 := ⟨rfl, by decide, inTX2, Or.inl (sm_in 102 (by decide +kernel) (by decide +kernel)), rfl⟩
theorem fl_X6_294 : sm_FL RX6 294 2 6 RX2 TX2 7 := ⟨rfl, by decide, inTX2, Or.inr ⟨"ShellMoney", sm_inN 103 (by decide +kernel) rfl⟩, rfl⟩
theorem fl_X1_9 : sm_FL RX1 9 1 0 RX1 TX1 6 := ⟨rfl, by decide, inTX1, Or.inl (sm_in 127 (by decide +kernel) (by decide +kernel)), rfl⟩
theorem fi_X1_9 : Cond.fieldLink RX1 9 RX1 (TX1 0).2.1 (TX1 0).2.2.1 ∈ sm_tb := sm_in 127 (by decide +kernel) (by decide +kernel)
theorem fl_X1_15 : sm_FL RX1 15 1 1 RX1 TX1 6 := ⟨rfl, by decide, inTX1, Or.inl (sm_in 128 (by decide +kernel) (by decide +kernel)), rfl⟩
theorem fl_X6_257 : sm_FL RX6 257 1 1 RX1 TX1 6 := ⟨rfl, by decide, inTX1, Or.inr ⟨"ShellMoney", sm_inN 129 (by decide +kernel) rfl⟩, rfl⟩
theorem fl_X1_19 : sm_FL RX1 19 1 2 RX1 TX1 6 := ⟨rfl, by decide, inTX1, Or.inl (sm_in 130 (by decide +kernel) (by decide +kernel)), rfl⟩
theorem fi_X1_19 : Cond.fieldLink RX1 19 RX1 (TX1 2).2.1 (TX1 2).2.2.1 ∈ sm_tb := sm_in 130 (by decide +kernel) (by decide +kernel)
theorem fl_X1_22 : sm_FL RX1 22 1 3 RX1 TX1 6 := ⟨rfl, by decide, inTX1, Or.inl (sm_in 131 (by decide +kernel) (by decide +kernel)), rfl⟩
theorem fi_X1_22 : Cond.fieldLink RX1 22 RX1 (TX1 3).2.1 (TX1 3).2.2.1 ∈ sm_tb := sm_in 131 (by decide +kernel) (by decide +kernel)
theorem fl_X1_25 : sm_FL RX1 25 1 4 RX1 TX1 6 := ⟨rfl, by decide, inTX1, Or.inl (sm_in 132 (by decide +kernel) (by decide +kernel)), rfl⟩
theorem fi_X1_25 : Cond.fieldLink RX1 25 RX1 (TX1 4).2.1 (TX1 4).2.2.1 ∈ sm_tb := sm_in 132 (by decide +kernel) (by decide +kernel)
theorem fl_X1_28 : sm_FL RX1 28 1 5 RX1 TX1 6 := ⟨rfl, by decide, inTX1, Or.inl (sm_in 133 (by decide +kernel) (by decide +kernel)), rfl⟩
theorem fi_X1_28 : Cond.fieldLink RX1 28 RX1 (TX1 5).2.1 (TX1 5).2.2.1 ∈ sm_tb := sm_in 133 (by decide +kernel) (by decide +kernel)
theorem fl_X6_11 : sm_FL RX6 11 6 0 RX6 TX6 12 := ⟨rfl, by decide, inTX6, Or.inl (sm_in 147 (by decide +kernel) (by decide +kernel)), rfl⟩
theorem fi_X6_11 : Cond.fieldLink RX6 11 RX6 (TX6 0).2.1 (TX6 0).2.2.1 ∈ sm_tb := sm_in 147 (by decide +kernel) (by decide +kernel)
theorem fl_X6_15 : sm_FL RX6 15 6 1 RX6 TX6 12 := ⟨rfl, by decide, inTX6, Or.inl (sm_in 148 (by decide +kernel) (by decide +kernel)), rfl⟩
theorem fl_X6_19 : sm_FL RX6 19 6 2 RX6 TX6 12 := ⟨rfl, by decide, inTX6, Or.inl (sm_in 149 (by decide +kernel) (by decide +kernel)), rfl⟩
theorem fi_X6_19 : Cond.fieldLink RX6 19 RX6 (TX6 2).2.1 (TX6 2).2.2.1 ∈ sm_tb := sm_in 149 (by decide +kernel) (by decide +kernel)
theorem fl_X6_26 : sm_FL RX6 26 6 3 RX6 TX6 12 := ⟨rfl, by decide, inTX6, Or.inl (sm_in 150 (by decide +kernel) (by decide +kernel)), rfl⟩
theorem fi_X6_26 : Cond.fieldLink RX6 26 RX6 (TX6 3).2.1 (TX6 3).2.2.1 ∈ sm_tb := sm_in 150 (by decide +kernel) (by decide +kernel)
theorem fl_X6_33 : sm_FL RX6 33 6 4 RX6 TX6 12 := ⟨rfl, by decide, inTX6, Or.inl (sm_in 151 (by decide +kernel) (by decide +kernel)), rfl⟩
theorem fi_X6_33 : Cond.fieldLink RX6 33 RX6 (TX6 4).2.1 (TX6 4).2.2.1 ∈ sm_tb := sm_in 151 (by decide +kernel) (by decide +kernel)
theorem fl_X6_40 : sm_FL RX6 40 6 5 RX6 TX6 12 := ⟨rfl, by decide, inTX6, Or.inl (sm_in 152 (by decide +kernel) (by decide +kernel)), rfl⟩
theorem fi_X6_40 : Cond.fieldLink RX6 40 RX6 (TX6 5).2.1 (TX6 5).2.2.1 ∈ sm_tb := sm_in 152 (by decide +kernel) (by decide +kernel)
theorem fl_X6_46 : sm_FL RX6 46 6 6 RX6 TX6 12 := ⟨rfl, by decide, inTX6, Or.inl (sm_in 153 (by decide +kernel) (by decide +kernel)), rfl⟩
theorem fi_X6_46 : Cond.fieldLink RX6 46 RX6 (TX6 6).2.1 (TX6 6).2.2.1 ∈ sm_tb := sm_in 153 (by decide +kernel) (by decide +kernel)
theorem fl_X6_50 : sm_FL RX6 50 6 7 RX6 TX6 12 := ⟨rfl, by decide, inTX6, Or.inl (sm_in 154 (by decide +kernel) (by decide +kernel)), rfl⟩
theorem fl_X6_56 : sm_FL RX6 56 6 8 RX6 TX6 12 := ⟨rfl, by decide, inTX6, Or.inl (sm_in 155 (by decide +kernel) (by decide +kernel)), rfl⟩
theorem fi_X6_56 : Cond.fieldLink RX6 56 RX6 (TX6 8).2.1 (TX6 8).2.2.1 ∈ sm_tb := sm_in 155 (by decide +kernel) (by decide +kernel)
theorem fl_X6_60 : sm_FL RX6 60 6 9 RX6 TX6 12 := ⟨rfl, by decide, inTX6, Or.inl (sm_in 156 (by decide +kernel) (by decide +kernel)), rfl⟩
theorem fl_X6_63 : sm_FL RX6 63 6 10 RX6 TX6 12 := ⟨rfl, by decide, inTX6, Or.inl (sm_in 157 (by decide +kernel) (by decide +kernel)), rfl⟩
theorem fl_X6_66 : sm_FL RX6 66 6 11 RX6 TX6 12 := ⟨rfl, by decide, inTX6, Or.inl (sm_in 158 (by decide +kernel) (by decide +kernel)), rfl⟩
theorem fl_X4_9 : sm_FL RX4 9 4 0 RX4 TX4 5 := ⟨rfl, by decide, inTX4, Or.inl (sm_in 202 (by decide +kernel) (by decide +kernel)), rfl⟩
theorem fi_X4_9 : Cond.fieldLink RX4 9 RX4 (TX4 0).2.1 (TX4 0).2.2.1 ∈ sm_tb := sm_in 202 (by decide +kernel) (by decide +kernel)
theorem fl_X4_15 : sm_FL RX4 15 4 1 RX4 TX4 5 := ⟨rfl, by decide, inTX4, Or.inl (sm_in 203 (by decide +kernel) (by decide +kernel)), rfl⟩
theorem fi_X4_15 : Cond.fieldLink RX4 15 RX4 (TX4 1).2.1 (TX4 1).2.2.1 ∈ sm_tb := sm_in 203 (by decide +kernel) (by decide +kernel)
theorem fl_X4_18 : sm_FL RX4 18 4 2 RX4 TX4 5 := ⟨rfl, by decide, inTX4, Or.inl (sm_in 204 (by decide +kernel) (by decide +kernel)), rfl⟩
theorem fl_X6_96 : sm_FL RX6 96 4 2 RX4 TX4 5 := ⟨rfl, by decide, inTX4, Or.inr ⟨"ShellMoney", sm_inN 205 (by decide +kernel) rfl⟩, rfl⟩
theorem fl_X4_25 : sm_FL RX4 25 4 3 RX4 TX4 5 := ⟨rfl, by decide, inTX4, Or.inl (sm_in 206 (by decide +kernel) (by decide +kernel)), rfl⟩
theorem fl_X6_105 : sm_FL RX6 105 4 3 RX4 TX4 5 := ⟨rfl, by decide, inTX4, Or.inr ⟨"ShellMoney", sm_inN 207 (by decide +kernel) rfl⟩, rfl⟩
theorem fl_X4_22 : sm_FL RX4 22 4 4 RX4 TX4 5 := ⟨rfl, by decide, inTX4, Or.inl (sm_in 208 (by decide +kernel) (by decide +kernel)), rfl⟩
theorem fl_X6_112 : sm_FL RX6 112 4 4 RX4 TX4 5 := ⟨rfl, by decide, inTX4, Or.inr ⟨"ShellMoney", sm_inN 209 (by decide +kernel) rfl⟩, rfl⟩
theorem fl_X0_15 : sm_FL RX0 15 0 0 RX0 TX0 5 := ⟨rfl, by decide, inTX0, Or.inl (sm_in 474 (by decide +kernel) (by decide +kernel)), rfl⟩
theorem fi_X0_15 : Cond.fieldLink RX0 15 RX0 (TX0 0).2.1 (TX0 0).2.2.1 ∈ sm_tb := sm_in 474 (by decide +kernel) (by decide +kernel)
theorem fl_X6_228 : sm_FL RX6 228 0 0 RX0 TX0 5 := ⟨rfl, by decide, inTX0, Or.inr ⟨"ShellMoney", sm_inN 475 (by decide +kernel) rfl⟩, rfl⟩
theorem fl_X0_18 : sm_FL RX0 18 0 1 RX0 TX0 5 := ⟨rfl, by decide, inTX0, Or.inl (sm_in 476 (by decide +kernel) (by decide +kernel)), rfl⟩
theorem fi_X0_18 : Cond.fieldLink RX0 18 RX0 (TX0 1).2.1 (TX0 1).2.2.1 ∈ sm_tb := sm_in 476 (by decide +kernel) (by decide +kernel)
theorem fl_X6_236 : sm_FL RX6 236 0 1 RX0 TX0 5 := ⟨rfl, by decide, inTX0, Or.inr ⟨"ShellMoney", sm_inN 477 (by decide +kernel) rfl⟩, rfl⟩
theorem fl_X0_24 : sm_FL RX0 24 0 2 RX0 TX0 5 := ⟨rfl, by decide, inTX0, Or.inl (sm_in 478 (by decide +kernel) (by decide +kernel)), rfl⟩
theorem fi_X0_24 : Cond.fieldLink RX0 24 RX0 (TX0 2).2.1 (TX0 2).2.2.1 ∈ sm_tb := sm_in 478 (by decide +kernel) (by decide +kernel)
theorem fl_X6_233 : sm_FL RX6 233 0 2 RX0 TX0 5 := ⟨rfl, by decide, inTX0, Or.inr ⟨"ShellMoney", sm_inN 479 (by decide +kernel) rfl⟩, rfl⟩
theorem fl_X0_21 : sm_FL RX0 21 0 3 RX0 TX0 5 := ⟨rfl, by decide, inTX0, Or.inl (sm_in 480 (by decide +kernel) (by decide +kernel)), rfl⟩
theorem fl_X6_231 : sm_FL RX6 231 0 3 RX0 TX0 5 := ⟨rfl, by decide, inTX0, Or.inr ⟨"ShellMoney", sm_inN 481 (by decide +kernel) rfl⟩, rfl⟩
theorem fl_X0_9 : sm_FL RX0 9 0 4 RX0 TX0 5 := ⟨rfl, by decide, inTX0, Or.inl (sm_in 482 (by decide +kernel) (by decide +kernel)), rfl⟩
theorem fl_X6_239 : sm_FL RX6 239 0 4 RX0 TX0 5 := ⟨rfl, by decide, inTX0, Or.inr ⟨"ShellMoney", sm_inN 483 (by decide +kernel) rfl⟩, rfl⟩
theorem fl_X7_9 : sm_FL RX7 9 7 0 RX7 TX7 25 := ⟨rfl, by decide, inTX7, Or.inl (sm_in 678 (by decide +kernel) (by decide +kernel)), rfl⟩
theorem fi_X7_9 : Cond.fieldLink RX7 9 RX7 (TX7 0).2.1 (TX7 0).2.2.1 ∈ sm_tb := sm_in 678 (by decide +kernel) (by decide +kernel)
theorem fl_X7_13 : sm_FL RX7 13 7 1 RX7 TX7 25 := ⟨rfl, by decide, inTX7, Or.inl (sm_in 679 (by decide +kernel) (by decide +kernel)), rfl⟩
theorem fi_X7_13 : Cond.fieldLink RX7 13 RX7 (TX7 1).2.1 (TX7 1).2.2.1 ∈ sm_tb := sm_in 679 (by decide +kernel) (by decide +kernel)
theorem fl_X7_16 : sm_FL RX7 16 7 2 RX7 TX7 25 := ⟨rfl, by decide, inTX7, Or.inl (sm_in 680 (by decide +kernel) (by decide +kernel)), rfl⟩
theorem fi_X7_16 : Cond.fieldLink RX7 16 RX7 (TX7 2).2.1 (TX7 2).2.2.1 ∈ sm_tb := sm_in 680 (by decide +kernel) (by decide +kernel)
theorem fl_X7_19 : sm_FL RX7 19 7 3 RX7 TX7 25 := ⟨rfl, by decide, inTX7, Or.inl (sm_in 681 (by decide +kernel) (by decide +kernel)), rfl⟩
theorem fi_X7_19 : Cond.fieldLink RX7 19 RX7 (TX7 3).2.1 (TX7 3).2.2.1 ∈ sm_tb := sm_in 681 (by decide +kernel) (by decide +kernel)
theorem fl_X7_22 : sm_FL RX7 22 7 4 RX7 TX7 25 := ⟨rfl, by decide, inTX7, Or.inl (sm_in 682 (by decide +kernel) (by decide +kernel)), rfl⟩
theorem fi_X7_22 : Cond.fieldLink RX7 22 RX7 (TX7 4).2.1 (TX7 4).2.2.1 ∈ sm_tb := sm_in 682 (by decide +kernel) (by decide +kernel)
theorem fl_X7_71 : sm_FL RX7 71 7 5 RX7 TX7 25 := ⟨rfl, by decide, inTX7, Or.inl (sm_in 683 (by decide +kernel) (by decide +kernel)), rfl⟩
theorem fl_X7_25 : sm_FL RX7 25 7 6 RX7 TX7 25 := ⟨rfl, by decide, inTX7, Or.inl (sm_in 684 (by decide +kernel) (by decide +kernel)), rfl⟩
theorem fi_X7_25 : Cond.fieldLink RX7 25 RX7 (TX7 6).2.1 (TX7 6).2.2.1 ∈ sm_tb := sm_in 684 (by decide +kernel) (by decide +kernel)
theorem fl_X7_28 : sm_FL RX7 28 7 7 RX7 TX7 25 := ⟨rfl, by decide, inTX7, Or.inl (sm_in 685 (by decide +kernel) (by decide +kernel)), rfl⟩
theorem fi_X7_28 : Cond.fieldLink RX7 28 RX7 (TX7 7).2.1 (TX7 7).2.2.1 ∈ sm_tb := sm_in 685 (by decide +kernel) (by decide +kernel)
theorem fl_X7_31 : sm_FL RX7 31 7 8 RX7 TX7 25 := ⟨rfl, by decide, inTX7, Or.inl (sm_in 686 (by decide +kernel) (by decide +kernel)), rfl⟩
theorem fi_X7_31 : Cond.fieldLink RX7 31 RX7 (TX7 8).2.1 (TX7 8).2.2.1 ∈ sm_tb := sm_in 686 (by decide +kernel) (by decide +kernel)
theorem fl_X7_34 : sm_FL RX7 34 7 9 RX7 TX7 25 := ⟨rfl, by decide, inTX7, Or.inl (sm_in 687 (by decide +kernel) (by decide +kernel)), rfl⟩
theorem fl_X7_38 : sm_FL RX7 38 7 10 RX7 TX7 25 := ⟨rfl, by decide, inTX7, Or.inl (sm_in 688 (by decide +kernel) (by decide +kernel)), rfl⟩
theorem fl_X7_41 : sm_FL RX7 41 7 11 RX7 TX7 25 := ⟨rfl, by decide, inTX7, Or.inl (sm_in 689 (by decide +kernel) (by decide +kernel)), rfl⟩
theorem fl_X7_44 : sm_FL RX7 44 7 12 RX7 TX7 25 := ⟨rfl, by decide, inTX7, Or.inl (sm_in 690 (by decide +kernel) (by decide +kernel)), rfl⟩
theorem fi_X7_44 : Cond.fieldLink RX7 44 RX7 (TX7 12).2.1 (TX7 12).2.2.1 ∈ sm_tb := sm_in 690 (by decide +kernel) (by decide +kernel)
theorem fl_X7_78 : sm_FL RX7 78 7 13 RX7 TX7 25 := ⟨rfl, by decide, inTX7, Or.inl (sm_in 691 (by decide +kernel) (by decide +kernel)), rfl⟩
theorem fl_X7_81 : sm_FL RX7 81 7 14 RX7 TX7 25 := ⟨rfl, by decide, inTX7, Or.inl (sm_in 692 (by decide +kernel) (by decide +kernel)), rfl⟩
theorem fl_X7_47 : sm_FL RX7 47 7 15 RX7 TX7 25 := ⟨rfl, by decide, inTX7, Or.inl (sm_in 693 (by decide +kernel) (by decide +kernel)), rfl⟩
theorem fi_X7_47 : Cond.fieldLink RX7 47 RX7 (TX7 15).2.1 (TX7 15).2.2.1 ∈ sm_tb := sm_in 693 (by decide +kernel) (by decide +kernel)
theorem fl_X7_148 : sm_FL RX7 148 7 16 RX7 TX7 25 := ⟨rfl, by decide, inTX7, Or.inl (sm_in 694 (by decide +kernel) (by decide +kernel)), rfl⟩
theorem fl_X7_50 : sm_FL RX7 50 7 17 RX7 TX7 25 := ⟨rfl, by decide, inTX7, Or.inl (sm_in 695 (by decide +kernel) (by decide +kernel)), rfl⟩
theorem fi_X7_50 : Cond.fieldLink RX7 50 RX7 (TX7 17).2.1 (TX7 17).2.2.1 ∈ sm_tb := sm_in 695 (by decide +kernel) (by decide +kernel)
theorem fl_X7_68 : sm_FL RX7 68 7 18 RX7 TX7 25 := ⟨rfl, by decide, inTX7, Or.inl (sm_in 696 (by decide +kernel) (by decide +kernel)), rfl⟩
theorem fl_X7_53 : sm_FL RX7 53 7 19 RX7 TX7 25 := ⟨rfl, by decide, inTX7, Or.inl (sm_in 697 (by decide +kernel) (by decide +kernel)), rfl⟩
theorem fi_X7_53 : Cond.fieldLink RX7 53 RX7 (TX7 19).2.1 (TX7 19).2.2.1 ∈ sm_tb := sm_in 697 (by decide +kernel) (by decide +kernel)
theorem fl_X7_56 : sm_FL RX7 56 7 20 RX7 TX7 25 := ⟨rfl, by decide, inTX7, Or.inl (sm_in 698 (by decide +kernel) (by decide +kernel)), rfl⟩
theorem fi_X7_56 : Cond.fieldLink RX7 56 RX7 (TX7 20).2.1 (TX7 20).2.2.1 ∈ sm_tb := sm_in 698 (by decide +kernel) (by decide +kernel)
theorem fl_X7_135 : sm_FL RX7 135 7 21 RX7 TX7 25 := ⟨rfl, by decide, inTX7, Or.inl (sm_in 699 (by decide +kernel) (by decide +kernel)), rfl⟩
theorem fl_X7_59 : sm_FL RX7 59 7 22 RX7 TX7 25 := ⟨rfl, by decide, inTX7, Or.inl (sm_in 700 (by decide +kernel) (by decide +kernel)), rfl⟩
theorem fi_X7_59 : Cond.fieldLink RX7 59 RX7 (TX7 22).2.1 (TX7 22).2.2.1 ∈ sm_tb := sm_in 700 (by decide +kernel) (by decide +kernel)
theorem fl_X7_62 : sm_FL RX7 62 7 23 RX7 TX7 25 := ⟨rfl, by decide, inTX7, Or.inl (sm_in 701 (by decide +kernel) (by decide +kernel)), rfl⟩
theorem fi_X7_62 : Cond.fieldLink RX7 62 RX7 (TX7 23).2.1 (TX7 23).2.2.1 ∈ sm_tb := sm_in 701 (by decide +kernel) (by decide +kernel)
theorem fl_X7_65 : sm_FL RX7 65 7 24 RX7 TX7 25 := ⟨rfl, by decide, inTX7, Or.inl (sm_in 702 (by decide +kernel) (by decide +kernel)), rfl⟩
theorem fi_X7_65 : Cond.fieldLink RX7 65 RX7 (TX7 24).2.1 (TX7 24).2.2.1 ∈ sm_tb := sm_in 702 (by decide +kernel) (by decide +kernel)
theorem yX0_init_f : sm_Y yX0_init cX0_init 5 none 4 := ⟨sm_in 472 (by decide +kernel) (by decide +kernel), sm_in 14 (by decide +kernel) (by decide +kernel), (by decide +kernel), by decide⟩
theorem yX0_isPaid_f : sm_Y yX0_isPaid cX0_isPaid 1 (some .boolean) 0 := ⟨sm_in 506 (by decide +kernel) (by decide +kernel), sm_in 14 (by decide +kernel) (by decide +kernel), (by decide +kernel), by decide⟩
theorem yX0_grow_f : sm_Y yX0_grow cX0_grow 2 none 1 := ⟨sm_in 522 (by decide +kernel) (by decide +kernel), sm_in 14 (by decide +kernel) (by decide +kernel), (by decide +kernel), by decide⟩
theorem yX1_init_f : sm_Y yX1_init cX1_init 1 none 0 := ⟨sm_in 125 (by decide +kernel) (by decide +kernel), sm_in 5 (by decide +kernel) (by decide +kernel), (by decide +kernel), by decide⟩
theorem yX1_put_f : sm_Y yX1_put cX1_put 4 (some .boolean) 2 := ⟨sm_in 549 (by decide +kernel) (by decide +kernel), sm_in 5 (by decide +kernel) (by decide +kernel), (by decide +kernel), by decide⟩
theorem yX1_bestWorth_f : sm_Y yX1_bestWorth cX1_bestWorth 1 (some .int) 0 := ⟨sm_in 575 (by decide +kernel) (by decide +kernel), sm_in 5 (by decide +kernel) (by decide +kernel), (by decide +kernel), by decide⟩
theorem yX1_bestParts_f : sm_Y yX1_bestParts cX1_bestParts 1 (some .int) 0 := ⟨sm_in 583 (by decide +kernel) (by decide +kernel), sm_in 5 (by decide +kernel) (by decide +kernel), (by decide +kernel), by decide⟩
theorem yX1_plan_f : sm_Y yX1_plan cX1_plan 4 none 1 := ⟨sm_in 558 (by decide +kernel) (by decide +kernel), sm_in 5 (by decide +kernel) (by decide +kernel), (by decide +kernel), by decide⟩
theorem yX1_layRow_f : sm_Y yX1_layRow cX1_layRow 4 none 0 := ⟨sm_in 562 (by decide +kernel) (by decide +kernel), sm_in 5 (by decide +kernel) (by decide +kernel), (by decide +kernel), by decide⟩
theorem yX1_clearFrom_f : sm_Y yX1_clearFrom cX1_clearFrom 2 none 1 := ⟨sm_in 566 (by decide +kernel) (by decide +kernel), sm_in 5 (by decide +kernel) (by decide +kernel), (by decide +kernel), by decide⟩
theorem yX1_tryFirst_f : sm_Y yX1_tryFirst cX1_tryFirst 8 none 3 := ⟨sm_in 570 (by decide +kernel) (by decide +kernel), sm_in 5 (by decide +kernel) (by decide +kernel), (by decide +kernel), by decide⟩
theorem yX1_lengthOfPart_f : sm_Y yX1_lengthOfPart cX1_lengthOfPart 4 (some .int) 1 := ⟨sm_in 591 (by decide +kernel) (by decide +kernel), sm_in 5 (by decide +kernel) (by decide +kernel), (by decide +kernel), by decide⟩
theorem yX2_init_f : sm_Y yX2_init cX2_init 1 none 0 := ⟨sm_in 92 (by decide +kernel) (by decide +kernel), sm_in 4 (by decide +kernel) (by decide +kernel), (by decide +kernel), by decide⟩
theorem yX2_clear_f : sm_Y yX2_clear cX2_clear 1 none 0 := ⟨sm_in 432 (by decide +kernel) (by decide +kernel), sm_in 4 (by decide +kernel) (by decide +kernel), (by decide +kernel), by decide⟩
theorem yX2_put_f : sm_Y yX2_put cX2_put 3 (some .boolean) 2 := ⟨sm_in 436 (by decide +kernel) (by decide +kernel), sm_in 4 (by decide +kernel) (by decide +kernel), (by decide +kernel), by decide⟩
theorem yX2_choose_f : sm_Y yX2_choose cX2_choose 6 none 1 := ⟨sm_in 440 (by decide +kernel) (by decide +kernel), sm_in 4 (by decide +kernel) (by decide +kernel), (by decide +kernel), by decide⟩
theorem yX2_isBetter_f : sm_Y yX2_isBetter cX2_isBetter 3 (some .boolean) 2 := ⟨sm_in 448 (by decide +kernel) (by decide +kernel), sm_in 4 (by decide +kernel) (by decide +kernel), (by decide +kernel), by decide⟩
theorem yX2_worthAt_f : sm_Y yX2_worthAt cX2_worthAt 2 (some .int) 1 := ⟨sm_in 444 (by decide +kernel) (by decide +kernel), sm_in 4 (by decide +kernel) (by decide +kernel), (by decide +kernel), by decide⟩
theorem yX2_chosenAt_f : sm_Y yX2_chosenAt cX2_chosenAt 2 (some .int) 1 := ⟨sm_in 460 (by decide +kernel) (by decide +kernel), sm_in 4 (by decide +kernel) (by decide +kernel), (by decide +kernel), by decide⟩
theorem yX3_init_f : sm_Y yX3_init cX3_init 1 none 0 := ⟨sm_in 29 (by decide +kernel) (by decide +kernel), sm_in 2 (by decide +kernel) (by decide +kernel), (by decide +kernel), by decide⟩
theorem yX3_flowIn_f : sm_Y yX3_flowIn cX3_flowIn 3 none 2 := ⟨sm_in 228 (by decide +kernel) (by decide +kernel), sm_in 2 (by decide +kernel) (by decide +kernel), (by decide +kernel), by decide⟩
theorem yX3_allBeads_f : sm_Y yX3_allBeads cX3_allBeads 3 (some .int) 0 := ⟨sm_in 541 (by decide +kernel) (by decide +kernel), sm_in 2 (by decide +kernel) (by decide +kernel), (by decide +kernel), by decide⟩
theorem yX3_rateNow_f : sm_Y yX3_rateNow cX3_rateNow 4 (some .int) 1 := ⟨sm_in 370 (by decide +kernel) (by decide +kernel), sm_in 2 (by decide +kernel) (by decide +kernel), (by decide +kernel), by decide⟩
theorem yX3_worthByLength_f : sm_Y yX3_worthByLength cX3_worthByLength 3 (some .int) 2 := ⟨sm_in 393 (by decide +kernel) (by decide +kernel), sm_in 2 (by decide +kernel) (by decide +kernel), (by decide +kernel), by decide⟩
theorem yX4_init_f : sm_Y yX4_init cX4_init 2 none 1 := ⟨sm_in 200 (by decide +kernel) (by decide +kernel), sm_in 7 (by decide +kernel) (by decide +kernel), (by decide +kernel), by decide⟩
theorem yX4_has_f : sm_Y yX4_has cX4_has 2 (some .boolean) 1 := ⟨sm_in 268 (by decide +kernel) (by decide +kernel), sm_in 7 (by decide +kernel) (by decide +kernel), (by decide +kernel), by decide⟩
theorem yX4_gradeAt_f : sm_Y yX4_gradeAt cX4_gradeAt 2 (some .int) 1 := ⟨sm_in 264 (by decide +kernel) (by decide +kernel), sm_in 7 (by decide +kernel) (by decide +kernel), (by decide +kernel), by decide⟩
theorem yX4_makerAt_f : sm_Y yX4_makerAt cX4_makerAt 2 (some .int) 1 := ⟨sm_in 272 (by decide +kernel) (by decide +kernel), sm_in 7 (by decide +kernel) (by decide +kernel), (by decide +kernel), by decide⟩
theorem yX4_append_f : sm_Y yX4_append cX4_append 5 none 3 := ⟨sm_in 224 (by decide +kernel) (by decide +kernel), sm_in 7 (by decide +kernel) (by decide +kernel), (by decide +kernel), by decide⟩
theorem yX4_appendFrom_f : sm_Y yX4_appendFrom cX4_appendFrom 4 none 2 := ⟨sm_in 260 (by decide +kernel) (by decide +kernel), sm_in 7 (by decide +kernel) (by decide +kernel), (by decide +kernel), by decide⟩
theorem yX4_reverse_f : sm_Y yX4_reverse cX4_reverse 3 none 0 := ⟨sm_in 301 (by decide +kernel) (by decide +kernel), sm_in 7 (by decide +kernel) (by decide +kernel), (by decide +kernel), by decide⟩
theorem yX4_exchange_f : sm_Y yX4_exchange cX4_exchange 5 none 2 := ⟨sm_in 305 (by decide +kernel) (by decide +kernel), sm_in 7 (by decide +kernel) (by decide +kernel), (by decide +kernel), by decide⟩
theorem yX4_leastGrade_f : sm_Y yX4_leastGrade cX4_leastGrade 1 (some .int) 0 := ⟨sm_in 385 (by decide +kernel) (by decide +kernel), sm_in 7 (by decide +kernel) (by decide +kernel), (by decide +kernel), by decide⟩
theorem yX4_leastGradeWithin_f : sm_Y yX4_leastGradeWithin cX4_leastGradeWithin 5 (some .int) 2 := ⟨sm_in 389 (by decide +kernel) (by decide +kernel), sm_in 7 (by decide +kernel) (by decide +kernel), (by decide +kernel), by decide⟩
theorem yX4_spans_f : sm_Y yX4_spans cX4_spans 1 (some .int) 0 := ⟨sm_in 510 (by decide +kernel) (by decide +kernel), sm_in 7 (by decide +kernel) (by decide +kernel), (by decide +kernel), by decide⟩
theorem yX4_makerCount_f : sm_Y yX4_makerCount cX4_makerCount 3 (some .int) 0 := ⟨sm_in 665 (by decide +kernel) (by decide +kernel), sm_in 7 (by decide +kernel) (by decide +kernel), (by decide +kernel), by decide⟩
theorem yX4_tallyMakersBelow_f : sm_Y yX4_tallyMakersBelow cX4_tallyMakersBelow 5 none 2 := ⟨sm_in 415 (by decide +kernel) (by decide +kernel), sm_in 7 (by decide +kernel) (by decide +kernel), (by decide +kernel), by decide⟩
theorem yX5_init_f : sm_Y yX5_init cX5_init 1 none 0 := ⟨sm_in 69 (by decide +kernel) (by decide +kernel), sm_in 3 (by decide +kernel) (by decide +kernel), (by decide +kernel), by decide⟩
theorem yX5_hasRoom_f : sm_Y yX5_hasRoom cX5_hasRoom 2 (some .boolean) 1 := ⟨sm_in 256 (by decide +kernel) (by decide +kernel), sm_in 3 (by decide +kernel) (by decide +kernel), (by decide +kernel), by decide⟩
theorem yX5_tell_f : sm_Y yX5_tell cX5_tell 5 none 4 := ⟨sm_in 285 (by decide +kernel) (by decide +kernel), sm_in 3 (by decide +kernel) (by decide +kernel), (by decide +kernel), by decide⟩
theorem yX5_placeOf_f : sm_Y yX5_placeOf cX5_placeOf 5 (some .int) 2 := ⟨sm_in 339 (by decide +kernel) (by decide +kernel), sm_in 3 (by decide +kernel) (by decide +kernel), (by decide +kernel), by decide⟩
theorem yX5_about_f : sm_Y yX5_about cX5_about 3 (some .int) 2 := ⟨sm_in 343 (by decide +kernel) (by decide +kernel), sm_in 3 (by decide +kernel) (by decide +kernel), (by decide +kernel), by decide⟩
theorem yX6_init_f : sm_Y yX6_init cX6_init 1 none 0 := ⟨sm_in 19 (by decide +kernel) (by decide +kernel), sm_in 1 (by decide +kernel) (by decide +kernel), (by decide +kernel), by decide⟩
theorem yX6_string_f : sm_Y yX6_string cX6_string 6 (some .int) 4 := ⟨sm_in 187 (by decide +kernel) (by decide +kernel), sm_in 1 (by decide +kernel) (by decide +kernel), (by decide +kernel), by decide⟩
theorem yX6_add_f : sm_Y yX6_add cX6_add 6 (some .int) 4 := ⟨sm_in 237 (by decide +kernel) (by decide +kernel), sm_in 1 (by decide +kernel) (by decide +kernel), (by decide +kernel), by decide⟩
theorem yX6_cut_f : sm_Y yX6_cut cX6_cut 5 (some .int) 2 := ⟨sm_in 249 (by decide +kernel) (by decide +kernel), sm_in 1 (by decide +kernel) (by decide +kernel), (by decide +kernel), by decide⟩
theorem yX6_join_f : sm_Y yX6_join cX6_join 5 (some .int) 2 := ⟨sm_in 289 (by decide +kernel) (by decide +kernel), sm_in 1 (by decide +kernel) (by decide +kernel), (by decide +kernel), by decide⟩
theorem yX6_turn_f : sm_Y yX6_turn cX6_turn 3 (some .boolean) 1 := ⟨sm_in 297 (by decide +kernel) (by decide +kernel), sm_in 1 (by decide +kernel) (by decide +kernel), (by decide +kernel), by decide⟩
theorem yX6_name_f : sm_Y yX6_name cX6_name 4 (some .boolean) 2 := ⟨sm_in 309 (by decide +kernel) (by decide +kernel), sm_in 1 (by decide +kernel) (by decide +kernel), (by decide +kernel), by decide⟩
theorem yX6_give_f : sm_Y yX6_give cX6_give 4 (some .boolean) 2 := ⟨sm_in 320 (by decide +kernel) (by decide +kernel), sm_in 1 (by decide +kernel) (by decide +kernel), (by decide +kernel), by decide⟩
theorem yX6_of_f : sm_Y yX6_of cX6_of 4 (some .int) 2 := ⟨sm_in 600 (by decide +kernel) (by decide +kernel), sm_in 1 (by decide +kernel) (by decide +kernel), (by decide +kernel), by decide⟩
theorem yX6_bead_f : sm_Y yX6_bead cX6_bead 5 (some .int) 3 := ⟨sm_in 328 (by decide +kernel) (by decide +kernel), sm_in 1 (by decide +kernel) (by decide +kernel), (by decide +kernel), by decide⟩
theorem yX6_named_f : sm_Y yX6_named cX6_named 4 (some .int) 1 := ⟨sm_in 316 (by decide +kernel) (by decide +kernel), sm_in 1 (by decide +kernel) (by decide +kernel), (by decide +kernel), by decide⟩
theorem yX6_tale_f : sm_Y yX6_tale cX6_tale 4 (some .int) 3 := ⟨sm_in 335 (by decide +kernel) (by decide +kernel), sm_in 1 (by decide +kernel) (by decide +kernel), (by decide +kernel), by decide⟩
theorem yX6_set_f : sm_Y yX6_set cX6_set 4 (some .int) 3 := ⟨sm_in 347 (by decide +kernel) (by decide +kernel), sm_in 1 (by decide +kernel) (by decide +kernel), (by decide +kernel), by decide⟩
theorem yX6_rate_f : sm_Y yX6_rate cX6_rate 2 (some .int) 1 := ⟨sm_in 366 (by decide +kernel) (by decide +kernel), sm_in 1 (by decide +kernel) (by decide +kernel), (by decide +kernel), by decide⟩
theorem yX6_rich_f : sm_Y yX6_rich cX6_rich 5 (some .int) 1 := ⟨sm_in 377 (by decide +kernel) (by decide +kernel), sm_in 1 (by decide +kernel) (by decide +kernel), (by decide +kernel), by decide⟩
theorem yX6_drawn_f : sm_Y yX6_drawn cX6_drawn 5 (some .int) 3 := ⟨sm_in 398 (by decide +kernel) (by decide +kernel), sm_in 1 (by decide +kernel) (by decide +kernel), (by decide +kernel), by decide⟩
theorem yX6_cheat_f : sm_Y yX6_cheat cX6_cheat 5 (some .int) 2 := ⟨sm_in 403 (by decide +kernel) (by decide +kernel), sm_in 1 (by decide +kernel) (by decide +kernel), (by decide +kernel), by decide⟩
theorem yX6_blame_f : sm_Y yX6_blame cX6_blame 5 (some .int) 1 := ⟨sm_in 407 (by decide +kernel) (by decide +kernel), sm_in 1 (by decide +kernel) (by decide +kernel), (by decide +kernel), by decide⟩
theorem yX6_serves_f : sm_Y yX6_serves cX6_serves 3 (some .int) 2 := ⟨sm_in 419 (by decide +kernel) (by decide +kernel), sm_in 1 (by decide +kernel) (by decide +kernel), (by decide +kernel), by decide⟩
theorem yX6_pay_f : sm_Y yX6_pay cX6_pay 5 (some .int) 3 := ⟨sm_in 452 (by decide +kernel) (by decide +kernel), sm_in 1 (by decide +kernel) (by decide +kernel), (by decide +kernel), by decide⟩
theorem yX6_owe_f : sm_Y yX6_owe cX6_owe 5 (some .int) 4 := ⟨sm_in 468 (by decide +kernel) (by decide +kernel), sm_in 1 (by decide +kernel) (by decide +kernel), (by decide +kernel), by decide⟩
theorem yX6_settle_f : sm_Y yX6_settle cX6_settle 5 (some .boolean) 2 := ⟨sm_in 498 (by decide +kernel) (by decide +kernel), sm_in 1 (by decide +kernel) (by decide +kernel), (by decide +kernel), by decide⟩
theorem yX6_debt_f : sm_Y yX6_debt cX6_debt 4 (some .int) 2 := ⟨sm_in 514 (by decide +kernel) (by decide +kernel), sm_in 1 (by decide +kernel) (by decide +kernel), (by decide +kernel), by decide⟩
theorem yX6_year_f : sm_Y yX6_year cX6_year 3 (some .int) 0 := ⟨sm_in 518 (by decide +kernel) (by decide +kernel), sm_in 1 (by decide +kernel) (by decide +kernel), (by decide +kernel), by decide⟩
theorem yX6_count_f : sm_Y yX6_count cX6_count 2 (some .int) 1 := ⟨sm_in 529 (by decide +kernel) (by decide +kernel), sm_in 1 (by decide +kernel) (by decide +kernel), (by decide +kernel), by decide⟩
theorem yX6_heap_f : sm_Y yX6_heap cX6_heap 3 (some .boolean) 2 := ⟨sm_in 545 (by decide +kernel) (by decide +kernel), sm_in 1 (by decide +kernel) (by decide +kernel), (by decide +kernel), by decide⟩
theorem yX6_strung_f : sm_Y yX6_strung cX6_strung 1 (some .int) 0 := ⟨sm_in 554 (by decide +kernel) (by decide +kernel), sm_in 1 (by decide +kernel) (by decide +kernel), (by decide +kernel), by decide⟩
theorem yX6_strings_f : sm_Y yX6_strings cX6_strings 1 (some .int) 0 := ⟨sm_in 579 (by decide +kernel) (by decide +kernel), sm_in 1 (by decide +kernel) (by decide +kernel), (by decide +kernel), by decide⟩
theorem yX6_part_f : sm_Y yX6_part cX6_part 2 (some .int) 1 := ⟨sm_in 587 (by decide +kernel) (by decide +kernel), sm_in 1 (by decide +kernel) (by decide +kernel), (by decide +kernel), by decide⟩
theorem yX6_isOwner_f : sm_Y yX6_isOwner cX6_isOwner 1 (some .boolean) 1 := ⟨sm_in 190 (by decide +kernel) (by decide +kernel), sm_in 1 (by decide +kernel) (by decide +kernel), (by decide +kernel), by decide⟩
theorem yX6_isGrade_f : sm_Y yX6_isGrade cX6_isGrade 1 (some .boolean) 1 := ⟨sm_in 196 (by decide +kernel) (by decide +kernel), sm_in 1 (by decide +kernel) (by decide +kernel), (by decide +kernel), by decide⟩
theorem yX6_isName_f : sm_Y yX6_isName cX6_isName 1 (some .boolean) 1 := ⟨sm_in 312 (by decide +kernel) (by decide +kernel), sm_in 1 (by decide +kernel) (by decide +kernel), (by decide +kernel), by decide⟩
theorem yX6_areBeads_f : sm_Y yX6_areBeads cX6_areBeads 3 (some .boolean) 3 := ⟨sm_in 193 (by decide +kernel) (by decide +kernel), sm_in 1 (by decide +kernel) (by decide +kernel), (by decide +kernel), by decide⟩
theorem yX6_strandAt_f : sm_Y yX6_strandAt cX6_strandAt 2 (some (.object "ShellMoney$Strand")) 1 := ⟨sm_in 245 (by decide +kernel) (by decide +kernel), sm_in 1 (by decide +kernel) (by decide +kernel), (by decide +kernel), by decide⟩
theorem yX6_livingStrand_f : sm_Y yX6_livingStrand cX6_livingStrand 3 (some (.object "ShellMoney$Strand")) 1 := ⟨sm_in 241 (by decide +kernel) (by decide +kernel), sm_in 1 (by decide +kernel) (by decide +kernel), (by decide +kernel), by decide⟩
theorem yX6_keepStrand_f : sm_Y yX6_keepStrand cX6_keepStrand 2 (some .int) 1 := ⟨sm_in 233 (by decide +kernel) (by decide +kernel), sm_in 1 (by decide +kernel) (by decide +kernel), (by decide +kernel), by decide⟩
theorem yX6_debtAt_f : sm_Y yX6_debtAt cX6_debtAt 2 (some (.object "ShellMoney$Debt")) 1 := ⟨sm_in 502 (by decide +kernel) (by decide +kernel), sm_in 1 (by decide +kernel) (by decide +kernel), (by decide +kernel), by decide⟩
theorem yX6_goneCount_f : sm_Y yX6_goneCount cX6_goneCount 3 (some .int) 0 := ⟨sm_in 533 (by decide +kernel) (by decide +kernel), sm_in 1 (by decide +kernel) (by decide +kernel), (by decide +kernel), by decide⟩
theorem yX6_paidCount_f : sm_Y yX6_paidCount cX6_paidCount 4 (some .int) 0 := ⟨sm_in 537 (by decide +kernel) (by decide +kernel), sm_in 1 (by decide +kernel) (by decide +kernel), (by decide +kernel), by decide⟩
theorem yX6_tallyMakersBelow_f : sm_Y yX6_tallyMakersBelow cX6_tallyMakersBelow 4 none 1 := ⟨sm_in 411 (by decide +kernel) (by decide +kernel), sm_in 1 (by decide +kernel) (by decide +kernel), (by decide +kernel), by decide⟩
theorem yX6_nameCount_f : sm_Y yX6_nameCount cX6_nameCount 1 (some .int) 1 := ⟨sm_in 252 (by decide +kernel) (by decide +kernel), sm_in 1 (by decide +kernel) (by decide +kernel), (by decide +kernel), by decide⟩
theorem yX6_loseName_f : sm_Y yX6_loseName cX6_loseName 2 none 1 := ⟨sm_in 281 (by decide +kernel) (by decide +kernel), sm_in 1 (by decide +kernel) (by decide +kernel), (by decide +kernel), by decide⟩
theorem yX6_settleNameOfCut_f : sm_Y yX6_settleNameOfCut cX6_settleNameOfCut 5 none 2 := ⟨sm_in 277 (by decide +kernel) (by decide +kernel), sm_in 1 (by decide +kernel) (by decide +kernel), (by decide +kernel), by decide⟩
theorem yX6_settleNameOfJoined_f : sm_Y yX6_settleNameOfJoined cX6_settleNameOfJoined 3 none 2 := ⟨sm_in 293 (by decide +kernel) (by decide +kernel), sm_in 1 (by decide +kernel) (by decide +kernel), (by decide +kernel), by decide⟩
theorem yX6_handOver_f : sm_Y yX6_handOver cX6_handOver 3 none 2 := ⟨sm_in 324 (by decide +kernel) (by decide +kernel), sm_in 1 (by decide +kernel) (by decide +kernel), (by decide +kernel), by decide⟩
theorem yX6_worthOf_f : sm_Y yX6_worthOf cX6_worthOf 3 (some .int) 1 := ⟨sm_in 381 (by decide +kernel) (by decide +kernel), sm_in 1 (by decide +kernel) (by decide +kernel), (by decide +kernel), by decide⟩
theorem yX6_replaced_f : sm_Y yX6_replaced cX6_replaced 6 (some .int) 5 := ⟨sm_in 350 (by decide +kernel) (by decide +kernel), sm_in 1 (by decide +kernel) (by decide +kernel), (by decide +kernel), by decide⟩
theorem yX6_replacedFame_f : sm_Y yX6_replacedFame cX6_replacedFame 3 (some .int) 1 := ⟨sm_in 354 (by decide +kernel) (by decide +kernel), sm_in 1 (by decide +kernel) (by decide +kernel), (by decide +kernel), by decide⟩
theorem yX6_replacedCustom_f : sm_Y yX6_replacedCustom cX6_replacedCustom 3 (some .int) 1 := ⟨sm_in 358 (by decide +kernel) (by decide +kernel), sm_in 1 (by decide +kernel) (by decide +kernel), (by decide +kernel), by decide⟩
theorem yX6_replacedInterest_f : sm_Y yX6_replacedInterest cX6_replacedInterest 3 (some .int) 1 := ⟨sm_in 362 (by decide +kernel) (by decide +kernel), sm_in 1 (by decide +kernel) (by decide +kernel), (by decide +kernel), by decide⟩
theorem yX6_choosePayment_f : sm_Y yX6_choosePayment cX6_choosePayment 3 (some .int) 2 := ⟨sm_in 423 (by decide +kernel) (by decide +kernel), sm_in 1 (by decide +kernel) (by decide +kernel), (by decide +kernel), by decide⟩
theorem yX6_fillPurse_f : sm_Y yX6_fillPurse cX6_fillPurse 4 (some .boolean) 1 := ⟨sm_in 428 (by decide +kernel) (by decide +kernel), sm_in 1 (by decide +kernel) (by decide +kernel), (by decide +kernel), by decide⟩
theorem yX6_chosenNames_f : sm_Y yX6_chosenNames cX6_chosenNames 4 (some .int) 0 := ⟨sm_in 456 (by decide +kernel) (by decide +kernel), sm_in 1 (by decide +kernel) (by decide +kernel), (by decide +kernel), by decide⟩
theorem yX6_handOverChosen_f : sm_Y yX6_handOverChosen cX6_handOverChosen 4 none 1 := ⟨sm_in 464 (by decide +kernel) (by decide +kernel), sm_in 1 (by decide +kernel) (by decide +kernel), (by decide +kernel), by decide⟩
theorem yX7_init_f : sm_Y yX7_init cX7_init 1 none 0 := ⟨sm_in 676 (by decide +kernel) (by decide +kernel), sm_in 6 (by decide +kernel) (by decide +kernel), (by decide +kernel), by decide⟩
theorem yX7_thrown_f : sm_Y yX7_thrown cX7_thrown 1 (some .int) 0 := ⟨sm_in 757 (by decide +kernel) (by decide +kernel), sm_in 6 (by decide +kernel) (by decide +kernel), (by decide +kernel), by decide⟩
theorem yX7_in_f : sm_Y yX7_in cX7_in 3 (some .boolean) 3 := ⟨sm_in 764 (by decide +kernel) (by decide +kernel), sm_in 6 (by decide +kernel) (by decide +kernel), (by decide +kernel), by decide⟩
theorem yX7_isThere_f : sm_Y yX7_isThere cX7_isThere 2 (some .boolean) 1 := ⟨sm_in 783 (by decide +kernel) (by decide +kernel), sm_in 6 (by decide +kernel) (by decide +kernel), (by decide +kernel), by decide⟩
theorem yX7_hasRoom_f : sm_Y yX7_hasRoom cX7_hasRoom 2 (some .boolean) 1 := ⟨sm_in 791 (by decide +kernel) (by decide +kernel), sm_in 6 (by decide +kernel) (by decide +kernel), (by decide +kernel), by decide⟩
theorem yX7_say_f : sm_Y yX7_say cX7_say 5 none 3 := ⟨sm_in 795 (by decide +kernel) (by decide +kernel), sm_in 6 (by decide +kernel) (by decide +kernel), (by decide +kernel), by decide⟩
theorem yX7_put_f : sm_Y yX7_put cX7_put 6 none 4 := ⟨sm_in 775 (by decide +kernel) (by decide +kernel), sm_in 6 (by decide +kernel) (by decide +kernel), (by decide +kernel), by decide⟩
theorem yX7_areBeads_f : sm_Y yX7_areBeads cX7_areBeads 3 (some .boolean) 3 := ⟨sm_in 767 (by decide +kernel) (by decide +kernel), sm_in 6 (by decide +kernel) (by decide +kernel), (by decide +kernel), by decide⟩
theorem yX7_newString_f : sm_Y yX7_newString cX7_newString 2 (some .int) 1 := ⟨sm_in 771 (by decide +kernel) (by decide +kernel), sm_in 6 (by decide +kernel) (by decide +kernel), (by decide +kernel), by decide⟩
theorem yX7_string_f : sm_Y yX7_string cX7_string 6 (some .int) 4 := ⟨sm_in 761 (by decide +kernel) (by decide +kernel), sm_in 6 (by decide +kernel) (by decide +kernel), (by decide +kernel), by decide⟩
theorem yX7_add_f : sm_Y yX7_add cX7_add 5 (some .int) 4 := ⟨sm_in 779 (by decide +kernel) (by decide +kernel), sm_in 6 (by decide +kernel) (by decide +kernel), (by decide +kernel), by decide⟩
theorem yX7_cut_f : sm_Y yX7_cut cX7_cut 6 (some .int) 2 := ⟨sm_in 787 (by decide +kernel) (by decide +kernel), sm_in 6 (by decide +kernel) (by decide +kernel), (by decide +kernel), by decide⟩
theorem yX7_join_f : sm_Y yX7_join cX7_join 5 (some .int) 2 := ⟨sm_in 799 (by decide +kernel) (by decide +kernel), sm_in 6 (by decide +kernel) (by decide +kernel), (by decide +kernel), by decide⟩
theorem yX7_turn_f : sm_Y yX7_turn cX7_turn 7 (some .boolean) 1 := ⟨sm_in 803 (by decide +kernel) (by decide +kernel), sm_in 6 (by decide +kernel) (by decide +kernel), (by decide +kernel), by decide⟩
theorem yX7_whose_f : sm_Y yX7_whose cX7_whose 3 (some .int) 1 := ⟨sm_in 811 (by decide +kernel) (by decide +kernel), sm_in 6 (by decide +kernel) (by decide +kernel), (by decide +kernel), by decide⟩
theorem yX7_name_f : sm_Y yX7_name cX7_name 3 (some .boolean) 2 := ⟨sm_in 807 (by decide +kernel) (by decide +kernel), sm_in 6 (by decide +kernel) (by decide +kernel), (by decide +kernel), by decide⟩
theorem yX7_hand_f : sm_Y yX7_hand cX7_hand 3 none 2 := ⟨sm_in 819 (by decide +kernel) (by decide +kernel), sm_in 6 (by decide +kernel) (by decide +kernel), (by decide +kernel), by decide⟩
theorem yX7_give_f : sm_Y yX7_give cX7_give 3 (some .boolean) 2 := ⟨sm_in 815 (by decide +kernel) (by decide +kernel), sm_in 6 (by decide +kernel) (by decide +kernel), (by decide +kernel), by decide⟩
theorem yX7_leastOf_f : sm_Y yX7_leastOf cX7_leastOf 6 (some .int) 3 := ⟨sm_in 827 (by decide +kernel) (by decide +kernel), sm_in 6 (by decide +kernel) (by decide +kernel), (by decide +kernel), by decide⟩
theorem yX7_rateOf_f : sm_Y yX7_rateOf cX7_rateOf 5 (some .int) 1 := ⟨sm_in 839 (by decide +kernel) (by decide +kernel), sm_in 6 (by decide +kernel) (by decide +kernel), (by decide +kernel), by decide⟩
theorem yX7_beadsWorth_f : sm_Y yX7_beadsWorth cX7_beadsWorth 3 (some .int) 2 := ⟨sm_in 835 (by decide +kernel) (by decide +kernel), sm_in 6 (by decide +kernel) (by decide +kernel), (by decide +kernel), by decide⟩
theorem yX7_worth_f : sm_Y yX7_worth cX7_worth 2 (some .int) 1 := ⟨sm_in 831 (by decide +kernel) (by decide +kernel), sm_in 6 (by decide +kernel) (by decide +kernel), (by decide +kernel), by decide⟩
theorem yX7_makersOf_f : sm_Y yX7_makersOf cX7_makersOf 4 (some .int) 1 := ⟨sm_in 843 (by decide +kernel) (by decide +kernel), sm_in 6 (by decide +kernel) (by decide +kernel), (by decide +kernel), by decide⟩
theorem yX7_of_f : sm_Y yX7_of cX7_of 3 (some .int) 2 := ⟨sm_in 823 (by decide +kernel) (by decide +kernel), sm_in 6 (by decide +kernel) (by decide +kernel), (by decide +kernel), by decide⟩
theorem yX7_bead_f : sm_Y yX7_bead cX7_bead 4 (some .int) 3 := ⟨sm_in 848 (by decide +kernel) (by decide +kernel), sm_in 6 (by decide +kernel) (by decide +kernel), (by decide +kernel), by decide⟩
theorem yX7_named_f : sm_Y yX7_named cX7_named 2 (some .int) 1 := ⟨sm_in 852 (by decide +kernel) (by decide +kernel), sm_in 6 (by decide +kernel) (by decide +kernel), (by decide +kernel), by decide⟩
theorem yX7_tale_f : sm_Y yX7_tale cX7_tale 6 (some .int) 3 := ⟨sm_in 856 (by decide +kernel) (by decide +kernel), sm_in 6 (by decide +kernel) (by decide +kernel), (by decide +kernel), by decide⟩
theorem yX7_set_f : sm_Y yX7_set cX7_set 5 (some .int) 3 := ⟨sm_in 860 (by decide +kernel) (by decide +kernel), sm_in 6 (by decide +kernel) (by decide +kernel), (by decide +kernel), by decide⟩
theorem yX7_rate_f : sm_Y yX7_rate cX7_rate 2 (some .int) 1 := ⟨sm_in 864 (by decide +kernel) (by decide +kernel), sm_in 6 (by decide +kernel) (by decide +kernel), (by decide +kernel), by decide⟩
theorem yX7_rich_f : sm_Y yX7_rich cX7_rich 4 (some .int) 1 := ⟨sm_in 868 (by decide +kernel) (by decide +kernel), sm_in 6 (by decide +kernel) (by decide +kernel), (by decide +kernel), by decide⟩
theorem yX7_drawn_f : sm_Y yX7_drawn cX7_drawn 4 (some .int) 3 := ⟨sm_in 872 (by decide +kernel) (by decide +kernel), sm_in 6 (by decide +kernel) (by decide +kernel), (by decide +kernel), by decide⟩
theorem yX7_cheat_f : sm_Y yX7_cheat cX7_cheat 4 (some .int) 2 := ⟨sm_in 876 (by decide +kernel) (by decide +kernel), sm_in 6 (by decide +kernel) (by decide +kernel), (by decide +kernel), by decide⟩
theorem yX7_blame_f : sm_Y yX7_blame cX7_blame 8 (some .int) 1 := ⟨sm_in 880 (by decide +kernel) (by decide +kernel), sm_in 6 (by decide +kernel) (by decide +kernel), (by decide +kernel), by decide⟩
theorem yX7_gather_f : sm_Y yX7_gather cX7_gather 3 (some .boolean) 1 := ⟨sm_in 889 (by decide +kernel) (by decide +kernel), sm_in 6 (by decide +kernel) (by decide +kernel), (by decide +kernel), by decide⟩
theorem yX7_worthOf_f : sm_Y yX7_worthOf cX7_worthOf 4 (some .int) 1 := ⟨sm_in 897 (by decide +kernel) (by decide +kernel), sm_in 6 (by decide +kernel) (by decide +kernel), (by decide +kernel), by decide⟩
theorem yX7_serving_f : sm_Y yX7_serving cX7_serving 6 (some .int) 1 := ⟨sm_in 893 (by decide +kernel) (by decide +kernel), sm_in 6 (by decide +kernel) (by decide +kernel), (by decide +kernel), by decide⟩
theorem yX7_serves_f : sm_Y yX7_serves cX7_serves 4 (some .int) 2 := ⟨sm_in 884 (by decide +kernel) (by decide +kernel), sm_in 6 (by decide +kernel) (by decide +kernel), (by decide +kernel), by decide⟩
theorem yX7_pay_f : sm_Y yX7_pay cX7_pay 7 (some .int) 3 := ⟨sm_in 901 (by decide +kernel) (by decide +kernel), sm_in 6 (by decide +kernel) (by decide +kernel), (by decide +kernel), by decide⟩
theorem yX7_owe_f : sm_Y yX7_owe cX7_owe 6 (some .int) 4 := ⟨sm_in 905 (by decide +kernel) (by decide +kernel), sm_in 6 (by decide +kernel) (by decide +kernel), (by decide +kernel), by decide⟩
theorem yX7_settle_f : sm_Y yX7_settle cX7_settle 4 (some .boolean) 2 := ⟨sm_in 909 (by decide +kernel) (by decide +kernel), sm_in 6 (by decide +kernel) (by decide +kernel), (by decide +kernel), by decide⟩
theorem yX7_debt_f : sm_Y yX7_debt cX7_debt 4 (some .int) 2 := ⟨sm_in 913 (by decide +kernel) (by decide +kernel), sm_in 6 (by decide +kernel) (by decide +kernel), (by decide +kernel), by decide⟩
theorem yX7_year_f : sm_Y yX7_year cX7_year 4 (some .int) 0 := ⟨sm_in 917 (by decide +kernel) (by decide +kernel), sm_in 6 (by decide +kernel) (by decide +kernel), (by decide +kernel), by decide⟩
theorem yX7_count_f : sm_Y yX7_count cX7_count 4 (some .int) 1 := ⟨sm_in 921 (by decide +kernel) (by decide +kernel), sm_in 6 (by decide +kernel) (by decide +kernel), (by decide +kernel), by decide⟩
theorem yX7_heaped_f : sm_Y yX7_heaped cX7_heaped 3 (some .int) 0 := ⟨sm_in 925 (by decide +kernel) (by decide +kernel), sm_in 6 (by decide +kernel) (by decide +kernel), (by decide +kernel), by decide⟩
theorem yX7_heap_f : sm_Y yX7_heap cX7_heap 3 (some .boolean) 2 := ⟨sm_in 929 (by decide +kernel) (by decide +kernel), sm_in 6 (by decide +kernel) (by decide +kernel), (by decide +kernel), by decide⟩
theorem yX7_gradeAt_f : sm_Y yX7_gradeAt cX7_gradeAt 4 (some .int) 1 := ⟨sm_in 941 (by decide +kernel) (by decide +kernel), sm_in 6 (by decide +kernel) (by decide +kernel), (by decide +kernel), by decide⟩
theorem yX7_string__f : sm_Y yX7_string_ cX7_string_ 6 none 0 := ⟨sm_in 937 (by decide +kernel) (by decide +kernel), sm_in 6 (by decide +kernel) (by decide +kernel), (by decide +kernel), by decide⟩
theorem yX7_strung_f : sm_Y yX7_strung cX7_strung 1 (some .int) 0 := ⟨sm_in 933 (by decide +kernel) (by decide +kernel), sm_in 6 (by decide +kernel) (by decide +kernel), (by decide +kernel), by decide⟩
theorem yX7_strings_f : sm_Y yX7_strings cX7_strings 1 (some .int) 0 := ⟨sm_in 945 (by decide +kernel) (by decide +kernel), sm_in 6 (by decide +kernel) (by decide +kernel), (by decide +kernel), by decide⟩
theorem yX7_part_f : sm_Y yX7_part cX7_part 4 (some .int) 1 := ⟨sm_in 949 (by decide +kernel) (by decide +kernel), sm_in 6 (by decide +kernel) (by decide +kernel), (by decide +kernel), by decide⟩
theorem yJ6_bitCount_0f7a4_f : sm_Y yJ6_bitCount_0f7a4 cJ6_bitCount_0f7a4 1 (some .int) 1 := ⟨sm_in 668 (by decide +kernel) (by decide +kernel), sm_in 13 (by decide +kernel) (by decide +kernel), (by decide +kernel), by decide⟩
theorem yJ9_max_7cf53_f : sm_Y yJ9_max_7cf53 cJ9_max_7cf53 2 (some .int) 2 := ⟨sm_in 373 (by decide +kernel) (by decide +kernel), sm_in 12 (by decide +kernel) (by decide +kernel), (by decide +kernel), by decide⟩
theorem yJ9_min_7cf53_f : sm_Y yJ9_min_7cf53 cJ9_min_7cf53 2 (some .int) 2 := ⟨sm_in 525 (by decide +kernel) (by decide +kernel), sm_in 12 (by decide +kernel) (by decide +kernel), (by decide +kernel), by decide⟩
theorem oi_X6 : Cond.methodLink RX6 1 objectInit ∈ sm_tb := sm_in 20 (by decide +kernel) (by decide +kernel)
theorem ci_X6_25 : sm_CI RX6 25 yX3_init cX3_init 1 0 := ⟨yX3_init_f, Or.inr ⟨"ShellMoney", sm_inN 27 (by decide +kernel) rfl⟩, sm_in 28 (by decide +kernel) (by decide +kernel), rfl⟩
theorem oi_X3 : Cond.methodLink RX3 3 objectInit ∈ sm_tb := sm_in 30 (by decide +kernel) (by decide +kernel)
theorem ci_X6_32 : sm_CI RX6 32 yX5_init cX5_init 1 0 := ⟨yX5_init_f, Or.inr ⟨"ShellMoney", sm_inN 67 (by decide +kernel) rfl⟩, sm_in 68 (by decide +kernel) (by decide +kernel), rfl⟩
theorem oi_X5 : Cond.methodLink RX5 3 objectInit ∈ sm_tb := sm_in 70 (by decide +kernel) (by decide +kernel)
theorem ci_X6_39 : sm_CI RX6 39 yX2_init cX2_init 1 0 := ⟨yX2_init_f, Or.inr ⟨"ShellMoney", sm_inN 90 (by decide +kernel) rfl⟩, sm_in 91 (by decide +kernel) (by decide +kernel), rfl⟩
theorem oi_X2 : Cond.methodLink RX2 3 objectInit ∈ sm_tb := sm_in 93 (by decide +kernel) (by decide +kernel)
theorem ci_X6_55 : sm_CI RX6 55 yX1_init cX1_init 1 0 := ⟨yX1_init_f, Or.inr ⟨"ShellMoney", sm_inN 123 (by decide +kernel) rfl⟩, sm_in 124 (by decide +kernel) (by decide +kernel), rfl⟩
theorem oi_X1 : Cond.methodLink RX1 3 objectInit ∈ sm_tb := sm_in 126 (by decide +kernel) (by decide +kernel)
theorem cs_X6_69 : sm_CS RX6 69 yX6_isOwner cX6_isOwner 1 (some .boolean) 1 := ⟨yX6_isOwner_f, Or.inl (sm_in 188 (by decide +kernel) (by decide +kernel)), sm_in 189 (by decide +kernel) (by decide +kernel)⟩
theorem cs_X6_73 : sm_CS RX6 73 yX6_areBeads cX6_areBeads 3 (some .boolean) 3 := ⟨yX6_areBeads_f, Or.inl (sm_in 191 (by decide +kernel) (by decide +kernel)), sm_in 192 (by decide +kernel) (by decide +kernel)⟩
theorem cs_X6_197 : sm_CS RX6 197 yX6_isGrade cX6_isGrade 1 (some .boolean) 1 := ⟨yX6_isGrade_f, Or.inl (sm_in 194 (by decide +kernel) (by decide +kernel)), sm_in 195 (by decide +kernel) (by decide +kernel)⟩
theorem ci_X6_77 : sm_CI RX6 77 yX4_init cX4_init 2 1 := ⟨yX4_init_f, Or.inr ⟨"ShellMoney", sm_inN 198 (by decide +kernel) rfl⟩, sm_in 199 (by decide +kernel) (by decide +kernel), rfl⟩
theorem oi_X4 : Cond.methodLink RX4 3 objectInit ∈ sm_tb := sm_in 201 (by decide +kernel) (by decide +kernel)
theorem cv_X6_80 : sm_CV RX6 80 yX4_append cX4_append 5 none 3 4 := ⟨yX4_append_f, Or.inr ⟨"ShellMoney", sm_inN 221 (by decide +kernel) rfl⟩, sm_in 223 (by decide +kernel) (by decide +kernel), sm_inP 0 (by decide +kernel) (by decide +kernel), TX4, 5, rfl⟩
theorem cv_X6_84 : sm_CV RX6 84 yX3_flowIn cX3_flowIn 3 none 2 3 := ⟨yX3_flowIn_f, Or.inr ⟨"ShellMoney", sm_inN 225 (by decide +kernel) rfl⟩, sm_in 227 (by decide +kernel) (by decide +kernel), sm_inP 1 (by decide +kernel) (by decide +kernel), TX3, 5, rfl⟩
theorem cs_X3_42 : sm_CS RX3 42 yX6_isGrade cX6_isGrade 1 (some .boolean) 1 := ⟨yX6_isGrade_f, Or.inr ⟨"ShellMoney", sm_inN 229 (by decide +kernel) rfl⟩, sm_in 195 (by decide +kernel) (by decide +kernel)⟩
theorem cv_X6_88 : sm_CV RX6 88 yX6_keepStrand cX6_keepStrand 2 (some .int) 1 6 := ⟨yX6_keepStrand_f, Or.inl (sm_in 230 (by decide +kernel) (by decide +kernel)), sm_in 232 (by decide +kernel) (by decide +kernel), sm_inP 2 (by decide +kernel) (by decide +kernel), TX6, 12, rfl⟩
theorem cv_X6_92 : sm_CV RX6 92 yX6_livingStrand cX6_livingStrand 3 (some (.object "ShellMoney$Strand")) 1 6 := ⟨yX6_livingStrand_f, Or.inl (sm_in 238 (by decide +kernel) (by decide +kernel)), sm_in 240 (by decide +kernel) (by decide +kernel), sm_inP 3 (by decide +kernel) (by decide +kernel), TX6, 12, rfl⟩
theorem cv_X6_143 : sm_CV RX6 143 yX6_strandAt cX6_strandAt 2 (some (.object "ShellMoney$Strand")) 1 6 := ⟨yX6_strandAt_f, Or.inl (sm_in 242 (by decide +kernel) (by decide +kernel)), sm_in 244 (by decide +kernel) (by decide +kernel), sm_inP 4 (by decide +kernel) (by decide +kernel), TX6, 12, rfl⟩
theorem cs_X6_99 : sm_CS RX6 99 yX6_nameCount cX6_nameCount 1 (some .int) 1 := ⟨yX6_nameCount_f, Or.inl (sm_in 250 (by decide +kernel) (by decide +kernel)), sm_in 251 (by decide +kernel) (by decide +kernel)⟩
theorem cv_X6_102 : sm_CV RX6 102 yX5_hasRoom cX5_hasRoom 2 (some .boolean) 1 5 := ⟨yX5_hasRoom_f, Or.inr ⟨"ShellMoney", sm_inN 253 (by decide +kernel) rfl⟩, sm_in 255 (by decide +kernel) (by decide +kernel), sm_inP 5 (by decide +kernel) (by decide +kernel), TX5, 5, rfl⟩
theorem cv_X6_108 : sm_CV RX6 108 yX4_appendFrom cX4_appendFrom 4 none 2 4 := ⟨yX4_appendFrom_f, Or.inr ⟨"ShellMoney", sm_inN 257 (by decide +kernel) rfl⟩, sm_in 259 (by decide +kernel) (by decide +kernel), sm_inP 6 (by decide +kernel) (by decide +kernel), TX4, 5, rfl⟩
theorem cv_X4_32 : sm_CV RX4 32 yX4_gradeAt cX4_gradeAt 2 (some .int) 1 4 := ⟨yX4_gradeAt_f, Or.inl (sm_in 261 (by decide +kernel) (by decide +kernel)), sm_in 263 (by decide +kernel) (by decide +kernel), sm_inP 7 (by decide +kernel) (by decide +kernel), TX4, 5, rfl⟩
theorem cv_X4_28 : sm_CV RX4 28 yX4_has cX4_has 2 (some .boolean) 1 4 := ⟨yX4_has_f, Or.inl (sm_in 265 (by decide +kernel) (by decide +kernel)), sm_in 267 (by decide +kernel) (by decide +kernel), sm_inP 8 (by decide +kernel) (by decide +kernel), TX4, 5, rfl⟩
theorem cv_X4_36 : sm_CV RX4 36 yX4_makerAt cX4_makerAt 2 (some .int) 1 4 := ⟨yX4_makerAt_f, Or.inl (sm_in 269 (by decide +kernel) (by decide +kernel)), sm_in 271 (by decide +kernel) (by decide +kernel), sm_inP 9 (by decide +kernel) (by decide +kernel), TX4, 5, rfl⟩
theorem cv_X4_39 : sm_CV RX4 39 yX4_append cX4_append 5 none 3 4 := ⟨yX4_append_f, Or.inl (sm_in 273 (by decide +kernel) (by decide +kernel)), sm_in 223 (by decide +kernel) (by decide +kernel), sm_inP 0 (by decide +kernel) (by decide +kernel), TX4, 5, rfl⟩
theorem cv_X6_115 : sm_CV RX6 115 yX6_settleNameOfCut cX6_settleNameOfCut 5 none 2 6 := ⟨yX6_settleNameOfCut_f, Or.inl (sm_in 274 (by decide +kernel) (by decide +kernel)), sm_in 276 (by decide +kernel) (by decide +kernel), sm_inP 10 (by decide +kernel) (by decide +kernel), TX6, 12, rfl⟩
theorem cv_X6_132 : sm_CV RX6 132 yX6_loseName cX6_loseName 2 none 1 6 := ⟨yX6_loseName_f, Or.inl (sm_in 278 (by decide +kernel) (by decide +kernel)), sm_in 280 (by decide +kernel) (by decide +kernel), sm_inP 11 (by decide +kernel) (by decide +kernel), TX6, 12, rfl⟩
theorem cv_X6_136 : sm_CV RX6 136 yX5_tell cX5_tell 5 none 4 5 := ⟨yX5_tell_f, Or.inr ⟨"ShellMoney", sm_inN 282 (by decide +kernel) rfl⟩, sm_in 284 (by decide +kernel) (by decide +kernel), sm_inP 12 (by decide +kernel) (by decide +kernel), TX5, 5, rfl⟩
theorem cv_X6_119 : sm_CV RX6 119 yX6_settleNameOfJoined cX6_settleNameOfJoined 3 none 2 6 := ⟨yX6_settleNameOfJoined_f, Or.inl (sm_in 290 (by decide +kernel) (by decide +kernel)), sm_in 292 (by decide +kernel) (by decide +kernel), sm_inP 13 (by decide +kernel) (by decide +kernel), TX6, 12, rfl⟩
theorem cv_X6_122 : sm_CV RX6 122 yX4_reverse cX4_reverse 3 none 0 4 := ⟨yX4_reverse_f, Or.inr ⟨"ShellMoney", sm_inN 298 (by decide +kernel) rfl⟩, sm_in 300 (by decide +kernel) (by decide +kernel), sm_inP 14 (by decide +kernel) (by decide +kernel), TX4, 5, rfl⟩
theorem cv_X4_43 : sm_CV RX4 43 yX4_exchange cX4_exchange 5 none 2 4 := ⟨yX4_exchange_f, Or.inl (sm_in 302 (by decide +kernel) (by decide +kernel)), sm_in 304 (by decide +kernel) (by decide +kernel), sm_inP 15 (by decide +kernel) (by decide +kernel), TX4, 5, rfl⟩
theorem cs_X6_125 : sm_CS RX6 125 yX6_isName cX6_isName 1 (some .boolean) 1 := ⟨yX6_isName_f, Or.inl (sm_in 310 (by decide +kernel) (by decide +kernel)), sm_in 311 (by decide +kernel) (by decide +kernel)⟩
theorem cv_X6_128 : sm_CV RX6 128 yX6_named cX6_named 4 (some .int) 1 6 := ⟨yX6_named_f, Or.inl (sm_in 313 (by decide +kernel) (by decide +kernel)), sm_in 314 (by decide +kernel) (by decide +kernel), sm_in 315 (by decide +kernel) (by decide +kernel), TX6, 12, rfl⟩
theorem cv_X6_140 : sm_CV RX6 140 yX6_handOver cX6_handOver 3 none 2 6 := ⟨yX6_handOver_f, Or.inl (sm_in 321 (by decide +kernel) (by decide +kernel)), sm_in 323 (by decide +kernel) (by decide +kernel), sm_inP 16 (by decide +kernel) (by decide +kernel), TX6, 12, rfl⟩
theorem cv_X6_162 : sm_CV RX6 162 yX4_gradeAt cX4_gradeAt 2 (some .int) 1 4 := ⟨yX4_gradeAt_f, Or.inr ⟨"ShellMoney", sm_inN 329 (by decide +kernel) rfl⟩, sm_in 263 (by decide +kernel) (by decide +kernel), sm_inP 7 (by decide +kernel) (by decide +kernel), TX4, 5, rfl⟩
theorem cv_X6_165 : sm_CV RX6 165 yX4_makerAt cX4_makerAt 2 (some .int) 1 4 := ⟨yX4_makerAt_f, Or.inr ⟨"ShellMoney", sm_inN 330 (by decide +kernel) rfl⟩, sm_in 271 (by decide +kernel) (by decide +kernel), sm_inP 9 (by decide +kernel) (by decide +kernel), TX4, 5, rfl⟩
theorem cv_X6_168 : sm_CV RX6 168 yX5_placeOf cX5_placeOf 5 (some .int) 2 5 := ⟨yX5_placeOf_f, Or.inr ⟨"ShellMoney", sm_inN 336 (by decide +kernel) rfl⟩, sm_in 338 (by decide +kernel) (by decide +kernel), sm_inP 17 (by decide +kernel) (by decide +kernel), TX5, 5, rfl⟩
theorem cv_X6_172 : sm_CV RX6 172 yX5_about cX5_about 3 (some .int) 2 5 := ⟨yX5_about_f, Or.inr ⟨"ShellMoney", sm_inN 340 (by decide +kernel) rfl⟩, sm_in 342 (by decide +kernel) (by decide +kernel), sm_inP 18 (by decide +kernel) (by decide +kernel), TX5, 5, rfl⟩
theorem cs_X6_178 : sm_CS RX6 178 yX6_replaced cX6_replaced 6 (some .int) 5 := ⟨yX6_replaced_f, Or.inl (sm_in 348 (by decide +kernel) (by decide +kernel)), sm_in 349 (by decide +kernel) (by decide +kernel)⟩
theorem cv_X6_188 : sm_CV RX6 188 yX6_replacedFame cX6_replacedFame 3 (some .int) 1 6 := ⟨yX6_replacedFame_f, Or.inl (sm_in 351 (by decide +kernel) (by decide +kernel)), sm_in 353 (by decide +kernel) (by decide +kernel), sm_inP 19 (by decide +kernel) (by decide +kernel), TX6, 12, rfl⟩
theorem cv_X6_191 : sm_CV RX6 191 yX6_replacedCustom cX6_replacedCustom 3 (some .int) 1 6 := ⟨yX6_replacedCustom_f, Or.inl (sm_in 355 (by decide +kernel) (by decide +kernel)), sm_in 357 (by decide +kernel) (by decide +kernel), sm_inP 20 (by decide +kernel) (by decide +kernel), TX6, 12, rfl⟩
theorem cv_X6_194 : sm_CV RX6 194 yX6_replacedInterest cX6_replacedInterest 3 (some .int) 1 6 := ⟨yX6_replacedInterest_f, Or.inl (sm_in 359 (by decide +kernel) (by decide +kernel)), sm_in 361 (by decide +kernel) (by decide +kernel), sm_inP 21 (by decide +kernel) (by decide +kernel), TX6, 12, rfl⟩
theorem cv_X6_200 : sm_CV RX6 200 yX3_rateNow cX3_rateNow 4 (some .int) 1 3 := ⟨yX3_rateNow_f, Or.inr ⟨"ShellMoney", sm_inN 367 (by decide +kernel) rfl⟩, sm_in 369 (by decide +kernel) (by decide +kernel), sm_inP 22 (by decide +kernel) (by decide +kernel), TX3, 5, rfl⟩
theorem cs_X3_46 : sm_CS RX3 46 yJ9_max_7cf53 cJ9_max_7cf53 2 (some .int) 2 := ⟨yJ9_max_7cf53_f, Or.inl (sm_in 371 (by decide +kernel) (by decide +kernel)), sm_in 372 (by decide +kernel) (by decide +kernel)⟩
theorem cv_X6_153 : sm_CV RX6 153 yX6_worthOf cX6_worthOf 3 (some .int) 1 6 := ⟨yX6_worthOf_f, Or.inl (sm_in 378 (by decide +kernel) (by decide +kernel)), sm_in 380 (by decide +kernel) (by decide +kernel), sm_inP 23 (by decide +kernel) (by decide +kernel), TX6, 12, rfl⟩
theorem cv_X6_149 : sm_CV RX6 149 yX4_leastGrade cX4_leastGrade 1 (some .int) 0 4 := ⟨yX4_leastGrade_f, Or.inr ⟨"ShellMoney", sm_inN 382 (by decide +kernel) rfl⟩, sm_in 384 (by decide +kernel) (by decide +kernel), sm_inP 24 (by decide +kernel) (by decide +kernel), TX4, 5, rfl⟩
theorem cv_X4_47 : sm_CV RX4 47 yX4_leastGradeWithin cX4_leastGradeWithin 5 (some .int) 2 4 := ⟨yX4_leastGradeWithin_f, Or.inl (sm_in 386 (by decide +kernel) (by decide +kernel)), sm_in 388 (by decide +kernel) (by decide +kernel), sm_inP 25 (by decide +kernel) (by decide +kernel), TX4, 5, rfl⟩
theorem cv_X6_281 : sm_CV RX6 281 yX3_worthByLength cX3_worthByLength 3 (some .int) 2 3 := ⟨yX3_worthByLength_f, Or.inr ⟨"ShellMoney", sm_inN 390 (by decide +kernel) rfl⟩, sm_in 392 (by decide +kernel) (by decide +kernel), sm_inP 26 (by decide +kernel) (by decide +kernel), TX3, 5, rfl⟩
theorem cv_X3_52 : sm_CV RX3 52 yX3_rateNow cX3_rateNow 4 (some .int) 1 3 := ⟨yX3_rateNow_f, Or.inl (sm_in 394 (by decide +kernel) (by decide +kernel)), sm_in 369 (by decide +kernel) (by decide +kernel), sm_inP 22 (by decide +kernel) (by decide +kernel), TX3, 5, rfl⟩
theorem cv_X6_203 : sm_CV RX6 203 yX4_leastGradeWithin cX4_leastGradeWithin 5 (some .int) 2 4 := ⟨yX4_leastGradeWithin_f, Or.inr ⟨"ShellMoney", sm_inN 399 (by decide +kernel) rfl⟩, sm_in 388 (by decide +kernel) (by decide +kernel), sm_inP 25 (by decide +kernel) (by decide +kernel), TX4, 5, rfl⟩
theorem cv_X6_206 : sm_CV RX6 206 yX6_tallyMakersBelow cX6_tallyMakersBelow 4 none 1 6 := ⟨yX6_tallyMakersBelow_f, Or.inl (sm_in 408 (by decide +kernel) (by decide +kernel)), sm_in 410 (by decide +kernel) (by decide +kernel), sm_inP 27 (by decide +kernel) (by decide +kernel), TX6, 12, rfl⟩
theorem cv_X6_275 : sm_CV RX6 275 yX4_tallyMakersBelow cX4_tallyMakersBelow 5 none 2 4 := ⟨yX4_tallyMakersBelow_f, Or.inr ⟨"ShellMoney", sm_inN 412 (by decide +kernel) rfl⟩, sm_in 414 (by decide +kernel) (by decide +kernel), sm_inP 28 (by decide +kernel) (by decide +kernel), TX4, 5, rfl⟩
theorem cv_X6_209 : sm_CV RX6 209 yX6_choosePayment cX6_choosePayment 3 (some .int) 2 6 := ⟨yX6_choosePayment_f, Or.inl (sm_in 420 (by decide +kernel) (by decide +kernel)), sm_in 422 (by decide +kernel) (by decide +kernel), sm_inP 29 (by decide +kernel) (by decide +kernel), TX6, 12, rfl⟩
theorem cv_X6_285 : sm_CV RX6 285 yX6_fillPurse cX6_fillPurse 4 (some .boolean) 1 6 := ⟨yX6_fillPurse_f, Or.inl (sm_in 425 (by decide +kernel) (by decide +kernel)), sm_in 427 (by decide +kernel) (by decide +kernel), sm_inP 30 (by decide +kernel) (by decide +kernel), TX6, 12, rfl⟩
theorem cv_X6_297 : sm_CV RX6 297 yX2_clear cX2_clear 1 none 0 2 := ⟨yX2_clear_f, Or.inr ⟨"ShellMoney", sm_inN 429 (by decide +kernel) rfl⟩, sm_in 431 (by decide +kernel) (by decide +kernel), sm_inP 31 (by decide +kernel) (by decide +kernel), TX2, 7, rfl⟩
theorem cv_X6_300 : sm_CV RX6 300 yX2_put cX2_put 3 (some .boolean) 2 2 := ⟨yX2_put_f, Or.inr ⟨"ShellMoney", sm_inN 433 (by decide +kernel) rfl⟩, sm_in 435 (by decide +kernel) (by decide +kernel), sm_inP 32 (by decide +kernel) (by decide +kernel), TX2, 7, rfl⟩
theorem cv_X6_291 : sm_CV RX6 291 yX2_choose cX2_choose 6 none 1 2 := ⟨yX2_choose_f, Or.inr ⟨"ShellMoney", sm_inN 437 (by decide +kernel) rfl⟩, sm_in 439 (by decide +kernel) (by decide +kernel), sm_inP 33 (by decide +kernel) (by decide +kernel), TX2, 7, rfl⟩
theorem cv_X2_34 : sm_CV RX2 34 yX2_worthAt cX2_worthAt 2 (some .int) 1 2 := ⟨yX2_worthAt_f, Or.inl (sm_in 441 (by decide +kernel) (by decide +kernel)), sm_in 443 (by decide +kernel) (by decide +kernel), sm_inP 34 (by decide +kernel) (by decide +kernel), TX2, 7, rfl⟩
theorem cv_X2_38 : sm_CV RX2 38 yX2_isBetter cX2_isBetter 3 (some .boolean) 2 2 := ⟨yX2_isBetter_f, Or.inl (sm_in 445 (by decide +kernel) (by decide +kernel)), sm_in 447 (by decide +kernel) (by decide +kernel), sm_inP 35 (by decide +kernel) (by decide +kernel), TX2, 7, rfl⟩
theorem cv_X6_212 : sm_CV RX6 212 yX6_chosenNames cX6_chosenNames 4 (some .int) 0 6 := ⟨yX6_chosenNames_f, Or.inl (sm_in 453 (by decide +kernel) (by decide +kernel)), sm_in 455 (by decide +kernel) (by decide +kernel), sm_inP 36 (by decide +kernel) (by decide +kernel), TX6, 12, rfl⟩
theorem cv_X6_302 : sm_CV RX6 302 yX2_chosenAt cX2_chosenAt 2 (some .int) 1 2 := ⟨yX2_chosenAt_f, Or.inr ⟨"ShellMoney", sm_inN 457 (by decide +kernel) rfl⟩, sm_in 459 (by decide +kernel) (by decide +kernel), sm_inP 37 (by decide +kernel) (by decide +kernel), TX2, 7, rfl⟩
theorem cv_X6_215 : sm_CV RX6 215 yX6_handOverChosen cX6_handOverChosen 4 none 1 6 := ⟨yX6_handOverChosen_f, Or.inl (sm_in 461 (by decide +kernel) (by decide +kernel)), sm_in 463 (by decide +kernel) (by decide +kernel), sm_inP 38 (by decide +kernel) (by decide +kernel), TX6, 12, rfl⟩
theorem ci_X6_218 : sm_CI RX6 218 yX0_init cX0_init 5 4 := ⟨yX0_init_f, Or.inr ⟨"ShellMoney", sm_inN 470 (by decide +kernel) rfl⟩, sm_in 471 (by decide +kernel) (by decide +kernel), rfl⟩
theorem oi_X0 : Cond.methodLink RX0 3 objectInit ∈ sm_tb := sm_in 473 (by decide +kernel) (by decide +kernel)
theorem cv_X6_220 : sm_CV RX6 220 yX6_debtAt cX6_debtAt 2 (some (.object "ShellMoney$Debt")) 1 6 := ⟨yX6_debtAt_f, Or.inl (sm_in 499 (by decide +kernel) (by decide +kernel)), sm_in 501 (by decide +kernel) (by decide +kernel), sm_inP 39 (by decide +kernel) (by decide +kernel), TX6, 12, rfl⟩
theorem cv_X6_224 : sm_CV RX6 224 yX0_isPaid cX0_isPaid 1 (some .boolean) 0 0 := ⟨yX0_isPaid_f, Or.inr ⟨"ShellMoney", sm_inN 503 (by decide +kernel) rfl⟩, sm_in 505 (by decide +kernel) (by decide +kernel), sm_inP 40 (by decide +kernel) (by decide +kernel), TX0, 5, rfl⟩
theorem cv_X6_156 : sm_CV RX6 156 yX4_spans cX4_spans 1 (some .int) 0 4 := ⟨yX4_spans_f, Or.inr ⟨"ShellMoney", sm_inN 507 (by decide +kernel) rfl⟩, sm_in 509 (by decide +kernel) (by decide +kernel), sm_inP 41 (by decide +kernel) (by decide +kernel), TX4, 5, rfl⟩
theorem cv_X6_242 : sm_CV RX6 242 yX0_grow cX0_grow 2 none 1 0 := ⟨yX0_grow_f, Or.inr ⟨"ShellMoney", sm_inN 519 (by decide +kernel) rfl⟩, sm_in 521 (by decide +kernel) (by decide +kernel), sm_inP 42 (by decide +kernel) (by decide +kernel), TX0, 5, rfl⟩
theorem cs_X0_27 : sm_CS RX0 27 yJ9_min_7cf53 cJ9_min_7cf53 2 (some .int) 2 := ⟨yJ9_min_7cf53_f, Or.inl (sm_in 523 (by decide +kernel) (by decide +kernel)), sm_in 524 (by decide +kernel) (by decide +kernel)⟩
theorem cv_X6_245 : sm_CV RX6 245 yX6_goneCount cX6_goneCount 3 (some .int) 0 6 := ⟨yX6_goneCount_f, Or.inl (sm_in 530 (by decide +kernel) (by decide +kernel)), sm_in 532 (by decide +kernel) (by decide +kernel), sm_inP 43 (by decide +kernel) (by decide +kernel), TX6, 12, rfl⟩
theorem cv_X6_248 : sm_CV RX6 248 yX6_paidCount cX6_paidCount 4 (some .int) 0 6 := ⟨yX6_paidCount_f, Or.inl (sm_in 534 (by decide +kernel) (by decide +kernel)), sm_in 536 (by decide +kernel) (by decide +kernel), sm_inP 44 (by decide +kernel) (by decide +kernel), TX6, 12, rfl⟩
theorem cv_X6_254 : sm_CV RX6 254 yX3_allBeads cX3_allBeads 3 (some .int) 0 3 := ⟨yX3_allBeads_f, Or.inr ⟨"ShellMoney", sm_inN 538 (by decide +kernel) rfl⟩, sm_in 540 (by decide +kernel) (by decide +kernel), sm_inP 45 (by decide +kernel) (by decide +kernel), TX3, 5, rfl⟩
theorem cv_X6_258 : sm_CV RX6 258 yX1_put cX1_put 4 (some .boolean) 2 1 := ⟨yX1_put_f, Or.inr ⟨"ShellMoney", sm_inN 546 (by decide +kernel) rfl⟩, sm_in 548 (by decide +kernel) (by decide +kernel), sm_inP 46 (by decide +kernel) (by decide +kernel), TX1, 6, rfl⟩
theorem cs_X1_31 : sm_CS RX1 31 yX6_isGrade cX6_isGrade 1 (some .boolean) 1 := ⟨yX6_isGrade_f, Or.inr ⟨"ShellMoney", sm_inN 550 (by decide +kernel) rfl⟩, sm_in 195 (by decide +kernel) (by decide +kernel)⟩
theorem cv_X6_262 : sm_CV RX6 262 yX1_plan cX1_plan 4 none 1 1 := ⟨yX1_plan_f, Or.inr ⟨"ShellMoney", sm_inN 555 (by decide +kernel) rfl⟩, sm_in 557 (by decide +kernel) (by decide +kernel), sm_inP 47 (by decide +kernel) (by decide +kernel), TX1, 6, rfl⟩
theorem cv_X1_35 : sm_CV RX1 35 yX1_layRow cX1_layRow 4 none 0 1 := ⟨yX1_layRow_f, Or.inl (sm_in 559 (by decide +kernel) (by decide +kernel)), sm_in 561 (by decide +kernel) (by decide +kernel), sm_inP 48 (by decide +kernel) (by decide +kernel), TX1, 6, rfl⟩
theorem cv_X1_38 : sm_CV RX1 38 yX1_clearFrom cX1_clearFrom 2 none 1 1 := ⟨yX1_clearFrom_f, Or.inl (sm_in 563 (by decide +kernel) (by decide +kernel)), sm_in 565 (by decide +kernel) (by decide +kernel), sm_inP 49 (by decide +kernel) (by decide +kernel), TX1, 6, rfl⟩
theorem cv_X1_42 : sm_CV RX1 42 yX1_tryFirst cX1_tryFirst 8 none 3 1 := ⟨yX1_tryFirst_f, Or.inl (sm_in 567 (by decide +kernel) (by decide +kernel)), sm_in 569 (by decide +kernel) (by decide +kernel), sm_inP 50 (by decide +kernel) (by decide +kernel), TX1, 6, rfl⟩
theorem cv_X1_46 : sm_CV RX1 46 yX3_worthByLength cX3_worthByLength 3 (some .int) 2 3 := ⟨yX3_worthByLength_f, Or.inr ⟨"ShellMoney", sm_inN 571 (by decide +kernel) rfl⟩, sm_in 392 (by decide +kernel) (by decide +kernel), sm_inP 26 (by decide +kernel) (by decide +kernel), TX3, 5, rfl⟩
theorem cv_X6_266 : sm_CV RX6 266 yX1_bestWorth cX1_bestWorth 1 (some .int) 0 1 := ⟨yX1_bestWorth_f, Or.inr ⟨"ShellMoney", sm_inN 572 (by decide +kernel) rfl⟩, sm_in 574 (by decide +kernel) (by decide +kernel), sm_inP 51 (by decide +kernel) (by decide +kernel), TX1, 6, rfl⟩
theorem cv_X6_269 : sm_CV RX6 269 yX1_bestParts cX1_bestParts 1 (some .int) 0 1 := ⟨yX1_bestParts_f, Or.inr ⟨"ShellMoney", sm_inN 580 (by decide +kernel) rfl⟩, sm_in 582 (by decide +kernel) (by decide +kernel), sm_inP 52 (by decide +kernel) (by decide +kernel), TX1, 6, rfl⟩
theorem cv_X6_272 : sm_CV RX6 272 yX1_lengthOfPart cX1_lengthOfPart 4 (some .int) 1 1 := ⟨yX1_lengthOfPart_f, Or.inr ⟨"ShellMoney", sm_inN 588 (by decide +kernel) rfl⟩, sm_in 590 (by decide +kernel) (by decide +kernel), sm_inP 53 (by decide +kernel) (by decide +kernel), TX1, 6, rfl⟩
theorem cv_X1_52 : sm_CV RX1 52 yX1_bestParts cX1_bestParts 1 (some .int) 0 1 := ⟨yX1_bestParts_f, Or.inl (sm_in 592 (by decide +kernel) (by decide +kernel)), sm_in 582 (by decide +kernel) (by decide +kernel), sm_inP 52 (by decide +kernel) (by decide +kernel), TX1, 6, rfl⟩
theorem cv_X6_159 : sm_CV RX6 159 yX4_makerCount cX4_makerCount 3 (some .int) 0 4 := ⟨yX4_makerCount_f, Or.inr ⟨"ShellMoney", sm_inN 662 (by decide +kernel) rfl⟩, sm_in 664 (by decide +kernel) (by decide +kernel), sm_inP 55 (by decide +kernel) (by decide +kernel), TX4, 5, rfl⟩
theorem cs_X4_51 : sm_CS RX4 51 yJ6_bitCount_0f7a4 cJ6_bitCount_0f7a4 1 (some .int) 1 := ⟨yJ6_bitCount_0f7a4_f, Or.inl (sm_in 666 (by decide +kernel) (by decide +kernel)), sm_in 667 (by decide +kernel) (by decide +kernel)⟩
theorem oi_X7 : Cond.methodLink RX7 1 objectInit ∈ sm_tb := sm_in 677 (by decide +kernel) (by decide +kernel)
theorem cs_X7_74 : sm_CS RX7 74 yX7_in cX7_in 3 (some .boolean) 3 := ⟨yX7_in_f, Or.inl (sm_in 762 (by decide +kernel) (by decide +kernel)), sm_in 763 (by decide +kernel) (by decide +kernel)⟩
theorem cs_X7_84 : sm_CS RX7 84 yX7_areBeads cX7_areBeads 3 (some .boolean) 3 := ⟨yX7_areBeads_f, Or.inl (sm_in 765 (by decide +kernel) (by decide +kernel)), sm_in 766 (by decide +kernel) (by decide +kernel)⟩
theorem cv_X7_87 : sm_CV RX7 87 yX7_newString cX7_newString 2 (some .int) 1 7 := ⟨yX7_newString_f, Or.inl (sm_in 768 (by decide +kernel) (by decide +kernel)), sm_in 770 (by decide +kernel) (by decide +kernel), sm_inP 56 (by decide +kernel) (by decide +kernel), TX7, 25, rfl⟩
theorem cv_X7_91 : sm_CV RX7 91 yX7_put cX7_put 6 none 4 7 := ⟨yX7_put_f, Or.inl (sm_in 772 (by decide +kernel) (by decide +kernel)), sm_in 774 (by decide +kernel) (by decide +kernel), sm_inP 57 (by decide +kernel) (by decide +kernel), TX7, 25, rfl⟩
theorem cv_X7_95 : sm_CV RX7 95 yX7_isThere cX7_isThere 2 (some .boolean) 1 7 := ⟨yX7_isThere_f, Or.inl (sm_in 780 (by decide +kernel) (by decide +kernel)), sm_in 782 (by decide +kernel) (by decide +kernel), sm_inP 58 (by decide +kernel) (by decide +kernel), TX7, 25, rfl⟩
theorem cv_X7_99 : sm_CV RX7 99 yX7_hasRoom cX7_hasRoom 2 (some .boolean) 1 7 := ⟨yX7_hasRoom_f, Or.inl (sm_in 788 (by decide +kernel) (by decide +kernel)), sm_in 790 (by decide +kernel) (by decide +kernel), sm_inP 59 (by decide +kernel) (by decide +kernel), TX7, 25, rfl⟩
theorem cv_X7_102 : sm_CV RX7 102 yX7_say cX7_say 5 none 3 7 := ⟨yX7_say_f, Or.inl (sm_in 792 (by decide +kernel) (by decide +kernel)), sm_in 794 (by decide +kernel) (by decide +kernel), sm_inP 60 (by decide +kernel) (by decide +kernel), TX7, 25, rfl⟩
theorem cv_X7_106 : sm_CV RX7 106 yX7_whose cX7_whose 3 (some .int) 1 7 := ⟨yX7_whose_f, Or.inl (sm_in 808 (by decide +kernel) (by decide +kernel)), sm_in 810 (by decide +kernel) (by decide +kernel), sm_inP 61 (by decide +kernel) (by decide +kernel), TX7, 25, rfl⟩
theorem cv_X7_109 : sm_CV RX7 109 yX7_hand cX7_hand 3 none 2 7 := ⟨yX7_hand_f, Or.inl (sm_in 816 (by decide +kernel) (by decide +kernel)), sm_in 818 (by decide +kernel) (by decide +kernel), sm_inP 62 (by decide +kernel) (by decide +kernel), TX7, 25, rfl⟩
theorem cv_X7_116 : sm_CV RX7 116 yX7_leastOf cX7_leastOf 6 (some .int) 3 7 := ⟨yX7_leastOf_f, Or.inl (sm_in 824 (by decide +kernel) (by decide +kernel)), sm_in 826 (by decide +kernel) (by decide +kernel), sm_inP 63 (by decide +kernel) (by decide +kernel), TX7, 25, rfl⟩
theorem cv_X7_129 : sm_CV RX7 129 yX7_worth cX7_worth 2 (some .int) 1 7 := ⟨yX7_worth_f, Or.inl (sm_in 828 (by decide +kernel) (by decide +kernel)), sm_in 830 (by decide +kernel) (by decide +kernel), sm_inP 64 (by decide +kernel) (by decide +kernel), TX7, 25, rfl⟩
theorem cv_X7_120 : sm_CV RX7 120 yX7_beadsWorth cX7_beadsWorth 3 (some .int) 2 7 := ⟨yX7_beadsWorth_f, Or.inl (sm_in 832 (by decide +kernel) (by decide +kernel)), sm_in 834 (by decide +kernel) (by decide +kernel), sm_inP 65 (by decide +kernel) (by decide +kernel), TX7, 25, rfl⟩
theorem cv_X7_113 : sm_CV RX7 113 yX7_rateOf cX7_rateOf 5 (some .int) 1 7 := ⟨yX7_rateOf_f, Or.inl (sm_in 836 (by decide +kernel) (by decide +kernel)), sm_in 838 (by decide +kernel) (by decide +kernel), sm_inP 66 (by decide +kernel) (by decide +kernel), TX7, 25, rfl⟩
theorem cv_X7_132 : sm_CV RX7 132 yX7_makersOf cX7_makersOf 4 (some .int) 1 7 := ⟨yX7_makersOf_f, Or.inl (sm_in 840 (by decide +kernel) (by decide +kernel)), sm_in 842 (by decide +kernel) (by decide +kernel), sm_inP 67 (by decide +kernel) (by decide +kernel), TX7, 25, rfl⟩
theorem cs_X7_124 : sm_CS RX7 124 yJ6_bitCount_0f7a4 cJ6_bitCount_0f7a4 1 (some .int) 1 := ⟨yJ6_bitCount_0f7a4_f, Or.inl (sm_in 844 (by decide +kernel) (by decide +kernel)), sm_in 667 (by decide +kernel) (by decide +kernel)⟩
theorem cv_X7_142 : sm_CV RX7 142 yX7_gather cX7_gather 3 (some .boolean) 1 7 := ⟨yX7_gather_f, Or.inl (sm_in 886 (by decide +kernel) (by decide +kernel)), sm_in 888 (by decide +kernel) (by decide +kernel), sm_inP 68 (by decide +kernel) (by decide +kernel), TX7, 25, rfl⟩
theorem cv_X7_145 : sm_CV RX7 145 yX7_serving cX7_serving 6 (some .int) 1 7 := ⟨yX7_serving_f, Or.inl (sm_in 890 (by decide +kernel) (by decide +kernel)), sm_in 892 (by decide +kernel) (by decide +kernel), sm_inP 69 (by decide +kernel) (by decide +kernel), TX7, 25, rfl⟩
theorem cv_X7_138 : sm_CV RX7 138 yX7_worthOf cX7_worthOf 4 (some .int) 1 7 := ⟨yX7_worthOf_f, Or.inl (sm_in 894 (by decide +kernel) (by decide +kernel)), sm_in 896 (by decide +kernel) (by decide +kernel), sm_inP 70 (by decide +kernel) (by decide +kernel), TX7, 25, rfl⟩
theorem cv_X7_151 : sm_CV RX7 151 yX7_heaped cX7_heaped 3 (some .int) 0 7 := ⟨yX7_heaped_f, Or.inl (sm_in 922 (by decide +kernel) (by decide +kernel)), sm_in 924 (by decide +kernel) (by decide +kernel), sm_inP 71 (by decide +kernel) (by decide +kernel), TX7, 25, rfl⟩
theorem cv_X7_158 : sm_CV RX7 158 yX7_string_ cX7_string_ 6 none 0 7 := ⟨yX7_string__f, Or.inl (sm_in 934 (by decide +kernel) (by decide +kernel)), sm_in 936 (by decide +kernel) (by decide +kernel), sm_inP 72 (by decide +kernel) (by decide +kernel), TX7, 25, rfl⟩
theorem cv_X7_155 : sm_CV RX7 155 yX7_gradeAt cX7_gradeAt 4 (some .int) 1 7 := ⟨yX7_gradeAt_f, Or.inl (sm_in 938 (by decide +kernel) (by decide +kernel)), sm_in 940 (by decide +kernel) (by decide +kernel), sm_inP 73 (by decide +kernel) (by decide +kernel), TX7, 25, rfl⟩
theorem oi_m : Cond.instanceMethod objectInit ∈ sm_tb := sm_in 21 (by decide +kernel) (by decide +kernel)
theorem oi_c : Cond.code objectInit ⟨#[0xb1]⟩ 1 none ∈ sm_tb := sm_in 22 (by decide +kernel) (by decide +kernel)
theorem mmax_s : Cond.static Lib.Math.max.name ∈ sm_tb := sm_in 372 (by decide +kernel) (by decide +kernel)
theorem mmax_c : Cond.code Lib.Math.max.name Lib.Math.max.code 2 (some .int) ∈ sm_tb := sm_in 373 (by decide +kernel) (by decide +kernel)
theorem ml_X3_46 : Cond.methodLink RX3 46 Lib.Math.max.name ∈ sm_tb := sm_in 371 (by decide +kernel) (by decide +kernel)
theorem mmin_s : Cond.static Lib.Math.min.name ∈ sm_tb := sm_in 524 (by decide +kernel) (by decide +kernel)
theorem mmin_c : Cond.code Lib.Math.min.name Lib.Math.min.code 2 (some .int) ∈ sm_tb := sm_in 525 (by decide +kernel) (by decide +kernel)
theorem ml_X0_27 : Cond.methodLink RX0 27 Lib.Math.min.name ∈ sm_tb := sm_in 523 (by decide +kernel) (by decide +kernel)
theorem math_i : Cond.initialized "java/lang/Math" ∈ sm_tb := sm_in 12 (by decide +kernel) (by decide +kernel)
theorem arr_i : Cond.arrayClass .int ∈ sm_tb := sm_in 64 (by decide +kernel) (by decide +kernel)
theorem id_X6 : Cond.initialized RX6 ∈ sm_tb := sm_in 1 (by decide +kernel) (by decide +kernel)
theorem id_X3 : Cond.initialized RX3 ∈ sm_tb := sm_in 2 (by decide +kernel) (by decide +kernel)
theorem id_X5 : Cond.initialized RX5 ∈ sm_tb := sm_in 3 (by decide +kernel) (by decide +kernel)
theorem id_X2 : Cond.initialized RX2 ∈ sm_tb := sm_in 4 (by decide +kernel) (by decide +kernel)
theorem id_X1 : Cond.initialized RX1 ∈ sm_tb := sm_in 5 (by decide +kernel) (by decide +kernel)
theorem id_X7 : Cond.initialized RX7 ∈ sm_tb := sm_in 6 (by decide +kernel) (by decide +kernel)
theorem id_X4 : Cond.initialized RX4 ∈ sm_tb := sm_in 7 (by decide +kernel) (by decide +kernel)
theorem id_X0 : Cond.initialized RX0 ∈ sm_tb := sm_in 14 (by decide +kernel) (by decide +kernel)
theorem cl_L_8 : Cond.classLink RL 8 RX6 ∈ sm_tb := sm_in 15 (by decide +kernel) (by decide +kernel)
theorem it_X6 : Cond.instantiable RX6 12 ∈ sm_tb := sm_in 16 (by decide +kernel) (by decide +kernel)
theorem cl_X6_9 : Cond.classLink RX6 9 RX4 ∈ sm_tb := sm_in 23 (by decide +kernel) (by decide +kernel)
theorem ao_X4 : Cond.arrayOver (.object RX4) ∈ sm_nb := sm_inN 24 (by decide +kernel) rfl
theorem cl_X6_23 : Cond.classLink RX6 23 RX3 ∈ sm_tb := sm_in 25 (by decide +kernel) (by decide +kernel)
theorem it_X3 : Cond.instantiable RX3 5 ∈ sm_tb := sm_in 26 (by decide +kernel) (by decide +kernel)
theorem cl_X6_30 : Cond.classLink RX6 30 RX5 ∈ sm_tb := sm_in 65 (by decide +kernel) (by decide +kernel)
theorem it_X5 : Cond.instantiable RX5 5 ∈ sm_tb := sm_in 66 (by decide +kernel) (by decide +kernel)
theorem cl_X6_37 : Cond.classLink RX6 37 RX2 ∈ sm_tb := sm_in 88 (by decide +kernel) (by decide +kernel)
theorem it_X2 : Cond.instantiable RX2 7 ∈ sm_tb := sm_in 89 (by decide +kernel) (by decide +kernel)
theorem cl_X6_44 : Cond.classLink RX6 44 RX0 ∈ sm_tb := sm_in 119 (by decide +kernel) (by decide +kernel)
theorem ao_X0 : Cond.arrayOver (.object RX0) ∈ sm_nb := sm_inN 120 (by decide +kernel) rfl
theorem cl_X6_53 : Cond.classLink RX6 53 RX1 ∈ sm_tb := sm_in 121 (by decide +kernel) (by decide +kernel)
theorem it_X1 : Cond.instantiable RX1 6 ∈ sm_tb := sm_in 122 (by decide +kernel) (by decide +kernel)
theorem it_X4 : Cond.instantiable RX4 5 ∈ sm_tb := sm_in 197 (by decide +kernel) (by decide +kernel)
theorem kc_X6_284 : Cond.constant RX6 284 (1000000) ∈ sm_tb := sm_in 424 (by decide +kernel) (by decide +kernel)
theorem it_X0 : Cond.instantiable RX0 5 ∈ sm_tb := sm_in 469 (by decide +kernel) (by decide +kernel)
theorem kc_J6_265 : Cond.constant RJ6 265 (1431655765) ∈ sm_tb := sm_in 669 (by decide +kernel) (by decide +kernel)
theorem kc_J6_266 : Cond.constant RJ6 266 (858993459) ∈ sm_tb := sm_in 670 (by decide +kernel) (by decide +kernel)
theorem kc_J6_267 : Cond.constant RJ6 267 (252645135) ∈ sm_tb := sm_in 671 (by decide +kernel) (by decide +kernel)
theorem cl_L_16 : Cond.classLink RL 16 RX7 ∈ sm_tb := sm_in 672 (by decide +kernel) (by decide +kernel)
theorem it_X7 : Cond.instantiable RX7 25 ∈ sm_tb := sm_in 673 (by decide +kernel) (by decide +kernel)
theorem kc_X7_141 : Cond.constant RX7 141 (1000000) ∈ sm_tb := sm_in 885 (by decide +kernel) (by decide +kernel)
end
section
/-! calls by the number of their arguments (wip/whole/gen14.py) -/
section SMA
variable {l : Launch} {b : Nat} {D : va_G} {cA : Nat → ClassId} {y : MethodName} {cc : ByteArray} {nL : Nat} {ret : Option FieldType} {fr mc ms : Nat} {Post : Option Value → sm_M → Prop} {k n pc : Nat} {L : List (Option Value)} {st : List Value} {M : sm_M}
theorem sg_V0 {idx ci q nLc frc mcc msc : Nat} {yc : MethodName} {ccc : ByteArray} {retc : Option FieldType} {fs : List Value} {P1 : Option Value → sm_M → Prop} (hd : decode cc pc = .ok (.invokevirtual idx, 3)) (hcv : sm_CV y.cls idx yc ccc nLc retc 0 ci) (hM : M[q]? = some (sm_o ci fs)) (hCt : sm_Ct l b D cA yc ccc nLc retc frc mcc msc [.ref q] M P1) (hfr : frc + 1 ≤ fr) (hst : (st.map fun v => v.category).sum ≤ 8) (hmc : k + mcc ≤ mc) (hms : n + msc ≤ ms) (h : ∀ (r : Option Value) (M1 : sm_M), P1 r M1 → sm_G l b D cA y cc nL ret fr mc ms Post (k + mcc) (n + msc) (pc + 3) L (r.toList ++ st) M1) : sm_G l b D cA y cc nL ret fr mc ms Post k n pc L (.ref q :: st) M := sg_callV (As := []) hd hcv hM hCt rfl hfr hst hmc hms h
theorem sg_S0 {idx nLc frc mcc msc : Nat} {yc : MethodName} {ccc : ByteArray} {retc : Option FieldType} {P1 : Option Value → sm_M → Prop} (hd : decode cc pc = .ok (.invokestatic idx, 3)) (hcs : sm_CS y.cls idx yc ccc nLc retc 0) (hCt : sm_Ct l b D cA yc ccc nLc retc frc mcc msc [] M P1) (hfr : frc + 1 ≤ fr) (hst : (st.map fun v => v.category).sum ≤ 8) (hmc : k + mcc ≤ mc) (hms : n + msc ≤ ms) (h : ∀ (r : Option Value) (M1 : sm_M), P1 r M1 → sm_G l b D cA y cc nL ret fr mc ms Post (k + mcc) (n + msc) (pc + 3) L (r.toList ++ st) M1) : sm_G l b D cA y cc nL ret fr mc ms Post k n pc L (st) M := sg_callS (As := []) hd hcs hCt rfl hfr hst hmc hms h
theorem sg_I0 {idx q nLc frc mcc msc : Nat} {yc : MethodName} {ccc : ByteArray} {P1 : Option Value → sm_M → Prop} (hd : decode cc pc = .ok (.invokespecial idx, 3)) (hci : sm_CI y.cls idx yc ccc nLc 0) (hCt : sm_Ct l b D cA yc ccc nLc none frc mcc msc [.ref q] M P1) (hfr : frc + 1 ≤ fr) (hst : (st.map fun v => v.category).sum ≤ 8) (hmc : k + mcc ≤ mc) (hms : n + msc ≤ ms) (h : ∀ (r : Option Value) (M1 : sm_M), P1 r M1 → sm_G l b D cA y cc nL ret fr mc ms Post (k + mcc) (n + msc) (pc + 3) L (r.toList ++ st) M1) : sm_G l b D cA y cc nL ret fr mc ms Post k n pc L (.ref q :: st) M := sg_callI (As := []) hd hci hCt rfl hfr hst hmc hms h
theorem sg_V1 {idx ci q nLc frc mcc msc : Nat} {yc : MethodName} {ccc : ByteArray} {retc : Option FieldType} {v1 : Value} {fs : List Value} {P1 : Option Value → sm_M → Prop} (hd : decode cc pc = .ok (.invokevirtual idx, 3)) (hcv : sm_CV y.cls idx yc ccc nLc retc 1 ci) (hM : M[q]? = some (sm_o ci fs)) (hCt : sm_Ct l b D cA yc ccc nLc retc frc mcc msc [.ref q, v1] M P1) (hfr : frc + 1 ≤ fr) (hst : (st.map fun v => v.category).sum ≤ 8) (hmc : k + mcc ≤ mc) (hms : n + msc ≤ ms) (h : ∀ (r : Option Value) (M1 : sm_M), P1 r M1 → sm_G l b D cA y cc nL ret fr mc ms Post (k + mcc) (n + msc) (pc + 3) L (r.toList ++ st) M1) : sm_G l b D cA y cc nL ret fr mc ms Post k n pc L (v1 :: .ref q :: st) M := sg_callV (As := [v1]) hd hcv hM hCt rfl hfr hst hmc hms h
theorem sg_S1 {idx nLc frc mcc msc : Nat} {yc : MethodName} {ccc : ByteArray} {retc : Option FieldType} {v1 : Value} {P1 : Option Value → sm_M → Prop} (hd : decode cc pc = .ok (.invokestatic idx, 3)) (hcs : sm_CS y.cls idx yc ccc nLc retc 1) (hCt : sm_Ct l b D cA yc ccc nLc retc frc mcc msc [v1] M P1) (hfr : frc + 1 ≤ fr) (hst : (st.map fun v => v.category).sum ≤ 8) (hmc : k + mcc ≤ mc) (hms : n + msc ≤ ms) (h : ∀ (r : Option Value) (M1 : sm_M), P1 r M1 → sm_G l b D cA y cc nL ret fr mc ms Post (k + mcc) (n + msc) (pc + 3) L (r.toList ++ st) M1) : sm_G l b D cA y cc nL ret fr mc ms Post k n pc L (v1 :: st) M := sg_callS (As := [v1]) hd hcs hCt rfl hfr hst hmc hms h
theorem sg_I1 {idx q nLc frc mcc msc : Nat} {yc : MethodName} {ccc : ByteArray} {v1 : Value} {P1 : Option Value → sm_M → Prop} (hd : decode cc pc = .ok (.invokespecial idx, 3)) (hci : sm_CI y.cls idx yc ccc nLc 1) (hCt : sm_Ct l b D cA yc ccc nLc none frc mcc msc [.ref q, v1] M P1) (hfr : frc + 1 ≤ fr) (hst : (st.map fun v => v.category).sum ≤ 8) (hmc : k + mcc ≤ mc) (hms : n + msc ≤ ms) (h : ∀ (r : Option Value) (M1 : sm_M), P1 r M1 → sm_G l b D cA y cc nL ret fr mc ms Post (k + mcc) (n + msc) (pc + 3) L (r.toList ++ st) M1) : sm_G l b D cA y cc nL ret fr mc ms Post k n pc L (v1 :: .ref q :: st) M := sg_callI (As := [v1]) hd hci hCt rfl hfr hst hmc hms h
theorem sg_V2 {idx ci q nLc frc mcc msc : Nat} {yc : MethodName} {ccc : ByteArray} {retc : Option FieldType} {v1 v2 : Value} {fs : List Value} {P1 : Option Value → sm_M → Prop} (hd : decode cc pc = .ok (.invokevirtual idx, 3)) (hcv : sm_CV y.cls idx yc ccc nLc retc 2 ci) (hM : M[q]? = some (sm_o ci fs)) (hCt : sm_Ct l b D cA yc ccc nLc retc frc mcc msc [.ref q, v1, v2] M P1) (hfr : frc + 1 ≤ fr) (hst : (st.map fun v => v.category).sum ≤ 8) (hmc : k + mcc ≤ mc) (hms : n + msc ≤ ms) (h : ∀ (r : Option Value) (M1 : sm_M), P1 r M1 → sm_G l b D cA y cc nL ret fr mc ms Post (k + mcc) (n + msc) (pc + 3) L (r.toList ++ st) M1) : sm_G l b D cA y cc nL ret fr mc ms Post k n pc L (v2 :: v1 :: .ref q :: st) M := sg_callV (As := [v1, v2]) hd hcv hM hCt rfl hfr hst hmc hms h
theorem sg_S2 {idx nLc frc mcc msc : Nat} {yc : MethodName} {ccc : ByteArray} {retc : Option FieldType} {v1 v2 : Value} {P1 : Option Value → sm_M → Prop} (hd : decode cc pc = .ok (.invokestatic idx, 3)) (hcs : sm_CS y.cls idx yc ccc nLc retc 2) (hCt : sm_Ct l b D cA yc ccc nLc retc frc mcc msc [v1, v2] M P1) (hfr : frc + 1 ≤ fr) (hst : (st.map fun v => v.category).sum ≤ 8) (hmc : k + mcc ≤ mc) (hms : n + msc ≤ ms) (h : ∀ (r : Option Value) (M1 : sm_M), P1 r M1 → sm_G l b D cA y cc nL ret fr mc ms Post (k + mcc) (n + msc) (pc + 3) L (r.toList ++ st) M1) : sm_G l b D cA y cc nL ret fr mc ms Post k n pc L (v2 :: v1 :: st) M := sg_callS (As := [v1, v2]) hd hcs hCt rfl hfr hst hmc hms h
theorem sg_I2 {idx q nLc frc mcc msc : Nat} {yc : MethodName} {ccc : ByteArray} {v1 v2 : Value} {P1 : Option Value → sm_M → Prop} (hd : decode cc pc = .ok (.invokespecial idx, 3)) (hci : sm_CI y.cls idx yc ccc nLc 2) (hCt : sm_Ct l b D cA yc ccc nLc none frc mcc msc [.ref q, v1, v2] M P1) (hfr : frc + 1 ≤ fr) (hst : (st.map fun v => v.category).sum ≤ 8) (hmc : k + mcc ≤ mc) (hms : n + msc ≤ ms) (h : ∀ (r : Option Value) (M1 : sm_M), P1 r M1 → sm_G l b D cA y cc nL ret fr mc ms Post (k + mcc) (n + msc) (pc + 3) L (r.toList ++ st) M1) : sm_G l b D cA y cc nL ret fr mc ms Post k n pc L (v2 :: v1 :: .ref q :: st) M := sg_callI (As := [v1, v2]) hd hci hCt rfl hfr hst hmc hms h
theorem sg_V3 {idx ci q nLc frc mcc msc : Nat} {yc : MethodName} {ccc : ByteArray} {retc : Option FieldType} {v1 v2 v3 : Value} {fs : List Value} {P1 : Option Value → sm_M → Prop} (hd : decode cc pc = .ok (.invokevirtual idx, 3)) (hcv : sm_CV y.cls idx yc ccc nLc retc 3 ci) (hM : M[q]? = some (sm_o ci fs)) (hCt : sm_Ct l b D cA yc ccc nLc retc frc mcc msc [.ref q, v1, v2, v3] M P1) (hfr : frc + 1 ≤ fr) (hst : (st.map fun v => v.category).sum ≤ 8) (hmc : k + mcc ≤ mc) (hms : n + msc ≤ ms) (h : ∀ (r : Option Value) (M1 : sm_M), P1 r M1 → sm_G l b D cA y cc nL ret fr mc ms Post (k + mcc) (n + msc) (pc + 3) L (r.toList ++ st) M1) : sm_G l b D cA y cc nL ret fr mc ms Post k n pc L (v3 :: v2 :: v1 :: .ref q :: st) M := sg_callV (As := [v1, v2, v3]) hd hcv hM hCt rfl hfr hst hmc hms h
theorem sg_S3 {idx nLc frc mcc msc : Nat} {yc : MethodName} {ccc : ByteArray} {retc : Option FieldType} {v1 v2 v3 : Value} {P1 : Option Value → sm_M → Prop} (hd : decode cc pc = .ok (.invokestatic idx, 3)) (hcs : sm_CS y.cls idx yc ccc nLc retc 3) (hCt : sm_Ct l b D cA yc ccc nLc retc frc mcc msc [v1, v2, v3] M P1) (hfr : frc + 1 ≤ fr) (hst : (st.map fun v => v.category).sum ≤ 8) (hmc : k + mcc ≤ mc) (hms : n + msc ≤ ms) (h : ∀ (r : Option Value) (M1 : sm_M), P1 r M1 → sm_G l b D cA y cc nL ret fr mc ms Post (k + mcc) (n + msc) (pc + 3) L (r.toList ++ st) M1) : sm_G l b D cA y cc nL ret fr mc ms Post k n pc L (v3 :: v2 :: v1 :: st) M := sg_callS (As := [v1, v2, v3]) hd hcs hCt rfl hfr hst hmc hms h
theorem sg_I3 {idx q nLc frc mcc msc : Nat} {yc : MethodName} {ccc : ByteArray} {v1 v2 v3 : Value} {P1 : Option Value → sm_M → Prop} (hd : decode cc pc = .ok (.invokespecial idx, 3)) (hci : sm_CI y.cls idx yc ccc nLc 3) (hCt : sm_Ct l b D cA yc ccc nLc none frc mcc msc [.ref q, v1, v2, v3] M P1) (hfr : frc + 1 ≤ fr) (hst : (st.map fun v => v.category).sum ≤ 8) (hmc : k + mcc ≤ mc) (hms : n + msc ≤ ms) (h : ∀ (r : Option Value) (M1 : sm_M), P1 r M1 → sm_G l b D cA y cc nL ret fr mc ms Post (k + mcc) (n + msc) (pc + 3) L (r.toList ++ st) M1) : sm_G l b D cA y cc nL ret fr mc ms Post k n pc L (v3 :: v2 :: v1 :: .ref q :: st) M := sg_callI (As := [v1, v2, v3]) hd hci hCt rfl hfr hst hmc hms h
theorem sg_V4 {idx ci q nLc frc mcc msc : Nat} {yc : MethodName} {ccc : ByteArray} {retc : Option FieldType} {v1 v2 v3 v4 : Value} {fs : List Value} {P1 : Option Value → sm_M → Prop} (hd : decode cc pc = .ok (.invokevirtual idx, 3)) (hcv : sm_CV y.cls idx yc ccc nLc retc 4 ci) (hM : M[q]? = some (sm_o ci fs)) (hCt : sm_Ct l b D cA yc ccc nLc retc frc mcc msc [.ref q, v1, v2, v3, v4] M P1) (hfr : frc + 1 ≤ fr) (hst : (st.map fun v => v.category).sum ≤ 8) (hmc : k + mcc ≤ mc) (hms : n + msc ≤ ms) (h : ∀ (r : Option Value) (M1 : sm_M), P1 r M1 → sm_G l b D cA y cc nL ret fr mc ms Post (k + mcc) (n + msc) (pc + 3) L (r.toList ++ st) M1) : sm_G l b D cA y cc nL ret fr mc ms Post k n pc L (v4 :: v3 :: v2 :: v1 :: .ref q :: st) M := sg_callV (As := [v1, v2, v3, v4]) hd hcv hM hCt rfl hfr hst hmc hms h
theorem sg_S4 {idx nLc frc mcc msc : Nat} {yc : MethodName} {ccc : ByteArray} {retc : Option FieldType} {v1 v2 v3 v4 : Value} {P1 : Option Value → sm_M → Prop} (hd : decode cc pc = .ok (.invokestatic idx, 3)) (hcs : sm_CS y.cls idx yc ccc nLc retc 4) (hCt : sm_Ct l b D cA yc ccc nLc retc frc mcc msc [v1, v2, v3, v4] M P1) (hfr : frc + 1 ≤ fr) (hst : (st.map fun v => v.category).sum ≤ 8) (hmc : k + mcc ≤ mc) (hms : n + msc ≤ ms) (h : ∀ (r : Option Value) (M1 : sm_M), P1 r M1 → sm_G l b D cA y cc nL ret fr mc ms Post (k + mcc) (n + msc) (pc + 3) L (r.toList ++ st) M1) : sm_G l b D cA y cc nL ret fr mc ms Post k n pc L (v4 :: v3 :: v2 :: v1 :: st) M := sg_callS (As := [v1, v2, v3, v4]) hd hcs hCt rfl hfr hst hmc hms h
theorem sg_I4 {idx q nLc frc mcc msc : Nat} {yc : MethodName} {ccc : ByteArray} {v1 v2 v3 v4 : Value} {P1 : Option Value → sm_M → Prop} (hd : decode cc pc = .ok (.invokespecial idx, 3)) (hci : sm_CI y.cls idx yc ccc nLc 4) (hCt : sm_Ct l b D cA yc ccc nLc none frc mcc msc [.ref q, v1, v2, v3, v4] M P1) (hfr : frc + 1 ≤ fr) (hst : (st.map fun v => v.category).sum ≤ 8) (hmc : k + mcc ≤ mc) (hms : n + msc ≤ ms) (h : ∀ (r : Option Value) (M1 : sm_M), P1 r M1 → sm_G l b D cA y cc nL ret fr mc ms Post (k + mcc) (n + msc) (pc + 3) L (r.toList ++ st) M1) : sm_G l b D cA y cc nL ret fr mc ms Post k n pc L (v4 :: v3 :: v2 :: v1 :: .ref q :: st) M := sg_callI (As := [v1, v2, v3, v4]) hd hci hCt rfl hfr hst hmc hms h
theorem sg_V5 {idx ci q nLc frc mcc msc : Nat} {yc : MethodName} {ccc : ByteArray} {retc : Option FieldType} {v1 v2 v3 v4 v5 : Value} {fs : List Value} {P1 : Option Value → sm_M → Prop} (hd : decode cc pc = .ok (.invokevirtual idx, 3)) (hcv : sm_CV y.cls idx yc ccc nLc retc 5 ci) (hM : M[q]? = some (sm_o ci fs)) (hCt : sm_Ct l b D cA yc ccc nLc retc frc mcc msc [.ref q, v1, v2, v3, v4, v5] M P1) (hfr : frc + 1 ≤ fr) (hst : (st.map fun v => v.category).sum ≤ 8) (hmc : k + mcc ≤ mc) (hms : n + msc ≤ ms) (h : ∀ (r : Option Value) (M1 : sm_M), P1 r M1 → sm_G l b D cA y cc nL ret fr mc ms Post (k + mcc) (n + msc) (pc + 3) L (r.toList ++ st) M1) : sm_G l b D cA y cc nL ret fr mc ms Post k n pc L (v5 :: v4 :: v3 :: v2 :: v1 :: .ref q :: st) M := sg_callV (As := [v1, v2, v3, v4, v5]) hd hcv hM hCt rfl hfr hst hmc hms h
theorem sg_S5 {idx nLc frc mcc msc : Nat} {yc : MethodName} {ccc : ByteArray} {retc : Option FieldType} {v1 v2 v3 v4 v5 : Value} {P1 : Option Value → sm_M → Prop} (hd : decode cc pc = .ok (.invokestatic idx, 3)) (hcs : sm_CS y.cls idx yc ccc nLc retc 5) (hCt : sm_Ct l b D cA yc ccc nLc retc frc mcc msc [v1, v2, v3, v4, v5] M P1) (hfr : frc + 1 ≤ fr) (hst : (st.map fun v => v.category).sum ≤ 8) (hmc : k + mcc ≤ mc) (hms : n + msc ≤ ms) (h : ∀ (r : Option Value) (M1 : sm_M), P1 r M1 → sm_G l b D cA y cc nL ret fr mc ms Post (k + mcc) (n + msc) (pc + 3) L (r.toList ++ st) M1) : sm_G l b D cA y cc nL ret fr mc ms Post k n pc L (v5 :: v4 :: v3 :: v2 :: v1 :: st) M := sg_callS (As := [v1, v2, v3, v4, v5]) hd hcs hCt rfl hfr hst hmc hms h
theorem sg_I5 {idx q nLc frc mcc msc : Nat} {yc : MethodName} {ccc : ByteArray} {v1 v2 v3 v4 v5 : Value} {P1 : Option Value → sm_M → Prop} (hd : decode cc pc = .ok (.invokespecial idx, 3)) (hci : sm_CI y.cls idx yc ccc nLc 5) (hCt : sm_Ct l b D cA yc ccc nLc none frc mcc msc [.ref q, v1, v2, v3, v4, v5] M P1) (hfr : frc + 1 ≤ fr) (hst : (st.map fun v => v.category).sum ≤ 8) (hmc : k + mcc ≤ mc) (hms : n + msc ≤ ms) (h : ∀ (r : Option Value) (M1 : sm_M), P1 r M1 → sm_G l b D cA y cc nL ret fr mc ms Post (k + mcc) (n + msc) (pc + 3) L (r.toList ++ st) M1) : sm_G l b D cA y cc nL ret fr mc ms Post k n pc L (v5 :: v4 :: v3 :: v2 :: v1 :: .ref q :: st) M := sg_callI (As := [v1, v2, v3, v4, v5]) hd hci hCt rfl hfr hst hmc hms h
end SMA
end
section
/-! numbers -/
theorem ti_m2 : ((-2) : Int32).toInt = -2 := by decide +kernel
theorem ti_m1 : ((-1) : Int32).toInt = -1 := by decide +kernel
theorem ti_0 : (0 : Int32).toInt = 0 := by decide +kernel
theorem ti_1 : (1 : Int32).toInt = 1 := by decide +kernel
theorem ti_2 : (2 : Int32).toInt = 2 := by decide +kernel
theorem ti_3 : (3 : Int32).toInt = 3 := by decide +kernel
theorem ti_4 : (4 : Int32).toInt = 4 := by decide +kernel
theorem ti_5 : (5 : Int32).toInt = 5 := by decide +kernel
theorem ti_6 : (6 : Int32).toInt = 6 := by decide +kernel
theorem ti_7 : (7 : Int32).toInt = 7 := by decide +kernel
theorem ti_8 : (8 : Int32).toInt = 8 := by decide +kernel
theorem ti_9 : (9 : Int32).toInt = 9 := by decide +kernel
theorem ti_10 : (10 : Int32).toInt = 10 := by decide +kernel
theorem ti_11 : (11 : Int32).toInt = 11 := by decide +kernel
theorem ti_12 : (12 : Int32).toInt = 12 := by decide +kernel
theorem ti_16 : (16 : Int32).toInt = 16 := by decide +kernel
theorem ti_20 : (20 : Int32).toInt = 20 := by decide +kernel
theorem ti_25 : (25 : Int32).toInt = 25 := by decide +kernel
theorem ti_31 : (31 : Int32).toInt = 31 := by decide +kernel
theorem ti_40 : (40 : Int32).toInt = 40 := by decide +kernel
theorem ti_50 : (50 : Int32).toInt = 50 := by decide +kernel
theorem ti_60 : (60 : Int32).toInt = 60 := by decide +kernel
theorem ti_61 : (61 : Int32).toInt = 61 := by decide +kernel
theorem ti_63 : (63 : Int32).toInt = 63 := by decide +kernel
theorem ti_80 : (80 : Int32).toInt = 80 := by decide +kernel
theorem ti_99 : (99 : Int32).toInt = 99 := by decide +kernel
theorem ti_100 : (100 : Int32).toInt = 100 := by decide +kernel
theorem ti_200 : (200 : Int32).toInt = 200 := by decide +kernel
theorem ti_300 : (300 : Int32).toInt = 300 := by decide +kernel
theorem ti_500 : (500 : Int32).toInt = 500 := by decide +kernel
theorem ti_800 : (800 : Int32).toInt = 800 := by decide +kernel
theorem ti_1000 : (1000 : Int32).toInt = 1000 := by decide +kernel
theorem ti_3200 : (3200 : Int32).toInt = 3200 := by decide +kernel
theorem ti_10000 : (10000 : Int32).toInt = 10000 := by decide +kernel
theorem ti_1000000 : (1000000 : Int32).toInt = 1000000 := by decide +kernel
theorem sm_ti {n : Nat} (h : n < 2147483648) : (nI n).toInt = (n : Int) := nI_toInt (by omega)
end
section
/-! heaps that differ in named cells alone -/
def sm_ex (M M1 : sm_M) (zs : List Nat) : Prop := M1.length = M.length ∧ ∀ z, z ∉ zs → M1[z]? = M[z]?
theorem sm_ex.rf {M : sm_M} {zs : List Nat} : sm_ex M M zs := ⟨rfl, fun _ _ => rfl⟩
theorem sm_ex.tr {M M1 M2 : sm_M} {zs : List Nat} (h1 : sm_ex M M1 zs) (h2 : sm_ex M1 M2 zs) : sm_ex M M2 zs := ⟨h2.1.trans h1.1, fun z hz => (h2.2 z hz).trans (h1.2 z hz)⟩
theorem sm_ex.mono {M M1 : sm_M} {zs ys : List Nat} (h : sm_ex M M1 zs) (hs : ∀ z ∈ zs, z ∈ ys) : sm_ex M M1 ys := ⟨h.1, fun z hz => h.2 z (fun q => hz (hs z q))⟩
theorem sm_ex.set {M : sm_M} {q : Nat} {c : Option sm_C} : sm_ex M (M.set q c) [q] := ⟨List.length_set, fun z hz => List.getElem?_set_ne (fun e => hz (by rw [e]; exact List.mem_cons_self))⟩
theorem sm_gs {M : sm_M} {q : Nat} {x c : Option sm_C} (h : M[q]? = some x) : (M.set q c)[q]? = some c := List.getElem?_set_self (List.getElem?_eq_some_iff.mp h).1
theorem sm_ne {M : sm_M} {q z : Nat} {x c : sm_C} (h : M[q]? = some (some x)) (h2 : M[z]? = some (some c)) (hc : x ≠ c) : q ≠ z := fun e => by
  subst e
  rw [h] at h2
  exact hc (Option.some.inj (Option.some.inj h2))
theorem sm_neoi {M : sm_M} {q z c n : Nat} {fs : List Value} {f : Nat → Int32} (h : M[q]? = some (sm_o c fs)) (h2 : M[z]? = some (sm_i n f)) : q ≠ z := fun e => by
  subst e
  rw [h] at h2
  cases h2
theorem sm_neor {M : sm_M} {q z c n t : Nat} {fs : List Value} {f : Nat → Option Nat} (h : M[q]? = some (sm_o c fs)) (h2 : M[z]? = some (sm_r t n f)) : q ≠ z := fun e => by
  subst e
  rw [h] at h2
  cases h2
theorem sm_neir {M : sm_M} {q z m n t : Nat} {g : Nat → Int32} {f : Nat → Option Nat} (h : M[q]? = some (sm_i m g)) (h2 : M[z]? = some (sm_r t n f)) : q ≠ z := fun e => by
  subst e
  rw [h] at h2
  cases h2
theorem sm_b0 {P : Prop} [Decidable P] : ((if P then (1 : Int32) else 0) = 0) ↔ ¬ P := by
  by_cases h : P
  · rw [if_pos h]; exact ⟨fun e => absurd e (by decide), fun q => absurd h q⟩
  · rw [if_neg h]; exact ⟨fun _ => h, fun _ => rfl⟩
theorem sm_nz {P : Prop} [Decidable P] : narrow .boolean (.int (if P then (1 : Int32) else 0)) = .int (if P then (1 : Int32) else 0) := by
  by_cases h : P
  · rw [if_pos h]; decide
  · rw [if_neg h]; decide
theorem fb_rng16 (x : Int32) : -2147483648 ≤ x.toInt ∧ x.toInt < 2147483648 := ⟨by have := Int32.le_toInt x; omega, by have := Int32.toInt_lt x; omega⟩
theorem sm_asN {i : Int32} (h : 0 ≤ i.toInt) : i = nI i.toInt.toNat := by
  have h1 := fb_rng16 i
  refine Int32.toInt_inj.mp ?_
  rw [nI_toInt (by omega)]
  omega
section SMX
variable {l : Launch} {b : Nat} {D : va_G} {cA : Nat → ClassId} {y : MethodName} {cc : ByteArray} {nL : Nat} {ret : Option FieldType} {fr mc ms : Nat} {Post : Option Value → sm_M → Prop} {k n pc : Nat} {L : List (Option Value)} {st : List Value} {M : sm_M}
theorem sg_bf_eq {P : Prop} [Decidable P] {off : Int} (tgt : Nat) (hd : decode cc pc = .ok (.ifCond .eq off, 3)) (ht : (pc : Int) + off = (tgt : Int)) (kt : ¬ P → sm_G l b D cA y cc nL ret fr mc ms Post k n tgt L st M) (kf : P → sm_G l b D cA y cc nL ret fr mc ms Post k n (pc + 3) L st M) : sm_G l b D cA y cc nL ret fr mc ms Post k n pc L (.int (if P then 1 else 0) :: st) M := sg_if_eq tgt hd ht (fun c => kt (sm_b0.mp c)) (fun c => kf (Decidable.not_not.mp (fun q => c (sm_b0.mpr q))))
theorem sg_bf_ne {P : Prop} [Decidable P] {off : Int} (tgt : Nat) (hd : decode cc pc = .ok (.ifCond .ne off, 3)) (ht : (pc : Int) + off = (tgt : Int)) (kt : P → sm_G l b D cA y cc nL ret fr mc ms Post k n tgt L st M) (kf : ¬ P → sm_G l b D cA y cc nL ret fr mc ms Post k n (pc + 3) L st M) : sm_G l b D cA y cc nL ret fr mc ms Post k n pc L (.int (if P then 1 else 0) :: st) M := sg_if_ne tgt hd ht (fun c => kt (Decidable.not_not.mp (fun q => c (sm_b0.mpr q)))) (fun c => kf (sm_b0.mp c))
theorem sg_astx {q N : Nat} {f : Nat → Int32} {i x : Int32} (j : Nat) (hd : decode cc pc = .ok (.iastore, 1)) (hM : M[q]? = some (sm_i N f)) (hi : i = nI j) (hj : j < N) (hN : N < 2 ^ 31) (h : ∀ M1 : sm_M, sm_ex M M1 [q] → M1[q]? = some (sm_i N (upd f j x)) → sm_G l b D cA y cc nL ret fr mc ms Post k n (pc + 1) L st M1) : sm_G l b D cA y cc nL ret fr mc ms Post k n pc L (.int x :: .int i :: .ref q :: st) M := sg_ast j hd hM hi hj hN (h _ sm_ex.set (sm_gs hM))
theorem sg_putx {idx ci kk q N : Nat} {C : String} {T : u_T} {fs : List Value} {x : Int32} (hd : decode cc pc = .ok (.putfield idx, 3)) (hf : sm_FL y.cls idx ci kk C T N) (ht : sm_FT kk .int false T N) (hM : M[q]? = some (sm_o ci fs)) (hl : kk < fs.length) (h : ∀ M1 : sm_M, sm_ex M M1 [q] → M1[q]? = some (sm_o ci (fs.set kk (.int x))) → sm_G l b D cA y cc nL ret fr mc ms Post k n (pc + 3) L st M1) : sm_G l b D cA y cc nL ret fr mc ms Post k n pc L (.int x :: .ref q :: st) M := sg_put hd hf ht hM hl (h _ sm_ex.set (sm_gs hM))
/-- the strand at q, its rows of grades and makers at g, m -/
def sm_st (M : sm_M) (q g m n : Nat) (fg fm : Nat → Int32) (ow nm : Int32) : Prop := M[q]? = some (sm_o 4 [.ref g, .ref m, .int (nI n), .int ow, .int nm]) ∧ M[g]? = some (sm_i 80 fg) ∧ M[m]? = some (sm_i 80 fm)
theorem sm_st.ex {M1 : sm_M} {q g m c : Nat} {fg fm : Nat → Int32} {ow nm : Int32} {zs : List Nat} (h : sm_st M q g m c fg fm ow nm) (hx : sm_ex M M1 zs) (h1 : q ∉ zs) (h2 : g ∉ zs) (h3 : m ∉ zs) : sm_st M1 q g m c fg fm ow nm := ⟨(hx.2 q h1).trans h.1, (hx.2 g h2).trans h.2.1, (hx.2 m h3).trans h.2.2⟩
end SMX
end
section
/-! small methods: what numbers may be; a strand's reads -/
section SM20
variable {l : Launch} {b : Nat} {D : va_G} {cA : Nat → ClassId} {M : sm_M}
theorem c_isOwner (x : Int32) : sm_Ct l b D cA yX6_isOwner cX6_isOwner 1 (some .boolean) 0 0 0 [.int x] M (fun r M1 => r = some (.int (if 0 ≤ x.toInt ∧ x.toInt < 10 then 1 else 0)) ∧ M1 = M) := by
  refine sm_enter (by decide +kernel) rfl (fun _ => Nat.le_of_ble_eq_true rfl) ?_
  refine sg_iload_n dX6_isOwner_0 rfl ?_
  refine sg_if_lt 14 dX6_isOwner_1 (by decide) (fun c_1 => ?_) (fun c_1 => ?_)
  · refine sg_iconst 0 dX6_isOwner_14 (by decide) ?_
    refine sg_zreturn dX6_isOwner_15 rfl (by first | decide | assumption) (Nat.le_of_ble_eq_true rfl) (Nat.le_of_ble_eq_true rfl) ?_
    exact ⟨by (try simp only [Int32.lt_iff_toInt_lt, Int32.le_iff_toInt_le, ← Int32.toInt_inj, ti_m2, ti_m1, ti_0, ti_1, ti_2, ti_3, ti_4, ti_5, ti_6, ti_7, ti_8, ti_9, ti_10, ti_11, ti_12, ti_16, ti_20, ti_25, ti_31, ti_40, ti_50, ti_60, ti_61, ti_63, ti_80, ti_99, ti_100, ti_200, ti_300, ti_500, ti_800, ti_1000, ti_3200, ti_10000, ti_1000000] at *) <;> (repeat split) <;> first | rfl | (exfalso; omega), rfl⟩
  · refine sg_iload_n dX6_isOwner_4 rfl ?_
    refine sg_bipush 10 dX6_isOwner_5 (by decide) ?_
    refine sg_icmp_ge 14 dX6_isOwner_7 (by decide) (fun c_7 => ?_) (fun c_7 => ?_)
    · refine sg_iconst 0 dX6_isOwner_14 (by decide) ?_
      refine sg_zreturn dX6_isOwner_15 rfl (by first | decide | assumption) (Nat.le_of_ble_eq_true rfl) (Nat.le_of_ble_eq_true rfl) ?_
      exact ⟨by (try simp only [Int32.lt_iff_toInt_lt, Int32.le_iff_toInt_le, ← Int32.toInt_inj, ti_m2, ti_m1, ti_0, ti_1, ti_2, ti_3, ti_4, ti_5, ti_6, ti_7, ti_8, ti_9, ti_10, ti_11, ti_12, ti_16, ti_20, ti_25, ti_31, ti_40, ti_50, ti_60, ti_61, ti_63, ti_80, ti_99, ti_100, ti_200, ti_300, ti_500, ti_800, ti_1000, ti_3200, ti_10000, ti_1000000] at *) <;> (repeat split) <;> first | rfl | (exfalso; omega), rfl⟩
    · refine sg_iconst 1 dX6_isOwner_10 (by decide) ?_
      refine sg_goto 15 dX6_isOwner_11 (by decide) ?_
      refine sg_zreturn dX6_isOwner_15 rfl (by first | decide | assumption) (Nat.le_of_ble_eq_true rfl) (Nat.le_of_ble_eq_true rfl) ?_
      exact ⟨by (try simp only [Int32.lt_iff_toInt_lt, Int32.le_iff_toInt_le, ← Int32.toInt_inj, ti_m2, ti_m1, ti_0, ti_1, ti_2, ti_3, ti_4, ti_5, ti_6, ti_7, ti_8, ti_9, ti_10, ti_11, ti_12, ti_16, ti_20, ti_25, ti_31, ti_40, ti_50, ti_60, ti_61, ti_63, ti_80, ti_99, ti_100, ti_200, ti_300, ti_500, ti_800, ti_1000, ti_3200, ti_10000, ti_1000000] at *) <;> (repeat split) <;> first | rfl | (exfalso; omega), rfl⟩
theorem c_isGrade (x : Int32) : sm_Ct l b D cA yX6_isGrade cX6_isGrade 1 (some .boolean) 0 0 0 [.int x] M (fun r M1 => r = some (.int (if 0 ≤ x.toInt ∧ x.toInt < 5 then 1 else 0)) ∧ M1 = M) := by
  refine sm_enter (by decide +kernel) rfl (fun _ => Nat.le_of_ble_eq_true rfl) ?_
  refine sg_iload_n dX6_isGrade_0 rfl ?_
  refine sg_if_lt 13 dX6_isGrade_1 (by decide) (fun c_1 => ?_) (fun c_1 => ?_)
  · refine sg_iconst 0 dX6_isGrade_13 (by decide) ?_
    refine sg_zreturn dX6_isGrade_14 rfl (by first | decide | assumption) (Nat.le_of_ble_eq_true rfl) (Nat.le_of_ble_eq_true rfl) ?_
    exact ⟨by (try simp only [Int32.lt_iff_toInt_lt, Int32.le_iff_toInt_le, ← Int32.toInt_inj, ti_m2, ti_m1, ti_0, ti_1, ti_2, ti_3, ti_4, ti_5, ti_6, ti_7, ti_8, ti_9, ti_10, ti_11, ti_12, ti_16, ti_20, ti_25, ti_31, ti_40, ti_50, ti_60, ti_61, ti_63, ti_80, ti_99, ti_100, ti_200, ti_300, ti_500, ti_800, ti_1000, ti_3200, ti_10000, ti_1000000] at *) <;> (repeat split) <;> first | rfl | (exfalso; omega), rfl⟩
  · refine sg_iload_n dX6_isGrade_4 rfl ?_
    refine sg_iconst 5 dX6_isGrade_5 (by decide) ?_
    refine sg_icmp_ge 13 dX6_isGrade_6 (by decide) (fun c_6 => ?_) (fun c_6 => ?_)
    · refine sg_iconst 0 dX6_isGrade_13 (by decide) ?_
      refine sg_zreturn dX6_isGrade_14 rfl (by first | decide | assumption) (Nat.le_of_ble_eq_true rfl) (Nat.le_of_ble_eq_true rfl) ?_
      exact ⟨by (try simp only [Int32.lt_iff_toInt_lt, Int32.le_iff_toInt_le, ← Int32.toInt_inj, ti_m2, ti_m1, ti_0, ti_1, ti_2, ti_3, ti_4, ti_5, ti_6, ti_7, ti_8, ti_9, ti_10, ti_11, ti_12, ti_16, ti_20, ti_25, ti_31, ti_40, ti_50, ti_60, ti_61, ti_63, ti_80, ti_99, ti_100, ti_200, ti_300, ti_500, ti_800, ti_1000, ti_3200, ti_10000, ti_1000000] at *) <;> (repeat split) <;> first | rfl | (exfalso; omega), rfl⟩
    · refine sg_iconst 1 dX6_isGrade_9 (by decide) ?_
      refine sg_goto 14 dX6_isGrade_10 (by decide) ?_
      refine sg_zreturn dX6_isGrade_14 rfl (by first | decide | assumption) (Nat.le_of_ble_eq_true rfl) (Nat.le_of_ble_eq_true rfl) ?_
      exact ⟨by (try simp only [Int32.lt_iff_toInt_lt, Int32.le_iff_toInt_le, ← Int32.toInt_inj, ti_m2, ti_m1, ti_0, ti_1, ti_2, ti_3, ti_4, ti_5, ti_6, ti_7, ti_8, ti_9, ti_10, ti_11, ti_12, ti_16, ti_20, ti_25, ti_31, ti_40, ti_50, ti_60, ti_61, ti_63, ti_80, ti_99, ti_100, ti_200, ti_300, ti_500, ti_800, ti_1000, ti_3200, ti_10000, ti_1000000] at *) <;> (repeat split) <;> first | rfl | (exfalso; omega), rfl⟩
theorem c_isName (x : Int32) : sm_Ct l b D cA yX6_isName cX6_isName 1 (some .boolean) 0 0 0 [.int x] M (fun r M1 => r = some (.int (if 0 < x.toInt ∧ x.toInt ≤ 99 then 1 else 0)) ∧ M1 = M) := by
  refine sm_enter (by decide +kernel) rfl (fun _ => Nat.le_of_ble_eq_true rfl) ?_
  refine sg_iload_n dX6_isName_0 rfl ?_
  refine sg_if_le 14 dX6_isName_1 (by decide) (fun c_1 => ?_) (fun c_1 => ?_)
  · refine sg_iconst 0 dX6_isName_14 (by decide) ?_
    refine sg_zreturn dX6_isName_15 rfl (by first | decide | assumption) (Nat.le_of_ble_eq_true rfl) (Nat.le_of_ble_eq_true rfl) ?_
    exact ⟨by (try simp only [Int32.lt_iff_toInt_lt, Int32.le_iff_toInt_le, ← Int32.toInt_inj, ti_m2, ti_m1, ti_0, ti_1, ti_2, ti_3, ti_4, ti_5, ti_6, ti_7, ti_8, ti_9, ti_10, ti_11, ti_12, ti_16, ti_20, ti_25, ti_31, ti_40, ti_50, ti_60, ti_61, ti_63, ti_80, ti_99, ti_100, ti_200, ti_300, ti_500, ti_800, ti_1000, ti_3200, ti_10000, ti_1000000] at *) <;> (repeat split) <;> first | rfl | (exfalso; omega), rfl⟩
  · refine sg_iload_n dX6_isName_4 rfl ?_
    refine sg_bipush 99 dX6_isName_5 (by decide) ?_
    refine sg_icmp_gt 14 dX6_isName_7 (by decide) (fun c_7 => ?_) (fun c_7 => ?_)
    · refine sg_iconst 0 dX6_isName_14 (by decide) ?_
      refine sg_zreturn dX6_isName_15 rfl (by first | decide | assumption) (Nat.le_of_ble_eq_true rfl) (Nat.le_of_ble_eq_true rfl) ?_
      exact ⟨by (try simp only [Int32.lt_iff_toInt_lt, Int32.le_iff_toInt_le, ← Int32.toInt_inj, ti_m2, ti_m1, ti_0, ti_1, ti_2, ti_3, ti_4, ti_5, ti_6, ti_7, ti_8, ti_9, ti_10, ti_11, ti_12, ti_16, ti_20, ti_25, ti_31, ti_40, ti_50, ti_60, ti_61, ti_63, ti_80, ti_99, ti_100, ti_200, ti_300, ti_500, ti_800, ti_1000, ti_3200, ti_10000, ti_1000000] at *) <;> (repeat split) <;> first | rfl | (exfalso; omega), rfl⟩
    · refine sg_iconst 1 dX6_isName_10 (by decide) ?_
      refine sg_goto 15 dX6_isName_11 (by decide) ?_
      refine sg_zreturn dX6_isName_15 rfl (by first | decide | assumption) (Nat.le_of_ble_eq_true rfl) (Nat.le_of_ble_eq_true rfl) ?_
      exact ⟨by (try simp only [Int32.lt_iff_toInt_lt, Int32.le_iff_toInt_le, ← Int32.toInt_inj, ti_m2, ti_m1, ti_0, ti_1, ti_2, ti_3, ti_4, ti_5, ti_6, ti_7, ti_8, ti_9, ti_10, ti_11, ti_12, ti_16, ti_20, ti_25, ti_31, ti_40, ti_50, ti_60, ti_61, ti_63, ti_80, ti_99, ti_100, ti_200, ti_300, ti_500, ti_800, ti_1000, ti_3200, ti_10000, ti_1000000] at *) <;> (repeat split) <;> first | rfl | (exfalso; omega), rfl⟩
theorem c_in (x lo hi : Int32) : sm_Ct l b D cA yX7_in cX7_in 3 (some .boolean) 0 0 0 [.int x, .int lo, .int hi] M (fun r M1 => r = some (.int (if lo.toInt ≤ x.toInt ∧ x.toInt ≤ hi.toInt then 1 else 0)) ∧ M1 = M) := by
  refine sm_enter (by decide +kernel) rfl (fun _ => Nat.le_of_ble_eq_true rfl) ?_
  refine sg_iload_n dX7_in_0 rfl ?_
  refine sg_iload_n dX7_in_1 rfl ?_
  refine sg_icmp_lt 14 dX7_in_2 (by decide) (fun c_2 => ?_) (fun c_2 => ?_)
  · refine sg_iconst 0 dX7_in_14 (by decide) ?_
    refine sg_zreturn dX7_in_15 rfl (by first | decide | assumption) (Nat.le_of_ble_eq_true rfl) (Nat.le_of_ble_eq_true rfl) ?_
    exact ⟨by (try simp only [Int32.lt_iff_toInt_lt, Int32.le_iff_toInt_le, ← Int32.toInt_inj, ti_m2, ti_m1, ti_0, ti_1, ti_2, ti_3, ti_4, ti_5, ti_6, ti_7, ti_8, ti_9, ti_10, ti_11, ti_12, ti_16, ti_20, ti_25, ti_31, ti_40, ti_50, ti_60, ti_61, ti_63, ti_80, ti_99, ti_100, ti_200, ti_300, ti_500, ti_800, ti_1000, ti_3200, ti_10000, ti_1000000] at *) <;> (repeat split) <;> first | rfl | (exfalso; omega), rfl⟩
  · refine sg_iload_n dX7_in_5 rfl ?_
    refine sg_iload_n dX7_in_6 rfl ?_
    refine sg_icmp_gt 14 dX7_in_7 (by decide) (fun c_7 => ?_) (fun c_7 => ?_)
    · refine sg_iconst 0 dX7_in_14 (by decide) ?_
      refine sg_zreturn dX7_in_15 rfl (by first | decide | assumption) (Nat.le_of_ble_eq_true rfl) (Nat.le_of_ble_eq_true rfl) ?_
      exact ⟨by (try simp only [Int32.lt_iff_toInt_lt, Int32.le_iff_toInt_le, ← Int32.toInt_inj, ti_m2, ti_m1, ti_0, ti_1, ti_2, ti_3, ti_4, ti_5, ti_6, ti_7, ti_8, ti_9, ti_10, ti_11, ti_12, ti_16, ti_20, ti_25, ti_31, ti_40, ti_50, ti_60, ti_61, ti_63, ti_80, ti_99, ti_100, ti_200, ti_300, ti_500, ti_800, ti_1000, ti_3200, ti_10000, ti_1000000] at *) <;> (repeat split) <;> first | rfl | (exfalso; omega), rfl⟩
    · refine sg_iconst 1 dX7_in_10 (by decide) ?_
      refine sg_goto 15 dX7_in_11 (by decide) ?_
      refine sg_zreturn dX7_in_15 rfl (by first | decide | assumption) (Nat.le_of_ble_eq_true rfl) (Nat.le_of_ble_eq_true rfl) ?_
      exact ⟨by (try simp only [Int32.lt_iff_toInt_lt, Int32.le_iff_toInt_le, ← Int32.toInt_inj, ti_m2, ti_m1, ti_0, ti_1, ti_2, ti_3, ti_4, ti_5, ti_6, ti_7, ti_8, ti_9, ti_10, ti_11, ti_12, ti_16, ti_20, ti_25, ti_31, ti_40, ti_50, ti_60, ti_61, ti_63, ti_80, ti_99, ti_100, ti_200, ti_300, ti_500, ti_800, ti_1000, ti_3200, ti_10000, ti_1000000] at *) <;> (repeat split) <;> first | rfl | (exfalso; omega), rfl⟩
theorem c_has {q g m : Nat} {len ow nm : Int32} (i : Int32) (hM : M[q]? = some (sm_o 4 [.ref g, .ref m, .int len, .int ow, .int nm])) : sm_Ct l b D cA yX4_has cX4_has 2 (some .boolean) 0 0 0 [.ref q, .int i] M (fun r M1 => r = some (.int (if 0 ≤ i.toInt ∧ i.toInt < len.toInt ∧ i.toInt < 80 then 1 else 0)) ∧ M1 = M) := by
  refine sm_enter (by decide +kernel) rfl (fun _ => Nat.le_of_ble_eq_true rfl) ?_
  refine sg_iload_n dX4_has_0 rfl ?_
  refine sg_if_lt 22 dX4_has_1 (by decide) (fun c_1 => ?_) (fun c_1 => ?_)
  · refine sg_iconst 0 dX4_has_22 (by decide) ?_
    refine sg_zreturn dX4_has_23 rfl (by first | decide | assumption) (Nat.le_of_ble_eq_true rfl) (Nat.le_of_ble_eq_true rfl) ?_
    exact ⟨by (try simp only [Int32.lt_iff_toInt_lt, Int32.le_iff_toInt_le, ← Int32.toInt_inj, ti_m2, ti_m1, ti_0, ti_1, ti_2, ti_3, ti_4, ti_5, ti_6, ti_7, ti_8, ti_9, ti_10, ti_11, ti_12, ti_16, ti_20, ti_25, ti_31, ti_40, ti_50, ti_60, ti_61, ti_63, ti_80, ti_99, ti_100, ti_200, ti_300, ti_500, ti_800, ti_1000, ti_3200, ti_10000, ti_1000000] at *) <;> (repeat split) <;> first | rfl | (exfalso; omega), rfl⟩
  · refine sg_iload_n dX4_has_4 rfl ?_
    refine sg_aload_n dX4_has_5 rfl ?_
    refine sg_get dX4_has_6 fl_X4_18 (by first | rfl | assumption) rfl ?_
    refine sg_icmp_ge 22 dX4_has_9 (by decide) (fun c_9 => ?_) (fun c_9 => ?_)
    · refine sg_iconst 0 dX4_has_22 (by decide) ?_
      refine sg_zreturn dX4_has_23 rfl (by first | decide | assumption) (Nat.le_of_ble_eq_true rfl) (Nat.le_of_ble_eq_true rfl) ?_
      exact ⟨by (try simp only [Int32.lt_iff_toInt_lt, Int32.le_iff_toInt_le, ← Int32.toInt_inj, ti_m2, ti_m1, ti_0, ti_1, ti_2, ti_3, ti_4, ti_5, ti_6, ti_7, ti_8, ti_9, ti_10, ti_11, ti_12, ti_16, ti_20, ti_25, ti_31, ti_40, ti_50, ti_60, ti_61, ti_63, ti_80, ti_99, ti_100, ti_200, ti_300, ti_500, ti_800, ti_1000, ti_3200, ti_10000, ti_1000000] at *) <;> (repeat split) <;> first | rfl | (exfalso; omega), rfl⟩
    · refine sg_iload_n dX4_has_12 rfl ?_
      refine sg_bipush 80 dX4_has_13 (by decide) ?_
      refine sg_icmp_ge 22 dX4_has_15 (by decide) (fun c_15 => ?_) (fun c_15 => ?_)
      · refine sg_iconst 0 dX4_has_22 (by decide) ?_
        refine sg_zreturn dX4_has_23 rfl (by first | decide | assumption) (Nat.le_of_ble_eq_true rfl) (Nat.le_of_ble_eq_true rfl) ?_
        exact ⟨by (try simp only [Int32.lt_iff_toInt_lt, Int32.le_iff_toInt_le, ← Int32.toInt_inj, ti_m2, ti_m1, ti_0, ti_1, ti_2, ti_3, ti_4, ti_5, ti_6, ti_7, ti_8, ti_9, ti_10, ti_11, ti_12, ti_16, ti_20, ti_25, ti_31, ti_40, ti_50, ti_60, ti_61, ti_63, ti_80, ti_99, ti_100, ti_200, ti_300, ti_500, ti_800, ti_1000, ti_3200, ti_10000, ti_1000000] at *) <;> (repeat split) <;> first | rfl | (exfalso; omega), rfl⟩
      · refine sg_iconst 1 dX4_has_18 (by decide) ?_
        refine sg_goto 23 dX4_has_19 (by decide) ?_
        refine sg_zreturn dX4_has_23 rfl (by first | decide | assumption) (Nat.le_of_ble_eq_true rfl) (Nat.le_of_ble_eq_true rfl) ?_
        exact ⟨by (try simp only [Int32.lt_iff_toInt_lt, Int32.le_iff_toInt_le, ← Int32.toInt_inj, ti_m2, ti_m1, ti_0, ti_1, ti_2, ti_3, ti_4, ti_5, ti_6, ti_7, ti_8, ti_9, ti_10, ti_11, ti_12, ti_16, ti_20, ti_25, ti_31, ti_40, ti_50, ti_60, ti_61, ti_63, ti_80, ti_99, ti_100, ti_200, ti_300, ti_500, ti_800, ti_1000, ti_3200, ti_10000, ti_1000000] at *) <;> (repeat split) <;> first | rfl | (exfalso; omega), rfl⟩
theorem c_spans {q g m : Nat} {len ow nm : Int32} (hM : M[q]? = some (sm_o 4 [.ref g, .ref m, .int len, .int ow, .int nm])) : sm_Ct l b D cA yX4_spans cX4_spans 1 (some .int) 0 0 0 [.ref q] M (fun r M1 => r = some (.int (len / 10)) ∧ M1 = M) := by
  refine sm_enter (by decide +kernel) rfl (fun _ => Nat.le_of_ble_eq_true rfl) ?_
  refine sg_aload_n dX4_spans_0 rfl ?_
  refine sg_get dX4_spans_1 fl_X4_18 (by first | rfl | assumption) rfl ?_
  refine sg_bipush 10 dX4_spans_4 (by decide) ?_
  refine sg_idiv dX4_spans_6 (by decide) ?_
  refine sg_ireturn dX4_spans_7 rfl (Nat.le_of_ble_eq_true rfl) (Nat.le_of_ble_eq_true rfl) ?_
  exact ⟨by (try simp only [Int32.lt_iff_toInt_lt, Int32.le_iff_toInt_le, ← Int32.toInt_inj, ti_m2, ti_m1, ti_0, ti_1, ti_2, ti_3, ti_4, ti_5, ti_6, ti_7, ti_8, ti_9, ti_10, ti_11, ti_12, ti_16, ti_20, ti_25, ti_31, ti_40, ti_50, ti_60, ti_61, ti_63, ti_80, ti_99, ti_100, ti_200, ti_300, ti_500, ti_800, ti_1000, ti_3200, ti_10000, ti_1000000] at *) <;> (repeat split) <;> first | rfl | (exfalso; omega), rfl⟩
end SM20
end
section
/-! a strand's methods -/
theorem sm_fill (n t : Nat) (f : Nat → Int32) (x : Int32) : upd (fun j => if n ≤ j ∧ j < n + t then x else f j) (n + t) x = fun j => if n ≤ j ∧ j < n + (t + 1) then x else f j := by
  funext j
  unfold upd
  by_cases h : j = n + t
  · rw [if_pos h, if_pos (by omega)]
  · rw [if_neg h]
    dsimp only
    by_cases h2 : n ≤ j ∧ j < n + t
    · rw [if_pos h2, if_pos (by omega)]
    · rw [if_neg h2, if_neg (by omega)]
theorem sm_n80 {x : Nat} (h : x < 80) : ¬ (80 : Int32) ≤ nI x := by
  intro c
  simp only [Int32.le_iff_toInt_le, ti_80] at c
  rw [nI_toInt (by omega)] at c
  omega
theorem sm_inc (t : Nat) : nI t + Int32.ofInt 1 = nI (t + 1) := nI_1 t
section SM21
variable {l : Launch} {b : Nat} {D : va_G} {cA : Nat → ClassId} {M : sm_M}
theorem c_gradeAt {q g m n : Nat} {fg fm : Nat → Int32} {ow nm : Int32} (i : Int32) (hn : n ≤ 80) (h : sm_st M q g m n fg fm ow nm) : sm_Ct l b D cA yX4_gradeAt cX4_gradeAt 2 (some .int) 1 0 0 [.ref q, .int i] M (fun r M1 => r = some (.int (if 0 ≤ i.toInt ∧ i.toInt < n then fg i.toInt.toNat else -1)) ∧ M1 = M) := by
  obtain ⟨hq, hg, hm⟩ := h
  refine sm_enter (by decide +kernel) rfl (fun _ => Nat.le_of_ble_eq_true rfl) ?_
  refine sg_aload_n dX4_gradeAt_0 rfl ?_
  refine sg_iload_n dX4_gradeAt_1 rfl ?_
  refine sg_V1 dX4_gradeAt_2 cv_X4_28 (by first | rfl | assumption) (c_has _ (by first | rfl | assumption)) (Nat.le_of_ble_eq_true rfl) (Nat.le_of_ble_eq_true rfl) (Nat.le_of_ble_eq_true rfl) (Nat.le_of_ble_eq_true rfl) (fun r M1 hp => ?_)
  obtain ⟨rfl, rfl⟩ := hp
  refine sg_bf_eq 17 dX4_gradeAt_5 (by decide) (fun c => ?_) (fun c => ?_)
  · rw [nI_toInt (by omega)] at c
    refine sg_iconst (-1) dX4_gradeAt_17 (by decide) ?_
    refine sg_ireturn dX4_gradeAt_18 rfl (Nat.le_of_ble_eq_true rfl) (Nat.le_of_ble_eq_true rfl) ?_
    exact ⟨by rw [if_neg (by omega)], rfl⟩
  · rw [nI_toInt (by omega)] at c
    refine sg_aload_n dX4_gradeAt_8 rfl ?_
    refine sg_get dX4_gradeAt_9 fl_X4_9 (by first | rfl | assumption) rfl ?_
    refine sg_iload_n dX4_gradeAt_12 rfl ?_
    refine sg_ald (i.toInt.toNat) dX4_gradeAt_13 (by first | rfl | assumption) (sm_asN c.1) (by omega) (by decide) ?_
    refine sg_goto 18 dX4_gradeAt_14 (by decide) ?_
    refine sg_ireturn dX4_gradeAt_18 rfl (Nat.le_of_ble_eq_true rfl) (Nat.le_of_ble_eq_true rfl) ?_
    exact ⟨by rw [if_pos ⟨c.1, c.2.1⟩], rfl⟩
theorem c_makerAt {q g m n : Nat} {fg fm : Nat → Int32} {ow nm : Int32} (i : Int32) (hn : n ≤ 80) (h : sm_st M q g m n fg fm ow nm) : sm_Ct l b D cA yX4_makerAt cX4_makerAt 2 (some .int) 1 0 0 [.ref q, .int i] M (fun r M1 => r = some (.int (if 0 ≤ i.toInt ∧ i.toInt < n then fm i.toInt.toNat else -1)) ∧ M1 = M) := by
  obtain ⟨hq, hg, hm⟩ := h
  refine sm_enter (by decide +kernel) rfl (fun _ => Nat.le_of_ble_eq_true rfl) ?_
  refine sg_aload_n dX4_makerAt_0 rfl ?_
  refine sg_iload_n dX4_makerAt_1 rfl ?_
  refine sg_V1 dX4_makerAt_2 cv_X4_28 (by first | rfl | assumption) (c_has _ (by first | rfl | assumption)) (Nat.le_of_ble_eq_true rfl) (Nat.le_of_ble_eq_true rfl) (Nat.le_of_ble_eq_true rfl) (Nat.le_of_ble_eq_true rfl) (fun r M1 hp => ?_)
  obtain ⟨rfl, rfl⟩ := hp
  refine sg_bf_eq 17 dX4_makerAt_5 (by decide) (fun c => ?_) (fun c => ?_)
  · rw [nI_toInt (by omega)] at c
    refine sg_iconst (-1) dX4_makerAt_17 (by decide) ?_
    refine sg_ireturn dX4_makerAt_18 rfl (Nat.le_of_ble_eq_true rfl) (Nat.le_of_ble_eq_true rfl) ?_
    exact ⟨by rw [if_neg (by omega)], rfl⟩
  · rw [nI_toInt (by omega)] at c
    refine sg_aload_n dX4_makerAt_8 rfl ?_
    refine sg_get dX4_makerAt_9 fl_X4_15 (by first | rfl | assumption) rfl ?_
    refine sg_iload_n dX4_makerAt_12 rfl ?_
    refine sg_ald (i.toInt.toNat) dX4_makerAt_13 (by first | rfl | assumption) (sm_asN c.1) (by omega) (by decide) ?_
    refine sg_goto 18 dX4_makerAt_14 (by decide) ?_
    refine sg_ireturn dX4_makerAt_18 rfl (Nat.le_of_ble_eq_true rfl) (Nat.le_of_ble_eq_true rfl) ?_
    exact ⟨by rw [if_pos ⟨c.1, c.2.1⟩], rfl⟩
/-- append: k beads of one kind behind the n that are there -/
theorem lp_append {q g m n k : Nat} {fg fm : Nat → Int32} {ow nm gr mk : Int32} {Post : Option Value → sm_M → Prop} (hk : n + k ≤ 80) (hgm : g ≠ m)
    (hP : ∀ M1 : sm_M, sm_ex M M1 [q, g, m] → sm_st M1 q g m (n + k) (fun j => if n ≤ j ∧ j < n + k then gr else fg j) (fun j => if n ≤ j ∧ j < n + k then mk else fm j) ow nm → Post none M1) :
    ∀ (r t : Nat) (M1 : sm_M), t + r = k → sm_ex M M1 [q, g, m] → sm_st M1 q g m (n + t) (fun j => if n ≤ j ∧ j < n + t then gr else fg j) (fun j => if n ≤ j ∧ j < n + t then mk else fm j) ow nm →
      sm_G l b D cA yX4_append cX4_append 5 none 0 0 0 Post 0 0 3 [some (.ref q), some (.int gr), some (.int mk), some (.int (nI k)), some (.int (nI t))] [] M1 := by
  intro r
  induction r with
  | zero =>
    intro t M1 ht hx hs
    have htk : t = k := by omega
    subst htk
    refine sg_iload dX4_append_3 rfl ?_
    refine sg_iload_n dX4_append_5 rfl ?_
    refine sg_icmp_ge 54 dX4_append_6 (by decide) (fun c => ?_) (fun c => ?_)
    · refine sg_return dX4_append_54 rfl (Nat.le_of_ble_eq_true rfl) (Nat.le_of_ble_eq_true rfl) ?_
      exact hP M1 hx hs
    · exact absurd (nI_le (Nat.le_refl t) (by omega)) c
  | succ r ih =>
    intro t M1 ht hx hs
    obtain ⟨hq, hg, hm⟩ := hs
    have hqg := sm_neoi hq hg
    have hqm := sm_neoi hq hm
    refine sg_iload dX4_append_3 rfl ?_
    refine sg_iload_n dX4_append_5 rfl ?_
    refine sg_icmp_ge 54 dX4_append_6 (by decide) (fun c => ?_) (fun c => ?_)
    · exact absurd c (nI_ge (by omega) (by omega))
    · refine sg_aload_n dX4_append_9 rfl ?_
      refine sg_get dX4_append_10 fl_X4_18 (by first | rfl | assumption) rfl ?_
      refine sg_bipush 80 dX4_append_13 (by decide) ?_
      refine sg_icmp_ge 54 dX4_append_15 (by decide) (fun c2 => ?_) (fun c2 => ?_)
      · exact absurd c2 (sm_n80 (by omega))
      · refine sg_aload_n dX4_append_18 rfl ?_
        refine sg_get dX4_append_19 fl_X4_9 (by first | rfl | assumption) rfl ?_
        refine sg_aload_n dX4_append_22 rfl ?_
        refine sg_get dX4_append_23 fl_X4_18 (by first | rfl | assumption) rfl ?_
        refine sg_iload_n dX4_append_26 rfl ?_
        refine sg_astx (n + t) dX4_append_27 hg rfl (by omega) (by decide) (fun M2 hx2 hg2 => ?_)
        have hq2 := (hx2.2 q (by simp [hqg])).trans hq
        have hm2 := (hx2.2 m (by simp [Ne.symm hgm])).trans hm
        refine sg_aload_n dX4_append_28 rfl ?_
        refine sg_get dX4_append_29 fl_X4_15 (by first | rfl | assumption) rfl ?_
        refine sg_aload_n dX4_append_32 rfl ?_
        refine sg_get dX4_append_33 fl_X4_18 (by first | rfl | assumption) rfl ?_
        refine sg_iload_n dX4_append_36 rfl ?_
        refine sg_astx (n + t) dX4_append_37 hm2 rfl (by omega) (by decide) (fun M3 hx3 hm3 => ?_)
        have hq3 := (hx3.2 q (by simp [hqm])).trans hq2
        have hg3 := (hx3.2 g (by simp [hgm])).trans hg2
        refine sg_aload_n dX4_append_38 rfl ?_
        refine sg_dup dX4_append_39 rfl ?_
        refine sg_get dX4_append_40 fl_X4_18 (by first | rfl | assumption) rfl ?_
        refine sg_iconst 1 dX4_append_43 (by decide) ?_
        refine sg_iadd dX4_append_44 ?_
        refine sg_putx dX4_append_45 fl_X4_18 ft_X4_2 hq3 (Nat.le_of_ble_eq_true rfl) (fun M4 hx4 hq4 => ?_)
        have hg4 := (hx4.2 g (by simp [Ne.symm hqg])).trans hg3
        have hm4 := (hx4.2 m (by simp [Ne.symm hqm])).trans hm3
        rw [sm_fill] at hg4 hm4
        rw [nI_1] at hq4
        refine sg_iinc _ dX4_append_48 rfl (sm_inc t) (by decide) ?_
        refine sg_goto 3 dX4_append_51 (by decide) ?_
        exact ih (t + 1) M4 (by omega) (hx.tr ((hx2.mono (by simp)).tr ((hx3.mono (by simp)).tr (hx4.mono (by simp))))) ⟨hq4, hg4, hm4⟩
theorem c_append {q g m n : Nat} {fg fm : Nat → Int32} {ow nm gr mk cnt : Int32} (k : Nat) (hc : cnt = nI k) (hk : n + k ≤ 80) (hgm : g ≠ m) (h : sm_st M q g m n fg fm ow nm) : sm_Ct l b D cA yX4_append cX4_append 5 none 0 0 0 [.ref q, .int gr, .int mk, .int cnt] M (fun r M1 => r = none ∧ sm_ex M M1 [q, g, m] ∧ sm_st M1 q g m (n + k) (fun j => if n ≤ j ∧ j < n + k then gr else fg j) (fun j => if n ≤ j ∧ j < n + k then mk else fm j) ow nm) := by
  subst hc
  refine sm_enter (by decide +kernel) rfl (fun _ => Nat.le_of_ble_eq_true rfl) ?_
  refine sg_iconst 0 dX4_append_0 (by decide) ?_
  refine sg_istore dX4_append_1 (by decide) ?_
  refine lp_append (M := M) hk hgm (fun M1 h1 h2 => ⟨rfl, h1, h2⟩) k 0 M (by omega) sm_ex.rf ?_
  have e : ∀ (f : Nat → Int32) (x : Int32), (fun j => if n ≤ j ∧ j < n + 0 then x else f j) = f := fun f x => by
    funext j
    rw [if_neg (by omega)]
  rw [e, e]
  exact h
/-- appendFrom: the beads from place a on of another strand -/
theorem lp_appendFrom {q g m n q2 g2 m2 n2 a : Nat} {fg fm fg2 fm2 : Nat → Int32} {ow nm ow2 nm2 : Int32} {Post : Option Value → sm_M → Prop} (ha : a ≤ n2) (hn2 : n2 ≤ 80) (hk : n + (n2 - a) ≤ 80) (hgm : g ≠ m) (hd : ∀ z ∈ [q, g, m], z ∉ [q2, g2, m2]) (h2 : sm_st M q2 g2 m2 n2 fg2 fm2 ow2 nm2)
    (hP : ∀ M1 : sm_M, sm_ex M M1 [q, g, m] → sm_st M1 q g m (n + (n2 - a)) (fun j => if n ≤ j ∧ j < n + (n2 - a) then fg2 (a + (j - n)) else fg j) (fun j => if n ≤ j ∧ j < n + (n2 - a) then fm2 (a + (j - n)) else fm j) ow nm → Post none M1) :
    ∀ (r t : Nat) (M1 : sm_M), a + t + r = n2 → sm_ex M M1 [q, g, m] → sm_st M1 q g m (n + t) (fun j => if n ≤ j ∧ j < n + t then fg2 (a + (j - n)) else fg j) (fun j => if n ≤ j ∧ j < n + t then fm2 (a + (j - n)) else fm j) ow nm →
      sm_G l b D cA yX4_appendFrom cX4_appendFrom 4 none 2 0 0 Post 0 0 2 [some (.ref q), some (.ref q2), some (.int (nI a)), some (.int (nI (a + t)))] [] M1 := by
  intro r
  induction r with
  | zero =>
    intro t M1 ht hx hs
    have e : t = n2 - a := by omega
    subst e
    have hs2 := h2.ex hx (fun z => hd _ z (by simp)) (fun z => hd _ z (by simp)) (fun z => hd _ z (by simp))
    obtain ⟨hq2, hg2, hm2⟩ := hs2
    refine sg_iload_n dX4_appendFrom_2 rfl ?_
    refine sg_aload_n dX4_appendFrom_3 rfl ?_
    refine sg_get dX4_appendFrom_4 fl_X4_18 (by first | rfl | assumption) rfl ?_
    refine sg_icmp_ge 31 dX4_appendFrom_7 (by decide) (fun c => ?_) (fun c => ?_)
    · refine sg_return dX4_appendFrom_31 rfl (Nat.le_of_ble_eq_true rfl) (Nat.le_of_ble_eq_true rfl) ?_
      exact hP M1 hx hs
    · exact absurd (nI_le (by omega) (by omega)) c
  | succ r ih =>
    intro t M1 ht hx hs
    have hs2 := h2.ex hx (fun z => hd _ z (by simp)) (fun z => hd _ z (by simp)) (fun z => hd _ z (by simp))
    obtain ⟨hq2, hg2, hm2⟩ := id hs2
    obtain ⟨hq, hg, hm⟩ := id hs
    have hi : (nI (a + t)).toInt = ((a + t : Nat) : Int) := nI_toInt (by omega)
    have hv : ∀ f : Nat → Int32, (if 0 ≤ (nI (a + t)).toInt ∧ (nI (a + t)).toInt < n2 then f (nI (a + t)).toInt.toNat else -1) = f (a + t) := fun f => by
      rw [hi, if_pos (by omega)]
      rfl
    refine sg_iload_n dX4_appendFrom_2 rfl ?_
    refine sg_aload_n dX4_appendFrom_3 rfl ?_
    refine sg_get dX4_appendFrom_4 fl_X4_18 (by first | rfl | assumption) rfl ?_
    refine sg_icmp_ge 31 dX4_appendFrom_7 (by decide) (fun c => ?_) (fun c => ?_)
    · exact absurd c (nI_ge (by omega) (by omega))
    · refine sg_aload_n dX4_appendFrom_10 rfl ?_
      refine sg_aload_n dX4_appendFrom_11 rfl ?_
      refine sg_iload_n dX4_appendFrom_12 rfl ?_
      refine sg_V1 dX4_appendFrom_13 cv_X4_32 hq2 (c_gradeAt _ hn2 hs2) (Nat.le_of_ble_eq_true rfl) (Nat.le_of_ble_eq_true rfl) (Nat.le_of_ble_eq_true rfl) (Nat.le_of_ble_eq_true rfl) (fun r9 M9 hp => ?_)
      obtain ⟨e1, e2⟩ := hp
      rw [hv] at e1
      subst e1
      rw [e2]
      refine sg_aload_n dX4_appendFrom_16 rfl ?_
      refine sg_iload_n dX4_appendFrom_17 rfl ?_
      refine sg_V1 dX4_appendFrom_18 cv_X4_36 hq2 (c_makerAt _ hn2 hs2) (Nat.le_of_ble_eq_true rfl) (Nat.le_of_ble_eq_true rfl) (Nat.le_of_ble_eq_true rfl) (Nat.le_of_ble_eq_true rfl) (fun r9 M9 hp => ?_)
      obtain ⟨e1, e2⟩ := hp
      rw [hv] at e1
      subst e1
      rw [e2]
      refine sg_iconst 1 dX4_appendFrom_21 (by decide) ?_
      refine sg_V3 dX4_appendFrom_22 cv_X4_39 hq (c_append 1 (by decide) (by omega) hgm hs) (Nat.le_of_ble_eq_true rfl) (Nat.le_of_ble_eq_true rfl) (Nat.le_of_ble_eq_true rfl) (Nat.le_of_ble_eq_true rfl) (fun r9 M9 hp => ?_)
      obtain ⟨rfl, hx9, hs9⟩ := hp
      refine sg_iinc _ dX4_appendFrom_25 rfl (sm_inc (a + t)) (by decide) ?_
      refine sg_goto 2 dX4_appendFrom_28 (by decide) ?_
      refine ih (t + 1) M9 (by omega) (hx.tr hx9) ?_
      have e : ∀ f2 f : Nat → Int32, (fun j => if n + t ≤ j ∧ j < n + t + 1 then f2 (a + t) else if n ≤ j ∧ j < n + t then f2 (a + (j - n)) else f j) = fun j => if n ≤ j ∧ j < n + (t + 1) then f2 (a + (j - n)) else f j := fun f2 f => by
        funext j
        by_cases h1 : n + t ≤ j ∧ j < n + t + 1
        · rw [if_pos h1, if_pos (by omega)]
          congr 1
          omega
        · rw [if_neg h1]
          by_cases h3 : n ≤ j ∧ j < n + t
          · rw [if_pos h3, if_pos (by omega)]
          · rw [if_neg h3, if_neg (by omega)]
      rw [e, e] at hs9
      exact hs9
theorem c_appendFrom {q g m n q2 g2 m2 n2 : Nat} {fg fm fg2 fm2 : Nat → Int32} {ow nm ow2 nm2 fr0 : Int32} (a : Nat) (hf : fr0 = nI a) (ha : a ≤ n2) (hn2 : n2 ≤ 80) (hk : n + (n2 - a) ≤ 80) (hgm : g ≠ m) (hd : ∀ z ∈ [q, g, m], z ∉ [q2, g2, m2]) (h : sm_st M q g m n fg fm ow nm) (h2 : sm_st M q2 g2 m2 n2 fg2 fm2 ow2 nm2) : sm_Ct l b D cA yX4_appendFrom cX4_appendFrom 4 none 2 0 0 [.ref q, .ref q2, .int fr0] M (fun r M1 => r = none ∧ sm_ex M M1 [q, g, m] ∧ sm_st M1 q g m (n + (n2 - a)) (fun j => if n ≤ j ∧ j < n + (n2 - a) then fg2 (a + (j - n)) else fg j) (fun j => if n ≤ j ∧ j < n + (n2 - a) then fm2 (a + (j - n)) else fm j) ow nm) := by
  subst hf
  refine sm_enter (by decide +kernel) rfl (fun _ => Nat.le_of_ble_eq_true rfl) ?_
  refine sg_iload_n dX4_appendFrom_0 rfl ?_
  refine sg_istore_n dX4_appendFrom_1 (by decide) ?_
  refine lp_appendFrom (M := M) ha hn2 hk hgm hd h2 (fun M1 h1 h2 => ⟨rfl, h1, h2⟩) (n2 - a) 0 M (by omega) sm_ex.rf ?_
  have e : ∀ (f2 f : Nat → Int32), (fun j => if n ≤ j ∧ j < n + 0 then f2 (a + (j - n)) else f j) = f := fun f2 f => by
    funext j
    rw [if_neg (by omega)]
  rw [e, e]
  exact h
end SM21
end
section
/-! a strand's methods, on: exchange, reverse, the least grade, makers, the tally, the constructor -/
def sm_least (f : Nat → Int32) (a : Nat) : Nat → Int32
  | 0 => -1
  | k + 1 => if sm_least f a k = -1 ∨ f (a + k) < sm_least f a k then f (a + k) else sm_least f a k
def sm_seen (f : Nat → Int32) : Nat → Int32
  | 0 => 0
  | k + 1 => sm_seen f k ||| ((1 : Int32) <<< (f k &&& 31))
/-- one more for the maker of bead k, if its grade is below -/
def sm_tal1 (fg fm : Nat → Int32) (gr : Int32) (k : Nat) (f : Nat → Int32) : Nat → Int32 := if fg k < gr ∧ 0 ≤ (fm k).toInt ∧ (fm k).toInt < 10 then upd f (fm k).toInt.toNat (f (fm k).toInt.toNat + 1) else f
def sm_tal (fg fm : Nat → Int32) (gr : Int32) (f : Nat → Int32) : Nat → Nat → Int32
  | 0 => f
  | k + 1 => sm_tal1 fg fm gr k (sm_tal fg fm gr f k)
def sm_bc1 (i : Int32) : Int32 := i - ((i.toUInt32 >>> ((1 : Int32).toUInt32 &&& Int32.toUInt32 31)).toInt32 &&& 1431655765)
def sm_bc2 (i : Int32) : Int32 := (i &&& 858993459) + ((i.toUInt32 >>> ((2 : Int32).toUInt32 &&& Int32.toUInt32 31)).toInt32 &&& 858993459)
def sm_bc3 (i : Int32) : Int32 := (i + (i.toUInt32 >>> ((4 : Int32).toUInt32 &&& Int32.toUInt32 31)).toInt32) &&& 252645135
def sm_bc4 (i : Int32) : Int32 := i + (i.toUInt32 >>> ((8 : Int32).toUInt32 &&& Int32.toUInt32 31)).toInt32
def sm_bc5 (i : Int32) : Int32 := i + (i.toUInt32 >>> ((16 : Int32).toUInt32 &&& Int32.toUInt32 31)).toInt32
/-- Integer.bitCount, as its code has it -/
def sm_bc (i : Int32) : Int32 := sm_bc5 (sm_bc4 (sm_bc3 (sm_bc2 (sm_bc1 i)))) &&& 63
section SM22
variable {l : Launch} {b : Nat} {D : va_G} {cA : Nat → ClassId} {M : sm_M}
theorem c_bitCount (i : Int32) : sm_Ct l b D cA yJ6_bitCount_0f7a4 cJ6_bitCount_0f7a4 1 (some .int) 0 0 0 [.int i] M (fun r M1 => r = some (.int (sm_bc i)) ∧ M1 = M) := by
  refine sm_enter (by decide +kernel) rfl (fun _ => Nat.le_of_ble_eq_true rfl) ?_
  refine sg_iload_n dJ6_bitCount_0f7a4_0 rfl ?_
  refine sg_iload_n dJ6_bitCount_0f7a4_1 rfl ?_
  refine sg_iconst 1 dJ6_bitCount_0f7a4_2 (by decide) ?_
  refine sg_iushr dJ6_bitCount_0f7a4_3 ?_
  refine sg_ldcw _ dJ6_bitCount_0f7a4_4 kc_J6_265 ?_
  refine sg_iand dJ6_bitCount_0f7a4_7 ?_
  refine sg_isub dJ6_bitCount_0f7a4_8 ?_
  refine sg_istore_n dJ6_bitCount_0f7a4_9 (by decide) ?_
  refine sg_iload_n dJ6_bitCount_0f7a4_10 rfl ?_
  refine sg_ldcw _ dJ6_bitCount_0f7a4_11 kc_J6_266 ?_
  refine sg_iand dJ6_bitCount_0f7a4_14 ?_
  refine sg_iload_n dJ6_bitCount_0f7a4_15 rfl ?_
  refine sg_iconst 2 dJ6_bitCount_0f7a4_16 (by decide) ?_
  refine sg_iushr dJ6_bitCount_0f7a4_17 ?_
  refine sg_ldcw _ dJ6_bitCount_0f7a4_18 kc_J6_266 ?_
  refine sg_iand dJ6_bitCount_0f7a4_21 ?_
  refine sg_iadd dJ6_bitCount_0f7a4_22 ?_
  refine sg_istore_n dJ6_bitCount_0f7a4_23 (by decide) ?_
  refine sg_iload_n dJ6_bitCount_0f7a4_24 rfl ?_
  refine sg_iload_n dJ6_bitCount_0f7a4_25 rfl ?_
  refine sg_iconst 4 dJ6_bitCount_0f7a4_26 (by decide) ?_
  refine sg_iushr dJ6_bitCount_0f7a4_27 ?_
  refine sg_iadd dJ6_bitCount_0f7a4_28 ?_
  refine sg_ldcw _ dJ6_bitCount_0f7a4_29 kc_J6_267 ?_
  refine sg_iand dJ6_bitCount_0f7a4_32 ?_
  refine sg_istore_n dJ6_bitCount_0f7a4_33 (by decide) ?_
  refine sg_iload_n dJ6_bitCount_0f7a4_34 rfl ?_
  refine sg_iload_n dJ6_bitCount_0f7a4_35 rfl ?_
  refine sg_bipush 8 dJ6_bitCount_0f7a4_36 (by decide) ?_
  refine sg_iushr dJ6_bitCount_0f7a4_38 ?_
  refine sg_iadd dJ6_bitCount_0f7a4_39 ?_
  refine sg_istore_n dJ6_bitCount_0f7a4_40 (by decide) ?_
  refine sg_iload_n dJ6_bitCount_0f7a4_41 rfl ?_
  refine sg_iload_n dJ6_bitCount_0f7a4_42 rfl ?_
  refine sg_bipush 16 dJ6_bitCount_0f7a4_43 (by decide) ?_
  refine sg_iushr dJ6_bitCount_0f7a4_45 ?_
  refine sg_iadd dJ6_bitCount_0f7a4_46 ?_
  refine sg_istore_n dJ6_bitCount_0f7a4_47 (by decide) ?_
  refine sg_iload_n dJ6_bitCount_0f7a4_48 rfl ?_
  refine sg_bipush 63 dJ6_bitCount_0f7a4_49 (by decide) ?_
  refine sg_iand dJ6_bitCount_0f7a4_51 ?_
  refine sg_ireturn dJ6_bitCount_0f7a4_52 rfl (Nat.le_of_ble_eq_true rfl) (Nat.le_of_ble_eq_true rfl) ?_
  exact ⟨rfl, rfl⟩
theorem c_exchange {q g m n x z : Nat} {fg fm : Nat → Int32} {ow nm i j : Int32} (hi : i = nI x) (hj : j = nI z) (hn : n ≤ 80) (hx : x < n) (hz : z < n) (hgm : g ≠ m) (h : sm_st M q g m n fg fm ow nm) : sm_Ct l b D cA yX4_exchange cX4_exchange 5 none 1 0 0 [.ref q, .int i, .int j] M (fun r M1 => r = none ∧ sm_ex M M1 [q, g, m] ∧ sm_st M1 q g m n (upd (upd fg x (fg z)) z (fg x)) (upd (upd fm x (fm z)) z (fm x)) ow nm) := by
  subst hi
  subst hj
  obtain ⟨hq, hg, hm⟩ := h
  have hqg := sm_neoi hq hg
  have hqm := sm_neoi hq hm
  refine sm_enter (by decide +kernel) rfl (fun _ => Nat.le_of_ble_eq_true rfl) ?_
  refine sg_aload_n dX4_exchange_0 rfl ?_
  refine sg_iload_n dX4_exchange_1 rfl ?_
  refine sg_V1 dX4_exchange_2 cv_X4_28 (by first | rfl | assumption) (c_has _ (by first | rfl | assumption)) (Nat.le_of_ble_eq_true rfl) (Nat.le_of_ble_eq_true rfl) (Nat.le_of_ble_eq_true rfl) (Nat.le_of_ble_eq_true rfl) (fun r M1 hp => ?_)
  obtain ⟨rfl, rfl⟩ := hp
  refine sg_bf_eq 16 dX4_exchange_5 (by decide) (fun c => ?_) (fun c => ?_)
  · rw [nI_toInt (by omega), nI_toInt (by omega)] at c
    exact absurd (by omega) c
  · refine sg_aload_n dX4_exchange_8 rfl ?_
    refine sg_iload_n dX4_exchange_9 rfl ?_
    refine sg_V1 dX4_exchange_10 cv_X4_28 (by first | rfl | assumption) (c_has _ (by first | rfl | assumption)) (Nat.le_of_ble_eq_true rfl) (Nat.le_of_ble_eq_true rfl) (Nat.le_of_ble_eq_true rfl) (Nat.le_of_ble_eq_true rfl) (fun r M1 hp => ?_)
    obtain ⟨rfl, rfl⟩ := hp
    refine sg_bf_ne 17 dX4_exchange_13 (by decide) (fun c2 => ?_) (fun c2 => ?_)
    · refine sg_aload_n dX4_exchange_17 rfl ?_
      refine sg_get dX4_exchange_18 fl_X4_9 (by first | rfl | assumption) rfl ?_
      refine sg_iload_n dX4_exchange_21 rfl ?_
      refine sg_ald (x) dX4_exchange_22 (by first | rfl | assumption) (rfl) (by omega) (by decide) ?_
      refine sg_istore_n dX4_exchange_23 (by decide) ?_
      refine sg_aload_n dX4_exchange_24 rfl ?_
      refine sg_get dX4_exchange_25 fl_X4_15 (by first | rfl | assumption) rfl ?_
      refine sg_iload_n dX4_exchange_28 rfl ?_
      refine sg_ald (x) dX4_exchange_29 (by first | rfl | assumption) (rfl) (by omega) (by decide) ?_
      refine sg_istore dX4_exchange_30 (by decide) ?_
      refine sg_aload_n dX4_exchange_32 rfl ?_
      refine sg_get dX4_exchange_33 fl_X4_9 (by first | rfl | assumption) rfl ?_
      refine sg_iload_n dX4_exchange_36 rfl ?_
      refine sg_aload_n dX4_exchange_37 rfl ?_
      refine sg_get dX4_exchange_38 fl_X4_9 (by first | rfl | assumption) rfl ?_
      refine sg_iload_n dX4_exchange_41 rfl ?_
      refine sg_ald (z) dX4_exchange_42 (by first | rfl | assumption) (rfl) (by omega) (by decide) ?_
      refine sg_astx x dX4_exchange_43 hg rfl (by omega) (by decide) (fun M2 hx2 hg2 => ?_)
      have hq2 := (hx2.2 q (by simp [hqg])).trans hq
      have hm2 := (hx2.2 m (by simp [Ne.symm hgm])).trans hm
      refine sg_aload_n dX4_exchange_44 rfl ?_
      refine sg_get dX4_exchange_45 fl_X4_15 (by first | rfl | assumption) rfl ?_
      refine sg_iload_n dX4_exchange_48 rfl ?_
      refine sg_aload_n dX4_exchange_49 rfl ?_
      refine sg_get dX4_exchange_50 fl_X4_15 (by first | rfl | assumption) rfl ?_
      refine sg_iload_n dX4_exchange_53 rfl ?_
      refine sg_ald (z) dX4_exchange_54 (by first | rfl | assumption) (rfl) (by omega) (by decide) ?_
      refine sg_astx x dX4_exchange_55 hm2 rfl (by omega) (by decide) (fun M3 hx3 hm3 => ?_)
      have hq3 := (hx3.2 q (by simp [hqm])).trans hq2
      have hg3 := (hx3.2 g (by simp [hgm])).trans hg2
      refine sg_aload_n dX4_exchange_56 rfl ?_
      refine sg_get dX4_exchange_57 fl_X4_9 (by first | rfl | assumption) rfl ?_
      refine sg_iload_n dX4_exchange_60 rfl ?_
      refine sg_iload_n dX4_exchange_61 rfl ?_
      refine sg_astx z dX4_exchange_62 hg3 rfl (by omega) (by decide) (fun M4 hx4 hg4 => ?_)
      have hq4 := (hx4.2 q (by simp [hqg])).trans hq3
      have hm4 := (hx4.2 m (by simp [Ne.symm hgm])).trans hm3
      refine sg_aload_n dX4_exchange_63 rfl ?_
      refine sg_get dX4_exchange_64 fl_X4_15 (by first | rfl | assumption) rfl ?_
      refine sg_iload_n dX4_exchange_67 rfl ?_
      refine sg_iload dX4_exchange_68 rfl ?_
      refine sg_astx z dX4_exchange_70 hm4 rfl (by omega) (by decide) (fun M5 hx5 hm5 => ?_)
      have hq5 := (hx5.2 q (by simp [hqm])).trans hq4
      have hg5 := (hx5.2 g (by simp [hgm])).trans hg4
      refine sg_return dX4_exchange_71 rfl (Nat.le_of_ble_eq_true rfl) (Nat.le_of_ble_eq_true rfl) ?_
      exact ⟨rfl, (hx2.mono (by simp)).tr ((hx3.mono (by simp)).tr ((hx4.mono (by simp)).tr (hx5.mono (by simp)))), hq5, hg5, hm5⟩
    · rw [nI_toInt (by omega), nI_toInt (by omega)] at c2
      exact absurd (by omega) c2
/-- reverse, after t exchanges -/
def sm_rv (f : Nat → Int32) (n t : Nat) : Nat → Int32 := fun j => if j < t ∨ (n - t ≤ j ∧ j < n) then f (n - 1 - j) else f j
theorem sm_rv0 (f : Nat → Int32) (n : Nat) : sm_rv f n 0 = f := by
  funext j
  unfold sm_rv
  rw [if_neg (by omega)]
theorem sm_rvs (f : Nat → Int32) {n t : Nat} (h : 2 * t + 1 < n) : upd (upd (sm_rv f n t) t (sm_rv f n t (n - 1 - t))) (n - 1 - t) (sm_rv f n t t) = sm_rv f n (t + 1) := by
  funext j
  unfold upd sm_rv
  by_cases h1 : j = n - 1 - t
  · rw [if_pos h1, if_neg (by omega), if_pos (by omega)]
    congr 1
    omega
  · rw [if_neg h1]
    by_cases h2 : j = t
    · rw [if_pos h2, if_neg (by omega), if_pos (by omega)]
      congr 1
      omega
    · rw [if_neg h2]
      by_cases h3 : j < t ∨ (n - t ≤ j ∧ j < n)
      · rw [if_pos h3, if_pos (by omega)]
      · rw [if_neg h3, if_neg (by omega)]
theorem sm_rve (f : Nat → Int32) {n t : Nat} (h : n ≤ 2 * t + 1) (h2 : 2 * t ≤ n) : sm_rv f n t = fun j => if j < n then f (n - 1 - j) else f j := by
  funext j
  unfold sm_rv
  by_cases h3 : j < t ∨ (n - t ≤ j ∧ j < n)
  · rw [if_pos h3, if_pos (by omega)]
  · rw [if_neg h3]
    by_cases h4 : j < n
    · rw [if_pos h4]
      congr 1
      omega
    · rw [if_neg h4]
theorem lp_reverse {q g m n : Nat} {fg fm : Nat → Int32} {ow nm : Int32} {Post : Option Value → sm_M → Prop} (hn : n ≤ 80) (h1 : 1 ≤ n) (hgm : g ≠ m)
    (hP : ∀ M1 : sm_M, sm_ex M M1 [q, g, m] → sm_st M1 q g m n (fun j => if j < n then fg (n - 1 - j) else fg j) (fun j => if j < n then fm (n - 1 - j) else fm j) ow nm → Post none M1) :
    ∀ (r t : Nat) (M1 : sm_M), n ≤ 2 * t + 1 + r → 2 * t ≤ n → sm_ex M M1 [q, g, m] → sm_st M1 q g m n (sm_rv fg n t) (sm_rv fm n t) ow nm →
      sm_G l b D cA yX4_reverse cX4_reverse 3 none 2 0 0 Post 0 0 9 [some (.ref q), some (.int (nI t)), some (.int (nI n - 1 - nI t))] [] M1 := by
  intro r
  induction r with
  | zero =>
    intro t M1 ht h2 hx hs
    have hhi : (nI n - 1 - nI t).toInt = (n : Int) - 1 - t := by
      rw [show (1 : Int32) = nI 1 from by decide, pk_sub h1, pk_sub_toInt (by omega) (by omega)]
      omega
    rw [sm_rve fg ht h2, sm_rve fm ht h2] at hs
    refine sg_iload_n dX4_reverse_9 rfl ?_
    refine sg_iload_n dX4_reverse_10 rfl ?_
    refine sg_icmp_ge 37 dX4_reverse_11 (by decide) (fun c => ?_) (fun c => ?_)
    · refine sg_return dX4_reverse_37 rfl (Nat.le_of_ble_eq_true rfl) (Nat.le_of_ble_eq_true rfl) ?_
      exact hP M1 hx hs
    · rw [Int32.le_iff_toInt_le, hhi, nI_toInt (by omega)] at c
      exact absurd (by omega) c
  | succ r ih =>
    intro t M1 ht h2 hx hs
    have hhi : (nI n - 1 - nI t).toInt = (n : Int) - 1 - t := by
      rw [show (1 : Int32) = nI 1 from by decide, pk_sub h1, pk_sub_toInt (by omega) (by omega)]
      omega
    obtain ⟨hq, hg, hm⟩ := id hs
    refine sg_iload_n dX4_reverse_9 rfl ?_
    refine sg_iload_n dX4_reverse_10 rfl ?_
    refine sg_icmp_ge 37 dX4_reverse_11 (by decide) (fun c => ?_) (fun c => ?_)
    · rw [Int32.le_iff_toInt_le, hhi, nI_toInt (by omega)] at c
      rw [sm_rve fg (by omega) h2, sm_rve fm (by omega) h2] at hs
      refine sg_return dX4_reverse_37 rfl (Nat.le_of_ble_eq_true rfl) (Nat.le_of_ble_eq_true rfl) ?_
      exact hP M1 hx hs
    · rw [Int32.le_iff_toInt_le, hhi, nI_toInt (by omega)] at c
      have hhN : nI n - 1 - nI t = nI (n - 1 - t) := by
        rw [show (1 : Int32) = nI 1 from by decide, pk_sub h1, pk_sub (by omega)]
      refine sg_aload_n dX4_reverse_14 rfl ?_
      refine sg_iload_n dX4_reverse_15 rfl ?_
      refine sg_V1 dX4_reverse_16 cv_X4_28 (by first | rfl | assumption) (c_has _ (by first | rfl | assumption)) (Nat.le_of_ble_eq_true rfl) (Nat.le_of_ble_eq_true rfl) (Nat.le_of_ble_eq_true rfl) (Nat.le_of_ble_eq_true rfl) (fun r M1 hp => ?_)
      obtain ⟨rfl, rfl⟩ := hp
      refine sg_bf_eq 37 dX4_reverse_19 (by decide) (fun c2 => ?_) (fun c2 => ?_)
      · rw [hhi, nI_toInt (by omega)] at c2
        exact absurd (by omega) c2
      · refine sg_aload_n dX4_reverse_22 rfl ?_
        refine sg_iload_n dX4_reverse_23 rfl ?_
        refine sg_iload_n dX4_reverse_24 rfl ?_
        refine sg_V2 dX4_reverse_25 cv_X4_43 hq (c_exchange (x := t) (z := n - 1 - t) rfl hhN hn (by omega) (by omega) hgm hs) (Nat.le_of_ble_eq_true rfl) (Nat.le_of_ble_eq_true rfl) (Nat.le_of_ble_eq_true rfl) (Nat.le_of_ble_eq_true rfl) (fun r9 M9 hp => ?_)
        obtain ⟨rfl, hx9, hs9⟩ := hp
        rw [sm_rvs fg (by omega), sm_rvs fm (by omega)] at hs9
        refine sg_iinc _ dX4_reverse_28 rfl (sm_inc t) (by decide) ?_
        refine sg_iinc _ dX4_reverse_31 rfl (show nI n - 1 - nI t + Int32.ofInt (-1) = nI n - 1 - nI (t + 1) from by rw [nI_succ, hhN]; refine Int32.toInt_inj.mp ?_; rw [← nI_succ, show (1 : Int32) = nI 1 from by decide, pk_sub h1, pk_sub (by omega), show Int32.ofInt (-1) = (-1 : Int32) from by decide, show n - 1 - t = (n - 1 - (t + 1)) + 1 from by omega, pk_m1]) (by decide) ?_
        refine sg_goto 9 dX4_reverse_34 (by decide) ?_
        exact ih (t + 1) M9 (by omega) (by omega) (hx.tr hx9) hs9
theorem c_reverse {q g m n : Nat} {fg fm : Nat → Int32} {ow nm : Int32} (hn : n ≤ 80) (h1 : 1 ≤ n) (hgm : g ≠ m) (h : sm_st M q g m n fg fm ow nm) : sm_Ct l b D cA yX4_reverse cX4_reverse 3 none 2 0 0 [.ref q] M (fun r M1 => r = none ∧ sm_ex M M1 [q, g, m] ∧ sm_st M1 q g m n (fun j => if j < n then fg (n - 1 - j) else fg j) (fun j => if j < n then fm (n - 1 - j) else fm j) ow nm) := by
  obtain ⟨hq, hg, hm⟩ := id h
  refine sm_enter (by decide +kernel) rfl (fun _ => Nat.le_of_ble_eq_true rfl) ?_
  refine sg_iconst 0 dX4_reverse_0 (by decide) ?_
  refine sg_istore_n dX4_reverse_1 (by decide) ?_
  refine sg_aload_n dX4_reverse_2 rfl ?_
  refine sg_get dX4_reverse_3 fl_X4_18 (by first | rfl | assumption) rfl ?_
  refine sg_iconst 1 dX4_reverse_6 (by decide) ?_
  refine sg_isub dX4_reverse_7 ?_
  refine sg_istore_n dX4_reverse_8 (by decide) ?_
  have h9 := lp_reverse (l := l) (b := b) (D := D) (cA := cA) (M := M) (Post := fun r M1 => r = none ∧ sm_ex M M1 [q, g, m] ∧ sm_st M1 q g m n (fun j => if j < n then fg (n - 1 - j) else fg j) (fun j => if j < n then fm (n - 1 - j) else fm j) ow nm) hn h1 hgm (fun M1 h1 h2 => ⟨rfl, h1, h2⟩) n 0 M (by omega) (by omega) sm_ex.rf (by rw [sm_rv0, sm_rv0]; exact h)
  rw [show nI n - 1 - nI 0 = nI n - 1 from by rw [nI_0]; exact Int32.sub_zero _] at h9
  exact h9
theorem lp_least {q g m n a k : Nat} {fg fm : Nat → Int32} {ow nm : Int32} {Post : Option Value → sm_M → Prop} (hn : n ≤ 80) (hk : a + k ≤ n) (h : sm_st M q g m n fg fm ow nm) (hP : Post (some (.int (sm_least fg a k))) M) :
    ∀ (r t : Nat), t + r = k → sm_G l b D cA yX4_leastGradeWithin cX4_leastGradeWithin 5 (some .int) 1 0 0 Post 0 0 5 [some (.ref q), some (.int (nI a)), some (.int (nI k)), some (.int (sm_least fg a t)), some (.int (nI (a + t)))] [] M := by
  obtain ⟨hq, hg, hm⟩ := h
  intro r
  induction r with
  | zero =>
    intro t ht
    have e : t = k := by omega
    subst e
    refine sg_iload dX4_leastGradeWithin_5 rfl ?_
    refine sg_iload_n dX4_leastGradeWithin_7 rfl ?_
    refine sg_iload_n dX4_leastGradeWithin_8 rfl ?_
    refine sg_iadd dX4_leastGradeWithin_9 ?_
    refine sg_icmp_ge 52 dX4_leastGradeWithin_10 (by decide) (fun c => ?_) (fun c => ?_)
    · refine sg_iload_n dX4_leastGradeWithin_52 rfl ?_
      refine sg_ireturn dX4_leastGradeWithin_53 rfl (Nat.le_of_ble_eq_true rfl) (Nat.le_of_ble_eq_true rfl) ?_
      exact hP
    · rw [nI_add] at c
      exact absurd (nI_le (by omega) (by omega)) c
  | succ r ih =>
    intro t ht
    have hstep : sm_least fg a (t + 1) = if sm_least fg a t = -1 ∨ fg (a + t) < sm_least fg a t then fg (a + t) else sm_least fg a t := rfl
    have ih2 := ih (t + 1) (by omega)
    rw [hstep] at ih2
    refine sg_iload dX4_leastGradeWithin_5 rfl ?_
    refine sg_iload_n dX4_leastGradeWithin_7 rfl ?_
    refine sg_iload_n dX4_leastGradeWithin_8 rfl ?_
    refine sg_iadd dX4_leastGradeWithin_9 ?_
    refine sg_icmp_ge 52 dX4_leastGradeWithin_10 (by decide) (fun c => ?_) (fun c => ?_)
    · rw [nI_add] at c
      exact absurd c (nI_ge (by omega) (by omega))
    · refine sg_aload_n dX4_leastGradeWithin_13 rfl ?_
      refine sg_iload dX4_leastGradeWithin_14 rfl ?_
      refine sg_V1 dX4_leastGradeWithin_16 cv_X4_28 (by first | rfl | assumption) (c_has _ (by first | rfl | assumption)) (Nat.le_of_ble_eq_true rfl) (Nat.le_of_ble_eq_true rfl) (Nat.le_of_ble_eq_true rfl) (Nat.le_of_ble_eq_true rfl) (fun r M1 hp => ?_)
      obtain ⟨rfl, rfl⟩ := hp
      refine sg_bf_eq 52 dX4_leastGradeWithin_19 (by decide) (fun c2 => ?_) (fun c2 => ?_)
      · rw [nI_toInt (by omega), nI_toInt (by omega)] at c2
        exact absurd (by omega) c2
      · refine sg_iload_n dX4_leastGradeWithin_22 rfl ?_
        refine sg_iconst (-1) dX4_leastGradeWithin_23 (by decide) ?_
        refine sg_icmp_eq 38 dX4_leastGradeWithin_24 (by decide) (fun c3 => ?_) (fun c3 => ?_)
        · rw [if_pos (Or.inl c3)] at ih2
          refine sg_aload_n dX4_leastGradeWithin_38 rfl ?_
          refine sg_get dX4_leastGradeWithin_39 fl_X4_9 (by first | rfl | assumption) rfl ?_
          refine sg_iload dX4_leastGradeWithin_42 rfl ?_
          refine sg_ald (a + t) dX4_leastGradeWithin_44 (by first | rfl | assumption) (rfl) (by omega) (by decide) ?_
          refine sg_istore_n dX4_leastGradeWithin_45 (by decide) ?_
          refine sg_iinc _ dX4_leastGradeWithin_46 rfl (sm_inc (a + t)) (by decide) ?_
          refine sg_goto 5 dX4_leastGradeWithin_49 (by decide) ?_
          exact ih2
        · refine sg_aload_n dX4_leastGradeWithin_27 rfl ?_
          refine sg_get dX4_leastGradeWithin_28 fl_X4_9 (by first | rfl | assumption) rfl ?_
          refine sg_iload dX4_leastGradeWithin_31 rfl ?_
          refine sg_ald (a + t) dX4_leastGradeWithin_33 (by first | rfl | assumption) (rfl) (by omega) (by decide) ?_
          refine sg_iload_n dX4_leastGradeWithin_34 rfl ?_
          refine sg_icmp_ge 46 dX4_leastGradeWithin_35 (by decide) (fun c4 => ?_) (fun c4 => ?_)
          · rw [if_neg (fun h => h.elim c3 (fun h => absurd c4 (Int32.not_le.mpr h)))] at ih2
            refine sg_iinc _ dX4_leastGradeWithin_46 rfl (sm_inc (a + t)) (by decide) ?_
            refine sg_goto 5 dX4_leastGradeWithin_49 (by decide) ?_
            exact ih2
          · rw [if_pos (Or.inr (Int32.not_le.mp c4))] at ih2
            refine sg_aload_n dX4_leastGradeWithin_38 rfl ?_
            refine sg_get dX4_leastGradeWithin_39 fl_X4_9 (by first | rfl | assumption) rfl ?_
            refine sg_iload dX4_leastGradeWithin_42 rfl ?_
            refine sg_ald (a + t) dX4_leastGradeWithin_44 (by first | rfl | assumption) (rfl) (by omega) (by decide) ?_
            refine sg_istore_n dX4_leastGradeWithin_45 (by decide) ?_
            refine sg_iinc _ dX4_leastGradeWithin_46 rfl (sm_inc (a + t)) (by decide) ?_
            refine sg_goto 5 dX4_leastGradeWithin_49 (by decide) ?_
            exact ih2
theorem c_leastGradeWithin {q g m n a k : Nat} {fg fm : Nat → Int32} {ow nm i c : Int32} (hi : i = nI a) (hc : c = nI k) (hn : n ≤ 80) (hk : a + k ≤ n) (h : sm_st M q g m n fg fm ow nm) : sm_Ct l b D cA yX4_leastGradeWithin cX4_leastGradeWithin 5 (some .int) 1 0 0 [.ref q, .int i, .int c] M (fun r M1 => r = some (.int (sm_least fg a k)) ∧ M1 = M) := by
  subst hi
  subst hc
  refine sm_enter (by decide +kernel) rfl (fun _ => Nat.le_of_ble_eq_true rfl) ?_
  refine sg_iconst (-1) dX4_leastGradeWithin_0 (by decide) ?_
  refine sg_istore_n dX4_leastGradeWithin_1 (by decide) ?_
  refine sg_iload_n dX4_leastGradeWithin_2 rfl ?_
  refine sg_istore dX4_leastGradeWithin_3 (by decide) ?_
  exact lp_least hn hk h ⟨rfl, rfl⟩ k 0 (by omega)
theorem c_leastGrade {q g m n : Nat} {fg fm : Nat → Int32} {ow nm : Int32} (hn : n ≤ 80) (h : sm_st M q g m n fg fm ow nm) : sm_Ct l b D cA yX4_leastGrade cX4_leastGrade 1 (some .int) 2 0 0 [.ref q] M (fun r M1 => r = some (.int (sm_least fg 0 n)) ∧ M1 = M) := by
  obtain ⟨hq, hg, hm⟩ := id h
  refine sm_enter (by decide +kernel) rfl (fun _ => Nat.le_of_ble_eq_true rfl) ?_
  refine sg_aload_n dX4_leastGrade_0 rfl ?_
  refine sg_iconst 0 dX4_leastGrade_1 (by decide) ?_
  refine sg_aload_n dX4_leastGrade_2 rfl ?_
  refine sg_get dX4_leastGrade_3 fl_X4_18 (by first | rfl | assumption) rfl ?_
  refine sg_V2 dX4_leastGrade_6 cv_X4_47 hq (c_leastGradeWithin (a := 0) (k := n) nI_0.symm rfl hn (by omega) h) (Nat.le_of_ble_eq_true rfl) (Nat.le_of_ble_eq_true rfl) (Nat.le_of_ble_eq_true rfl) (Nat.le_of_ble_eq_true rfl) (fun r9 M9 hp => ?_)
  obtain ⟨rfl, e9⟩ := hp
  refine sg_ireturn dX4_leastGrade_9 rfl (Nat.le_of_ble_eq_true rfl) (Nat.le_of_ble_eq_true rfl) ?_
  exact ⟨rfl, e9⟩
end SM22
end
section
/-! a strand: makers, the tally, the constructor -/
section SM23
variable {l : Launch} {b : Nat} {D : va_G} {cA : Nat → ClassId} {M : sm_M}
theorem sm_at1 {n t : Nat} (hn : n ≤ 80) (ht : t < n) (f : Nat → Int32) : (if 0 ≤ (nI t).toInt ∧ (nI t).toInt < n then f (nI t).toInt.toNat else -1) = f t := by
  have hi : (nI t).toInt = (t : Int) := nI_toInt (by omega)
  rw [hi, if_pos (by omega)]
  rfl
theorem lp_makerCount {q g m n : Nat} {fg fm : Nat → Int32} {ow nm : Int32} {Post : Option Value → sm_M → Prop} (hn : n ≤ 80) (h : sm_st M q g m n fg fm ow nm) (hP : Post (some (.int (sm_bc (sm_seen fm n)))) M) :
    ∀ (r t : Nat), t + r = n → sm_G l b D cA yX4_makerCount cX4_makerCount 3 (some .int) 2 0 0 Post 0 0 4 [some (.ref q), some (.int (sm_seen fm t)), some (.int (nI t))] [] M := by
  obtain ⟨hq, hg, hm⟩ := id h
  intro r
  induction r with
  | zero =>
    intro t ht
    have e : t = n := by omega
    subst e
    refine sg_iload_n dX4_makerCount_4 rfl ?_
    refine sg_aload_n dX4_makerCount_5 rfl ?_
    refine sg_get dX4_makerCount_6 fl_X4_18 (by first | rfl | assumption) rfl ?_
    refine sg_icmp_ge 28 dX4_makerCount_9 (by decide) (fun c => ?_) (fun c => ?_)
    · refine sg_iload_n dX4_makerCount_28 rfl ?_
      refine sg_S1 dX4_makerCount_29 cs_X4_51 (c_bitCount _) (Nat.le_of_ble_eq_true rfl) (Nat.le_of_ble_eq_true rfl) (Nat.le_of_ble_eq_true rfl) (Nat.le_of_ble_eq_true rfl) (fun r9 M9 hp => ?_)
      obtain ⟨rfl, e9⟩ := hp
      rw [e9]
      refine sg_ireturn dX4_makerCount_32 rfl (Nat.le_of_ble_eq_true rfl) (Nat.le_of_ble_eq_true rfl) ?_
      exact hP
    · exact absurd (nI_le (Nat.le_refl _) (by omega)) c
  | succ r ih =>
    intro t ht
    refine sg_iload_n dX4_makerCount_4 rfl ?_
    refine sg_aload_n dX4_makerCount_5 rfl ?_
    refine sg_get dX4_makerCount_6 fl_X4_18 (by first | rfl | assumption) rfl ?_
    refine sg_icmp_ge 28 dX4_makerCount_9 (by decide) (fun c => ?_) (fun c => ?_)
    · exact absurd c (nI_ge (by omega) (by omega))
    · refine sg_iload_n dX4_makerCount_12 rfl ?_
      refine sg_iconst 1 dX4_makerCount_13 (by decide) ?_
      refine sg_aload_n dX4_makerCount_14 rfl ?_
      refine sg_iload_n dX4_makerCount_15 rfl ?_
      refine sg_V1 dX4_makerCount_16 cv_X4_36 hq (c_makerAt _ hn h) (Nat.le_of_ble_eq_true rfl) (Nat.le_of_ble_eq_true rfl) (Nat.le_of_ble_eq_true rfl) (Nat.le_of_ble_eq_true rfl) (fun r9 M9 hp => ?_)
      obtain ⟨e1, e2⟩ := hp
      rw [sm_at1 hn (by omega)] at e1
      subst e1
      rw [e2]
      refine sg_ishl dX4_makerCount_19 ?_
      refine sg_ior dX4_makerCount_20 ?_
      refine sg_istore_n dX4_makerCount_21 (by decide) ?_
      refine sg_iinc _ dX4_makerCount_22 rfl (sm_inc t) (by decide) ?_
      refine sg_goto 4 dX4_makerCount_25 (by decide) ?_
      exact ih (t + 1) (by omega)
theorem c_makerCount {q g m n : Nat} {fg fm : Nat → Int32} {ow nm : Int32} (hn : n ≤ 80) (h : sm_st M q g m n fg fm ow nm) : sm_Ct l b D cA yX4_makerCount cX4_makerCount 3 (some .int) 2 0 0 [.ref q] M (fun r M1 => r = some (.int (sm_bc (sm_seen fm n))) ∧ M1 = M) := by
  refine sm_enter (by decide +kernel) rfl (fun _ => Nat.le_of_ble_eq_true rfl) ?_
  refine sg_iconst 0 dX4_makerCount_0 (by decide) ?_
  refine sg_istore_n dX4_makerCount_1 (by decide) ?_
  refine sg_iconst 0 dX4_makerCount_2 (by decide) ?_
  refine sg_istore_n dX4_makerCount_3 (by decide) ?_
  exact lp_makerCount hn h ⟨rfl, rfl⟩ n 0 (by omega)
theorem lp_tally {q g m n w : Nat} {fg fm f : Nat → Int32} {ow nm gr : Int32} {Post : Option Value → sm_M → Prop} (hn : n ≤ 80) (h : sm_st M q g m n fg fm ow nm) (hw : w ∉ [q, g, m])
    (hP : ∀ M1 : sm_M, sm_ex M M1 [w] → M1[w]? = some (sm_i 10 (sm_tal fg fm gr f n)) → Post none M1) :
    ∀ (r t : Nat) (L4 : Option Value) (M1 : sm_M), t + r = n → sm_ex M M1 [w] → M1[w]? = some (sm_i 10 (sm_tal fg fm gr f t)) → sm_G l b D cA yX4_tallyMakersBelow cX4_tallyMakersBelow 5 none 2 0 0 Post 0 0 2 [some (.ref q), some (.int gr), some (.ref w), some (.int (nI t)), L4] [] M1 := by
  intro r
  induction r with
  | zero =>
    intro t L4 M1 ht hx hf
    have e : t = n := by omega
    subst e
    obtain ⟨hq, hg, hm⟩ := h.ex hx (fun z => hw (by simp [List.mem_singleton.mp z])) (fun z => hw (by simp [List.mem_singleton.mp z])) (fun z => hw (by simp [List.mem_singleton.mp z]))
    refine sg_iload_n dX4_tallyMakersBelow_2 rfl ?_
    refine sg_aload_n dX4_tallyMakersBelow_3 rfl ?_
    refine sg_get dX4_tallyMakersBelow_4 fl_X4_18 (by first | rfl | assumption) rfl ?_
    refine sg_icmp_ge 52 dX4_tallyMakersBelow_7 (by decide) (fun c => ?_) (fun c => ?_)
    · refine sg_return dX4_tallyMakersBelow_52 rfl (Nat.le_of_ble_eq_true rfl) (Nat.le_of_ble_eq_true rfl) ?_
      exact hP M1 hx hf
    · exact absurd (nI_le (Nat.le_refl _) (by omega)) c
  | succ r ih =>
    intro t L4 M1 ht hx hf
    have hs := h.ex hx (fun z => hw (by simp [List.mem_singleton.mp z])) (fun z => hw (by simp [List.mem_singleton.mp z])) (fun z => hw (by simp [List.mem_singleton.mp z]))
    obtain ⟨hq, hg, hm⟩ := id hs
    have hstep : sm_tal fg fm gr f (t + 1) = sm_tal1 fg fm gr t (sm_tal fg fm gr f t) := rfl
    have ih2 := ih (t + 1) (some (.int (fm t)))
    rw [hstep] at ih2
    unfold sm_tal1 at ih2
    refine sg_iload_n dX4_tallyMakersBelow_2 rfl ?_
    refine sg_aload_n dX4_tallyMakersBelow_3 rfl ?_
    refine sg_get dX4_tallyMakersBelow_4 fl_X4_18 (by first | rfl | assumption) rfl ?_
    refine sg_icmp_ge 52 dX4_tallyMakersBelow_7 (by decide) (fun c => ?_) (fun c => ?_)
    · exact absurd c (nI_ge (by omega) (by omega))
    · refine sg_aload_n dX4_tallyMakersBelow_10 rfl ?_
      refine sg_iload_n dX4_tallyMakersBelow_11 rfl ?_
      refine sg_V1 dX4_tallyMakersBelow_12 cv_X4_36 hq (c_makerAt _ hn hs) (Nat.le_of_ble_eq_true rfl) (Nat.le_of_ble_eq_true rfl) (Nat.le_of_ble_eq_true rfl) (Nat.le_of_ble_eq_true rfl) (fun r9 M9 hp => ?_)
      obtain ⟨e1, e2⟩ := hp
      rw [sm_at1 hn (by omega)] at e1
      subst e1
      rw [e2]
      refine sg_istore dX4_tallyMakersBelow_15 (by decide) ?_
      refine sg_aload_n dX4_tallyMakersBelow_17 rfl ?_
      refine sg_iload_n dX4_tallyMakersBelow_18 rfl ?_
      refine sg_V1 dX4_tallyMakersBelow_19 cv_X4_32 hq (c_gradeAt _ hn hs) (Nat.le_of_ble_eq_true rfl) (Nat.le_of_ble_eq_true rfl) (Nat.le_of_ble_eq_true rfl) (Nat.le_of_ble_eq_true rfl) (fun r9 M9 hp => ?_)
      obtain ⟨e1, e2⟩ := hp
      rw [sm_at1 hn (by omega)] at e1
      subst e1
      rw [e2]
      refine sg_iload_n dX4_tallyMakersBelow_22 rfl ?_
      refine sg_icmp_ge 46 dX4_tallyMakersBelow_23 (by decide) (fun c2 => ?_) (fun c2 => ?_)
      · rw [if_neg (fun h => absurd c2 (Int32.not_le.mpr h.1))] at ih2
        refine sg_iinc _ dX4_tallyMakersBelow_46 rfl (sm_inc t) (by decide) ?_
        refine sg_goto 2 dX4_tallyMakersBelow_49 (by decide) ?_
        exact ih2 M1 (by omega) hx hf
      · refine sg_iload dX4_tallyMakersBelow_26 rfl ?_
        refine sg_if_lt 46 dX4_tallyMakersBelow_28 (by decide) (fun c3 => ?_) (fun c3 => ?_)
        · simp only [Int32.lt_iff_toInt_lt, ti_0] at c3
          rw [if_neg (by omega)] at ih2
          refine sg_iinc _ dX4_tallyMakersBelow_46 rfl (sm_inc t) (by decide) ?_
          refine sg_goto 2 dX4_tallyMakersBelow_49 (by decide) ?_
          exact ih2 M1 (by omega) hx hf
        · simp only [Int32.lt_iff_toInt_lt, ti_0] at c3
          refine sg_iload dX4_tallyMakersBelow_31 rfl ?_
          refine sg_aload_n dX4_tallyMakersBelow_33 rfl ?_
          refine sg_alen dX4_tallyMakersBelow_34 (by first | rfl | assumption) ?_
          refine sg_icmp_ge 46 dX4_tallyMakersBelow_35 (by decide) (fun c4 => ?_) (fun c4 => ?_)
          · rw [Int32.le_iff_toInt_le, nI_toInt (by decide)] at c4
            rw [if_neg (by omega)] at ih2
            refine sg_iinc _ dX4_tallyMakersBelow_46 rfl (sm_inc t) (by decide) ?_
            refine sg_goto 2 dX4_tallyMakersBelow_49 (by decide) ?_
            exact ih2 M1 (by omega) hx hf
          · rw [Int32.le_iff_toInt_le, nI_toInt (by decide)] at c4
            rw [if_pos ⟨Int32.not_le.mp c2, by omega, by omega⟩] at ih2
            refine sg_aload_n dX4_tallyMakersBelow_38 rfl ?_
            refine sg_iload dX4_tallyMakersBelow_39 rfl ?_
            refine sg_dup2 dX4_tallyMakersBelow_41 rfl rfl ?_
            refine sg_ald ((fm t).toInt.toNat) dX4_tallyMakersBelow_42 (by first | rfl | assumption) (sm_asN (by omega)) (by omega) (by decide) ?_
            refine sg_iconst 1 dX4_tallyMakersBelow_43 (by decide) ?_
            refine sg_iadd dX4_tallyMakersBelow_44 ?_
            refine sg_astx (fm t).toInt.toNat dX4_tallyMakersBelow_45 hf (sm_asN (by omega)) (by omega) (by decide) (fun M2 hx2 hf2 => ?_)
            refine sg_iinc _ dX4_tallyMakersBelow_46 rfl (sm_inc t) (by decide) ?_
            refine sg_goto 2 dX4_tallyMakersBelow_49 (by decide) ?_
            exact ih2 M2 (by omega) (hx.tr hx2) hf2
theorem c_tally {q g m n w : Nat} {fg fm f : Nat → Int32} {ow nm : Int32} (gr : Int32) (hn : n ≤ 80) (h : sm_st M q g m n fg fm ow nm) (hw : w ∉ [q, g, m]) (hf : M[w]? = some (sm_i 10 f)) : sm_Ct l b D cA yX4_tallyMakersBelow cX4_tallyMakersBelow 5 none 2 0 0 [.ref q, .int gr, .ref w] M (fun r M1 => r = none ∧ sm_ex M M1 [w] ∧ M1[w]? = some (sm_i 10 (sm_tal fg fm gr f n))) := by
  refine sm_enter (by decide +kernel) rfl (fun _ => Nat.le_of_ble_eq_true rfl) ?_
  refine sg_iconst 0 dX4_tallyMakersBelow_0 (by decide) ?_
  refine sg_istore_n dX4_tallyMakersBelow_1 (by decide) ?_
  exact lp_tally (M := M) hn h hw (fun M1 h1 h2 => ⟨rfl, h1, h2⟩) n 0 _ M (by omega) sm_ex.rf hf
/-- what was there stays but at zs; more may have come -/
def sm_gx (M M1 : sm_M) (zs : List Nat) : Prop := M.length ≤ M1.length ∧ ∀ z, z < M.length → z ∉ zs → M1[z]? = M[z]?
theorem sm_ex.gx {M M1 : sm_M} {zs : List Nat} (h : sm_ex M M1 zs) : sm_gx M M1 zs := ⟨Nat.le_of_eq h.1.symm, fun z _ hz => h.2 z hz⟩
theorem sm_gx.tr {M M1 M2 : sm_M} {zs : List Nat} (h1 : sm_gx M M1 zs) (h2 : sm_gx M1 M2 zs) : sm_gx M M2 zs := ⟨Nat.le_trans h1.1 h2.1, fun z hl hz => (h2.2 z (Nat.lt_of_lt_of_le hl h1.1) hz).trans (h1.2 z hl hz)⟩
theorem sm_gx.mono {M M1 : sm_M} {zs ys : List Nat} (h : sm_gx M M1 zs) (hs : ∀ z ∈ zs, z ∈ ys) : sm_gx M M1 ys := ⟨h.1, fun z hl hz => h.2 z hl (fun q => hz (hs z q))⟩
theorem sm_gx.at {M M1 : sm_M} {zs : List Nat} {z : Nat} {x : Option sm_C} (h : sm_gx M M1 zs) (hz : M[z]? = some x) (hn : z ∉ zs) : M1[z]? = some x := (h.2 z (List.getElem?_eq_some_iff.mp hz).1 hn).trans hz
theorem sm_gx.push {M : sm_M} {x : Option sm_C} : sm_gx M (M ++ [x]) [] := ⟨by simp, fun z hl _ => List.getElem?_append_left hl⟩
theorem sm_push_at {M : sm_M} {x : Option sm_C} : (M ++ [x])[M.length]? = some x := by simp
section SMN
variable {y : MethodName} {cc : ByteArray} {nL : Nat} {ret : Option FieldType} {fr mc ms : Nat} {Post : Option Value → sm_M → Prop} {k n pc : Nat} {L : List (Option Value)} {st : List Value}
theorem sg_newax {i : Int32} (N : Nat) (hd : decode cc pc = .ok (.newarray .int, 2)) (ha : Cond.arrayClass .int ∈ sm_tb) (hi : i = nI N) (hN : N < 100000) (hk1 : k + 1 ≤ mc) (hn1 : n + N ≤ ms) (h : ∀ M1 : sm_M, M1.length = M.length + 1 → sm_gx M M1 [] → M1[M.length]? = some (sm_i N (fun _ => 0)) → sm_G l b D cA y cc nL ret fr mc ms Post (k + 1) (n + N) (pc + 2) L (.ref M.length :: st) M1) : sm_G l b D cA y cc nL ret fr mc ms Post k n pc L (.int i :: st) M := sg_newa N hd ha hi hN hk1 hn1 (h _ (by simp) sm_gx.push sm_push_at)
theorem sg_putFrx {idx ci kk q N v : Nat} {C : String} {T : u_T} {fs : List Value} {ty : FieldType} (hd : decode cc pc = .ok (.putfield idx, 3)) (hf : sm_FL y.cls idx ci kk C T N) (ht : sm_FT kk ty true T N) (hn : ∀ a : Nat, narrow ty (.ref a) = .ref a ∧ fits ty (.ref a) = true) (hfl : Cond.fieldLink y.cls idx C (T kk).2.1 (T kk).2.2.1 ∈ sm_tb) (hdc : C = y.cls) (hnm0 : y.name = "<init>") (hM : M[q]? = some (sm_o ci fs)) (hl : kk < fs.length) (h : ∀ M1 : sm_M, sm_ex M M1 [q] → M1[q]? = some (sm_o ci (fs.set kk (.ref v))) → sm_G l b D cA y cc nL ret fr mc ms Post k n (pc + 3) L st M1) : sm_G l b D cA y cc nL ret fr mc ms Post k n pc L (.ref v :: .ref q :: st) M := sg_putFr hd hf ht hn hfl hdc hnm0 hM hl (h _ sm_ex.set (sm_gs hM))
end SMN
/-- Strand(owner): two new rows of 80; the object at q was made before -/
theorem c_Strand {q : Nat} (ow : Int32) (hq : M[q]? = some (sm_o 4 [.null, .null, .int 0, .int 0, .int 0])) : sm_Ct l b D cA yX4_init cX4_init 2 none 1 2 160 [.ref q, .int ow] M (fun r M1 => r = none ∧ M1.length = M.length + 2 ∧ sm_gx M M1 [q] ∧ sm_st M1 q M.length (M.length + 1) 0 (fun _ => 0) (fun _ => 0) ow 0) := by
  have hlt : q < M.length := (List.getElem?_eq_some_iff.mp hq).1
  refine sm_enter (by decide +kernel) rfl (fun _ => Nat.le_of_ble_eq_true rfl) ?_
  refine sg_aload_n dX4_init_0 rfl ?_
  refine sg_objInit dX4_init_1 oi_X4 oi_m oi_c (Nat.le_of_ble_eq_true rfl) (Nat.le_of_ble_eq_true rfl) ?_
  refine sg_aload_n dX4_init_4 rfl ?_
  refine sg_bipush 80 dX4_init_5 (by decide) ?_
  refine sg_newax 80 dX4_init_7 arr_i (by decide) (by decide) (Nat.le_of_ble_eq_true rfl) (Nat.le_of_ble_eq_true rfl) (fun M1 l1 x1 g1 => ?_)
  have q1 := x1.at hq (by simp)
  refine sg_putFrx dX4_init_9 fl_X4_9 ft_X4_0 (fun _ => ⟨rfl, rfl⟩) fi_X4_9 rfl rfl q1 (Nat.le_of_ble_eq_true rfl) (fun M2 x2 q2 => ?_)
  have g2 := (x2.2 M.length (by simp; omega)).trans g1
  have l2 := x2.1.trans l1
  refine sg_aload_n dX4_init_12 rfl ?_
  refine sg_bipush 80 dX4_init_13 (by decide) ?_
  refine sg_newax 80 dX4_init_15 arr_i (by decide) (by decide) (Nat.le_of_ble_eq_true rfl) (Nat.le_of_ble_eq_true rfl) (fun M3 l3 x3 m3 => ?_)
  have q3 := x3.at q2 (by simp)
  have g3 := x3.at g2 (by simp)
  rw [l2] at m3 ⊢
  refine sg_putFrx dX4_init_17 fl_X4_15 ft_X4_1 (fun _ => ⟨rfl, rfl⟩) fi_X4_15 rfl rfl q3 (Nat.le_of_ble_eq_true rfl) (fun M4 x4 q4 => ?_)
  have g4 := (x4.2 M.length (by simp; omega)).trans g3
  have m4 := (x4.2 (M.length + 1) (by simp; omega)).trans m3
  refine sg_aload_n dX4_init_20 rfl ?_
  refine sg_iconst 0 dX4_init_21 (by decide) ?_
  refine sg_putx dX4_init_22 fl_X4_18 ft_X4_2 q4 (Nat.le_of_ble_eq_true rfl) (fun M5 x5 q5 => ?_)
  refine sg_aload_n dX4_init_25 rfl ?_
  refine sg_iconst 0 dX4_init_26 (by decide) ?_
  refine sg_putx dX4_init_27 fl_X4_22 ft_X4_4 q5 (Nat.le_of_ble_eq_true rfl) (fun M6 x6 q6 => ?_)
  refine sg_aload_n dX4_init_30 rfl ?_
  refine sg_iload_n dX4_init_31 rfl ?_
  refine sg_putx dX4_init_32 fl_X4_25 ft_X4_3 q6 (Nat.le_of_ble_eq_true rfl) (fun M7 x7 q7 => ?_)
  have x47 := (x5.tr x6).tr x7
  refine sg_return dX4_init_35 rfl (Nat.le_of_ble_eq_true rfl) (Nat.le_of_ble_eq_true rfl) ?_
  refine ⟨rfl, by rw [x47.1, x4.1, l3, l2], ?_, q7, (x47.2 _ (by simp; omega)).trans g4, (x47.2 _ (by simp; omega)).trans m4⟩
  exact (x1.mono (by simp)).tr ((x2.gx.mono (by simp)).tr ((x3.mono (by simp)).tr ((x4.gx.mono (by simp)).tr (x47.gx.mono (by simp)))))
end SM23
end
section
/-! debts, rates, tales -/
def sm_rate (fr ff fd : Nat → Int32) (j : Nat) : Int32 := if 1 < fr j - (if ff j ≤ 0 then 0 else fd j / ff j) then fr j - (if ff j ≤ 0 then 0 else fd j / ff j) else 1
def sm_wbl (fr fb ff fd : Nat → Int32) (j : Nat) (n : Int32) : Int32 := n * sm_rate fr ff fd j + n / 10 * fb j
def sm_grow (sp it : Int32) : Int32 := if sp + sp * it / 100 < 10000 then sp + sp * it / 100 else 10000
def sm_rates (M : sm_M) (fr fb ff fd : Nat → Int32) (fame : Int32) : Prop := M[3]? = some (sm_o 3 [.ref 4, .ref 5, .ref 6, .ref 7, .int fame]) ∧ M[4]? = some (sm_i 5 fr) ∧ M[5]? = some (sm_i 5 fb) ∧ M[6]? = some (sm_i 5 ff) ∧ M[7]? = some (sm_i 5 fd)
def sm_tl (M : sm_M) (sz : Nat) (f0 f1 f2 f3 : Nat → Int32) : Prop := M[8]? = some (sm_o 5 [.ref 9, .ref 10, .ref 11, .ref 12, .int (nI sz)]) ∧ M[9]? = some (sm_i 200 f0) ∧ M[10]? = some (sm_i 200 f1) ∧ M[11]? = some (sm_i 200 f2) ∧ M[12]? = some (sm_i 200 f3)
def sm_pl (f : Nat → Int32) (nm i : Int32) : Nat → Nat → Int32 → Int32
  | 0, _, _ => -1
  | r + 1, p, bf => if f p = nm then (if bf = i then nI p else sm_pl f nm i r (p + 1) (bf + 1)) else sm_pl f nm i r (p + 1) bf
section SM24
variable {l : Launch} {b : Nat} {D : va_G} {cA : Nat → ClassId} {M : sm_M}
theorem c_isPaid {q : Nat} {ow to gr sp pd : Int32} (hq : M[q]? = some (sm_o 0 [.int ow, .int to, .int gr, .int sp, .int pd])) : sm_Ct l b D cA yX0_isPaid cX0_isPaid 1 (some .boolean) 0 0 0 [.ref q] M (fun r M1 => r = some (.int (if pd = -1 then 0 else 1)) ∧ M1 = M) := by
  refine sm_enter (by decide +kernel) rfl (fun _ => Nat.le_of_ble_eq_true rfl) ?_
  refine sg_aload_n dX0_isPaid_0 rfl ?_
  refine sg_get dX0_isPaid_1 fl_X0_9 (by first | rfl | assumption) rfl ?_
  refine sg_iconst (-1) dX0_isPaid_4 (by decide) ?_
  refine sg_icmp_eq 12 dX0_isPaid_5 (by decide) (fun c_5 => ?_) (fun c_5 => ?_)
  · refine sg_iconst 0 dX0_isPaid_12 (by decide) ?_
    refine sg_zreturn dX0_isPaid_13 rfl (by first | decide | assumption) (Nat.le_of_ble_eq_true rfl) (Nat.le_of_ble_eq_true rfl) ?_
    exact ⟨by simp [*], rfl⟩
  · refine sg_iconst 1 dX0_isPaid_8 (by decide) ?_
    refine sg_goto 13 dX0_isPaid_9 (by decide) ?_
    refine sg_zreturn dX0_isPaid_13 rfl (by first | decide | assumption) (Nat.le_of_ble_eq_true rfl) (Nat.le_of_ble_eq_true rfl) ?_
    exact ⟨by simp [*], rfl⟩
theorem c_grow {q : Nat} {ow to gr sp pd it : Int32} (hq : M[q]? = some (sm_o 0 [.int ow, .int to, .int gr, .int sp, .int pd])) : sm_Ct l b D cA yX0_grow cX0_grow 2 none 1 0 0 [.ref q, .int it] M (fun r M1 => r = none ∧ M1 = M.set q (sm_o 0 [.int ow, .int to, .int gr, .int (sm_grow sp it), .int pd])) := by
  refine sm_enter (by decide +kernel) rfl (fun _ => Nat.le_of_ble_eq_true rfl) ?_
  refine sg_aload_n dX0_grow_0 rfl ?_
  refine sg_sipush 10000 dX0_grow_1 (by decide) ?_
  refine sg_aload_n dX0_grow_4 rfl ?_
  refine sg_get dX0_grow_5 fl_X0_21 (by first | rfl | assumption) rfl ?_
  refine sg_aload_n dX0_grow_8 rfl ?_
  refine sg_get dX0_grow_9 fl_X0_21 (by first | rfl | assumption) rfl ?_
  refine sg_iload_n dX0_grow_12 rfl ?_
  refine sg_imul dX0_grow_13 ?_
  refine sg_bipush 100 dX0_grow_14 (by decide) ?_
  refine sg_idiv dX0_grow_16 (by decide) ?_
  refine sg_iadd dX0_grow_17 ?_
  refine sg_mmin dX0_grow_18 ml_X0_27 mmin_s math_i mmin_c (Nat.le_of_ble_eq_true rfl) (Nat.le_of_ble_eq_true rfl) (Nat.le_of_ble_eq_true rfl) (Nat.le_of_ble_eq_true rfl) ?_
  refine sg_put dX0_grow_21 fl_X0_21 ft_X0_3 (by first | rfl | assumption) (Nat.le_of_ble_eq_true rfl) ?_
  refine sg_return dX0_grow_24 rfl (Nat.le_of_ble_eq_true rfl) (Nat.le_of_ble_eq_true rfl) ?_
  exact ⟨rfl, rfl⟩
theorem sg_putFix {y : MethodName} {cc : ByteArray} {nL : Nat} {ret : Option FieldType} {fr mc ms : Nat} {Post : Option Value → sm_M → Prop} {k n pc : Nat} {L : List (Option Value)} {st : List Value} {idx ci kk q N : Nat} {C : String} {T : u_T} {fs : List Value} {x : Int32} (hd : decode cc pc = .ok (.putfield idx, 3)) (hf : sm_FL y.cls idx ci kk C T N) (ht : sm_FT kk .int true T N) (hfl : Cond.fieldLink y.cls idx C (T kk).2.1 (T kk).2.2.1 ∈ sm_tb) (hdc : C = y.cls) (hnm0 : y.name = "<init>") (hM : M[q]? = some (sm_o ci fs)) (hl : kk < fs.length) (h : ∀ M1 : sm_M, sm_ex M M1 [q] → M1[q]? = some (sm_o ci (fs.set kk (.int x))) → sm_G l b D cA y cc nL ret fr mc ms Post k n (pc + 3) L st M1) : sm_G l b D cA y cc nL ret fr mc ms Post k n pc L (.int x :: .ref q :: st) M := sg_putFi hd hf ht hfl hdc hnm0 hM hl (h _ sm_ex.set (sm_gs hM))
theorem c_Debt {q : Nat} (ow to sp gr : Int32) (hq : M[q]? = some (sm_o 0 [.int 0, .int 0, .int 0, .int 0, .int 0])) : sm_Ct l b D cA yX0_init cX0_init 5 none 1 0 0 [.ref q, .int ow, .int to, .int sp, .int gr] M (fun r M1 => r = none ∧ sm_ex M M1 [q] ∧ M1[q]? = some (sm_o 0 [.int ow, .int to, .int gr, .int sp, .int (-1)])) := by
  refine sm_enter (by decide +kernel) rfl (fun _ => Nat.le_of_ble_eq_true rfl) ?_
  refine sg_aload_n dX0_init_0 rfl ?_
  refine sg_objInit dX0_init_1 oi_X0 oi_m oi_c (Nat.le_of_ble_eq_true rfl) (Nat.le_of_ble_eq_true rfl) ?_
  refine sg_aload_n dX0_init_4 rfl ?_
  refine sg_iconst (-1) dX0_init_5 (by decide) ?_
  refine sg_putx dX0_init_6 fl_X0_9 ft_X0_4 hq (Nat.le_of_ble_eq_true rfl) (fun M1 x1 q1 => ?_)
  refine sg_aload_n dX0_init_9 rfl ?_
  refine sg_iload_n dX0_init_10 rfl ?_
  refine sg_putFix dX0_init_11 fl_X0_15 ft_X0_0 fi_X0_15 rfl rfl q1 (Nat.le_of_ble_eq_true rfl) (fun M2 x2 q2 => ?_)
  refine sg_aload_n dX0_init_14 rfl ?_
  refine sg_iload_n dX0_init_15 rfl ?_
  refine sg_putFix dX0_init_16 fl_X0_18 ft_X0_1 fi_X0_18 rfl rfl q2 (Nat.le_of_ble_eq_true rfl) (fun M3 x3 q3 => ?_)
  refine sg_aload_n dX0_init_19 rfl ?_
  refine sg_iload_n dX0_init_20 rfl ?_
  refine sg_putx dX0_init_21 fl_X0_21 ft_X0_3 q3 (Nat.le_of_ble_eq_true rfl) (fun M4 x4 q4 => ?_)
  refine sg_aload_n dX0_init_24 rfl ?_
  refine sg_iload dX0_init_25 rfl ?_
  refine sg_putFix dX0_init_27 fl_X0_24 ft_X0_2 fi_X0_24 rfl rfl q4 (Nat.le_of_ble_eq_true rfl) (fun M5 x5 q5 => ?_)
  refine sg_return dX0_init_30 rfl (Nat.le_of_ble_eq_true rfl) (Nat.le_of_ble_eq_true rfl) ?_
  exact ⟨rfl, x1.tr (x2.tr (x3.tr (x4.tr x5))), q5⟩
theorem c_flowIn {fr fb ff fd : Nat → Int32} {fame g : Int32} (j : Nat) (x : Int32) (hg : g = nI j) (hj : j < 5) (h : sm_rates M fr fb ff fd fame) : sm_Ct l b D cA yX3_flowIn cX3_flowIn 3 none 1 0 0 [.ref 3, .int g, .int x] M (fun r M1 => r = none ∧ M1 = M.set 7 (sm_i 5 (upd fd j (fd j + x)))) := by
  subst hg
  obtain ⟨h3, h4, h5, h6, h7⟩ := h
  refine sm_enter (by decide +kernel) rfl (fun _ => Nat.le_of_ble_eq_true rfl) ?_
  refine sg_iload_n dX3_flowIn_0 rfl ?_
  refine sg_S1 dX3_flowIn_1 cs_X3_42 (c_isGrade _) (Nat.le_of_ble_eq_true rfl) (Nat.le_of_ble_eq_true rfl) (Nat.le_of_ble_eq_true rfl) (Nat.le_of_ble_eq_true rfl) (fun r M1 hp => ?_)
  obtain ⟨rfl, rfl⟩ := hp
  refine sg_bf_eq 17 dX3_flowIn_4 (by decide) (fun c => ?_) (fun c => ?_)
  · rw [nI_toInt (by omega)] at c
    exact absurd (by omega) c
  · refine sg_aload_n dX3_flowIn_7 rfl ?_
    refine sg_get dX3_flowIn_8 fl_X3_35 (by first | rfl | assumption) rfl ?_
    refine sg_iload_n dX3_flowIn_11 rfl ?_
    refine sg_dup2 dX3_flowIn_12 rfl rfl ?_
    refine sg_ald (j) dX3_flowIn_13 (by first | rfl | assumption) (rfl) (hj) (by decide) ?_
    refine sg_iload_n dX3_flowIn_14 rfl ?_
    refine sg_iadd dX3_flowIn_15 ?_
    refine sg_ast (j) dX3_flowIn_16 (by first | rfl | assumption) (rfl) (hj) (by decide) ?_
    refine sg_return dX3_flowIn_17 rfl (Nat.le_of_ble_eq_true rfl) (Nat.le_of_ble_eq_true rfl) ?_
    exact ⟨rfl, rfl⟩
theorem c_rateNow {fr fb ff fd : Nat → Int32} {fame g : Int32} (j : Nat) (hg : g = nI j) (hj : j < 5) (h : sm_rates M fr fb ff fd fame) : sm_Ct l b D cA yX3_rateNow cX3_rateNow 4 (some .int) 1 0 0 [.ref 3, .int g] M (fun r M1 => r = some (.int (sm_rate fr ff fd j)) ∧ M1 = M) := by
  subst hg
  obtain ⟨h3, h4, h5, h6, h7⟩ := h
  refine sm_enter (by decide +kernel) rfl (fun _ => Nat.le_of_ble_eq_true rfl) ?_
  refine sg_iload_n dX3_rateNow_0 rfl ?_
  refine sg_S1 dX3_rateNow_1 cs_X3_42 (c_isGrade _) (Nat.le_of_ble_eq_true rfl) (Nat.le_of_ble_eq_true rfl) (Nat.le_of_ble_eq_true rfl) (Nat.le_of_ble_eq_true rfl) (fun r M1 hp => ?_)
  obtain ⟨rfl, rfl⟩ := hp
  refine sg_bf_ne 9 dX3_rateNow_4 (by decide) (fun c => ?_) (fun c => ?_)
  · refine sg_aload_n dX3_rateNow_9 rfl ?_
    refine sg_get dX3_rateNow_10 fl_X3_32 (by first | rfl | assumption) rfl ?_
    refine sg_iload_n dX3_rateNow_13 rfl ?_
    refine sg_ald (j) dX3_rateNow_14 (by first | rfl | assumption) (rfl) (hj) (by decide) ?_
    refine sg_istore_n dX3_rateNow_15 (by decide) ?_
    refine sg_iload_n dX3_rateNow_16 rfl ?_
    refine sg_if_le 31 dX3_rateNow_17 (by decide) (fun c2 => ?_) (fun c2 => ?_)
    · refine sg_iconst 0 dX3_rateNow_31 (by decide) ?_
      refine sg_istore_n dX3_rateNow_32 (by decide) ?_
      refine sg_iconst 1 dX3_rateNow_33 (by decide) ?_
      refine sg_aload_n dX3_rateNow_34 rfl ?_
      refine sg_get dX3_rateNow_35 fl_X3_18 (by first | rfl | assumption) rfl ?_
      refine sg_iload_n dX3_rateNow_38 rfl ?_
      refine sg_ald (j) dX3_rateNow_39 (by first | rfl | assumption) (rfl) (hj) (by decide) ?_
      refine sg_iload_n dX3_rateNow_40 rfl ?_
      refine sg_isub dX3_rateNow_41 ?_
      refine sg_mmax dX3_rateNow_42 ml_X3_46 mmax_s math_i mmax_c (Nat.le_of_ble_eq_true rfl) (Nat.le_of_ble_eq_true rfl) (Nat.le_of_ble_eq_true rfl) (Nat.le_of_ble_eq_true rfl) ?_
      refine sg_ireturn dX3_rateNow_45 rfl (Nat.le_of_ble_eq_true rfl) (Nat.le_of_ble_eq_true rfl) ?_
      exact ⟨by unfold sm_rate; rw [if_pos c2], rfl⟩
    · refine sg_aload_n dX3_rateNow_20 rfl ?_
      refine sg_get dX3_rateNow_21 fl_X3_35 (by first | rfl | assumption) rfl ?_
      refine sg_iload_n dX3_rateNow_24 rfl ?_
      refine sg_ald (j) dX3_rateNow_25 (by first | rfl | assumption) (rfl) (hj) (by decide) ?_
      refine sg_iload_n dX3_rateNow_26 rfl ?_
      refine sg_idiv dX3_rateNow_27 (fun e => c2 (by rw [e]; decide)) ?_
      refine sg_goto 32 dX3_rateNow_28 (by decide) ?_
      refine sg_istore_n dX3_rateNow_32 (by decide) ?_
      refine sg_iconst 1 dX3_rateNow_33 (by decide) ?_
      refine sg_aload_n dX3_rateNow_34 rfl ?_
      refine sg_get dX3_rateNow_35 fl_X3_18 (by first | rfl | assumption) rfl ?_
      refine sg_iload_n dX3_rateNow_38 rfl ?_
      refine sg_ald (j) dX3_rateNow_39 (by first | rfl | assumption) (rfl) (hj) (by decide) ?_
      refine sg_iload_n dX3_rateNow_40 rfl ?_
      refine sg_isub dX3_rateNow_41 ?_
      refine sg_mmax dX3_rateNow_42 ml_X3_46 mmax_s math_i mmax_c (Nat.le_of_ble_eq_true rfl) (Nat.le_of_ble_eq_true rfl) (Nat.le_of_ble_eq_true rfl) (Nat.le_of_ble_eq_true rfl) ?_
      refine sg_ireturn dX3_rateNow_45 rfl (Nat.le_of_ble_eq_true rfl) (Nat.le_of_ble_eq_true rfl) ?_
      exact ⟨by unfold sm_rate; rw [if_neg c2], rfl⟩
  · rw [nI_toInt (by omega)] at c
    exact absurd (by omega) c
theorem c_worthByLength {fr fb ff fd : Nat → Int32} {fame g : Int32} (j : Nat) (x : Int32) (hg : g = nI j) (hj : j < 5) (h : sm_rates M fr fb ff fd fame) : sm_Ct l b D cA yX3_worthByLength cX3_worthByLength 3 (some .int) 2 0 0 [.ref 3, .int g, .int x] M (fun r M1 => r = some (.int (sm_wbl fr fb ff fd j x)) ∧ M1 = M) := by
  subst hg
  obtain ⟨h3, h4, h5, h6, h7⟩ := id h
  refine sm_enter (by decide +kernel) rfl (fun _ => Nat.le_of_ble_eq_true rfl) ?_
  refine sg_iload_n dX3_worthByLength_0 rfl ?_
  refine sg_S1 dX3_worthByLength_1 cs_X3_42 (c_isGrade _) (Nat.le_of_ble_eq_true rfl) (Nat.le_of_ble_eq_true rfl) (Nat.le_of_ble_eq_true rfl) (Nat.le_of_ble_eq_true rfl) (fun r M1 hp => ?_)
  obtain ⟨rfl, rfl⟩ := hp
  refine sg_bf_ne 9 dX3_worthByLength_4 (by decide) (fun c => ?_) (fun c => ?_)
  · refine sg_iload_n dX3_worthByLength_9 rfl ?_
    refine sg_aload_n dX3_worthByLength_10 rfl ?_
    refine sg_iload_n dX3_worthByLength_11 rfl ?_
    refine sg_V1 dX3_worthByLength_12 cv_X3_52 h3 (c_rateNow j rfl hj h) (Nat.le_of_ble_eq_true rfl) (Nat.le_of_ble_eq_true rfl) (Nat.le_of_ble_eq_true rfl) (Nat.le_of_ble_eq_true rfl) (fun r M1 hp => ?_)
    obtain ⟨rfl, e9⟩ := hp; rw [e9]
    refine sg_imul dX3_worthByLength_15 ?_
    refine sg_iload_n dX3_worthByLength_16 rfl ?_
    refine sg_bipush 10 dX3_worthByLength_17 (by decide) ?_
    refine sg_idiv dX3_worthByLength_19 (by decide) ?_
    refine sg_aload_n dX3_worthByLength_20 rfl ?_
    refine sg_get dX3_worthByLength_21 fl_X3_26 (by first | rfl | assumption) rfl ?_
    refine sg_iload_n dX3_worthByLength_24 rfl ?_
    refine sg_ald (j) dX3_worthByLength_25 (by first | rfl | assumption) (rfl) (hj) (by decide) ?_
    refine sg_imul dX3_worthByLength_26 ?_
    refine sg_iadd dX3_worthByLength_27 ?_
    refine sg_ireturn dX3_worthByLength_28 rfl (Nat.le_of_ble_eq_true rfl) (Nat.le_of_ble_eq_true rfl) ?_
    exact ⟨rfl, rfl⟩
  · rw [nI_toInt (by omega)] at c
    exact absurd (by omega) c
theorem lp_allBeads {fr fb ff fd : Nat → Int32} {fame : Int32} {Post : Option Value → sm_M → Prop} (h : sm_rates M fr fb ff fd fame) (hP : Post (some (.int (fd 0 + fd 1 + fd 2 + fd 3 + fd 4))) M) : sm_G l b D cA yX3_allBeads cX3_allBeads 3 (some .int) 0 0 0 Post 0 0 0 [some (.ref 3), none, none] [] M := by
  obtain ⟨h3, h4, h5, h6, h7⟩ := h
  have e : (0 : Int32) + fd 0 = fd 0 := Int32.zero_add _
  refine sg_iconst 0 dX3_allBeads_0 (by decide) ?_
  refine sg_istore_n dX3_allBeads_1 (by decide) ?_
  refine sg_iconst 0 dX3_allBeads_2 (by decide) ?_
  refine sg_istore_n dX3_allBeads_3 (by decide) ?_
  refine sg_iload_n dX3_allBeads_4 rfl ?_
  refine sg_iconst 5 dX3_allBeads_5 (by decide) ?_
  refine sg_icmp_ge 24 dX3_allBeads_6 (by decide) (fun c => ?_) (fun c => ?_)
  · exact absurd c (by decide)
  · refine sg_iload_n dX3_allBeads_9 rfl ?_
    refine sg_aload_n dX3_allBeads_10 rfl ?_
    refine sg_get dX3_allBeads_11 fl_X3_35 (by first | rfl | assumption) rfl ?_
    refine sg_iload_n dX3_allBeads_14 rfl ?_
    refine sg_ald (0) dX3_allBeads_15 (by first | rfl | assumption) (by decide) (by decide) (by decide) ?_
    refine sg_iadd dX3_allBeads_16 ?_
    refine sg_istore_n dX3_allBeads_17 (by decide) ?_
    refine sg_iinc _ dX3_allBeads_18 rfl rfl (by decide) ?_
    refine sg_goto 4 dX3_allBeads_21 (by decide) ?_
    refine sg_iload_n dX3_allBeads_4 rfl ?_
    refine sg_iconst 5 dX3_allBeads_5 (by decide) ?_
    refine sg_icmp_ge 24 dX3_allBeads_6 (by decide) (fun c => ?_) (fun c => ?_)
    · exact absurd c (by decide)
    · refine sg_iload_n dX3_allBeads_9 rfl ?_
      refine sg_aload_n dX3_allBeads_10 rfl ?_
      refine sg_get dX3_allBeads_11 fl_X3_35 (by first | rfl | assumption) rfl ?_
      refine sg_iload_n dX3_allBeads_14 rfl ?_
      refine sg_ald (1) dX3_allBeads_15 (by first | rfl | assumption) (by decide) (by decide) (by decide) ?_
      refine sg_iadd dX3_allBeads_16 ?_
      refine sg_istore_n dX3_allBeads_17 (by decide) ?_
      refine sg_iinc _ dX3_allBeads_18 rfl rfl (by decide) ?_
      refine sg_goto 4 dX3_allBeads_21 (by decide) ?_
      refine sg_iload_n dX3_allBeads_4 rfl ?_
      refine sg_iconst 5 dX3_allBeads_5 (by decide) ?_
      refine sg_icmp_ge 24 dX3_allBeads_6 (by decide) (fun c => ?_) (fun c => ?_)
      · exact absurd c (by decide)
      · refine sg_iload_n dX3_allBeads_9 rfl ?_
        refine sg_aload_n dX3_allBeads_10 rfl ?_
        refine sg_get dX3_allBeads_11 fl_X3_35 (by first | rfl | assumption) rfl ?_
        refine sg_iload_n dX3_allBeads_14 rfl ?_
        refine sg_ald (2) dX3_allBeads_15 (by first | rfl | assumption) (by decide) (by decide) (by decide) ?_
        refine sg_iadd dX3_allBeads_16 ?_
        refine sg_istore_n dX3_allBeads_17 (by decide) ?_
        refine sg_iinc _ dX3_allBeads_18 rfl rfl (by decide) ?_
        refine sg_goto 4 dX3_allBeads_21 (by decide) ?_
        refine sg_iload_n dX3_allBeads_4 rfl ?_
        refine sg_iconst 5 dX3_allBeads_5 (by decide) ?_
        refine sg_icmp_ge 24 dX3_allBeads_6 (by decide) (fun c => ?_) (fun c => ?_)
        · exact absurd c (by decide)
        · refine sg_iload_n dX3_allBeads_9 rfl ?_
          refine sg_aload_n dX3_allBeads_10 rfl ?_
          refine sg_get dX3_allBeads_11 fl_X3_35 (by first | rfl | assumption) rfl ?_
          refine sg_iload_n dX3_allBeads_14 rfl ?_
          refine sg_ald (3) dX3_allBeads_15 (by first | rfl | assumption) (by decide) (by decide) (by decide) ?_
          refine sg_iadd dX3_allBeads_16 ?_
          refine sg_istore_n dX3_allBeads_17 (by decide) ?_
          refine sg_iinc _ dX3_allBeads_18 rfl rfl (by decide) ?_
          refine sg_goto 4 dX3_allBeads_21 (by decide) ?_
          refine sg_iload_n dX3_allBeads_4 rfl ?_
          refine sg_iconst 5 dX3_allBeads_5 (by decide) ?_
          refine sg_icmp_ge 24 dX3_allBeads_6 (by decide) (fun c => ?_) (fun c => ?_)
          · exact absurd c (by decide)
          · refine sg_iload_n dX3_allBeads_9 rfl ?_
            refine sg_aload_n dX3_allBeads_10 rfl ?_
            refine sg_get dX3_allBeads_11 fl_X3_35 (by first | rfl | assumption) rfl ?_
            refine sg_iload_n dX3_allBeads_14 rfl ?_
            refine sg_ald (4) dX3_allBeads_15 (by first | rfl | assumption) (by decide) (by decide) (by decide) ?_
            refine sg_iadd dX3_allBeads_16 ?_
            refine sg_istore_n dX3_allBeads_17 (by decide) ?_
            refine sg_iinc _ dX3_allBeads_18 rfl rfl (by decide) ?_
            refine sg_goto 4 dX3_allBeads_21 (by decide) ?_
            refine sg_iload_n dX3_allBeads_4 rfl ?_
            refine sg_iconst 5 dX3_allBeads_5 (by decide) ?_
            refine sg_icmp_ge 24 dX3_allBeads_6 (by decide) (fun c => ?_) (fun c => ?_)
            · refine sg_iload_n dX3_allBeads_24 rfl ?_
              refine sg_ireturn dX3_allBeads_25 rfl (Nat.le_of_ble_eq_true rfl) (Nat.le_of_ble_eq_true rfl) ?_
              rw [e]
              exact hP
            · exact absurd (by decide) c
theorem c_allBeads {fr fb ff fd : Nat → Int32} {fame : Int32} (h : sm_rates M fr fb ff fd fame) : sm_Ct l b D cA yX3_allBeads cX3_allBeads 3 (some .int) 0 0 0 [.ref 3] M (fun r M1 => r = some (.int (fd 0 + fd 1 + fd 2 + fd 3 + fd 4)) ∧ M1 = M) := by
  refine sm_enter (by decide +kernel) rfl (fun _ => Nat.le_of_ble_eq_true rfl) ?_
  exact lp_allBeads h ⟨rfl, rfl⟩
theorem c_hasRoom {sz : Nat} {f0 f1 f2 f3 : Nat → Int32} {x : Int32} (k : Nat) (hx : x = nI k) (hk : k ≤ 100) (hs : sz ≤ 200) (h : sm_tl M sz f0 f1 f2 f3) : sm_Ct l b D cA yX5_hasRoom cX5_hasRoom 2 (some .boolean) 0 0 0 [.ref 8, .int x] M (fun r M1 => r = some (.int (if sz + k ≤ 200 then 1 else 0)) ∧ M1 = M) := by
  subst hx
  obtain ⟨h8, h9, h10, h11, h12⟩ := h
  refine sm_enter (by decide +kernel) rfl (fun _ => Nat.le_of_ble_eq_true rfl) ?_
  refine sg_aload_n dX5_hasRoom_0 rfl ?_
  refine sg_get dX5_hasRoom_1 fl_X5_24 (by first | rfl | assumption) rfl ?_
  refine sg_iload_n dX5_hasRoom_4 rfl ?_
  refine sg_iadd dX5_hasRoom_5 ?_
  refine sg_sipush 200 dX5_hasRoom_6 (by decide) ?_
  refine sg_icmp_gt 16 dX5_hasRoom_9 (by decide) (fun c => ?_) (fun c => ?_)
  · rw [nI_add, Int32.lt_iff_toInt_lt, nI_toInt (by omega), ti_200] at c
    refine sg_iconst 0 dX5_hasRoom_16 (by decide) ?_
    refine sg_zreturn dX5_hasRoom_17 rfl (by first | decide | assumption) (Nat.le_of_ble_eq_true rfl) (Nat.le_of_ble_eq_true rfl) ?_
    exact ⟨by rw [if_neg (by omega)], rfl⟩
  · rw [nI_add, Int32.lt_iff_toInt_lt, nI_toInt (by omega), ti_200] at c
    refine sg_iconst 1 dX5_hasRoom_12 (by decide) ?_
    refine sg_goto 17 dX5_hasRoom_13 (by decide) ?_
    refine sg_zreturn dX5_hasRoom_17 rfl (by first | decide | assumption) (Nat.le_of_ble_eq_true rfl) (Nat.le_of_ble_eq_true rfl) ?_
    exact ⟨by rw [if_pos (by omega)], rfl⟩
theorem c_tell {sz : Nat} {f0 f1 f2 f3 : Nat → Int32} (nm kd nu yr : Int32) (hs : sz < 200) (h : sm_tl M sz f0 f1 f2 f3) : sm_Ct l b D cA yX5_tell cX5_tell 5 none 0 0 0 [.ref 8, .int nm, .int kd, .int nu, .int yr] M (fun r M1 => r = none ∧ sm_ex M M1 [8, 9, 10, 11, 12] ∧ sm_tl M1 (sz + 1) (upd f0 sz nm) (upd f1 sz kd) (upd f2 sz nu) (upd f3 sz yr)) := by
  obtain ⟨h8, h9, h10, h11, h12⟩ := h
  refine sm_enter (by decide +kernel) rfl (fun _ => Nat.le_of_ble_eq_true rfl) ?_
  refine sg_aload_n dX5_tell_0 rfl ?_
  refine sg_get dX5_tell_1 fl_X5_24 (by first | rfl | assumption) rfl ?_
  refine sg_sipush 200 dX5_tell_4 (by decide) ?_
  refine sg_icmp_lt 11 dX5_tell_7 (by decide) (fun c => ?_) (fun c => ?_)
  · refine sg_aload_n dX5_tell_11 rfl ?_
    refine sg_get dX5_tell_12 fl_X5_9 (by first | rfl | assumption) rfl ?_
    refine sg_aload_n dX5_tell_15 rfl ?_
    refine sg_get dX5_tell_16 fl_X5_24 (by first | rfl | assumption) rfl ?_
    refine sg_iload_n dX5_tell_19 rfl ?_
    refine sg_astx sz dX5_tell_20 h9 rfl hs (by decide) (fun M1 x1 g1 => ?_)
    have a8 := (x1.2 8 (by decide)).trans h8
    have a10 := (x1.2 10 (by decide)).trans h10
    have a11 := (x1.2 11 (by decide)).trans h11
    have a12 := (x1.2 12 (by decide)).trans h12
    refine sg_aload_n dX5_tell_21 rfl ?_
    refine sg_get dX5_tell_22 fl_X5_15 (by first | rfl | assumption) rfl ?_
    refine sg_aload_n dX5_tell_25 rfl ?_
    refine sg_get dX5_tell_26 fl_X5_24 (by first | rfl | assumption) rfl ?_
    refine sg_iload_n dX5_tell_29 rfl ?_
    refine sg_astx sz dX5_tell_30 a10 rfl hs (by decide) (fun M2 x2 g2 => ?_)
    have b8 := (x2.2 8 (by decide)).trans a8
    have b9 := (x2.2 9 (by decide)).trans g1
    have b11 := (x2.2 11 (by decide)).trans a11
    have b12 := (x2.2 12 (by decide)).trans a12
    refine sg_aload_n dX5_tell_31 rfl ?_
    refine sg_get dX5_tell_32 fl_X5_18 (by first | rfl | assumption) rfl ?_
    refine sg_aload_n dX5_tell_35 rfl ?_
    refine sg_get dX5_tell_36 fl_X5_24 (by first | rfl | assumption) rfl ?_
    refine sg_iload_n dX5_tell_39 rfl ?_
    refine sg_astx sz dX5_tell_40 b11 rfl hs (by decide) (fun M3 x3 g3 => ?_)
    have c8 := (x3.2 8 (by decide)).trans b8
    have c9 := (x3.2 9 (by decide)).trans b9
    have c10 := (x3.2 10 (by decide)).trans g2
    have c12 := (x3.2 12 (by decide)).trans b12
    refine sg_aload_n dX5_tell_41 rfl ?_
    refine sg_get dX5_tell_42 fl_X5_21 (by first | rfl | assumption) rfl ?_
    refine sg_aload_n dX5_tell_45 rfl ?_
    refine sg_get dX5_tell_46 fl_X5_24 (by first | rfl | assumption) rfl ?_
    refine sg_iload dX5_tell_49 rfl ?_
    refine sg_astx sz dX5_tell_51 c12 rfl hs (by decide) (fun M4 x4 g4 => ?_)
    have d8 := (x4.2 8 (by decide)).trans c8
    have d9 := (x4.2 9 (by decide)).trans c9
    have d10 := (x4.2 10 (by decide)).trans c10
    have d11 := (x4.2 11 (by decide)).trans g3
    refine sg_aload_n dX5_tell_52 rfl ?_
    refine sg_dup dX5_tell_53 rfl ?_
    refine sg_get dX5_tell_54 fl_X5_24 (by first | rfl | assumption) rfl ?_
    refine sg_iconst 1 dX5_tell_57 (by decide) ?_
    refine sg_iadd dX5_tell_58 ?_
    refine sg_putx dX5_tell_59 fl_X5_24 ft_X5_4 d8 (Nat.le_of_ble_eq_true rfl) (fun M5 x5 g5 => ?_)
    rw [nI_1] at g5
    refine sg_return dX5_tell_62 rfl (Nat.le_of_ble_eq_true rfl) (Nat.le_of_ble_eq_true rfl) ?_
    exact ⟨rfl, (x1.mono (by decide)).tr ((x2.mono (by decide)).tr ((x3.mono (by decide)).tr ((x4.mono (by decide)).tr (x5.mono (by decide))))), g5, (x5.2 9 (by decide)).trans d9, (x5.2 10 (by decide)).trans d10, (x5.2 11 (by decide)).trans d11, (x5.2 12 (by decide)).trans g4⟩
  · rw [Int32.lt_iff_toInt_lt, nI_toInt (by omega), ti_200] at c
    exact absurd (by omega) c
theorem lp_placeOf {sz : Nat} {f0 f1 f2 f3 : Nat → Int32} {nm i : Int32} {Post : Option Value → sm_M → Prop} (hs : sz ≤ 200) (h : sm_tl M sz f0 f1 f2 f3) :
    ∀ (r p : Nat) (bf : Int32), p + r = sz → Post (some (.int (sm_pl f0 nm i r p bf))) M → sm_G l b D cA yX5_placeOf cX5_placeOf 5 (some .int) 0 0 0 Post 0 0 5 [some (.ref 8), some (.int nm), some (.int i), some (.int bf), some (.int (nI p))] [] M := by
  obtain ⟨h8, h9, h10, h11, h12⟩ := h
  intro r
  induction r with
  | zero =>
    intro p bf hp hP
    have e : p = sz := by omega
    subst e
    refine sg_iload dX5_placeOf_5 rfl ?_
    refine sg_aload_n dX5_placeOf_7 rfl ?_
    refine sg_get dX5_placeOf_8 fl_X5_24 (by first | rfl | assumption) rfl ?_
    refine sg_icmp_ge 50 dX5_placeOf_11 (by decide) (fun c => ?_) (fun c => ?_)
    · refine sg_iconst (-1) dX5_placeOf_50 (by decide) ?_
      refine sg_ireturn dX5_placeOf_51 rfl (Nat.le_of_ble_eq_true rfl) (Nat.le_of_ble_eq_true rfl) ?_
      exact hP
    · exact absurd (nI_le (Nat.le_refl _) (by omega)) c
  | succ r ih =>
    intro p bf hp hP
    unfold sm_pl at hP
    refine sg_iload dX5_placeOf_5 rfl ?_
    refine sg_aload_n dX5_placeOf_7 rfl ?_
    refine sg_get dX5_placeOf_8 fl_X5_24 (by first | rfl | assumption) rfl ?_
    refine sg_icmp_ge 50 dX5_placeOf_11 (by decide) (fun c => ?_) (fun c => ?_)
    · exact absurd c (nI_ge (by omega) (by omega))
    · refine sg_iload dX5_placeOf_14 rfl ?_
      refine sg_sipush 200 dX5_placeOf_16 (by decide) ?_
      refine sg_icmp_ge 50 dX5_placeOf_19 (by decide) (fun c2 => ?_) (fun c2 => ?_)
      · rw [Int32.le_iff_toInt_le, nI_toInt (by omega), ti_200] at c2
        exact absurd c2 (by omega)
      · refine sg_aload_n dX5_placeOf_22 rfl ?_
        refine sg_get dX5_placeOf_23 fl_X5_9 (by first | rfl | assumption) rfl ?_
        refine sg_iload dX5_placeOf_26 rfl ?_
        refine sg_ald (p) dX5_placeOf_28 (by first | rfl | assumption) (rfl) (by omega) (by decide) ?_
        refine sg_iload_n dX5_placeOf_29 rfl ?_
        refine sg_icmp_ne 44 dX5_placeOf_30 (by decide) (fun c3 => ?_) (fun c3 => ?_)
        · rw [if_neg c3] at hP
          refine sg_iinc _ dX5_placeOf_44 rfl (sm_inc p) (by decide) ?_
          refine sg_goto 5 dX5_placeOf_47 (by decide) ?_
          exact ih (p + 1) bf (by omega) hP
        · rw [if_pos c3] at hP
          refine sg_iload_n dX5_placeOf_33 rfl ?_
          refine sg_iload_n dX5_placeOf_34 rfl ?_
          refine sg_icmp_ne 41 dX5_placeOf_35 (by decide) (fun c4 => ?_) (fun c4 => ?_)
          · rw [if_neg c4] at hP
            refine sg_iinc _ dX5_placeOf_41 rfl rfl (by decide) ?_
            refine sg_iinc _ dX5_placeOf_44 rfl (sm_inc p) (by decide) ?_
            refine sg_goto 5 dX5_placeOf_47 (by decide) ?_
            exact ih (p + 1) (bf + 1) (by omega) hP
          · rw [if_pos c4] at hP
            refine sg_iload dX5_placeOf_38 rfl ?_
            refine sg_ireturn dX5_placeOf_40 rfl (Nat.le_of_ble_eq_true rfl) (Nat.le_of_ble_eq_true rfl) ?_
            exact hP
theorem c_placeOf {sz : Nat} {f0 f1 f2 f3 : Nat → Int32} (nm i : Int32) (hs : sz ≤ 200) (h : sm_tl M sz f0 f1 f2 f3) : sm_Ct l b D cA yX5_placeOf cX5_placeOf 5 (some .int) 0 0 0 [.ref 8, .int nm, .int i] M (fun r M1 => r = some (.int (sm_pl f0 nm i sz 0 0)) ∧ M1 = M) := by
  refine sm_enter (by decide +kernel) rfl (fun _ => Nat.le_of_ble_eq_true rfl) ?_
  refine sg_iconst 0 dX5_placeOf_0 (by decide) ?_
  refine sg_istore_n dX5_placeOf_1 (by decide) ?_
  refine sg_iconst 0 dX5_placeOf_2 (by decide) ?_
  refine sg_istore dX5_placeOf_3 (by decide) ?_
  exact lp_placeOf hs h sz 0 0 (by omega) ⟨rfl, rfl⟩
theorem c_about {sz : Nat} {f0 f1 f2 f3 : Nat → Int32} (p w : Int32) (hs : sz ≤ 200) (h : sm_tl M sz f0 f1 f2 f3) : sm_Ct l b D cA yX5_about cX5_about 3 (some .int) 0 0 0 [.ref 8, .int p, .int w] M (fun r M1 => r = some (.int (if 0 ≤ p.toInt ∧ p.toInt < sz then (if w = 0 then f1 p.toInt.toNat else if w = 1 then f2 p.toInt.toNat else if w = 2 then f3 p.toInt.toNat else -1) else -1)) ∧ M1 = M) := by
  obtain ⟨h8, h9, h10, h11, h12⟩ := h
  refine sm_enter (by decide +kernel) rfl (fun _ => Nat.le_of_ble_eq_true rfl) ?_
  refine sg_iload_n dX5_about_0 rfl ?_
  refine sg_if_lt 19 dX5_about_1 (by decide) (fun c => ?_) (fun c => ?_)
  · simp only [Int32.lt_iff_toInt_lt, ti_0] at c
    refine sg_iconst (-1) dX5_about_19 (by decide) ?_
    refine sg_ireturn dX5_about_20 rfl (Nat.le_of_ble_eq_true rfl) (Nat.le_of_ble_eq_true rfl) ?_
    exact ⟨by rw [if_neg (by omega)], rfl⟩
  · simp only [Int32.lt_iff_toInt_lt, ti_0] at c
    refine sg_iload_n dX5_about_4 rfl ?_
    refine sg_aload_n dX5_about_5 rfl ?_
    refine sg_get dX5_about_6 fl_X5_24 (by first | rfl | assumption) rfl ?_
    refine sg_icmp_ge 19 dX5_about_9 (by decide) (fun c2 => ?_) (fun c2 => ?_)
    · rw [Int32.le_iff_toInt_le, nI_toInt (by omega)] at c2
      refine sg_iconst (-1) dX5_about_19 (by decide) ?_
      refine sg_ireturn dX5_about_20 rfl (Nat.le_of_ble_eq_true rfl) (Nat.le_of_ble_eq_true rfl) ?_
      exact ⟨by rw [if_neg (by omega)], rfl⟩
    · rw [Int32.le_iff_toInt_le, nI_toInt (by omega)] at c2
      refine sg_iload_n dX5_about_12 rfl ?_
      refine sg_sipush 200 dX5_about_13 (by decide) ?_
      refine sg_icmp_lt 21 dX5_about_16 (by decide) (fun c3 => ?_) (fun c3 => ?_)
      · rw [if_pos ⟨by omega, by omega⟩]
        refine sg_iload_n dX5_about_21 rfl ?_
        by_cases h0 : w = 0
        · subst h0
          refine sg_tableIn (off := 26) 48 dX5_about_22 (by decide) (by decide) (by decide +kernel) (by decide) ?_
          refine sg_aload_n dX5_about_48 rfl ?_
          refine sg_get dX5_about_49 fl_X5_15 (by first | rfl | assumption) rfl ?_
          refine sg_iload_n dX5_about_52 rfl ?_
          refine sg_ald (p.toInt.toNat) dX5_about_53 (by first | rfl | assumption) (sm_asN (by omega)) (by omega) (by decide) ?_
          refine sg_ireturn dX5_about_54 rfl (Nat.le_of_ble_eq_true rfl) (Nat.le_of_ble_eq_true rfl) ?_
          exact ⟨by rw [if_pos rfl], rfl⟩
        · by_cases h1 : w = 1
          · subst h1
            refine sg_tableIn (off := 33) 55 dX5_about_22 (by decide) (by decide) (by decide +kernel) (by decide) ?_
            refine sg_aload_n dX5_about_55 rfl ?_
            refine sg_get dX5_about_56 fl_X5_18 (by first | rfl | assumption) rfl ?_
            refine sg_iload_n dX5_about_59 rfl ?_
            refine sg_ald (p.toInt.toNat) dX5_about_60 (by first | rfl | assumption) (sm_asN (by omega)) (by omega) (by decide) ?_
            refine sg_ireturn dX5_about_61 rfl (Nat.le_of_ble_eq_true rfl) (Nat.le_of_ble_eq_true rfl) ?_
            exact ⟨by rw [if_neg (by decide), if_pos rfl], rfl⟩
          · by_cases h2 : w = 2
            · subst h2
              refine sg_tableIn (off := 40) 62 dX5_about_22 (by decide) (by decide) (by decide +kernel) (by decide) ?_
              refine sg_aload_n dX5_about_62 rfl ?_
              refine sg_get dX5_about_63 fl_X5_21 (by first | rfl | assumption) rfl ?_
              refine sg_iload_n dX5_about_66 rfl ?_
              refine sg_ald (p.toInt.toNat) dX5_about_67 (by first | rfl | assumption) (sm_asN (by omega)) (by omega) (by decide) ?_
              refine sg_ireturn dX5_about_68 rfl (Nat.le_of_ble_eq_true rfl) (Nat.le_of_ble_eq_true rfl) ?_
              exact ⟨by rw [if_neg (by decide), if_neg (by decide), if_pos rfl], rfl⟩
            · have n0 := lv_neT h0 ti_0
              have n1 := lv_neT h1 ti_1
              have n2 := lv_neT h2 ti_2
              refine sg_tableOut 69 dX5_about_22 (by omega) (by decide) ?_
              refine sg_iconst (-1) dX5_about_69 (by decide) ?_
              refine sg_ireturn dX5_about_70 rfl (Nat.le_of_ble_eq_true rfl) (Nat.le_of_ble_eq_true rfl) ?_
              exact ⟨by rw [if_neg h0, if_neg h1, if_neg h2], rfl⟩
      · rw [Int32.lt_iff_toInt_lt, ti_200] at c3
        exact absurd (by omega) c3
end SM24
end
section
/-! the purse, the heap: their small methods -/
def sm_pu (M : sm_M) (n : Nat) (tot ch cs cw : Int32) (fn fw : Nat → Int32) : Prop := M[13]? = some (sm_o 2 [.ref 14, .ref 15, .int (nI n), .int tot, .int ch, .int cs, .int cw]) ∧ M[14]? = some (sm_i 12 fn) ∧ M[15]? = some (sm_i 12 fw)
def sm_hp (M : sm_M) (sz : Nat) (fb fgo fw fp ff : Nat → Int32) : Prop := M[17]? = some (sm_o 1 [.ref 18, .int (nI sz), .ref 19, .ref 20, .ref 21, .ref 22]) ∧ M[18]? = some (sm_i 5 fb) ∧ M[19]? = some (sm_i 60 fgo) ∧ M[20]? = some (sm_i 61 fw) ∧ M[21]? = some (sm_i 61 fp) ∧ M[22]? = some (sm_i 61 ff)
section SM25
variable {l : Launch} {b : Nat} {D : va_G} {cA : Nat → ClassId} {M : sm_M}
theorem c_clear {n : Nat} {tot ch cs cw : Int32} {fn fw : Nat → Int32} (h : sm_pu M n tot ch cs cw fn fw) : sm_Ct l b D cA yX2_clear cX2_clear 1 none 0 0 0 [.ref 13] M (fun r M1 => r = none ∧ sm_ex M M1 [13] ∧ sm_pu M1 0 0 0 0 (-1) fn fw) := by
  obtain ⟨h13, h14, h15⟩ := h
  refine sm_enter (by decide +kernel) rfl (fun _ => Nat.le_of_ble_eq_true rfl) ?_
  refine sg_aload_n dX2_clear_0 rfl ?_
  refine sg_iconst 0 dX2_clear_1 (by decide) ?_
  refine sg_putx dX2_clear_2 fl_X2_18 ft_X2_2 h13 (Nat.le_of_ble_eq_true rfl) (fun M1 x1 q1 => ?_)
  refine sg_aload_n dX2_clear_5 rfl ?_
  refine sg_iconst 0 dX2_clear_6 (by decide) ?_
  refine sg_putx dX2_clear_7 fl_X2_22 ft_X2_3 q1 (Nat.le_of_ble_eq_true rfl) (fun M2 x2 q2 => ?_)
  refine sg_aload_n dX2_clear_10 rfl ?_
  refine sg_iconst 0 dX2_clear_11 (by decide) ?_
  refine sg_putx dX2_clear_12 fl_X2_25 ft_X2_4 q2 (Nat.le_of_ble_eq_true rfl) (fun M3 x3 q3 => ?_)
  refine sg_aload_n dX2_clear_15 rfl ?_
  refine sg_iconst 0 dX2_clear_16 (by decide) ?_
  refine sg_putx dX2_clear_17 fl_X2_28 ft_X2_5 q3 (Nat.le_of_ble_eq_true rfl) (fun M4 x4 q4 => ?_)
  refine sg_aload_n dX2_clear_20 rfl ?_
  refine sg_iconst (-1) dX2_clear_21 (by decide) ?_
  refine sg_putx dX2_clear_22 fl_X2_31 ft_X2_6 q4 (Nat.le_of_ble_eq_true rfl) (fun M5 x5 q5 => ?_)
  have x := x1.tr (x2.tr (x3.tr (x4.tr x5)))
  refine sg_return dX2_clear_25 rfl (Nat.le_of_ble_eq_true rfl) (Nat.le_of_ble_eq_true rfl) ?_
  exact ⟨rfl, x, q5, (x.2 14 (by decide)).trans h14, (x.2 15 (by decide)).trans h15⟩
theorem c_purse_put {n : Nat} {tot ch cs cw : Int32} {fn fw : Nat → Int32} (i w : Int32) (hn : n ≤ 12) (h : sm_pu M n tot ch cs cw fn fw) : sm_Ct l b D cA yX2_put cX2_put 3 (some .boolean) 0 0 0 [.ref 13, .int i, .int w] M (fun r M1 => r = some (.int (if n < 12 then 1 else 0)) ∧ (n < 12 → sm_ex M M1 [13, 14, 15] ∧ sm_pu M1 (n + 1) (tot + w) ch cs cw (upd fn n i) (upd fw n w)) ∧ (¬ n < 12 → M1 = M)) := by
  obtain ⟨h13, h14, h15⟩ := h
  refine sm_enter (by decide +kernel) rfl (fun _ => Nat.le_of_ble_eq_true rfl) ?_
  refine sg_aload_n dX2_put_0 rfl ?_
  refine sg_get dX2_put_1 fl_X2_18 (by first | rfl | assumption) rfl ?_
  refine sg_bipush 12 dX2_put_4 (by decide) ?_
  refine sg_icmp_lt 11 dX2_put_6 (by decide) (fun c => ?_) (fun c => ?_)
  · rw [Int32.lt_iff_toInt_lt, nI_toInt (by omega), ti_12] at c
    refine sg_aload_n dX2_put_11 rfl ?_
    refine sg_get dX2_put_12 fl_X2_9 (by first | rfl | assumption) rfl ?_
    refine sg_aload_n dX2_put_15 rfl ?_
    refine sg_get dX2_put_16 fl_X2_18 (by first | rfl | assumption) rfl ?_
    refine sg_iload_n dX2_put_19 rfl ?_
    refine sg_astx n dX2_put_20 h14 rfl (by omega) (by decide) (fun M1 x1 g1 => ?_)
    have a13 := (x1.2 13 (by decide)).trans h13
    have a15 := (x1.2 15 (by decide)).trans h15
    refine sg_aload_n dX2_put_21 rfl ?_
    refine sg_get dX2_put_22 fl_X2_15 (by first | rfl | assumption) rfl ?_
    refine sg_aload_n dX2_put_25 rfl ?_
    refine sg_get dX2_put_26 fl_X2_18 (by first | rfl | assumption) rfl ?_
    refine sg_iload_n dX2_put_29 rfl ?_
    refine sg_astx n dX2_put_30 a15 rfl (by omega) (by decide) (fun M2 x2 g2 => ?_)
    have b13 := (x2.2 13 (by decide)).trans a13
    have b14 := (x2.2 14 (by decide)).trans g1
    refine sg_aload_n dX2_put_31 rfl ?_
    refine sg_dup dX2_put_32 rfl ?_
    refine sg_get dX2_put_33 fl_X2_18 (by first | rfl | assumption) rfl ?_
    refine sg_iconst 1 dX2_put_36 (by decide) ?_
    refine sg_iadd dX2_put_37 ?_
    refine sg_putx dX2_put_38 fl_X2_18 ft_X2_2 b13 (Nat.le_of_ble_eq_true rfl) (fun M3 x3 q3 => ?_)
    refine sg_aload_n dX2_put_41 rfl ?_
    refine sg_dup dX2_put_42 rfl ?_
    refine sg_get dX2_put_43 fl_X2_22 (by first | rfl | assumption) rfl ?_
    refine sg_iload_n dX2_put_46 rfl ?_
    refine sg_iadd dX2_put_47 ?_
    refine sg_putx dX2_put_48 fl_X2_22 ft_X2_3 q3 (Nat.le_of_ble_eq_true rfl) (fun M4 x4 q4 => ?_)
    rw [nI_1] at q4
    refine sg_iconst 1 dX2_put_51 (by decide) ?_
    refine sg_zreturn dX2_put_52 rfl (by first | decide | assumption) (Nat.le_of_ble_eq_true rfl) (Nat.le_of_ble_eq_true rfl) ?_
    exact ⟨by rw [if_pos (by omega)], fun _ => ⟨(x1.mono (by decide)).tr ((x2.mono (by decide)).tr ((x3.mono (by decide)).tr (x4.mono (by decide)))), q4, ((x3.tr x4).2 14 (by decide)).trans b14, ((x3.tr x4).2 15 (by decide)).trans g2⟩, fun q => absurd (by omega) q⟩
  · rw [Int32.lt_iff_toInt_lt, nI_toInt (by omega), ti_12] at c
    refine sg_iconst 0 dX2_put_9 (by decide) ?_
    refine sg_zreturn dX2_put_10 rfl (by first | decide | assumption) (Nat.le_of_ble_eq_true rfl) (Nat.le_of_ble_eq_true rfl) ?_
    exact ⟨by rw [if_neg (by omega)], fun q => absurd q (by omega), fun _ => rfl⟩
/-- is a set of worth w and size z better than the chosen one -/
def sm_bet (cw cs w z : Int32) : Prop := cw = -1 ∨ w < cw ∨ (w = cw ∧ z < cs)
theorem c_isBetter {n : Nat} {tot ch cs cw : Int32} {fn fw : Nat → Int32} (w z : Int32) (h : sm_pu M n tot ch cs cw fn fw) : sm_Ct l b D cA yX2_isBetter cX2_isBetter 3 (some .boolean) 0 0 0 [.ref 13, .int w, .int z] M (fun r M1 => (∃ x : Int32, r = some (.int x) ∧ (x = 0 ↔ ¬ sm_bet cw cs w z)) ∧ M1 = M) := by
  obtain ⟨h13, h14, h15⟩ := h
  unfold sm_bet
  refine sm_enter (by decide +kernel) rfl (fun _ => Nat.le_of_ble_eq_true rfl) ?_
  refine sg_aload_n dX2_isBetter_0 rfl ?_
  refine sg_get dX2_isBetter_1 fl_X2_31 (by first | rfl | assumption) rfl ?_
  refine sg_iconst (-1) dX2_isBetter_4 (by decide) ?_
  refine sg_icmp_eq 16 dX2_isBetter_5 (by decide) (fun c => ?_) (fun c => ?_)
  · refine sg_iconst 1 dX2_isBetter_16 (by decide) ?_
    refine sg_zreturn dX2_isBetter_17 rfl (by first | decide | assumption) (Nat.le_of_ble_eq_true rfl) (Nat.le_of_ble_eq_true rfl) ?_
    exact ⟨⟨1, rfl, ⟨fun e => absurd e (by decide), fun q => absurd (Or.inl c) q⟩⟩, rfl⟩
  · refine sg_iload_n dX2_isBetter_8 rfl ?_
    refine sg_aload_n dX2_isBetter_9 rfl ?_
    refine sg_get dX2_isBetter_10 fl_X2_31 (by first | rfl | assumption) rfl ?_
    refine sg_icmp_ge 18 dX2_isBetter_13 (by decide) (fun c2 => ?_) (fun c2 => ?_)
    · refine sg_iload_n dX2_isBetter_18 rfl ?_
      refine sg_aload_n dX2_isBetter_19 rfl ?_
      refine sg_get dX2_isBetter_20 fl_X2_31 (by first | rfl | assumption) rfl ?_
      refine sg_icmp_ne 38 dX2_isBetter_23 (by decide) (fun c3 => ?_) (fun c3 => ?_)
      · refine sg_iconst 0 dX2_isBetter_38 (by decide) ?_
        refine sg_zreturn dX2_isBetter_39 rfl (by first | decide | assumption) (Nat.le_of_ble_eq_true rfl) (Nat.le_of_ble_eq_true rfl) ?_
        exact ⟨⟨0, rfl, ⟨fun _ q => q.elim c (fun q => q.elim (fun q => absurd c2 (Int32.not_le.mpr q)) (fun q => c3 q.1)), fun _ => rfl⟩⟩, rfl⟩
      · refine sg_iload_n dX2_isBetter_26 rfl ?_
        refine sg_aload_n dX2_isBetter_27 rfl ?_
        refine sg_get dX2_isBetter_28 fl_X2_28 (by first | rfl | assumption) rfl ?_
        refine sg_icmp_ge 38 dX2_isBetter_31 (by decide) (fun c4 => ?_) (fun c4 => ?_)
        · refine sg_iconst 0 dX2_isBetter_38 (by decide) ?_
          refine sg_zreturn dX2_isBetter_39 rfl (by first | decide | assumption) (Nat.le_of_ble_eq_true rfl) (Nat.le_of_ble_eq_true rfl) ?_
          exact ⟨⟨0, rfl, ⟨fun _ q => q.elim c (fun q => q.elim (fun q => absurd c2 (Int32.not_le.mpr q)) (fun q => absurd c4 (Int32.not_le.mpr q.2))), fun _ => rfl⟩⟩, rfl⟩
        · refine sg_iconst 1 dX2_isBetter_34 (by decide) ?_
          refine sg_goto 39 dX2_isBetter_35 (by decide) ?_
          refine sg_zreturn dX2_isBetter_39 rfl (by first | decide | assumption) (Nat.le_of_ble_eq_true rfl) (Nat.le_of_ble_eq_true rfl) ?_
          exact ⟨⟨1, rfl, ⟨fun e => absurd e (by decide), fun q => absurd (Or.inr (Or.inr ⟨c3, Int32.not_le.mp c4⟩)) q⟩⟩, rfl⟩
    · refine sg_iconst 1 dX2_isBetter_16 (by decide) ?_
      refine sg_zreturn dX2_isBetter_17 rfl (by first | decide | assumption) (Nat.le_of_ble_eq_true rfl) (Nat.le_of_ble_eq_true rfl) ?_
      exact ⟨⟨1, rfl, ⟨fun e => absurd e (by decide), fun q => absurd (Or.inr (Or.inl (Int32.not_le.mp c2))) q⟩⟩, rfl⟩
theorem c_worthAt {n : Nat} {tot ch cs cw i : Int32} {fn fw : Nat → Int32} (j : Nat) (hi : i = nI j) (hj : j < n) (hn : n ≤ 12) (h : sm_pu M n tot ch cs cw fn fw) : sm_Ct l b D cA yX2_worthAt cX2_worthAt 2 (some .int) 0 0 0 [.ref 13, .int i] M (fun r M1 => r = some (.int (fw j)) ∧ M1 = M) := by
  subst hi
  obtain ⟨h13, h14, h15⟩ := h
  refine sm_enter (by decide +kernel) rfl (fun _ => Nat.le_of_ble_eq_true rfl) ?_
  refine sg_iload_n dX2_worthAt_0 rfl ?_
  refine sg_if_lt 27 dX2_worthAt_1 (by decide) (fun c => ?_) (fun c => ?_)
  · exact absurd c (nI_pos (by omega))
  · refine sg_iload_n dX2_worthAt_4 rfl ?_
    refine sg_aload_n dX2_worthAt_5 rfl ?_
    refine sg_get dX2_worthAt_6 fl_X2_18 (by first | rfl | assumption) rfl ?_
    refine sg_icmp_ge 27 dX2_worthAt_9 (by decide) (fun c2 => ?_) (fun c2 => ?_)
    · exact absurd c2 (nI_ge hj (by omega))
    · refine sg_iload_n dX2_worthAt_12 rfl ?_
      refine sg_bipush 12 dX2_worthAt_13 (by decide) ?_
      refine sg_icmp_ge 27 dX2_worthAt_15 (by decide) (fun c3 => ?_) (fun c3 => ?_)
      · rw [Int32.le_iff_toInt_le, nI_toInt (by omega), ti_12] at c3
        exact absurd c3 (by omega)
      · refine sg_aload_n dX2_worthAt_18 rfl ?_
        refine sg_get dX2_worthAt_19 fl_X2_15 (by first | rfl | assumption) rfl ?_
        refine sg_iload_n dX2_worthAt_22 rfl ?_
        refine sg_ald (j) dX2_worthAt_23 (by first | rfl | assumption) (rfl) (by omega) (by decide) ?_
        refine sg_goto 28 dX2_worthAt_24 (by decide) ?_
        refine sg_ireturn dX2_worthAt_28 rfl (Nat.le_of_ble_eq_true rfl) (Nat.le_of_ble_eq_true rfl) ?_
        exact ⟨rfl, rfl⟩
theorem c_chosenAt {n : Nat} {tot ch cs cw i : Int32} {fn fw : Nat → Int32} (j : Nat) (hi : i = nI j) (hj : j < n) (hn : n ≤ 12) (h : sm_pu M n tot ch cs cw fn fw) : sm_Ct l b D cA yX2_chosenAt cX2_chosenAt 2 (some .int) 0 0 0 [.ref 13, .int i] M (fun r M1 => r = some (.int (if (ch >>> (nI j &&& 31)) &&& 1 = 1 then fn j else -1)) ∧ M1 = M) := by
  subst hi
  obtain ⟨h13, h14, h15⟩ := h
  refine sm_enter (by decide +kernel) rfl (fun _ => Nat.le_of_ble_eq_true rfl) ?_
  refine sg_iload_n dX2_chosenAt_0 rfl ?_
  refine sg_if_lt 18 dX2_chosenAt_1 (by decide) (fun c => ?_) (fun c => ?_)
  · exact absurd c (nI_pos (by omega))
  · refine sg_iload_n dX2_chosenAt_4 rfl ?_
    refine sg_aload_n dX2_chosenAt_5 rfl ?_
    refine sg_get dX2_chosenAt_6 fl_X2_18 (by first | rfl | assumption) rfl ?_
    refine sg_icmp_ge 18 dX2_chosenAt_9 (by decide) (fun c2 => ?_) (fun c2 => ?_)
    · exact absurd c2 (nI_ge hj (by omega))
    · refine sg_iload_n dX2_chosenAt_12 rfl ?_
      refine sg_bipush 12 dX2_chosenAt_13 (by decide) ?_
      refine sg_icmp_lt 20 dX2_chosenAt_15 (by decide) (fun c3 => ?_) (fun c3 => ?_)
      · refine sg_aload_n dX2_chosenAt_20 rfl ?_
        refine sg_get dX2_chosenAt_21 fl_X2_25 (by first | rfl | assumption) rfl ?_
        refine sg_iload_n dX2_chosenAt_24 rfl ?_
        refine sg_ishr dX2_chosenAt_25 ?_
        refine sg_iconst 1 dX2_chosenAt_26 (by decide) ?_
        refine sg_iand dX2_chosenAt_27 ?_
        refine sg_iconst 1 dX2_chosenAt_28 (by decide) ?_
        refine sg_icmp_ne 41 dX2_chosenAt_29 (by decide) (fun c4 => ?_) (fun c4 => ?_)
        · refine sg_iconst (-1) dX2_chosenAt_41 (by decide) ?_
          refine sg_ireturn dX2_chosenAt_42 rfl (Nat.le_of_ble_eq_true rfl) (Nat.le_of_ble_eq_true rfl) ?_
          exact ⟨by rw [if_neg c4], rfl⟩
        · refine sg_aload_n dX2_chosenAt_32 rfl ?_
          refine sg_get dX2_chosenAt_33 fl_X2_9 (by first | rfl | assumption) rfl ?_
          refine sg_iload_n dX2_chosenAt_36 rfl ?_
          refine sg_ald (j) dX2_chosenAt_37 (by first | rfl | assumption) (rfl) (by omega) (by decide) ?_
          refine sg_goto 42 dX2_chosenAt_38 (by decide) ?_
          refine sg_ireturn dX2_chosenAt_42 rfl (Nat.le_of_ble_eq_true rfl) (Nat.le_of_ble_eq_true rfl) ?_
          exact ⟨by rw [if_pos c4], rfl⟩
      · rw [Int32.lt_iff_toInt_lt, nI_toInt (by omega), ti_12] at c3
        exact absurd (by omega) c3
theorem c_bestWorth {sz : Nat} {fb fgo fw fp ff : Nat → Int32} (h : sm_hp M sz fb fgo fw fp ff) : sm_Ct l b D cA yX1_bestWorth cX1_bestWorth 1 (some .int) 0 0 0 [.ref 17] M (fun r M1 => r = some (.int (fw 0)) ∧ M1 = M) := by
  obtain ⟨h17, h18, h19, h20, h21, h22⟩ := h
  refine sm_enter (by decide +kernel) rfl (fun _ => Nat.le_of_ble_eq_true rfl) ?_
  refine sg_aload_n dX1_bestWorth_0 rfl ?_
  refine sg_get dX1_bestWorth_1 fl_X1_22 (by first | rfl | assumption) rfl ?_
  refine sg_iconst 0 dX1_bestWorth_4 (by decide) ?_
  refine sg_ald (0) dX1_bestWorth_5 (by first | rfl | assumption) (by decide) (by decide) (by decide) ?_
  refine sg_ireturn dX1_bestWorth_6 rfl (Nat.le_of_ble_eq_true rfl) (Nat.le_of_ble_eq_true rfl) ?_
  exact ⟨rfl, rfl⟩
theorem c_bestParts {sz : Nat} {fb fgo fw fp ff : Nat → Int32} (h : sm_hp M sz fb fgo fw fp ff) : sm_Ct l b D cA yX1_bestParts cX1_bestParts 1 (some .int) 0 0 0 [.ref 17] M (fun r M1 => r = some (.int (fp 0)) ∧ M1 = M) := by
  obtain ⟨h17, h18, h19, h20, h21, h22⟩ := h
  refine sm_enter (by decide +kernel) rfl (fun _ => Nat.le_of_ble_eq_true rfl) ?_
  refine sg_aload_n dX1_bestParts_0 rfl ?_
  refine sg_get dX1_bestParts_1 fl_X1_25 (by first | rfl | assumption) rfl ?_
  refine sg_iconst 0 dX1_bestParts_4 (by decide) ?_
  refine sg_ald (0) dX1_bestParts_5 (by first | rfl | assumption) (by decide) (by decide) (by decide) ?_
  refine sg_ireturn dX1_bestParts_6 rfl (Nat.le_of_ble_eq_true rfl) (Nat.le_of_ble_eq_true rfl) ?_
  exact ⟨rfl, rfl⟩
theorem c_clearFrom {sz : Nat} {fb fgo fw fp ff : Nat → Int32} {i : Int32} (a : Nat) (hi : i = nI a) (ha : a ≤ 60) (h : sm_hp M sz fb fgo fw fp ff) : sm_Ct l b D cA yX1_clearFrom cX1_clearFrom 2 none 0 0 0 [.ref 17, .int i] M (fun r M1 => r = none ∧ sm_ex M M1 [20, 21, 22] ∧ sm_hp M1 sz fb fgo (upd fw a 0) (upd fp a 0) (upd ff a 0)) := by
  subst hi
  obtain ⟨h17, h18, h19, h20, h21, h22⟩ := h
  refine sm_enter (by decide +kernel) rfl (fun _ => Nat.le_of_ble_eq_true rfl) ?_
  refine sg_iload_n dX1_clearFrom_0 rfl ?_
  refine sg_if_lt 31 dX1_clearFrom_1 (by decide) (fun c => ?_) (fun c => ?_)
  · exact absurd c (nI_pos (by omega))
  · refine sg_iload_n dX1_clearFrom_4 rfl ?_
    refine sg_bipush 60 dX1_clearFrom_5 (by decide) ?_
    refine sg_icmp_gt 31 dX1_clearFrom_7 (by decide) (fun c2 => ?_) (fun c2 => ?_)
    · rw [Int32.lt_iff_toInt_lt, nI_toInt (by omega), ti_60] at c2
      exact absurd c2 (by omega)
    · refine sg_aload_n dX1_clearFrom_10 rfl ?_
      refine sg_get dX1_clearFrom_11 fl_X1_22 (by first | rfl | assumption) rfl ?_
      refine sg_iload_n dX1_clearFrom_14 rfl ?_
      refine sg_iconst 0 dX1_clearFrom_15 (by decide) ?_
      refine sg_astx a dX1_clearFrom_16 h20 rfl (by omega) (by decide) (fun M1 x1 g1 => ?_)
      have a17 := (x1.2 17 (by decide)).trans h17
      have a21 := (x1.2 21 (by decide)).trans h21
      have a22 := (x1.2 22 (by decide)).trans h22
      refine sg_aload_n dX1_clearFrom_17 rfl ?_
      refine sg_get dX1_clearFrom_18 fl_X1_25 (by first | rfl | assumption) rfl ?_
      refine sg_iload_n dX1_clearFrom_21 rfl ?_
      refine sg_iconst 0 dX1_clearFrom_22 (by decide) ?_
      refine sg_astx a dX1_clearFrom_23 a21 rfl (by omega) (by decide) (fun M2 x2 g2 => ?_)
      have b17 := (x2.2 17 (by decide)).trans a17
      have b22 := (x2.2 22 (by decide)).trans a22
      refine sg_aload_n dX1_clearFrom_24 rfl ?_
      refine sg_get dX1_clearFrom_25 fl_X1_28 (by first | rfl | assumption) rfl ?_
      refine sg_iload_n dX1_clearFrom_28 rfl ?_
      refine sg_iconst 0 dX1_clearFrom_29 (by decide) ?_
      refine sg_astx a dX1_clearFrom_30 b22 rfl (by omega) (by decide) (fun M3 x3 g3 => ?_)
      have x := (x1.mono (ys := [20, 21, 22]) (by decide)).tr ((x2.mono (by decide)).tr (x3.mono (by decide)))
      refine sg_return dX1_clearFrom_31 rfl (Nat.le_of_ble_eq_true rfl) (Nat.le_of_ble_eq_true rfl) ?_
      exact ⟨rfl, x, (x.2 17 (by decide)).trans h17, (x.2 18 (by decide)).trans h18, (x.2 19 (by decide)).trans h19, (x3.2 20 (by decide)).trans ((x2.2 20 (by decide)).trans g1), (x3.2 21 (by decide)).trans g2, g3⟩
/-- heap(g, x) is taken -/
def sm_hok (sz : Nat) (hb : Nat → Nat) (g x : Int32) : Prop := (0 ≤ g.toInt ∧ g.toInt < 5) ∧ (0 ≤ x.toInt ∧ x.toInt ≤ 60) ∧ (sz : Int) - hb g.toInt.toNat + x.toInt ≤ 60
theorem c_heap_put {sz : Nat} {hb : Nat → Nat} {fgo fw fp ff : Nat → Int32} (g x : Int32) (hs : sz ≤ 60) (hle : ∀ j, j < 5 → hb j ≤ sz) (h : sm_hp M sz (fun j => nI (hb j)) fgo fw fp ff) : sm_Ct l b D cA yX1_put cX1_put 4 (some .boolean) 1 0 0 [.ref 17, .int g, .int x] M (fun r M1 => (∃ z : Int32, r = some (.int z) ∧ (z = 0 ∨ z = 1) ∧ (z = 1 ↔ sm_hok sz hb g x)) ∧ (sm_hok sz hb g x → sm_ex M M1 [17, 18] ∧ sm_hp M1 (sz - hb g.toInt.toNat + x.toInt.toNat) (upd (fun j => nI (hb j)) g.toInt.toNat x) fgo fw fp ff) ∧ (¬ sm_hok sz hb g x → M1 = M)) := by
  obtain ⟨h17, h18, h19, h20, h21, h22⟩ := h
  unfold sm_hok
  refine sm_enter (by decide +kernel) rfl (fun _ => Nat.le_of_ble_eq_true rfl) ?_
  refine sg_iload_n dX1_put_0 rfl ?_
  refine sg_S1 dX1_put_1 cs_X1_31 (c_isGrade _) (Nat.le_of_ble_eq_true rfl) (Nat.le_of_ble_eq_true rfl) (Nat.le_of_ble_eq_true rfl) (Nat.le_of_ble_eq_true rfl) (fun r M1 hp => ?_)
  obtain ⟨rfl, rfl⟩ := hp
  refine sg_bf_eq 17 dX1_put_4 (by decide) (fun c => ?_) (fun c => ?_)
  · refine sg_iconst 0 dX1_put_17 (by decide) ?_
    refine sg_zreturn dX1_put_18 rfl (by first | decide | assumption) (Nat.le_of_ble_eq_true rfl) (Nat.le_of_ble_eq_true rfl) ?_
    exact ⟨⟨0, rfl, Or.inl rfl, ⟨fun e => absurd e (by decide), fun q => absurd q.1 c⟩⟩, fun q => absurd q.1 c, fun _ => rfl⟩
  · have hle1 := hle g.toInt.toNat (by omega)
    refine sg_iload_n dX1_put_7 rfl ?_
    refine sg_if_lt 17 dX1_put_8 (by decide) (fun c2 => ?_) (fun c2 => ?_)
    · simp only [Int32.lt_iff_toInt_lt, ti_0] at c2
      refine sg_iconst 0 dX1_put_17 (by decide) ?_
      refine sg_zreturn dX1_put_18 rfl (by first | decide | assumption) (Nat.le_of_ble_eq_true rfl) (Nat.le_of_ble_eq_true rfl) ?_
      exact ⟨⟨0, rfl, Or.inl rfl, ⟨fun e => absurd e (by decide), fun q => by omega⟩⟩, fun q => by omega, fun _ => rfl⟩
    · simp only [Int32.lt_iff_toInt_lt, ti_0] at c2
      refine sg_iload_n dX1_put_11 rfl ?_
      refine sg_bipush 60 dX1_put_12 (by decide) ?_
      refine sg_icmp_le 19 dX1_put_14 (by decide) (fun c3 => ?_) (fun c3 => ?_)
      · simp only [Int32.le_iff_toInt_le, ti_60] at c3
        have e1 : x = nI x.toInt.toNat := sm_asN (by omega)
        have e2 : nI sz - nI (hb g.toInt.toNat) + x = nI (sz - hb g.toInt.toNat + x.toInt.toNat) := by
          rw [pk_sub hle1, ← nI_add, ← e1]
        refine sg_aload_n dX1_put_19 rfl ?_
        refine sg_get dX1_put_20 fl_X1_15 (by first | rfl | assumption) rfl ?_
        refine sg_aload_n dX1_put_23 rfl ?_
        refine sg_get dX1_put_24 fl_X1_9 (by first | rfl | assumption) rfl ?_
        refine sg_iload_n dX1_put_27 rfl ?_
        refine sg_ald (g.toInt.toNat) dX1_put_28 (by first | rfl | assumption) (sm_asN c.1) (by omega) (by decide) ?_
        refine sg_isub dX1_put_29 ?_
        refine sg_istore_n dX1_put_30 (by decide) ?_
        refine sg_iload_n dX1_put_31 rfl ?_
        refine sg_iload_n dX1_put_32 rfl ?_
        refine sg_iadd dX1_put_33 ?_
        refine sg_bipush 60 dX1_put_34 (by decide) ?_
        refine sg_icmp_le 41 dX1_put_36 (by decide) (fun c4 => ?_) (fun c4 => ?_)
        · rw [e2, Int32.le_iff_toInt_le, nI_toInt (by omega), ti_60] at c4
          refine sg_aload_n dX1_put_41 rfl ?_
          refine sg_get dX1_put_42 fl_X1_9 (by first | rfl | assumption) rfl ?_
          refine sg_iload_n dX1_put_45 rfl ?_
          refine sg_iload_n dX1_put_46 rfl ?_
          refine sg_astx g.toInt.toNat dX1_put_47 h18 (sm_asN c.1) (by omega) (by decide) (fun M1 x1 g1 => ?_)
          have a17 := (x1.2 17 (by decide)).trans h17
          refine sg_aload_n dX1_put_48 rfl ?_
          refine sg_iload_n dX1_put_49 rfl ?_
          refine sg_iload_n dX1_put_50 rfl ?_
          refine sg_iadd dX1_put_51 ?_
          refine sg_putx dX1_put_52 fl_X1_15 ft_X1_1 a17 (Nat.le_of_ble_eq_true rfl) (fun M2 x2 q2 => ?_)
          rw [e2] at q2
          have xx := (x1.mono (ys := [17, 18]) (by decide)).tr (x2.mono (by decide))
          refine sg_iconst 1 dX1_put_55 (by decide) ?_
          refine sg_zreturn dX1_put_56 rfl (by first | decide | assumption) (Nat.le_of_ble_eq_true rfl) (Nat.le_of_ble_eq_true rfl) ?_
          exact ⟨⟨1, rfl, Or.inr rfl, ⟨fun _ => ⟨c, ⟨by omega, by omega⟩, by omega⟩, fun _ => rfl⟩⟩, fun _ => ⟨xx, q2, (x2.2 18 (by decide)).trans g1, (xx.2 19 (by decide)).trans h19, (xx.2 20 (by decide)).trans h20, (xx.2 21 (by decide)).trans h21, (xx.2 22 (by decide)).trans h22⟩, fun q => absurd ⟨c, ⟨by omega, by omega⟩, by omega⟩ q⟩
        · rw [e2, Int32.le_iff_toInt_le, nI_toInt (by omega), ti_60] at c4
          refine sg_iconst 0 dX1_put_39 (by decide) ?_
          refine sg_zreturn dX1_put_40 rfl (by first | decide | assumption) (Nat.le_of_ble_eq_true rfl) (Nat.le_of_ble_eq_true rfl) ?_
          exact ⟨⟨0, rfl, Or.inl rfl, ⟨fun e => absurd e (by decide), fun q => by omega⟩⟩, fun q => by omega, fun _ => rfl⟩
      · simp only [Int32.le_iff_toInt_le, ti_60] at c3
        refine sg_iconst 0 dX1_put_17 (by decide) ?_
        refine sg_zreturn dX1_put_18 rfl (by first | decide | assumption) (Nat.le_of_ble_eq_true rfl) (Nat.le_of_ble_eq_true rfl) ?_
        exact ⟨⟨0, rfl, Or.inl rfl, ⟨fun e => absurd e (by decide), fun q => by omega⟩⟩, fun q => by omega, fun _ => rfl⟩
end SM25
end
section
/-! the heap: how it is strung best, as the class has it -/
theorem sm_rates.ex {M M1 : sm_M} {fr fb ff fd : Nat → Int32} {fame : Int32} {zs : List Nat} (h : sm_rates M fr fb ff fd fame) (hx : sm_ex M M1 zs) (hz : ∀ z ∈ [3, 4, 5, 6, 7], z ∉ zs) : sm_rates M1 fr fb ff fd fame := by
  obtain ⟨h3, h4, h5, h6, h7⟩ := h
  exact ⟨(hx.2 3 (hz 3 (by decide))).trans h3, (hx.2 4 (hz 4 (by decide))).trans h4, (hx.2 5 (hz 5 (by decide))).trans h5, (hx.2 6 (hz 6 (by decide))).trans h6, (hx.2 7 (hz 7 (by decide))).trans h7⟩
/-- one more length tried for the first part -/
def sm_try (w : Int32) (fw fp : Nat → Int32) (a k : Nat) (c : Int32 × Int32 × Int32) : Int32 × Int32 × Int32 := if c.1 < w + fw (a + k) ∨ (w + fw (a + k) = c.1 ∧ 1 + fp (a + k) ≤ c.2.1) then (w + fw (a + k), 1 + fp (a + k), nI k) else c
def sm_inn (wb : Nat → Nat → Int32) (fw fp : Nat → Int32) (a : Nat) : Nat → Int32 × Int32 × Int32
  | 0 => (0, 0, 0)
  | k + 1 => sm_try (wb a (k + 1)) fw fp a (k + 1) (sm_inn wb fw fp a k)
/-- worth, parts, first length from every place on, after the last r places -/
def sm_out (wb : Nat → Nat → Int32) (sz : Nat) (fw fp ff : Nat → Int32) : Nat → (Nat → Int32) × (Nat → Int32) × (Nat → Int32)
  | 0 => (upd fw sz 0, upd fp sz 0, upd ff sz 0)
  | r + 1 => (upd (sm_out wb sz fw fp ff r).1 (sz - (r + 1)) (sm_inn wb (sm_out wb sz fw fp ff r).1 (sm_out wb sz fw fp ff r).2.1 (sz - (r + 1)) (r + 1)).1, upd (sm_out wb sz fw fp ff r).2.1 (sz - (r + 1)) (sm_inn wb (sm_out wb sz fw fp ff r).1 (sm_out wb sz fw fp ff r).2.1 (sz - (r + 1)) (r + 1)).2.1, upd (sm_out wb sz fw fp ff r).2.2 (sz - (r + 1)) (sm_inn wb (sm_out wb sz fw fp ff r).1 (sm_out wb sz fw fp ff r).2.1 (sz - (r + 1)) (r + 1)).2.2)
theorem sm_updd (f : Nat → Int32) (a : Nat) (x z : Int32) : upd (upd f a x) a z = upd f a z := by
  funext j
  unfold upd
  by_cases h : j = a
  · rw [if_pos h, if_pos h]
  · rw [if_neg h, if_neg h, if_neg h]
theorem sm_upne (f : Nat → Int32) {a j : Nat} (x : Int32) (h : j ≠ a) : upd f a x j = f j := by
  unfold upd
  rw [if_neg h]
theorem sm_upeq (f : Nat → Int32) (a : Nat) (x : Int32) : upd f a x a = x := by
  unfold upd
  rw [if_pos rfl]
/-- the grade at a place of the heap's row, best first -/
def sm_gr (hb : Nat → Nat) (p : Nat) : Nat := if p < hb 4 then 4 else if p < hb 4 + hb 3 then 3 else if p < hb 4 + hb 3 + hb 2 then 2 else if p < hb 4 + hb 3 + hb 2 + hb 1 then 1 else 0
section SM26
variable {l : Launch} {b : Nat} {D : va_G} {cA : Nat → ClassId} {M : sm_M}
theorem c_tryFirst {sz a k j : Nat} {fb fgo fw fp ff r1 r2 r3 r4 : Nat → Int32} {fame : Int32} {cw cp cf i x : Int32} (hi : i = nI a) (hx : x = nI k) (hk : 1 ≤ k) (hak : a + k ≤ sz) (hs : sz ≤ 60) (hj : j < 5) (hg : fgo (a + k - 1) = nI j) (hr : sm_rates M r1 r2 r3 r4 fame) (h : sm_hp M sz fb fgo (upd fw a cw) (upd fp a cp) (upd ff a cf)) : sm_Ct l b D cA yX1_tryFirst cX1_tryFirst 8 none 3 0 0 [.ref 17, .ref 3, .int i, .int x] M (fun r M1 => r = none ∧ sm_ex M M1 [20, 21, 22] ∧ sm_hp M1 sz fb fgo (upd fw a (sm_try (sm_wbl r1 r2 r3 r4 j (nI k)) fw fp a k (cw, cp, cf)).1) (upd fp a (sm_try (sm_wbl r1 r2 r3 r4 j (nI k)) fw fp a k (cw, cp, cf)).2.1) (upd ff a (sm_try (sm_wbl r1 r2 r3 r4 j (nI k)) fw fp a k (cw, cp, cf)).2.2)) := by
  subst hi
  subst hx
  obtain ⟨h17, h18, h19, h20, h21, h22⟩ := h
  have e1 : upd fw a cw (a + k) = fw (a + k) := sm_upne _ _ (by omega)
  have e2 : upd fp a cp (a + k) = fp (a + k) := sm_upne _ _ (by omega)
  unfold sm_try
  dsimp only
  refine sm_enter (by decide +kernel) rfl (fun _ => Nat.le_of_ble_eq_true rfl) ?_
  refine sg_iload_n dX1_tryFirst_0 rfl ?_
  refine sg_iload_n dX1_tryFirst_1 rfl ?_
  refine sg_iadd dX1_tryFirst_2 ?_
  rw [nI_add]
  refine sg_istore dX1_tryFirst_3 (by decide) ?_
  refine sg_iload_n dX1_tryFirst_5 rfl ?_
  refine sg_if_lt 30 dX1_tryFirst_6 (by decide) (fun c => ?_) (fun c => ?_)
  · exact absurd c (nI_pos (by omega))
  · refine sg_iload_n dX1_tryFirst_9 rfl ?_
    refine sg_iconst 1 dX1_tryFirst_10 (by decide) ?_
    refine sg_icmp_lt 30 dX1_tryFirst_11 (by decide) (fun c => ?_) (fun c => ?_)
    · rw [Int32.lt_iff_toInt_lt, nI_toInt (by omega), ti_1] at c
      exact absurd c (by omega)
    · refine sg_iload dX1_tryFirst_14 rfl ?_
      refine sg_aload_n dX1_tryFirst_16 rfl ?_
      refine sg_get dX1_tryFirst_17 fl_X1_15 (by first | rfl | assumption) rfl ?_
      refine sg_icmp_gt 30 dX1_tryFirst_20 (by decide) (fun c => ?_) (fun c => ?_)
      · rw [Int32.lt_iff_toInt_lt, nI_toInt (by omega), nI_toInt (by omega)] at c
        exact absurd c (by omega)
      · refine sg_iload dX1_tryFirst_23 rfl ?_
        refine sg_bipush 60 dX1_tryFirst_25 (by decide) ?_
        refine sg_icmp_le 31 dX1_tryFirst_27 (by decide) (fun c => ?_) (fun c => ?_)
        · refine sg_aload_n dX1_tryFirst_31 rfl ?_
          refine sg_aload_n dX1_tryFirst_32 rfl ?_
          refine sg_get dX1_tryFirst_33 fl_X1_19 (by first | rfl | assumption) rfl ?_
          refine sg_iload dX1_tryFirst_36 rfl ?_
          refine sg_iconst 1 dX1_tryFirst_38 (by decide) ?_
          refine sg_isub dX1_tryFirst_39 ?_
          rw [show nI (a + k) - 1 = nI (a + k - 1) from by rw [show a + k = (a + k - 1) + 1 from by omega]; exact nI_pred _]
          refine sg_ald (a + k - 1) dX1_tryFirst_40 h19 rfl (by omega) (by decide) ?_
          refine sg_iload_n dX1_tryFirst_41 rfl ?_
          refine sg_V2 dX1_tryFirst_42 cv_X1_46 hr.1 (c_worthByLength j _ hg hj hr) (Nat.le_of_ble_eq_true rfl) (Nat.le_of_ble_eq_true rfl) (Nat.le_of_ble_eq_true rfl) (Nat.le_of_ble_eq_true rfl) (fun r9 M9 hp => ?_)
          obtain ⟨rfl, e9⟩ := hp
          rw [e9]
          refine sg_aload_n dX1_tryFirst_45 rfl ?_
          refine sg_get dX1_tryFirst_46 fl_X1_22 (by first | rfl | assumption) rfl ?_
          refine sg_iload dX1_tryFirst_49 rfl ?_
          refine sg_ald (a + k) dX1_tryFirst_51 h20 rfl (by omega) (by decide) ?_
          rw [e1]
          refine sg_iadd dX1_tryFirst_52 ?_
          refine sg_istore dX1_tryFirst_53 (by decide) ?_
          refine sg_iconst 1 dX1_tryFirst_55 (by decide) ?_
          refine sg_aload_n dX1_tryFirst_56 rfl ?_
          refine sg_get dX1_tryFirst_57 fl_X1_25 (by first | rfl | assumption) rfl ?_
          refine sg_iload dX1_tryFirst_60 rfl ?_
          refine sg_ald (a + k) dX1_tryFirst_62 h21 rfl (by omega) (by decide) ?_
          rw [e2]
          refine sg_iadd dX1_tryFirst_63 ?_
          generalize hw : sm_wbl r1 r2 r3 r4 j (nI k) + fw (a + k) = w
          generalize hq : 1 + fp (a + k) = z
          refine sg_istore dX1_tryFirst_64 (by decide) ?_
          refine sg_iload dX1_tryFirst_66 rfl ?_
          refine sg_aload_n dX1_tryFirst_68 rfl ?_
          refine sg_get dX1_tryFirst_69 fl_X1_22 (by first | rfl | assumption) rfl ?_
          refine sg_iload_n dX1_tryFirst_72 rfl ?_
          refine sg_ald a dX1_tryFirst_73 h20 rfl (by omega) (by decide) ?_
          rw [sm_upeq]
          have fin : (cw < w ∨ (w = cw ∧ z ≤ cp)) → sm_G l b D cA yX1_tryFirst cX1_tryFirst 8 none 3 0 0 (fun r M1 => r = none ∧ sm_ex M M1 [20, 21, 22] ∧ sm_hp M1 sz fb fgo (upd fw a (if cw < w ∨ (w = cw ∧ z ≤ cp) then (w, z, nI k) else (cw, cp, cf)).1) (upd fp a (if cw < w ∨ (w = cw ∧ z ≤ cp) then (w, z, nI k) else (cw, cp, cf)).2.1) (upd ff a (if cw < w ∨ (w = cw ∧ z ≤ cp) then (w, z, nI k) else (cw, cp, cf)).2.2)) 0 0 99 [some (.ref 17), some (.ref 3), some (.int (nI a)), some (.int (nI k)), some (.int (nI (a + k))), some (.int w), some (.int z), none] [] M := fun hb => by
            rw [if_pos hb]
            refine sg_iconst 1 dX1_tryFirst_99 (by decide) ?_
            refine sg_goto 104 dX1_tryFirst_100 (by decide) ?_
            refine sg_istore dX1_tryFirst_104 (by decide) ?_
            refine sg_iload dX1_tryFirst_106 rfl ?_
            refine sg_if_eq 134 dX1_tryFirst_108 (by decide) (fun c => ?_) (fun c => ?_)
            · exact absurd c (by decide)
            · refine sg_aload_n dX1_tryFirst_111 rfl ?_
              refine sg_get dX1_tryFirst_112 fl_X1_22 (by first | rfl | assumption) rfl ?_
              refine sg_iload_n dX1_tryFirst_115 rfl ?_
              refine sg_iload dX1_tryFirst_116 rfl ?_
              refine sg_astx a dX1_tryFirst_118 h20 rfl (by omega) (by decide) (fun M1 x1 g1 => ?_)
              have a17 := (x1.2 17 (by decide)).trans h17
              have a21 := (x1.2 21 (by decide)).trans h21
              have a22 := (x1.2 22 (by decide)).trans h22
              refine sg_aload_n dX1_tryFirst_119 rfl ?_
              refine sg_get dX1_tryFirst_120 fl_X1_25 (by first | rfl | assumption) rfl ?_
              refine sg_iload_n dX1_tryFirst_123 rfl ?_
              refine sg_iload dX1_tryFirst_124 rfl ?_
              refine sg_astx a dX1_tryFirst_126 a21 rfl (by omega) (by decide) (fun M2 x2 g2 => ?_)
              have b17 := (x2.2 17 (by decide)).trans a17
              have b22 := (x2.2 22 (by decide)).trans a22
              refine sg_aload_n dX1_tryFirst_127 rfl ?_
              refine sg_get dX1_tryFirst_128 fl_X1_28 (by first | rfl | assumption) rfl ?_
              refine sg_iload_n dX1_tryFirst_131 rfl ?_
              refine sg_iload_n dX1_tryFirst_132 rfl ?_
              refine sg_astx a dX1_tryFirst_133 b22 rfl (by omega) (by decide) (fun M3 x3 g3 => ?_)
              rw [sm_updd] at g1 g2 g3
              have x := (x1.mono (ys := [20, 21, 22]) (by decide)).tr ((x2.mono (by decide)).tr (x3.mono (by decide)))
              refine sg_return dX1_tryFirst_134 rfl (Nat.le_of_ble_eq_true rfl) (Nat.le_of_ble_eq_true rfl) ?_
              exact ⟨rfl, x, (x.2 17 (by decide)).trans h17, (x.2 18 (by decide)).trans h18, (x.2 19 (by decide)).trans h19, (x3.2 20 (by decide)).trans ((x2.2 20 (by decide)).trans g1), (x3.2 21 (by decide)).trans g2, g3⟩
          have non : ¬ (cw < w ∨ (w = cw ∧ z ≤ cp)) → sm_G l b D cA yX1_tryFirst cX1_tryFirst 8 none 3 0 0 (fun r M1 => r = none ∧ sm_ex M M1 [20, 21, 22] ∧ sm_hp M1 sz fb fgo (upd fw a (if cw < w ∨ (w = cw ∧ z ≤ cp) then (w, z, nI k) else (cw, cp, cf)).1) (upd fp a (if cw < w ∨ (w = cw ∧ z ≤ cp) then (w, z, nI k) else (cw, cp, cf)).2.1) (upd ff a (if cw < w ∨ (w = cw ∧ z ≤ cp) then (w, z, nI k) else (cw, cp, cf)).2.2)) 0 0 103 [some (.ref 17), some (.ref 3), some (.int (nI a)), some (.int (nI k)), some (.int (nI (a + k))), some (.int w), some (.int z), none] [] M := fun hb => by
            rw [if_neg hb]
            refine sg_iconst 0 dX1_tryFirst_103 (by decide) ?_
            refine sg_istore dX1_tryFirst_104 (by decide) ?_
            refine sg_iload dX1_tryFirst_106 rfl ?_
            refine sg_if_eq 134 dX1_tryFirst_108 (by decide) (fun c => ?_) (fun c => ?_)
            · refine sg_return dX1_tryFirst_134 rfl (Nat.le_of_ble_eq_true rfl) (Nat.le_of_ble_eq_true rfl) ?_
              exact ⟨rfl, sm_ex.rf, h17, h18, h19, h20, h21, h22⟩
            · exact absurd rfl c
          refine sg_icmp_gt 99 dX1_tryFirst_74 (by decide) (fun c2 => ?_) (fun c2 => ?_)
          · exact fin (Or.inl c2)
          · refine sg_iload dX1_tryFirst_77 rfl ?_
            refine sg_aload_n dX1_tryFirst_79 rfl ?_
            refine sg_get dX1_tryFirst_80 fl_X1_22 (by first | rfl | assumption) rfl ?_
            refine sg_iload_n dX1_tryFirst_83 rfl ?_
            refine sg_ald a dX1_tryFirst_84 h20 rfl (by omega) (by decide) ?_
            rw [sm_upeq]
            refine sg_icmp_ne 103 dX1_tryFirst_85 (by decide) (fun c3 => ?_) (fun c3 => ?_)
            · exact non (fun q => q.elim c2 (fun q => c3 q.1))
            · refine sg_iload dX1_tryFirst_88 rfl ?_
              refine sg_aload_n dX1_tryFirst_90 rfl ?_
              refine sg_get dX1_tryFirst_91 fl_X1_25 (by first | rfl | assumption) rfl ?_
              refine sg_iload_n dX1_tryFirst_94 rfl ?_
              refine sg_ald a dX1_tryFirst_95 h21 rfl (by omega) (by decide) ?_
              rw [sm_upeq]
              refine sg_icmp_gt 103 dX1_tryFirst_96 (by decide) (fun c4 => ?_) (fun c4 => ?_)
              · exact non (fun q => q.elim c2 (fun q => absurd q.2 (Int32.not_le.mpr c4)))
              · exact fin (Or.inr ⟨c3, Int32.not_lt.mp c4⟩)
        · rw [Int32.le_iff_toInt_le, nI_toInt (by omega), ti_60] at c
          exact absurd (by omega) c
/-- the first part's lengths from t on, at place a -/
theorem lp_plan1 {sz a : Nat} {G : Nat → Nat} {fb fgo fw fp ff r1 r2 r3 r4 : Nat → Int32} {fame : Int32} {Post : Option Value → sm_M → Prop} (ha : a < sz) (hs : sz ≤ 60) (hG : ∀ p, p < sz → G p < 5 ∧ fgo p = nI (G p)) (hr : sm_rates M r1 r2 r3 r4 fame)
    (hP : ∀ M1 : sm_M, sm_ex M M1 [20, 21, 22] → sm_hp M1 sz fb fgo (upd fw a (sm_inn (fun a k => sm_wbl r1 r2 r3 r4 (G (a + k - 1)) (nI k)) fw fp a (sz - a)).1) (upd fp a (sm_inn (fun a k => sm_wbl r1 r2 r3 r4 (G (a + k - 1)) (nI k)) fw fp a (sz - a)).2.1) (upd ff a (sm_inn (fun a k => sm_wbl r1 r2 r3 r4 (G (a + k - 1)) (nI k)) fw fp a (sz - a)).2.2) → sm_G l b D cA yX1_plan cX1_plan 4 none 4 0 0 Post 0 0 59 [some (.ref 17), some (.ref 3), some (.int (nI a)), some (.int (nI (sz - a + 1)))] [] M1) :
    ∀ (r t : Nat) (M1 : sm_M), a + t + r = sz → sm_ex M M1 [20, 21, 22] → sm_hp M1 sz fb fgo (upd fw a (sm_inn (fun a k => sm_wbl r1 r2 r3 r4 (G (a + k - 1)) (nI k)) fw fp a t).1) (upd fp a (sm_inn (fun a k => sm_wbl r1 r2 r3 r4 (G (a + k - 1)) (nI k)) fw fp a t).2.1) (upd ff a (sm_inn (fun a k => sm_wbl r1 r2 r3 r4 (G (a + k - 1)) (nI k)) fw fp a t).2.2) →
      sm_G l b D cA yX1_plan cX1_plan 4 none 4 0 0 Post 0 0 30 [some (.ref 17), some (.ref 3), some (.int (nI a)), some (.int (nI (t + 1)))] [] M1 := by
  intro r
  induction r with
  | zero =>
    intro t M1 ht hx h
    have e : t = sz - a := by omega
    subst e
    obtain ⟨h17, h18, h19, h20, h21, h22⟩ := id h
    refine sg_iload_n dX1_plan_30 rfl ?_
    refine sg_bipush 80 dX1_plan_31 (by decide) ?_
    refine sg_icmp_gt 59 dX1_plan_33 (by decide) (fun c => ?_) (fun c => ?_)
    · rw [Int32.lt_iff_toInt_lt, nI_toInt (by omega), ti_80] at c
      exact absurd c (by omega)
    · refine sg_iload_n dX1_plan_36 rfl ?_
      refine sg_iload_n dX1_plan_37 rfl ?_
      refine sg_iadd dX1_plan_38 ?_
      refine sg_aload_n dX1_plan_39 rfl ?_
      refine sg_get dX1_plan_40 fl_X1_15 (by first | rfl | assumption) rfl ?_
      refine sg_icmp_gt 59 dX1_plan_43 (by decide) (fun c => ?_) (fun c => ?_)
      · exact hP M1 hx h
      · rw [nI_add] at c
        exact absurd (nI_lt (by omega) (by omega)) c
  | succ r ih =>
    intro t M1 ht hx h
    obtain ⟨h17, h18, h19, h20, h21, h22⟩ := id h
    refine sg_iload_n dX1_plan_30 rfl ?_
    refine sg_bipush 80 dX1_plan_31 (by decide) ?_
    refine sg_icmp_gt 59 dX1_plan_33 (by decide) (fun c => ?_) (fun c => ?_)
    · rw [Int32.lt_iff_toInt_lt, nI_toInt (by omega), ti_80] at c
      exact absurd c (by omega)
    · refine sg_iload_n dX1_plan_36 rfl ?_
      refine sg_iload_n dX1_plan_37 rfl ?_
      refine sg_iadd dX1_plan_38 ?_
      refine sg_aload_n dX1_plan_39 rfl ?_
      refine sg_get dX1_plan_40 fl_X1_15 (by first | rfl | assumption) rfl ?_
      refine sg_icmp_gt 59 dX1_plan_43 (by decide) (fun c => ?_) (fun c => ?_)
      · rw [nI_add] at c
        exact absurd c (nI_nlt (by omega) (by omega))
      · refine sg_aload_n dX1_plan_46 rfl ?_
        refine sg_aload_n dX1_plan_47 rfl ?_
        refine sg_iload_n dX1_plan_48 rfl ?_
        refine sg_iload_n dX1_plan_49 rfl ?_
        refine sg_V3 dX1_plan_50 cv_X1_42 h17 (c_tryFirst (a := a) (k := t + 1) (j := G (a + (t + 1) - 1)) rfl rfl (by omega) (by omega) hs (hG _ (by omega)).1 (hG _ (by omega)).2 (hr.ex hx (by decide)) h) (Nat.le_of_ble_eq_true rfl) (Nat.le_of_ble_eq_true rfl) (Nat.le_of_ble_eq_true rfl) (Nat.le_of_ble_eq_true rfl) (fun r9 M9 hp => ?_)
        obtain ⟨rfl, hx9, h9⟩ := hp
        refine sg_iinc _ dX1_plan_53 rfl (sm_inc (t + 1)) (by decide) ?_
        refine sg_goto 30 dX1_plan_56 (by decide) ?_
        exact ih (t + 1) M9 (by omega) (hx.tr hx9) h9
/-- from the end to the front: r places are done -/
theorem lp_plan2 {sz : Nat} {G : Nat → Nat} {fb fgo fw fp ff r1 r2 r3 r4 : Nat → Int32} {fame : Int32} {Post : Option Value → sm_M → Prop} (hs : sz ≤ 60) (hG : ∀ p, p < sz → G p < 5 ∧ fgo p = nI (G p)) (hr : sm_rates M r1 r2 r3 r4 fame)
    (hP : ∀ M1 : sm_M, sm_ex M M1 [20, 21, 22] → sm_hp M1 sz fb fgo (sm_out (fun a k => sm_wbl r1 r2 r3 r4 (G (a + k - 1)) (nI k)) sz fw fp ff sz).1 (sm_out (fun a k => sm_wbl r1 r2 r3 r4 (G (a + k - 1)) (nI k)) sz fw fp ff sz).2.1 (sm_out (fun a k => sm_wbl r1 r2 r3 r4 (G (a + k - 1)) (nI k)) sz fw fp ff sz).2.2 → Post none M1) :
    ∀ (q r : Nat) (x : Option Value) (M1 : sm_M), r + q = sz → sm_ex M M1 [20, 21, 22] → sm_hp M1 sz fb fgo (sm_out (fun a k => sm_wbl r1 r2 r3 r4 (G (a + k - 1)) (nI k)) sz fw fp ff r).1 (sm_out (fun a k => sm_wbl r1 r2 r3 r4 (G (a + k - 1)) (nI k)) sz fw fp ff r).2.1 (sm_out (fun a k => sm_wbl r1 r2 r3 r4 (G (a + k - 1)) (nI k)) sz fw fp ff r).2.2 →
      sm_G l b D cA yX1_plan cX1_plan 4 none 4 0 0 Post 0 0 19 [some (.ref 17), some (.ref 3), some (.int (nI q - 1)), x] [] M1 := by
  intro q
  induction q with
  | zero =>
    intro r x M1 hrq hx h
    have e : r = sz := by omega
    subst e
    refine sg_iload_n dX1_plan_19 rfl ?_
    refine sg_if_lt 65 dX1_plan_20 (by decide) (fun c => ?_) (fun c => ?_)
    · refine sg_return dX1_plan_65 rfl (Nat.le_of_ble_eq_true rfl) (Nat.le_of_ble_eq_true rfl) ?_
      exact hP M1 hx h
    · exact absurd (by rw [nI_0]; decide) c
  | succ q ih =>
    intro r x M1 hrq hx h
    have hq : q = sz - (r + 1) := by omega
    obtain ⟨h17, h18, h19, h20, h21, h22⟩ := id h
    rw [nI_pred]
    refine sg_iload_n dX1_plan_19 rfl ?_
    refine sg_if_lt 65 dX1_plan_20 (by decide) (fun c => ?_) (fun c => ?_)
    · exact absurd c (nI_pos (by omega))
    · refine sg_aload_n dX1_plan_23 rfl ?_
      refine sg_iload_n dX1_plan_24 rfl ?_
      refine sg_V1 dX1_plan_25 cv_X1_38 h17 (c_clearFrom q rfl (by omega) h) (Nat.le_of_ble_eq_true rfl) (Nat.le_of_ble_eq_true rfl) (Nat.le_of_ble_eq_true rfl) (Nat.le_of_ble_eq_true rfl) (fun r9 M9 hp => ?_)
      obtain ⟨rfl, hx9, h9⟩ := hp
      refine sg_iconst 1 dX1_plan_28 (by decide) ?_
      refine sg_istore_n dX1_plan_29 (by decide) ?_
      refine lp_plan1 (M := M) (G := G) (a := q) (by omega) hs hG hr (fun M2 hx2 h2 => ?_) (sz - q) 0 M9 (by omega) (hx.tr hx9) h9
      have e2 : sz - q = r + 1 := by omega
      rw [e2, hq] at h2
      refine sg_iinc _ dX1_plan_59 rfl (show nI q + Int32.ofInt (-1) = nI q - 1 from by rw [Int32.sub_eq_add_neg]; rfl) (by decide) ?_
      refine sg_goto 19 dX1_plan_62 (by decide) ?_
      exact ih (r + 1) _ M2 (by omega) hx2 h2
end SM26
end
section
/-! the heap: its row, the plan, a part's length -/
def sm_go (fl : Nat → Nat) (sz : Nat) (i : Int32) : Nat → Nat → Nat → Nat
  | 0, _, p => p
  | r + 1, t, p => if nI t < i ∧ p < sz then sm_go fl sz i r (t + 1) (p + fl p) else p
section SM27
variable {l : Launch} {b : Nat} {D : va_G} {cA : Nat → ClassId} {M : sm_M}
theorem lp_lay {sz p0 g : Nat} {hb G : Nat → Nat} {fw fp ff : Nat → Int32} {Post : Option Value → sm_M → Prop} (hg : g < 5) (hs : p0 + hb g ≤ 60) (hG : ∀ p, p0 ≤ p → p < p0 + hb g → G p = g)
    (hP : ∀ (M1 : sm_M) (f : Nat → Int32), sm_ex M M1 [19] → sm_hp M1 sz (fun j => nI (hb j)) f fw fp ff → (∀ p, p < p0 + hb g → f p = nI (G p)) → sm_G l b D cA yX1_layRow cX1_layRow 4 none 0 0 0 Post 0 0 42 [some (.ref 17), some (.int (nI (p0 + hb g))), some (.int (nI g)), some (.int (nI (hb g)))] [] M1) :
    ∀ (r t : Nat) (M1 : sm_M) (f : Nat → Int32), t + r = hb g → sm_ex M M1 [19] → sm_hp M1 sz (fun j => nI (hb j)) f fw fp ff → (∀ p, p < p0 + t → f p = nI (G p)) → sm_G l b D cA yX1_layRow cX1_layRow 4 none 0 0 0 Post 0 0 10 [some (.ref 17), some (.int (nI (p0 + t))), some (.int (nI g)), some (.int (nI t))] [] M1 := by
  intro r
  induction r with
  | zero =>
    intro t M1 f ht hx h hf
    have e : t = hb g := by omega
    subst e
    obtain ⟨h17, h18, h19, h20, h21, h22⟩ := id h
    refine sg_iload_n dX1_layRow_10 rfl ?_
    refine sg_aload_n dX1_layRow_11 rfl ?_
    refine sg_get dX1_layRow_12 fl_X1_9 (by first | rfl | assumption) rfl ?_
    refine sg_iload_n dX1_layRow_15 rfl ?_
    refine sg_ald (g) dX1_layRow_16 (by first | rfl | assumption) (rfl) (hg) (by decide) ?_
    refine sg_icmp_ge 42 dX1_layRow_17 (by decide) (fun c => ?_) (fun c => ?_)
    · exact hP M1 f hx h hf
    · exact absurd (nI_le (Nat.le_refl _) (by omega)) c
  | succ r ih =>
    intro t M1 f ht hx h hf
    obtain ⟨h17, h18, h19, h20, h21, h22⟩ := id h
    refine sg_iload_n dX1_layRow_10 rfl ?_
    refine sg_aload_n dX1_layRow_11 rfl ?_
    refine sg_get dX1_layRow_12 fl_X1_9 (by first | rfl | assumption) rfl ?_
    refine sg_iload_n dX1_layRow_15 rfl ?_
    refine sg_ald (g) dX1_layRow_16 (by first | rfl | assumption) (rfl) (hg) (by decide) ?_
    refine sg_icmp_ge 42 dX1_layRow_17 (by decide) (fun c => ?_) (fun c => ?_)
    · exact absurd c (nI_ge (by omega) (by omega))
    · refine sg_iload_n dX1_layRow_20 rfl ?_
      refine sg_bipush 60 dX1_layRow_21 (by decide) ?_
      refine sg_icmp_ge 42 dX1_layRow_23 (by decide) (fun c => ?_) (fun c => ?_)
      · rw [Int32.le_iff_toInt_le, nI_toInt (by omega), ti_60] at c
        exact absurd c (by omega)
      · refine sg_aload_n dX1_layRow_26 rfl ?_
        refine sg_get dX1_layRow_27 fl_X1_19 (by first | rfl | assumption) rfl ?_
        refine sg_iload_n dX1_layRow_30 rfl ?_
        refine sg_iload_n dX1_layRow_31 rfl ?_
        refine sg_astx (p0 + t) dX1_layRow_32 h19 rfl (by omega) (by decide) (fun M2 x2 g2 => ?_)
        refine sg_iinc _ dX1_layRow_33 rfl (sm_inc (p0 + t)) (by decide) ?_
        refine sg_iinc _ dX1_layRow_36 rfl (sm_inc t) (by decide) ?_
        refine sg_goto 10 dX1_layRow_39 (by decide) ?_
        refine ih (t + 1) M2 _ (by omega) (hx.tr x2) ⟨(x2.2 17 (by decide)).trans h17, (x2.2 18 (by decide)).trans h18, g2, (x2.2 20 (by decide)).trans h20, (x2.2 21 (by decide)).trans h21, (x2.2 22 (by decide)).trans h22⟩ (fun p hp => ?_)
        by_cases hpe : p = p0 + t
        · subst hpe
          rw [sm_upeq, hG _ (by omega) (by omega)]
        · rw [sm_upne _ _ hpe]
          exact hf p (by omega)
theorem lay_one {sz p0 g : Nat} {hb G : Nat → Nat} {fw fp ff : Nat → Int32} {Post : Option Value → sm_M → Prop} (hg : g < 5) (hs : p0 + hb g ≤ 60) (hG : ∀ p, p0 ≤ p → p < p0 + hb g → G p = g)
    (hP : ∀ (M1 : sm_M) (f : Nat → Int32) (x : Option Value), sm_ex M M1 [19] → sm_hp M1 sz (fun j => nI (hb j)) f fw fp ff → (∀ p, p < p0 + hb g → f p = nI (G p)) → sm_G l b D cA yX1_layRow cX1_layRow 4 none 0 0 0 Post 0 0 4 [some (.ref 17), some (.int (nI (p0 + hb g))), some (.int (nI g + Int32.ofInt (-1))), x] [] M1)
    (M1 : sm_M) (f : Nat → Int32) (x : Option Value) (hx : sm_ex M M1 [19]) (h : sm_hp M1 sz (fun j => nI (hb j)) f fw fp ff) (hf : ∀ p, p < p0 → f p = nI (G p)) : sm_G l b D cA yX1_layRow cX1_layRow 4 none 0 0 0 Post 0 0 4 [some (.ref 17), some (.int (nI p0)), some (.int (nI g)), x] [] M1 := by
  refine sg_iload_n dX1_layRow_4 rfl ?_
  refine sg_if_lt 48 dX1_layRow_5 (by decide) (fun c => ?_) (fun c => ?_)
  · exact absurd c (nI_pos (by omega))
  · refine sg_iconst (nI 0) dX1_layRow_8 (by decide) ?_
    refine sg_istore_n dX1_layRow_9 (by decide) ?_
    refine lp_lay (M := M) (p0 := p0) (g := g) (G := G) hg hs hG (fun M2 f2 x2 h2 hf2 => ?_) (hb g) 0 M1 f (by omega) hx h hf
    refine sg_iinc _ dX1_layRow_42 rfl rfl (by decide) ?_
    refine sg_goto 4 dX1_layRow_45 (by decide) ?_
    exact hP M2 f2 _ x2 h2 hf2
theorem c_layRow {sz : Nat} {hb : Nat → Nat} {fgo fw fp ff : Nat → Int32} (hsz : sz = hb 0 + hb 1 + hb 2 + hb 3 + hb 4) (hs : sz ≤ 60) (h : sm_hp M sz (fun j => nI (hb j)) fgo fw fp ff) : sm_Ct l b D cA yX1_layRow cX1_layRow 4 none 0 0 0 [.ref 17] M (fun r M1 => r = none ∧ sm_ex M M1 [19] ∧ ∃ f : Nat → Int32, sm_hp M1 sz (fun j => nI (hb j)) f fw fp ff ∧ ∀ p, p < sz → f p = nI (sm_gr hb p)) := by
  refine sm_enter (by decide +kernel) rfl (fun _ => Nat.le_of_ble_eq_true rfl) ?_
  refine sg_iconst (nI 0) dX1_layRow_0 (by decide) ?_
  refine sg_istore_n dX1_layRow_1 (by decide) ?_
  refine sg_iconst (nI 4) dX1_layRow_2 (by decide) ?_
  refine sg_istore_n dX1_layRow_3 (by decide) ?_
  refine lay_one (M := M) (sz := sz) (p0 := 0) (g := 4) (hb := hb) (G := sm_gr hb) (fw := fw) (fp := fp) (ff := ff) (by decide) (by omega) (fun p h1 h2 => by unfold sm_gr; rw [if_pos (by omega)]) (fun M1 f1 x1 e1 h1 hf1 => ?_) M fgo _ sm_ex.rf h (fun p hp => absurd hp (by omega))
  rw [show nI 4 + Int32.ofInt (-1) = nI 3 from by decide]
  refine lay_one (M := M) (sz := sz) (p0 := 0 + hb 4) (g := 3) (hb := hb) (G := sm_gr hb) (fw := fw) (fp := fp) (ff := ff) (by decide) (by omega) (fun p h1 h2 => by unfold sm_gr; rw [if_neg (by omega), if_pos (by omega)]) (fun M1 f1 x1 e1 h1 hf1 => ?_) M1 f1 _ e1 h1 hf1
  rw [show nI 3 + Int32.ofInt (-1) = nI 2 from by decide]
  refine lay_one (M := M) (sz := sz) (p0 := 0 + hb 4 + hb 3) (g := 2) (hb := hb) (G := sm_gr hb) (fw := fw) (fp := fp) (ff := ff) (by decide) (by omega) (fun p h1 h2 => by unfold sm_gr; rw [if_neg (by omega), if_neg (by omega), if_pos (by omega)]) (fun M1 f1 x1 e1 h1 hf1 => ?_) M1 f1 _ e1 h1 hf1
  rw [show nI 2 + Int32.ofInt (-1) = nI 1 from by decide]
  refine lay_one (M := M) (sz := sz) (p0 := 0 + hb 4 + hb 3 + hb 2) (g := 1) (hb := hb) (G := sm_gr hb) (fw := fw) (fp := fp) (ff := ff) (by decide) (by omega) (fun p h1 h2 => by unfold sm_gr; rw [if_neg (by omega), if_neg (by omega), if_neg (by omega), if_pos (by omega)]) (fun M1 f1 x1 e1 h1 hf1 => ?_) M1 f1 _ e1 h1 hf1
  rw [show nI 1 + Int32.ofInt (-1) = nI 0 from by decide]
  refine lay_one (M := M) (sz := sz) (p0 := 0 + hb 4 + hb 3 + hb 2 + hb 1) (g := 0) (hb := hb) (G := sm_gr hb) (fw := fw) (fp := fp) (ff := ff) (by decide) (by omega) (fun p h1 h2 => by unfold sm_gr; rw [if_neg (by omega), if_neg (by omega), if_neg (by omega), if_neg (by omega)]) (fun M1 f1 x1 e1 h1 hf1 => ?_) M1 f1 _ e1 h1 hf1
  refine sg_iload_n dX1_layRow_4 rfl ?_
  refine sg_if_lt 48 dX1_layRow_5 (by decide) (fun c => ?_) (fun c => ?_)
  · refine sg_return dX1_layRow_48 rfl (Nat.le_of_ble_eq_true rfl) (Nat.le_of_ble_eq_true rfl) ?_
    exact ⟨rfl, e1, f1, h1, fun p hp => hf1 p (by omega)⟩
  · exact absurd (by decide) c
theorem sm_gr_lt (hb : Nat → Nat) (p : Nat) : sm_gr hb p < 5 := by
  unfold sm_gr
  repeat' split
  all_goals omega
/-- the plan: worth, parts and first length from each place on, as sm_out has them -/
theorem c_plan {sz : Nat} {hb : Nat → Nat} {fgo fw fp ff r1 r2 r3 r4 : Nat → Int32} {fame : Int32} (hsz : sz = hb 0 + hb 1 + hb 2 + hb 3 + hb 4) (hs : sz ≤ 60) (hr : sm_rates M r1 r2 r3 r4 fame) (h : sm_hp M sz (fun j => nI (hb j)) fgo fw fp ff) : sm_Ct l b D cA yX1_plan cX1_plan 4 none 4 0 0 [.ref 17, .ref 3] M (fun r M1 => r = none ∧ sm_ex M M1 [19, 20, 21, 22] ∧ ∃ f : Nat → Int32, sm_hp M1 sz (fun j => nI (hb j)) f (sm_out (fun a k => sm_wbl r1 r2 r3 r4 (sm_gr hb (a + k - 1)) (nI k)) sz fw fp ff sz).1 (sm_out (fun a k => sm_wbl r1 r2 r3 r4 (sm_gr hb (a + k - 1)) (nI k)) sz fw fp ff sz).2.1 (sm_out (fun a k => sm_wbl r1 r2 r3 r4 (sm_gr hb (a + k - 1)) (nI k)) sz fw fp ff sz).2.2) := by
  obtain ⟨h17, h18, h19, h20, h21, h22⟩ := id h
  refine sm_enter (by decide +kernel) rfl (fun _ => Nat.le_of_ble_eq_true rfl) ?_
  refine sg_aload_n dX1_plan_0 rfl ?_
  refine sg_V0 dX1_plan_1 cv_X1_35 h17 (c_layRow hsz hs h) (Nat.le_of_ble_eq_true rfl) (Nat.le_of_ble_eq_true rfl) (Nat.le_of_ble_eq_true rfl) (Nat.le_of_ble_eq_true rfl) (fun r9 M9 hp => ?_)
  obtain ⟨rfl, x9, f, h9, hf⟩ := hp
  have g17 := h9.1
  refine sg_aload_n dX1_plan_4 rfl ?_
  refine sg_aload_n dX1_plan_5 rfl ?_
  refine sg_get dX1_plan_6 fl_X1_15 (by first | rfl | assumption) rfl ?_
  refine sg_V1 dX1_plan_9 cv_X1_38 g17 (c_clearFrom sz rfl hs h9) (Nat.le_of_ble_eq_true rfl) (Nat.le_of_ble_eq_true rfl) (Nat.le_of_ble_eq_true rfl) (Nat.le_of_ble_eq_true rfl) (fun r8 M8 hp => ?_)
  obtain ⟨rfl, x8, h8⟩ := hp
  have k17 := h8.1
  refine sg_aload_n dX1_plan_12 rfl ?_
  refine sg_get dX1_plan_13 fl_X1_15 (by first | rfl | assumption) rfl ?_
  refine sg_iconst 1 dX1_plan_16 (by decide) ?_
  refine sg_isub dX1_plan_17 ?_
  refine sg_istore_n dX1_plan_18 (by decide) ?_
  exact lp_plan2 (M := M9) (G := sm_gr hb) (fw := fw) (fp := fp) (ff := ff) hs (fun p hp => ⟨sm_gr_lt hb p, hf p hp⟩) (hr.ex x9 (by decide)) (fun M1 hx1 h1 => ⟨rfl, (x9.mono (by decide)).tr (hx1.mono (by decide)), f, h1⟩) sz 0 _ M8 (by omega) x8 h8
theorem lp_lengthOfPart {sz : Nat} {fl : Nat → Nat} {fb fgo fw fp ff : Nat → Int32} {i : Int32} {Post : Option Value → sm_M → Prop} (hs : sz ≤ 60) (hfl : ∀ p, p < sz → ff p = nI (fl p) ∧ p + fl p ≤ sz) (h : sm_hp M sz fb fgo fw fp ff) :
    ∀ (r t p : Nat), t + r = 60 → p ≤ sz → (∀ x : Option Value, sm_G l b D cA yX1_lengthOfPart cX1_lengthOfPart 4 (some .int) 1 0 0 Post 0 0 38 [some (.ref 17), some (.int i), some (.int (nI (sm_go fl sz i r t p))), x] [] M) → sm_G l b D cA yX1_lengthOfPart cX1_lengthOfPart 4 (some .int) 1 0 0 Post 0 0 4 [some (.ref 17), some (.int i), some (.int (nI p)), some (.int (nI t))] [] M := by
  obtain ⟨h17, h18, h19, h20, h21, h22⟩ := id h
  intro r
  induction r with
  | zero =>
    intro t p ht hp hP
    have e : t = 60 := by omega
    subst e
    refine sg_iload_n dX1_lengthOfPart_4 rfl ?_
    refine sg_iload_n dX1_lengthOfPart_5 rfl ?_
    refine sg_icmp_ge 38 dX1_lengthOfPart_6 (by decide) (fun c => ?_) (fun c => ?_)
    · exact hP _
    · refine sg_iload_n dX1_lengthOfPart_9 rfl ?_
      refine sg_bipush 60 dX1_lengthOfPart_10 (by decide) ?_
      refine sg_icmp_ge 38 dX1_lengthOfPart_12 (by decide) (fun c => ?_) (fun c => ?_)
      · exact hP _
      · exact absurd (by decide) c
  | succ r ih =>
    intro t p ht hp hP
    unfold sm_go at hP
    refine sg_iload_n dX1_lengthOfPart_4 rfl ?_
    refine sg_iload_n dX1_lengthOfPart_5 rfl ?_
    refine sg_icmp_ge 38 dX1_lengthOfPart_6 (by decide) (fun c => ?_) (fun c => ?_)
    · rw [if_neg (fun q => absurd c (Int32.not_le.mpr q.1))] at hP
      exact hP _
    · refine sg_iload_n dX1_lengthOfPart_9 rfl ?_
      refine sg_bipush 60 dX1_lengthOfPart_10 (by decide) ?_
      refine sg_icmp_ge 38 dX1_lengthOfPart_12 (by decide) (fun c2 => ?_) (fun c2 => ?_)
      · rw [Int32.le_iff_toInt_le, nI_toInt (by omega), ti_60] at c2
        exact absurd c2 (by omega)
      · refine sg_iload_n dX1_lengthOfPart_15 rfl ?_
        refine sg_aload_n dX1_lengthOfPart_16 rfl ?_
        refine sg_get dX1_lengthOfPart_17 fl_X1_15 (by first | rfl | assumption) rfl ?_
        refine sg_icmp_ge 38 dX1_lengthOfPart_20 (by decide) (fun c3 => ?_) (fun c3 => ?_)
        · rw [Int32.le_iff_toInt_le, nI_toInt (by omega), nI_toInt (by omega)] at c3
          rw [if_neg (fun q => absurd q.2 (by omega))] at hP
          exact hP _
        · rw [Int32.le_iff_toInt_le, nI_toInt (by omega), nI_toInt (by omega)] at c3
          have hlt : p < sz := by omega
          rw [if_pos ⟨Int32.not_le.mp c, hlt⟩] at hP
          refine sg_iload_n dX1_lengthOfPart_23 rfl ?_
          refine sg_aload_n dX1_lengthOfPart_24 rfl ?_
          refine sg_get dX1_lengthOfPart_25 fl_X1_28 (by first | rfl | assumption) rfl ?_
          refine sg_iload_n dX1_lengthOfPart_28 rfl ?_
          refine sg_ald (p) dX1_lengthOfPart_29 (by first | rfl | assumption) (rfl) (by omega) (by decide) ?_
          refine sg_iadd dX1_lengthOfPart_30 ?_
          rw [(hfl p hlt).1, nI_add]
          refine sg_istore_n dX1_lengthOfPart_31 (by decide) ?_
          refine sg_iinc _ dX1_lengthOfPart_32 rfl (sm_inc t) (by decide) ?_
          refine sg_goto 4 dX1_lengthOfPart_35 (by decide) ?_
          exact ih (t + 1) (p + fl p) (by omega) (hfl p hlt).2 hP
theorem sm_go_le {sz : Nat} {fl : Nat → Nat} {i : Int32} (hfl : ∀ p, p < sz → p + fl p ≤ sz) : ∀ (r t p : Nat), p ≤ sz → sm_go fl sz i r t p ≤ sz
  | 0, _, _, h => h
  | r + 1, t, p, h => by
    unfold sm_go
    by_cases c : nI t < i ∧ p < sz
    · rw [if_pos c]
      exact sm_go_le hfl r (t + 1) (p + fl p) (hfl p c.2)
    · rw [if_neg c]
      exact h
theorem c_lengthOfPart {sz : Nat} {fl : Nat → Nat} {fb fgo fw fp ff : Nat → Int32} (i : Int32) (hs : sz ≤ 60) (hfl : ∀ p, p < sz → ff p = nI (fl p) ∧ p + fl p ≤ sz) (h : sm_hp M sz fb fgo fw fp ff) : sm_Ct l b D cA yX1_lengthOfPart cX1_lengthOfPart 4 (some .int) 1 0 0 [.ref 17, .int i] M (fun r M1 => r = some (.int (if ¬ i < 0 ∧ i < fp 0 ∧ sm_go fl sz i 60 0 0 < sz then nI (fl (sm_go fl sz i 60 0 0)) else -1)) ∧ M1 = M) := by
  obtain ⟨h17, h18, h19, h20, h21, h22⟩ := id h
  have hgo := sm_go_le (i := i) (fun p hp => (hfl p hp).2) 60 0 0 (Nat.zero_le sz)
  generalize hP0 : sm_go fl sz i 60 0 0 = P at hgo ⊢
  refine sm_enter (by decide +kernel) rfl (fun _ => Nat.le_of_ble_eq_true rfl) ?_
  refine sg_iconst (nI 0) dX1_lengthOfPart_0 (by decide) ?_
  refine sg_istore_n dX1_lengthOfPart_1 (by decide) ?_
  refine sg_iconst (nI 0) dX1_lengthOfPart_2 (by decide) ?_
  refine sg_istore_n dX1_lengthOfPart_3 (by decide) ?_
  refine lp_lengthOfPart hs hfl h 60 0 0 (by omega) (by omega) (fun x => ?_)
  rw [hP0]
  refine sg_iload_n dX1_lengthOfPart_38 rfl ?_
  refine sg_if_lt 67 dX1_lengthOfPart_39 (by decide) (fun c => ?_) (fun c => ?_)
  · refine sg_iconst (-1) dX1_lengthOfPart_67 (by decide) ?_
    refine sg_ireturn dX1_lengthOfPart_68 rfl (Nat.le_of_ble_eq_true rfl) (Nat.le_of_ble_eq_true rfl) ?_
    exact ⟨by rw [if_neg (fun q => q.1 c)], rfl⟩
  · refine sg_iload_n dX1_lengthOfPart_42 rfl ?_
    refine sg_aload_n dX1_lengthOfPart_43 rfl ?_
    refine sg_V0 dX1_lengthOfPart_44 cv_X1_52 h17 (c_bestParts h) (Nat.le_of_ble_eq_true rfl) (Nat.le_of_ble_eq_true rfl) (Nat.le_of_ble_eq_true rfl) (Nat.le_of_ble_eq_true rfl) (fun r9 M9 hp => ?_)
    obtain ⟨rfl, e9⟩ := hp
    rw [e9]
    refine sg_icmp_ge 67 dX1_lengthOfPart_47 (by decide) (fun c2 => ?_) (fun c2 => ?_)
    · refine sg_iconst (-1) dX1_lengthOfPart_67 (by decide) ?_
      refine sg_ireturn dX1_lengthOfPart_68 rfl (Nat.le_of_ble_eq_true rfl) (Nat.le_of_ble_eq_true rfl) ?_
      exact ⟨by rw [if_neg (fun q => absurd c2 (Int32.not_le.mpr q.2.1))], rfl⟩
    · refine sg_iload_n dX1_lengthOfPart_50 rfl ?_
      refine sg_aload_n dX1_lengthOfPart_51 rfl ?_
      refine sg_get dX1_lengthOfPart_52 fl_X1_15 (by first | rfl | assumption) rfl ?_
      refine sg_icmp_ge 67 dX1_lengthOfPart_55 (by decide) (fun c3 => ?_) (fun c3 => ?_)
      · rw [Int32.le_iff_toInt_le, nI_toInt (by omega), nI_toInt (by omega)] at c3
        refine sg_iconst (-1) dX1_lengthOfPart_67 (by decide) ?_
        refine sg_ireturn dX1_lengthOfPart_68 rfl (Nat.le_of_ble_eq_true rfl) (Nat.le_of_ble_eq_true rfl) ?_
        exact ⟨by rw [if_neg (fun q => absurd q.2.2 (by omega))], rfl⟩
      · rw [Int32.le_iff_toInt_le, nI_toInt (by omega), nI_toInt (by omega)] at c3
        refine sg_aload_n dX1_lengthOfPart_58 rfl ?_
        refine sg_get dX1_lengthOfPart_59 fl_X1_28 (by first | rfl | assumption) rfl ?_
        refine sg_iload_n dX1_lengthOfPart_62 rfl ?_
        refine sg_ald (P) dX1_lengthOfPart_63 (by first | rfl | assumption) (rfl) (by omega) (by decide) ?_
        refine sg_goto 68 dX1_lengthOfPart_64 (by decide) ?_
        refine sg_ireturn dX1_lengthOfPart_68 rfl (Nat.le_of_ble_eq_true rfl) (Nat.le_of_ble_eq_true rfl) ?_
        exact ⟨by rw [if_pos ⟨c, Int32.not_le.mp c2, by omega⟩, (hfl P (by omega)).1], rfl⟩
end SM27
end
section
/-! the purse: choose -/
/-- the sum of w over the bits of s below n -/
def sm_ws (w : Nat → Nat) (s : Nat) : Nat → Nat
  | 0 => 0
  | k + 1 => sm_ws w s k + (if s.testBit k then w k else 0)
def sm_pre (w : Nat → Nat) : Nat → Nat
  | 0 => 0
  | k + 1 => sm_pre w k + w k
theorem sm_odd : ∀ s : Nat, 0 < s → ∃ t m, s = 2 ^ t * (2 * m + 1) := by
  intro s
  induction s using Nat.strongRecOn with
  | ind s ih =>
    intro h
    by_cases h2 : s % 2 = 1
    · exact ⟨0, s / 2, by omega⟩
    · obtain ⟨t, m, e⟩ := ih (s / 2) (by omega) (by omega)
      refine ⟨t + 1, m, ?_⟩
      rw [Nat.pow_succ, Nat.mul_comm (2 ^ t) 2, Nat.mul_assoc, ← e]
      omega
theorem sm_bits {s t m : Nat} (e : s = 2 ^ t * (2 * m + 1)) (k : Nat) : s.testBit k = (if k < t then false else if k = t then true else m.testBit (k - t - 1)) ∧ (s - 1).testBit k = (if k < t then true else if k = t then false else m.testBit (k - t - 1)) := by
  have hp : 0 < 2 ^ t := Nat.two_pow_pos t
  have e1 : s = 2 ^ t * (2 * m + 1) + 0 := by omega
  have e2 : s - 1 = 2 ^ t * (2 * m) + (2 ^ t - 1) := by
    rw [e, Nat.mul_add, Nat.mul_one]
    omega
  have o1 : ∀ j, (2 * m + 1).testBit (j + 1) = m.testBit j := fun j => by
    rw [Nat.testBit_add_one]
    congr 1
    omega
  have o2 : ∀ j, (2 * m).testBit (j + 1) = m.testBit j := fun j => by
    rw [Nat.testBit_add_one]
    congr 1
    omega
  rw [e2, e1, Nat.testBit_two_pow_mul_add _ hp, Nat.testBit_two_pow_mul_add _ (show 2 ^ t - 1 < 2 ^ t by omega)]
  by_cases h : k < t
  · rw [if_pos h, if_pos h, if_pos h, if_pos h, Nat.testBit_two_pow_sub_one]
    exact ⟨by simp, by simp [h]⟩
  · rw [if_neg h, if_neg h, if_neg h, if_neg h]
    by_cases h2 : k = t
    · rw [if_pos h2, if_pos h2, h2, Nat.sub_self, Nat.testBit_zero, Nat.testBit_zero]
      exact ⟨by simp, by simp⟩
    · rw [if_neg h2, if_neg h2]
      have hk : k - t = (k - t - 1) + 1 := by omega
      rw [hk, o1, o2]
      exact ⟨rfl, rfl⟩
theorem sm_ws_step (w : Nat → Nat) {s t m : Nat} (e : s = 2 ^ t * (2 * m + 1)) : ∀ k, (k ≤ t → sm_ws w s k = 0 ∧ sm_ws w (s - 1) k = sm_pre w k) ∧ (t < k → sm_ws w s k + sm_pre w t = sm_ws w (s - 1) k + w t ∧ sm_pre w t ≤ sm_ws w (s - 1) k)
  | 0 => ⟨fun _ => ⟨rfl, rfl⟩, fun h => absurd h (by omega)⟩
  | k + 1 => by
    obtain ⟨i1, i2⟩ := sm_ws_step w e k
    obtain ⟨b1, b2⟩ := sm_bits e k
    refine ⟨fun h => ?_, fun h => ?_⟩
    · obtain ⟨j1, j2⟩ := i1 (by omega)
      rw [if_pos (by omega)] at b1 b2
      simp [sm_ws, sm_pre, b1, b2, j1, j2]
    · by_cases hk : k = t
      · obtain ⟨j1, j2⟩ := i1 (by omega)
        rw [if_neg (by omega), if_pos hk] at b1 b2
        subst hk
        simp [sm_ws, b1, b2, j1, j2]
        omega
      · obtain ⟨j1, j2⟩ := i2 (by omega)
        rw [if_neg (by omega), if_neg hk] at b1 b2
        simp only [sm_ws, b1, b2]
        omega
theorem sm_pre_mono (w : Nat → Nat) {a b : Nat} (h : a ≤ b) : sm_pre w a ≤ sm_pre w b := by
  induction b with
  | zero => rw [show a = 0 by omega]; exact Nat.le_refl _
  | succ b ih =>
    by_cases hb : a = b + 1
    · rw [hb]; exact Nat.le_refl _
    · exact Nat.le_trans (ih (by omega)) (by show _ ≤ sm_pre w b + w b; omega)
theorem sm_pre1 : ∀ k, sm_pre (fun _ => 1) k = k
  | 0 => rfl
  | k + 1 => by
    show sm_pre (fun _ => 1) k + 1 = k + 1
    rw [sm_pre1 k]
theorem sm_smod : ∀ j, j < 13 → ((nI j &&& 31).toBitVec.smod 32).toNat = j := by decide +kernel
theorem sm_shl : ∀ n, n < 13 → (1 : Int32) <<< (nI n &&& 31) = nI (2 ^ n) := by decide +kernel
theorem sm_bit {s j : Nat} (hs : s < 2 ^ 31) (hj : j < 13) : (nI s >>> (nI j &&& 31)) &&& 1 = if s.testBit j then 1 else 0 := by
  have h2 : s / 2 ^ j ≤ s := Nat.div_le_self _ _
  rw [pk_shrN hs _ j (sm_smod j hj), pk_andN (by omega) 1 (by decide), Nat.testBit_eq_decide_div_mod_eq]
  rcases Nat.mod_two_eq_zero_or_one (s / 2 ^ j) with h | h
  · rw [show (2 : Nat) ^ 1 = 2 from rfl, h]
    decide
  · rw [show (2 : Nat) ^ 1 = 2 from rfl, h]
    decide
/-- the set chosen among the first s -/
def sm_pick (w : Nat → Nat) (n : Nat) (sum : Int32) : Nat → Int32 × Int32 × Int32
  | 0 => (0, 0, -1)
  | s + 1 => if sum ≤ nI (sm_ws w (s + 1) n) ∧ ((sm_pick w n sum s).2.2 = -1 ∨ nI (sm_ws w (s + 1) n) < (sm_pick w n sum s).2.2 ∨ (nI (sm_ws w (s + 1) n) = (sm_pick w n sum s).2.2 ∧ nI (sm_ws (fun _ => 1) (s + 1) n) < (sm_pick w n sum s).2.1)) then (nI (s + 1), nI (sm_ws (fun _ => 1) (s + 1) n), nI (sm_ws w (s + 1) n)) else sm_pick w n sum s
section SM28
variable {l : Launch} {b : Nat} {D : va_G} {cA : Nat → ClassId} {M : sm_M}
theorem lp_ch1 {n t s A B : Nat} {tot ch cs cw sum : Int32} {fn : Nat → Int32} {w : Nat → Nat} {Post : Option Value → sm_M → Prop} (hn : n ≤ 12) (ht : t < n) (hs : s < 2 ^ 12) (hz : ∀ k, k < t → s.testBit k = false) (h1 : s.testBit t = true) (hA : sm_pre w t ≤ A) (hB : t ≤ B) {fw : Nat → Int32} (hw : ∀ k, k < n → fw k = nI (w k)) (h : sm_pu M n tot ch cs cw fn fw)
    (hP : sm_G l b D cA yX2_choose cX2_choose 6 none 1 0 0 Post 0 0 60 [some (.ref 13), some (.int sum), some (.int (nI (A - sm_pre w t))), some (.int (nI (B - t))), some (.int (nI s)), some (.int (nI t))] [] M) :
    ∀ (r j : Nat), j + r = t → sm_G l b D cA yX2_choose cX2_choose 6 none 1 0 0 Post 0 0 21 [some (.ref 13), some (.int sum), some (.int (nI (A - sm_pre w j))), some (.int (nI (B - j))), some (.int (nI s)), some (.int (nI j))] [] M := by
  obtain ⟨h13, h14, h15⟩ := id h
  intro r
  induction r with
  | zero =>
    intro j hj
    have e : j = t := by omega
    subst e
    refine sg_iload dX2_choose_21 rfl ?_
    refine sg_aload_n dX2_choose_23 rfl ?_
    refine sg_get dX2_choose_24 fl_X2_18 (by first | rfl | assumption) rfl ?_
    refine sg_iconst 1 dX2_choose_27 (by decide) ?_
    refine sg_isub dX2_choose_28 ?_
    refine sg_icmp_ge 60 dX2_choose_29 (by decide) (fun c => ?_) (fun c => ?_)
    · exact hP
    · refine sg_iload dX2_choose_32 rfl ?_
      refine sg_iload dX2_choose_34 rfl ?_
      refine sg_ishr dX2_choose_36 ?_
      refine sg_iconst 1 dX2_choose_37 (by decide) ?_
      refine sg_iand dX2_choose_38 ?_
      rw [sm_bit (by omega) (by omega), h1, if_pos rfl]
      refine sg_if_ne 60 dX2_choose_39 (by decide) (fun c2 => ?_) (fun c2 => ?_)
      · exact hP
      · exact absurd c2 (by decide)
  | succ r ih =>
    intro j hj
    have hpm := sm_pre_mono w (show j + 1 ≤ t by omega)
    have hps : sm_pre w (j + 1) = sm_pre w j + w j := rfl
    refine sg_iload dX2_choose_21 rfl ?_
    refine sg_aload_n dX2_choose_23 rfl ?_
    refine sg_get dX2_choose_24 fl_X2_18 (by first | rfl | assumption) rfl ?_
    refine sg_iconst 1 dX2_choose_27 (by decide) ?_
    refine sg_isub dX2_choose_28 ?_
    refine sg_icmp_ge 60 dX2_choose_29 (by decide) (fun c => ?_) (fun c => ?_)
    · rw [show (1 : Int32) = nI 1 from by decide, pk_sub (by omega)] at c
      exact absurd c (nI_ge (by omega) (by omega))
    · refine sg_iload dX2_choose_32 rfl ?_
      refine sg_iload dX2_choose_34 rfl ?_
      refine sg_ishr dX2_choose_36 ?_
      refine sg_iconst 1 dX2_choose_37 (by decide) ?_
      refine sg_iand dX2_choose_38 ?_
      rw [sm_bit (by omega) (by omega), hz j (by omega), if_neg (by decide)]
      refine sg_if_ne 60 dX2_choose_39 (by decide) (fun c2 => ?_) (fun c2 => ?_)
      · exact absurd rfl c2
      · refine sg_iload_n dX2_choose_42 rfl ?_
        refine sg_aload_n dX2_choose_43 rfl ?_
        refine sg_iload dX2_choose_44 rfl ?_
        refine sg_V1 dX2_choose_46 cv_X2_34 h13 (c_worthAt j rfl (by omega) hn h) (Nat.le_of_ble_eq_true rfl) (Nat.le_of_ble_eq_true rfl) (Nat.le_of_ble_eq_true rfl) (Nat.le_of_ble_eq_true rfl) (fun r9 M9 hp => ?_)
        obtain ⟨rfl, e9⟩ := hp
        rw [e9]
        refine sg_isub dX2_choose_49 ?_
        rw [hw j (by omega), pk_sub (by omega), show A - sm_pre w j - w j = A - sm_pre w (j + 1) from by omega]
        refine sg_istore_n dX2_choose_50 (by decide) ?_
        refine sg_iinc _ dX2_choose_51 rfl (show nI (B - j) + Int32.ofInt (-1) = nI (B - (j + 1)) from by rw [show B - j = (B - (j + 1)) + 1 from by omega]; exact pk_m1 _) (by decide) ?_
        refine sg_iinc _ dX2_choose_54 rfl (sm_inc j) (by decide) ?_
        refine sg_goto 21 dX2_choose_57 (by decide) ?_
        exact ih (j + 1) (by omega)
theorem lp_ch2 {n : Nat} {tot sum : Int32} {fn fw : Nat → Int32} {w : Nat → Nat} {Post : Option Value → sm_M → Prop} (hn : n ≤ 12) (hw : ∀ k, k < n → fw k = nI (w k))
    (hP : ∀ M1 : sm_M, sm_ex M M1 [13] → sm_pu M1 n tot (sm_pick w n sum (2 ^ n - 1)).1 (sm_pick w n sum (2 ^ n - 1)).2.1 (sm_pick w n sum (2 ^ n - 1)).2.2 fn fw → Post none M1) :
    ∀ (r s : Nat) (x : Option Value) (M1 : sm_M), s + 1 + r = 2 ^ n → sm_ex M M1 [13] → sm_pu M1 n tot (sm_pick w n sum s).1 (sm_pick w n sum s).2.1 (sm_pick w n sum s).2.2 fn fw → sm_G l b D cA yX2_choose cX2_choose 6 none 1 0 0 Post 0 0 7 [some (.ref 13), some (.int sum), some (.int (nI (sm_ws w s n))), some (.int (nI (sm_ws (fun _ => 1) s n))), some (.int (nI (s + 1))), x] [] M1 := by
  have h12 : 2 ^ n ≤ 2 ^ 12 := Nat.pow_le_pow_right (by decide) hn
  intro r
  induction r with
  | zero =>
    intro s x M1 hs hx h
    have e : s = 2 ^ n - 1 := by omega
    obtain ⟨h13, h14, h15⟩ := id h
    refine sg_iload dX2_choose_7 rfl ?_
    refine sg_iconst 1 dX2_choose_9 (by decide) ?_
    refine sg_aload_n dX2_choose_10 rfl ?_
    refine sg_get dX2_choose_11 fl_X2_18 (by first | rfl | assumption) rfl ?_
    refine sg_ishl dX2_choose_14 ?_
    rw [sm_shl n (by omega)]
    refine sg_icmp_ge 108 dX2_choose_15 (by decide) (fun c => ?_) (fun c => ?_)
    · refine sg_return dX2_choose_108 rfl (Nat.le_of_ble_eq_true rfl) (Nat.le_of_ble_eq_true rfl) ?_
      rw [e] at h
      exact hP M1 hx h
    · exact absurd (nI_le (by omega) (by omega)) c
  | succ r ih =>
    intro s x M1 hs hx h
    obtain ⟨h13, h14, h15⟩ := id h
    obtain ⟨t, m, e⟩ := sm_odd (s + 1) (by omega)
    have htn : t < n := by
      rcases Nat.lt_or_ge t n with q | q
      · exact q
      · have h1 : 2 ^ n ≤ 2 ^ t := Nat.pow_le_pow_right (by decide) q
        have h2 : 2 ^ t * 1 ≤ 2 ^ t * (2 * m + 1) := Nat.mul_le_mul_left _ (by omega)
        omega
    obtain ⟨w1, w2⟩ := (sm_ws_step w e n).2 htn
    obtain ⟨c1, c2⟩ := (sm_ws_step (fun _ => 1) e n).2 htn
    rw [sm_pre1] at c1 c2
    simp only [Nat.add_sub_cancel] at w1 w2 c1 c2
    have ih2 := ih (s + 1)
    unfold sm_pick at ih2
    refine sg_iload dX2_choose_7 rfl ?_
    refine sg_iconst 1 dX2_choose_9 (by decide) ?_
    refine sg_aload_n dX2_choose_10 rfl ?_
    refine sg_get dX2_choose_11 fl_X2_18 (by first | rfl | assumption) rfl ?_
    refine sg_ishl dX2_choose_14 ?_
    rw [sm_shl n (by omega)]
    refine sg_icmp_ge 108 dX2_choose_15 (by decide) (fun c => ?_) (fun c => ?_)
    · exact absurd c (nI_ge (by omega) (by omega))
    · refine sg_iconst (nI 0) dX2_choose_18 (by decide) ?_
      refine sg_istore dX2_choose_19 (by decide) ?_
      refine lp_ch1 (A := sm_ws w s n) (B := sm_ws (fun _ => 1) s n) (t := t) hn htn (by omega) (fun k hk => ?_) ?_ w2 c2 hw h ?_ t 0 (by omega)
      · rw [(sm_bits e k).1, if_pos hk]
      · rw [(sm_bits e t).1, if_neg (by omega), if_pos rfl]
      · refine sg_iload_n dX2_choose_60 rfl ?_
        refine sg_aload_n dX2_choose_61 rfl ?_
        refine sg_iload dX2_choose_62 rfl ?_
        refine sg_V1 dX2_choose_64 cv_X2_34 h13 (c_worthAt t rfl htn hn h) (Nat.le_of_ble_eq_true rfl) (Nat.le_of_ble_eq_true rfl) (Nat.le_of_ble_eq_true rfl) (Nat.le_of_ble_eq_true rfl) (fun r9 M9 hp => ?_)
        obtain ⟨rfl, e9⟩ := hp
        rw [e9]
        refine sg_iadd dX2_choose_67 ?_
        rw [hw t htn, nI_add, show sm_ws w s n - sm_pre w t + w t = sm_ws w (s + 1) n from by omega]
        refine sg_istore_n dX2_choose_68 (by decide) ?_
        refine sg_iinc (nI (sm_ws (fun _ => 1) (s + 1) n)) dX2_choose_69 rfl (by rw [show sm_ws (fun _ => 1) (s + 1) n = sm_ws (fun _ => 1) s n - t + 1 from by omega]; exact sm_inc _) (by decide) ?_
        refine sg_iload_n dX2_choose_72 rfl ?_
        refine sg_iload_n dX2_choose_73 rfl ?_
        refine sg_icmp_lt 102 dX2_choose_74 (by decide) (fun c3 => ?_) (fun c3 => ?_)
        · rw [if_neg (fun q => absurd q.1 (Int32.not_le.mpr c3))] at ih2
          refine sg_iinc _ dX2_choose_102 rfl (sm_inc (s + 1)) (by decide) ?_
          refine sg_goto 7 dX2_choose_105 (by decide) ?_
          exact ih2 _ M1 (by omega) hx h
        · refine sg_aload_n dX2_choose_77 rfl ?_
          refine sg_iload_n dX2_choose_78 rfl ?_
          refine sg_iload_n dX2_choose_79 rfl ?_
          refine sg_V2 dX2_choose_80 cv_X2_38 h13 (c_isBetter _ _ h) (Nat.le_of_ble_eq_true rfl) (Nat.le_of_ble_eq_true rfl) (Nat.le_of_ble_eq_true rfl) (Nat.le_of_ble_eq_true rfl) (fun r9 M9 hp => ?_)
          obtain ⟨⟨z, rfl, hz⟩, e9⟩ := hp
          unfold sm_bet at hz
          rw [e9]
          refine sg_if_eq 102 dX2_choose_83 (by decide) (fun c4 => ?_) (fun c4 => ?_)
          · rw [if_neg (fun q => hz.mp c4 q.2)] at ih2
            refine sg_iinc _ dX2_choose_102 rfl (sm_inc (s + 1)) (by decide) ?_
            refine sg_goto 7 dX2_choose_105 (by decide) ?_
            exact ih2 _ M1 (by omega) hx h
          · have hbet := Decidable.not_not.mp (fun q => c4 (hz.mpr q))
            rw [if_pos ⟨Int32.not_lt.mp c3, hbet⟩] at ih2
            refine sg_aload_n dX2_choose_86 rfl ?_
            refine sg_iload dX2_choose_87 rfl ?_
            refine sg_putx dX2_choose_89 fl_X2_25 ft_X2_4 h13 (Nat.le_of_ble_eq_true rfl) (fun M2 x2 q2 => ?_)
            refine sg_aload_n dX2_choose_92 rfl ?_
            refine sg_iload_n dX2_choose_93 rfl ?_
            refine sg_putx dX2_choose_94 fl_X2_28 ft_X2_5 q2 (Nat.le_of_ble_eq_true rfl) (fun M3 x3 q3 => ?_)
            refine sg_aload_n dX2_choose_97 rfl ?_
            refine sg_iload_n dX2_choose_98 rfl ?_
            refine sg_putx dX2_choose_99 fl_X2_31 ft_X2_6 q3 (Nat.le_of_ble_eq_true rfl) (fun M4 x4 q4 => ?_)
            have xx := x2.tr (x3.tr x4)
            refine sg_iinc _ dX2_choose_102 rfl (sm_inc (s + 1)) (by decide) ?_
            refine sg_goto 7 dX2_choose_105 (by decide) ?_
            exact ih2 _ M4 (by omega) (hx.tr xx) ⟨q4, (xx.2 14 (by decide)).trans h14, (xx.2 15 (by decide)).trans h15⟩
theorem sm_ws0 (w : Nat → Nat) : ∀ n, sm_ws w 0 n = 0
  | 0 => rfl
  | n + 1 => by
    show sm_ws w 0 n + _ = 0
    rw [sm_ws0 w n, Nat.zero_testBit, if_neg (by decide)]
theorem c_choose {n : Nat} {tot : Int32} {fn fw : Nat → Int32} {w : Nat → Nat} (sum : Int32) (hn : n ≤ 12) (hw : ∀ k, k < n → fw k = nI (w k)) (h : sm_pu M n tot 0 0 (-1) fn fw) : sm_Ct l b D cA yX2_choose cX2_choose 6 none 1 0 0 [.ref 13, .int sum] M (fun r M1 => r = none ∧ sm_ex M M1 [13] ∧ sm_pu M1 n tot (sm_pick w n sum (2 ^ n - 1)).1 (sm_pick w n sum (2 ^ n - 1)).2.1 (sm_pick w n sum (2 ^ n - 1)).2.2 fn fw) := by
  have hp2 : 0 < 2 ^ n := Nat.two_pow_pos n
  refine sm_enter (by decide +kernel) rfl (fun _ => Nat.le_of_ble_eq_true rfl) ?_
  refine sg_iconst (nI 0) dX2_choose_0 (by decide) ?_
  refine sg_istore_n dX2_choose_1 (by decide) ?_
  refine sg_iconst (nI 0) dX2_choose_2 (by decide) ?_
  refine sg_istore_n dX2_choose_3 (by decide) ?_
  refine sg_iconst (nI 1) dX2_choose_4 (by decide) ?_
  refine sg_istore dX2_choose_5 (by decide) ?_
  have h9 := lp_ch2 (l := l) (b := b) (D := D) (cA := cA) (M := M) (tot := tot) (sum := sum) (fn := fn) (fw := fw) (w := w) (Post := fun r M1 => r = none ∧ sm_ex M M1 [13] ∧ sm_pu M1 n tot (sm_pick w n sum (2 ^ n - 1)).1 (sm_pick w n sum (2 ^ n - 1)).2.1 (sm_pick w n sum (2 ^ n - 1)).2.2 fn fw) hn hw (fun M1 h1 h2 => ⟨rfl, h1, h2⟩) (2 ^ n - 1) 0 none M (by omega) sm_ex.rf h
  rw [sm_ws0, sm_ws0] at h9
  exact h9
end SM28
end
section
/-! ShellMoney: finding, keeping, names, worth -/
def sm_X (M : sm_M) (c dc : Nat) (cu it yr : Int32) (sa da : Nat → Option Nat) : Prop := M[0]? = some (sm_o 6 [.ref 1, .int (nI c), .ref 2, .ref 3, .ref 8, .ref 13, .ref 16, .int (nI dc), .ref 17, .int cu, .int it, .int yr]) ∧ M[1]? = some (sm_r 1 40 sa) ∧ M[16]? = some (sm_r 2 60 da)
theorem sm_X.ex {M M1 : sm_M} {c dc : Nat} {cu it yr : Int32} {sa da : Nat → Option Nat} {zs : List Nat} (h : sm_X M c dc cu it yr sa da) (hx : sm_ex M M1 zs) (hz : ∀ z ∈ [0, 1, 16], z ∉ zs) : sm_X M1 c dc cu it yr sa da := ⟨(hx.2 0 (hz 0 (by decide))).trans h.1, (hx.2 1 (hz 1 (by decide))).trans h.2.1, (hx.2 16 (hz 16 (by decide))).trans h.2.2⟩
/-- tales as one value -/
abbrev sm_T5 : Type := Nat × (Nat → Int32) × (Nat → Int32) × (Nat → Int32) × (Nat → Int32)
def sm_t5 (M : sm_M) (τ : sm_T5) : Prop := sm_tl M τ.1 τ.2.1 τ.2.2.1 τ.2.2.2.1 τ.2.2.2.2
def sm_say (nm kd nu yr : Int32) (τ : sm_T5) : sm_T5 := (τ.1 + 1, upd τ.2.1 τ.1 nm, upd τ.2.2.1 τ.1 kd, upd τ.2.2.2.1 τ.1 nu, upd τ.2.2.2.2 τ.1 yr)
def sm_sayIf (nm kd nu yr : Int32) (τ : sm_T5) : sm_T5 := if nm = 0 then τ else sm_say nm kd nu yr τ
theorem sm_t5.ex {M M1 : sm_M} {τ : sm_T5} {zs : List Nat} (h : sm_t5 M τ) (hx : sm_ex M M1 zs) (hz : ∀ z ∈ [8, 9, 10, 11, 12], z ∉ zs) : sm_t5 M1 τ := ⟨(hx.2 8 (hz 8 (by decide))).trans h.1, (hx.2 9 (hz 9 (by decide))).trans h.2.1, (hx.2 10 (hz 10 (by decide))).trans h.2.2.1, (hx.2 11 (hz 11 (by decide))).trans h.2.2.2.1, (hx.2 12 (hz 12 (by decide))).trans h.2.2.2.2⟩
theorem sm_le41 {q : Nat} (h : 41 ≤ q) : q ∉ [8, 9, 10, 11, 12] := by
  intro z
  simp only [List.mem_cons, List.not_mem_nil, or_false] at z
  omega
theorem sm_ge41 {z q : Nat} (h : 41 ≤ q) (hz : z < 41) : z ∉ [q] := by
  intro e
  have := List.mem_singleton.mp e
  omega
section SM30
variable {l : Launch} {b : Nat} {D : va_G} {cA : Nat → ClassId} {M : sm_M}
theorem c_areBeads (g m n : Int32) : sm_Ct l b D cA yX6_areBeads cX6_areBeads 3 (some .boolean) 1 0 0 [.int g, .int m, .int n] M (fun r M1 => r = some (.int (if (0 ≤ g.toInt ∧ g.toInt < 5) ∧ (0 ≤ m.toInt ∧ m.toInt < 10) ∧ (1 ≤ n.toInt ∧ n.toInt ≤ 80) then 1 else 0)) ∧ M1 = M) := by
  refine sm_enter (by decide +kernel) rfl (fun _ => Nat.le_of_ble_eq_true rfl) ?_
  refine sg_iload_n dX6_areBeads_0 rfl ?_
  refine sg_S1 dX6_areBeads_1 cs_X6_197 (c_isGrade _) (Nat.le_of_ble_eq_true rfl) (Nat.le_of_ble_eq_true rfl) (Nat.le_of_ble_eq_true rfl) (Nat.le_of_ble_eq_true rfl) (fun r M1 hp => ?_)
  obtain ⟨rfl, rfl⟩ := hp
  refine sg_bf_eq 32 dX6_areBeads_4 (by decide) (fun c => ?_) (fun c => ?_)
  · refine sg_iconst 0 dX6_areBeads_32 (by decide) ?_
    refine sg_zreturn dX6_areBeads_33 rfl (by first | decide | assumption) (Nat.le_of_ble_eq_true rfl) (Nat.le_of_ble_eq_true rfl) ?_
    exact ⟨by rw [if_neg (fun q => c q.1)], rfl⟩
  · refine sg_iload_n dX6_areBeads_7 rfl ?_
    refine sg_if_lt 32 dX6_areBeads_8 (by decide) (fun c_8 => ?_) (fun c_8 => ?_)
    · refine sg_iconst 0 dX6_areBeads_32 (by decide) ?_
      refine sg_zreturn dX6_areBeads_33 rfl (by first | decide | assumption) (Nat.le_of_ble_eq_true rfl) (Nat.le_of_ble_eq_true rfl) ?_
      exact ⟨by (try simp only [Int32.lt_iff_toInt_lt, Int32.le_iff_toInt_le, ← Int32.toInt_inj, ti_m2, ti_m1, ti_0, ti_1, ti_2, ti_3, ti_4, ti_5, ti_6, ti_7, ti_8, ti_9, ti_10, ti_11, ti_12, ti_16, ti_20, ti_25, ti_31, ti_40, ti_50, ti_60, ti_61, ti_63, ti_80, ti_99, ti_100, ti_200, ti_300, ti_500, ti_800, ti_1000, ti_3200, ti_10000, ti_1000000] at *) <;> (repeat split) <;> first | rfl | (exfalso; omega), rfl⟩
    · refine sg_iload_n dX6_areBeads_11 rfl ?_
      refine sg_bipush 10 dX6_areBeads_12 (by decide) ?_
      refine sg_icmp_ge 32 dX6_areBeads_14 (by decide) (fun c_14 => ?_) (fun c_14 => ?_)
      · refine sg_iconst 0 dX6_areBeads_32 (by decide) ?_
        refine sg_zreturn dX6_areBeads_33 rfl (by first | decide | assumption) (Nat.le_of_ble_eq_true rfl) (Nat.le_of_ble_eq_true rfl) ?_
        exact ⟨by (try simp only [Int32.lt_iff_toInt_lt, Int32.le_iff_toInt_le, ← Int32.toInt_inj, ti_m2, ti_m1, ti_0, ti_1, ti_2, ti_3, ti_4, ti_5, ti_6, ti_7, ti_8, ti_9, ti_10, ti_11, ti_12, ti_16, ti_20, ti_25, ti_31, ti_40, ti_50, ti_60, ti_61, ti_63, ti_80, ti_99, ti_100, ti_200, ti_300, ti_500, ti_800, ti_1000, ti_3200, ti_10000, ti_1000000] at *) <;> (repeat split) <;> first | rfl | (exfalso; omega), rfl⟩
      · refine sg_iload_n dX6_areBeads_17 rfl ?_
        refine sg_iconst 1 dX6_areBeads_18 (by decide) ?_
        refine sg_icmp_lt 32 dX6_areBeads_19 (by decide) (fun c_19 => ?_) (fun c_19 => ?_)
        · refine sg_iconst 0 dX6_areBeads_32 (by decide) ?_
          refine sg_zreturn dX6_areBeads_33 rfl (by first | decide | assumption) (Nat.le_of_ble_eq_true rfl) (Nat.le_of_ble_eq_true rfl) ?_
          exact ⟨by (try simp only [Int32.lt_iff_toInt_lt, Int32.le_iff_toInt_le, ← Int32.toInt_inj, ti_m2, ti_m1, ti_0, ti_1, ti_2, ti_3, ti_4, ti_5, ti_6, ti_7, ti_8, ti_9, ti_10, ti_11, ti_12, ti_16, ti_20, ti_25, ti_31, ti_40, ti_50, ti_60, ti_61, ti_63, ti_80, ti_99, ti_100, ti_200, ti_300, ti_500, ti_800, ti_1000, ti_3200, ti_10000, ti_1000000] at *) <;> (repeat split) <;> first | rfl | (exfalso; omega), rfl⟩
        · refine sg_iload_n dX6_areBeads_22 rfl ?_
          refine sg_bipush 80 dX6_areBeads_23 (by decide) ?_
          refine sg_icmp_gt 32 dX6_areBeads_25 (by decide) (fun c_25 => ?_) (fun c_25 => ?_)
          · refine sg_iconst 0 dX6_areBeads_32 (by decide) ?_
            refine sg_zreturn dX6_areBeads_33 rfl (by first | decide | assumption) (Nat.le_of_ble_eq_true rfl) (Nat.le_of_ble_eq_true rfl) ?_
            exact ⟨by (try simp only [Int32.lt_iff_toInt_lt, Int32.le_iff_toInt_le, ← Int32.toInt_inj, ti_m2, ti_m1, ti_0, ti_1, ti_2, ti_3, ti_4, ti_5, ti_6, ti_7, ti_8, ti_9, ti_10, ti_11, ti_12, ti_16, ti_20, ti_25, ti_31, ti_40, ti_50, ti_60, ti_61, ti_63, ti_80, ti_99, ti_100, ti_200, ti_300, ti_500, ti_800, ti_1000, ti_3200, ti_10000, ti_1000000] at *) <;> (repeat split) <;> first | rfl | (exfalso; omega), rfl⟩
          · refine sg_iconst 1 dX6_areBeads_28 (by decide) ?_
            refine sg_goto 33 dX6_areBeads_29 (by decide) ?_
            refine sg_zreturn dX6_areBeads_33 rfl (by first | decide | assumption) (Nat.le_of_ble_eq_true rfl) (Nat.le_of_ble_eq_true rfl) ?_
            exact ⟨by (try simp only [Int32.lt_iff_toInt_lt, Int32.le_iff_toInt_le, ← Int32.toInt_inj, ti_m2, ti_m1, ti_0, ti_1, ti_2, ti_3, ti_4, ti_5, ti_6, ti_7, ti_8, ti_9, ti_10, ti_11, ti_12, ti_16, ti_20, ti_25, ti_31, ti_40, ti_50, ti_60, ti_61, ti_63, ti_80, ti_99, ti_100, ti_200, ti_300, ti_500, ti_800, ti_1000, ti_3200, ti_10000, ti_1000000] at *) <;> (repeat split) <;> first | rfl | (exfalso; omega), rfl⟩
theorem c_strandAt_y {c dc : Nat} {cu it yr i : Int32} {sa da : Nat → Option Nat} {q : Nat} (k : Nat) (hi : i = nI k) (hk : k < c) (hc : c ≤ 40) (hq : sa k = some q) (h : sm_X M c dc cu it yr sa da) : sm_Ct l b D cA yX6_strandAt cX6_strandAt 2 (some (.object "ShellMoney$Strand")) 0 0 0 [.ref 0, .int i] M (fun r M1 => r = some (.ref q) ∧ M1 = M) := by
  subst hi
  obtain ⟨h0, h1, h16⟩ := h
  refine sm_enter (by decide +kernel) rfl (fun _ => Nat.le_of_ble_eq_true rfl) ?_
  refine sg_iload_n dX6_strandAt_0 rfl ?_
  refine sg_if_lt 21 dX6_strandAt_1 (by decide) (fun c1 => ?_) (fun c1 => ?_)
  · exact absurd c1 (nI_pos (by omega))
  · refine sg_iload_n dX6_strandAt_4 rfl ?_
    refine sg_aload_n dX6_strandAt_5 rfl ?_
    refine sg_get dX6_strandAt_6 fl_X6_15 (by first | rfl | assumption) rfl ?_
    refine sg_icmp_ge 21 dX6_strandAt_9 (by decide) (fun c2 => ?_) (fun c2 => ?_)
    · exact absurd c2 (nI_ge hk (by omega))
    · refine sg_iload_n dX6_strandAt_12 rfl ?_
      refine sg_aload_n dX6_strandAt_13 rfl ?_
      refine sg_get dX6_strandAt_14 fl_X6_11 (by first | rfl | assumption) rfl ?_
      refine sg_alenr dX6_strandAt_17 (by first | rfl | assumption) (by decide) ?_
      refine sg_icmp_lt 23 dX6_strandAt_18 (by decide) (fun c3 => ?_) (fun c3 => ?_)
      · refine sg_aload_n dX6_strandAt_23 rfl ?_
        refine sg_get dX6_strandAt_24 fl_X6_11 (by first | rfl | assumption) rfl ?_
        refine sg_iload_n dX6_strandAt_27 rfl ?_
        refine sg_aald (k) dX6_strandAt_28 (by first | rfl | assumption) (fun _ => rfl) (rfl) (by omega) (by decide) ?_
        refine sg_areturn dX6_strandAt_29 rfl (Nat.le_of_ble_eq_true rfl) (Nat.le_of_ble_eq_true rfl) ?_
        exact ⟨by rw [hq]; rfl, rfl⟩
      · exact absurd (nI_lt (by omega) (by omega)) c3
theorem c_strandAt_n {c dc : Nat} {cu it yr i : Int32} {sa da : Nat → Option Nat} (hc : c ≤ 40) (hn : ¬ (0 ≤ i.toInt ∧ i.toInt < c)) (h : sm_X M c dc cu it yr sa da) : sm_Ct l b D cA yX6_strandAt cX6_strandAt 2 (some (.object "ShellMoney$Strand")) 0 0 0 [.ref 0, .int i] M (fun r M1 => r = some .null ∧ M1 = M) := by
  obtain ⟨h0, h1, h16⟩ := h
  refine sm_enter (by decide +kernel) rfl (fun _ => Nat.le_of_ble_eq_true rfl) ?_
  refine sg_iload_n dX6_strandAt_0 rfl ?_
  refine sg_if_lt 21 dX6_strandAt_1 (by decide) (fun c1 => ?_) (fun c1 => ?_)
  · refine sg_null dX6_strandAt_21 ?_
    refine sg_areturn (r := none) dX6_strandAt_22 rfl (Nat.le_of_ble_eq_true rfl) (Nat.le_of_ble_eq_true rfl) ?_
    exact ⟨rfl, rfl⟩
  · simp only [Int32.lt_iff_toInt_lt, ti_0] at c1
    refine sg_iload_n dX6_strandAt_4 rfl ?_
    refine sg_aload_n dX6_strandAt_5 rfl ?_
    refine sg_get dX6_strandAt_6 fl_X6_15 (by first | rfl | assumption) rfl ?_
    refine sg_icmp_ge 21 dX6_strandAt_9 (by decide) (fun c2 => ?_) (fun c2 => ?_)
    · refine sg_null dX6_strandAt_21 ?_
      refine sg_areturn (r := none) dX6_strandAt_22 rfl (Nat.le_of_ble_eq_true rfl) (Nat.le_of_ble_eq_true rfl) ?_
      exact ⟨rfl, rfl⟩
    · rw [Int32.le_iff_toInt_le, nI_toInt (by omega)] at c2
      exact absurd ⟨by omega, by omega⟩ hn
theorem c_debtAt_y {c dc : Nat} {cu it yr i : Int32} {sa da : Nat → Option Nat} {q : Nat} (k : Nat) (hi : i = nI k) (hk : k < dc) (hc : dc ≤ 60) (hq : da k = some q) (h : sm_X M c dc cu it yr sa da) : sm_Ct l b D cA yX6_debtAt cX6_debtAt 2 (some (.object "ShellMoney$Debt")) 0 0 0 [.ref 0, .int i] M (fun r M1 => r = some (.ref q) ∧ M1 = M) := by
  subst hi
  obtain ⟨h0, h1, h16⟩ := h
  refine sm_enter (by decide +kernel) rfl (fun _ => Nat.le_of_ble_eq_true rfl) ?_
  refine sg_iload_n dX6_debtAt_0 rfl ?_
  refine sg_if_lt 21 dX6_debtAt_1 (by decide) (fun c1 => ?_) (fun c1 => ?_)
  · exact absurd c1 (nI_pos (by omega))
  · refine sg_iload_n dX6_debtAt_4 rfl ?_
    refine sg_aload_n dX6_debtAt_5 rfl ?_
    refine sg_get dX6_debtAt_6 fl_X6_50 (by first | rfl | assumption) rfl ?_
    refine sg_icmp_ge 21 dX6_debtAt_9 (by decide) (fun c2 => ?_) (fun c2 => ?_)
    · exact absurd c2 (nI_ge hk (by omega))
    · refine sg_iload_n dX6_debtAt_12 rfl ?_
      refine sg_aload_n dX6_debtAt_13 rfl ?_
      refine sg_get dX6_debtAt_14 fl_X6_46 (by first | rfl | assumption) rfl ?_
      refine sg_alenr dX6_debtAt_17 (by first | rfl | assumption) (by decide) ?_
      refine sg_icmp_lt 23 dX6_debtAt_18 (by decide) (fun c3 => ?_) (fun c3 => ?_)
      · refine sg_aload_n dX6_debtAt_23 rfl ?_
        refine sg_get dX6_debtAt_24 fl_X6_46 (by first | rfl | assumption) rfl ?_
        refine sg_iload_n dX6_debtAt_27 rfl ?_
        refine sg_aald (k) dX6_debtAt_28 (by first | rfl | assumption) (fun _ => rfl) (rfl) (by omega) (by decide) ?_
        refine sg_areturn dX6_debtAt_29 rfl (Nat.le_of_ble_eq_true rfl) (Nat.le_of_ble_eq_true rfl) ?_
        exact ⟨by rw [hq]; rfl, rfl⟩
      · exact absurd (nI_lt (by omega) (by omega)) c3
theorem c_debtAt_n {c dc : Nat} {cu it yr i : Int32} {sa da : Nat → Option Nat} (hc : dc ≤ 60) (hn : ¬ (0 ≤ i.toInt ∧ i.toInt < dc)) (h : sm_X M c dc cu it yr sa da) : sm_Ct l b D cA yX6_debtAt cX6_debtAt 2 (some (.object "ShellMoney$Debt")) 0 0 0 [.ref 0, .int i] M (fun r M1 => r = some .null ∧ M1 = M) := by
  obtain ⟨h0, h1, h16⟩ := h
  refine sm_enter (by decide +kernel) rfl (fun _ => Nat.le_of_ble_eq_true rfl) ?_
  refine sg_iload_n dX6_debtAt_0 rfl ?_
  refine sg_if_lt 21 dX6_debtAt_1 (by decide) (fun c1 => ?_) (fun c1 => ?_)
  · refine sg_null dX6_debtAt_21 ?_
    refine sg_areturn (r := none) dX6_debtAt_22 rfl (Nat.le_of_ble_eq_true rfl) (Nat.le_of_ble_eq_true rfl) ?_
    exact ⟨rfl, rfl⟩
  · simp only [Int32.lt_iff_toInt_lt, ti_0] at c1
    refine sg_iload_n dX6_debtAt_4 rfl ?_
    refine sg_aload_n dX6_debtAt_5 rfl ?_
    refine sg_get dX6_debtAt_6 fl_X6_50 (by first | rfl | assumption) rfl ?_
    refine sg_icmp_ge 21 dX6_debtAt_9 (by decide) (fun c2 => ?_) (fun c2 => ?_)
    · refine sg_null dX6_debtAt_21 ?_
      refine sg_areturn (r := none) dX6_debtAt_22 rfl (Nat.le_of_ble_eq_true rfl) (Nat.le_of_ble_eq_true rfl) ?_
      exact ⟨rfl, rfl⟩
    · rw [Int32.le_iff_toInt_le, nI_toInt (by omega)] at c2
      exact absurd ⟨by omega, by omega⟩ hn
theorem c_living_y {c dc q g m n : Nat} {cu it yr i ow nm : Int32} {sa da : Nat → Option Nat} (k : Nat) (hi : i = nI k) (hk : k < c) (hc : c ≤ 40) (hq : sa k = some q) (hs : M[q]? = some (sm_o 4 [.ref g, .ref m, .int (nI n), .int ow, .int nm])) (h1 : 1 ≤ n) (hn : n ≤ 80) (h : sm_X M c dc cu it yr sa da) : sm_Ct l b D cA yX6_livingStrand cX6_livingStrand 3 (some (.object "ShellMoney$Strand")) 1 0 0 [.ref 0, .int i] M (fun r M1 => r = some (.ref q) ∧ M1 = M) := by
  refine sm_enter (by decide +kernel) rfl (fun _ => Nat.le_of_ble_eq_true rfl) ?_
  refine sg_aload_n dX6_livingStrand_0 rfl ?_
  refine sg_iload_n dX6_livingStrand_1 rfl ?_
  refine sg_V1 dX6_livingStrand_2 cv_X6_143 h.1 (c_strandAt_y k hi hk hc hq h) (Nat.le_of_ble_eq_true rfl) (Nat.le_of_ble_eq_true rfl) (Nat.le_of_ble_eq_true rfl) (Nat.le_of_ble_eq_true rfl) (fun r9 M9 hp => ?_)
  obtain ⟨rfl, e9⟩ := hp
  rw [e9]
  refine sg_astore_n dX6_livingStrand_5 (by decide) ?_
  refine sg_aload_n dX6_livingStrand_6 rfl ?_
  refine sg_ifnull dX6_livingStrand_7 ?_
  refine sg_aload_n dX6_livingStrand_10 rfl ?_
  refine sg_get dX6_livingStrand_11 fl_X6_96 (by first | rfl | assumption) rfl ?_
  refine sg_if_ne 21 dX6_livingStrand_14 (by decide) (fun c1 => ?_) (fun c1 => ?_)
  · refine sg_aload_n dX6_livingStrand_21 rfl ?_
    refine sg_areturn (r := some q) dX6_livingStrand_22 rfl (Nat.le_of_ble_eq_true rfl) (Nat.le_of_ble_eq_true rfl) ?_
    exact ⟨rfl, rfl⟩
  · exact absurd c1 (nI_ne0 (by omega) (by omega))
theorem c_living_n1 {c dc : Nat} {cu it yr i : Int32} {sa da : Nat → Option Nat} (hc : c ≤ 40) (hn : ¬ (0 ≤ i.toInt ∧ i.toInt < c)) (h : sm_X M c dc cu it yr sa da) : sm_Ct l b D cA yX6_livingStrand cX6_livingStrand 3 (some (.object "ShellMoney$Strand")) 1 0 0 [.ref 0, .int i] M (fun r M1 => r = some .null ∧ M1 = M) := by
  refine sm_enter (by decide +kernel) rfl (fun _ => Nat.le_of_ble_eq_true rfl) ?_
  refine sg_aload_n dX6_livingStrand_0 rfl ?_
  refine sg_iload_n dX6_livingStrand_1 rfl ?_
  refine sg_V1 dX6_livingStrand_2 cv_X6_143 h.1 (c_strandAt_n hc hn h) (Nat.le_of_ble_eq_true rfl) (Nat.le_of_ble_eq_true rfl) (Nat.le_of_ble_eq_true rfl) (Nat.le_of_ble_eq_true rfl) (fun r9 M9 hp => ?_)
  obtain ⟨rfl, e9⟩ := hp
  rw [e9]
  refine sg_astore_nN dX6_livingStrand_5 (by decide) ?_
  refine sg_aload_nN dX6_livingStrand_6 rfl ?_
  refine sg_ifnullN 17 dX6_livingStrand_7 (by decide) ?_
  refine sg_null dX6_livingStrand_17 ?_
  refine sg_goto 22 dX6_livingStrand_18 (by decide) ?_
  refine sg_areturn (r := none) dX6_livingStrand_22 rfl (Nat.le_of_ble_eq_true rfl) (Nat.le_of_ble_eq_true rfl) ?_
  exact ⟨rfl, rfl⟩
theorem c_living_n2 {c dc q g m : Nat} {cu it yr i ow nm : Int32} {sa da : Nat → Option Nat} (k : Nat) (hi : i = nI k) (hk : k < c) (hc : c ≤ 40) (hq : sa k = some q) (hs : M[q]? = some (sm_o 4 [.ref g, .ref m, .int (nI 0), .int ow, .int nm])) (h : sm_X M c dc cu it yr sa da) : sm_Ct l b D cA yX6_livingStrand cX6_livingStrand 3 (some (.object "ShellMoney$Strand")) 1 0 0 [.ref 0, .int i] M (fun r M1 => r = some .null ∧ M1 = M) := by
  refine sm_enter (by decide +kernel) rfl (fun _ => Nat.le_of_ble_eq_true rfl) ?_
  refine sg_aload_n dX6_livingStrand_0 rfl ?_
  refine sg_iload_n dX6_livingStrand_1 rfl ?_
  refine sg_V1 dX6_livingStrand_2 cv_X6_143 h.1 (c_strandAt_y k hi hk hc hq h) (Nat.le_of_ble_eq_true rfl) (Nat.le_of_ble_eq_true rfl) (Nat.le_of_ble_eq_true rfl) (Nat.le_of_ble_eq_true rfl) (fun r9 M9 hp => ?_)
  obtain ⟨rfl, e9⟩ := hp
  rw [e9]
  refine sg_astore_n dX6_livingStrand_5 (by decide) ?_
  refine sg_aload_n dX6_livingStrand_6 rfl ?_
  refine sg_ifnull dX6_livingStrand_7 ?_
  refine sg_aload_n dX6_livingStrand_10 rfl ?_
  refine sg_get dX6_livingStrand_11 fl_X6_96 (by first | rfl | assumption) rfl ?_
  refine sg_if_ne 21 dX6_livingStrand_14 (by decide) (fun c1 => ?_) (fun c1 => ?_)
  · exact absurd nI_0 c1
  · refine sg_null dX6_livingStrand_17 ?_
    refine sg_goto 22 dX6_livingStrand_18 (by decide) ?_
    refine sg_areturn (r := none) dX6_livingStrand_22 rfl (Nat.le_of_ble_eq_true rfl) (Nat.le_of_ble_eq_true rfl) ?_
    exact ⟨rfl, rfl⟩
theorem c_keepStrand {c dc q : Nat} {cu it yr : Int32} {sa da : Nat → Option Nat} {fs : List Value} (hc : c < 40) (hq : M[q]? = some (sm_o 4 fs)) (h : sm_X M c dc cu it yr sa da) : sm_Ct l b D cA yX6_keepStrand cX6_keepStrand 2 (some .int) 0 0 0 [.ref 0, .ref q] M (fun r M1 => r = some (.int (nI c)) ∧ sm_ex M M1 [0, 1] ∧ sm_X M1 (c + 1) dc cu it yr (va_up sa c (some q)) da) := by
  obtain ⟨h0, h1, h16⟩ := h
  refine sm_enter (by decide +kernel) rfl (fun _ => Nat.le_of_ble_eq_true rfl) ?_
  refine sg_aload_n dX6_keepStrand_0 rfl ?_
  refine sg_get dX6_keepStrand_1 fl_X6_15 (by first | rfl | assumption) rfl ?_
  refine sg_aload_n dX6_keepStrand_4 rfl ?_
  refine sg_get dX6_keepStrand_5 fl_X6_11 (by first | rfl | assumption) rfl ?_
  refine sg_alenr dX6_keepStrand_8 (by first | rfl | assumption) (by decide) ?_
  refine sg_icmp_lt 14 dX6_keepStrand_9 (by decide) (fun c1 => ?_) (fun c1 => ?_)
  · refine sg_aload_n dX6_keepStrand_14 rfl ?_
    refine sg_get dX6_keepStrand_15 fl_X6_11 (by first | rfl | assumption) rfl ?_
    refine sg_aload_n dX6_keepStrand_18 rfl ?_
    refine sg_get dX6_keepStrand_19 fl_X6_15 (by first | rfl | assumption) rfl ?_
    refine sg_aload_n dX6_keepStrand_22 rfl ?_
    refine sg_aast c dX6_keepStrand_23 h1 (fun _ => rfl) hq rfl rfl hc (by decide) ?_
    have x1 : sm_ex M (M.set 1 (sm_r 1 40 (va_up sa c (some q)))) [1] := sm_ex.set
    have g1 := sm_gs (c := sm_r 1 40 (va_up sa c (some q))) h1
    generalize M.set 1 (sm_r 1 40 (va_up sa c (some q))) = M1 at x1 g1 ⊢
    have a0 := (x1.2 0 (by decide)).trans h0
    refine sg_aload_n dX6_keepStrand_24 rfl ?_
    refine sg_dup dX6_keepStrand_25 rfl ?_
    refine sg_get dX6_keepStrand_26 fl_X6_15 (by first | rfl | assumption) rfl ?_
    refine sg_iconst 1 dX6_keepStrand_29 (by decide) ?_
    refine sg_iadd dX6_keepStrand_30 ?_
    refine sg_putx dX6_keepStrand_31 fl_X6_15 ft_X6_1 a0 (Nat.le_of_ble_eq_true rfl) (fun M2 x2 q2 => ?_)
    have xx := (x1.mono (ys := [0, 1]) (by decide)).tr (x2.mono (by decide))
    rw [nI_1] at q2
    refine sg_aload_n dX6_keepStrand_34 rfl ?_
    refine sg_get dX6_keepStrand_35 fl_X6_15 (by first | rfl | assumption) rfl ?_
    refine sg_iconst 1 dX6_keepStrand_38 (by decide) ?_
    refine sg_isub dX6_keepStrand_39 ?_
    rw [nI_pred]
    refine sg_ireturn dX6_keepStrand_40 rfl (Nat.le_of_ble_eq_true rfl) (Nat.le_of_ble_eq_true rfl) ?_
    exact ⟨rfl, xx, q2, (x2.2 1 (by decide)).trans g1, (xx.2 16 (by decide)).trans h16⟩
  · exact absurd (nI_lt hc (by omega)) c1
theorem c_nameCount {q g m : Nat} {n ow nm : Int32} (hs : M[q]? = some (sm_o 4 [.ref g, .ref m, .int n, .int ow, .int nm])) : sm_Ct l b D cA yX6_nameCount cX6_nameCount 1 (some .int) 0 0 0 [.ref q] M (fun r M1 => r = some (.int (nI (if nm = 0 then 0 else 1))) ∧ M1 = M) := by
  refine sm_enter (by decide +kernel) rfl (fun _ => Nat.le_of_ble_eq_true rfl) ?_
  refine sg_aload_n dX6_nameCount_0 rfl ?_
  refine sg_get dX6_nameCount_1 fl_X6_112 (by first | rfl | assumption) rfl ?_
  refine sg_if_ne 11 dX6_nameCount_4 (by decide) (fun c => ?_) (fun c => ?_)
  · refine sg_iconst 1 dX6_nameCount_11 (by decide) ?_
    refine sg_ireturn dX6_nameCount_12 rfl (Nat.le_of_ble_eq_true rfl) (Nat.le_of_ble_eq_true rfl) ?_
    exact ⟨by rw [if_neg c]; rfl, rfl⟩
  · refine sg_iconst 0 dX6_nameCount_7 (by decide) ?_
    refine sg_goto 12 dX6_nameCount_8 (by decide) ?_
    refine sg_ireturn dX6_nameCount_12 rfl (Nat.le_of_ble_eq_true rfl) (Nat.le_of_ble_eq_true rfl) ?_
    exact ⟨by rw [if_pos c]; rfl, rfl⟩
theorem c_loseName {c dc q g m : Nat} {cu it yr n ow nm : Int32} {sa da : Nat → Option Nat} {τ : sm_T5} (h41 : 41 ≤ q) (hs : M[q]? = some (sm_o 4 [.ref g, .ref m, .int n, .int ow, .int nm])) (ht : sm_t5 M τ) (hz : nm = 0 ∨ τ.1 < 200) (h : sm_X M c dc cu it yr sa da) : sm_Ct l b D cA yX6_loseName cX6_loseName 2 none 1 0 0 [.ref 0, .ref q] M (fun r M1 => r = none ∧ sm_ex M M1 [q, 8, 9, 10, 11, 12] ∧ M1[q]? = some (sm_o 4 [.ref g, .ref m, .int n, .int ow, .int 0]) ∧ sm_t5 M1 (sm_sayIf nm 5 0 yr τ)) := by
  obtain ⟨h0, h1, h16⟩ := id h
  unfold sm_sayIf
  refine sm_enter (by decide +kernel) rfl (fun _ => Nat.le_of_ble_eq_true rfl) ?_
  refine sg_aload_n dX6_loseName_0 rfl ?_
  refine sg_get dX6_loseName_1 fl_X6_112 (by first | rfl | assumption) rfl ?_
  refine sg_if_eq 29 dX6_loseName_4 (by decide) (fun c1 => ?_) (fun c1 => ?_)
  · refine sg_return dX6_loseName_29 rfl (Nat.le_of_ble_eq_true rfl) (Nat.le_of_ble_eq_true rfl) ?_
    subst c1
    exact ⟨rfl, sm_ex.rf, hs, by rw [if_pos rfl]; exact ht⟩
  · refine sg_aload_n dX6_loseName_7 rfl ?_
    refine sg_get dX6_loseName_8 fl_X6_33 (by first | rfl | assumption) rfl ?_
    refine sg_aload_n dX6_loseName_11 rfl ?_
    refine sg_get dX6_loseName_12 fl_X6_112 (by first | rfl | assumption) rfl ?_
    refine sg_iconst 5 dX6_loseName_15 (by decide) ?_
    refine sg_iconst 0 dX6_loseName_16 (by decide) ?_
    refine sg_aload_n dX6_loseName_17 rfl ?_
    refine sg_get dX6_loseName_18 fl_X6_66 (by first | rfl | assumption) rfl ?_
    refine sg_V4 dX6_loseName_21 cv_X6_136 ht.1 (c_tell nm 5 0 yr (hz.elim (fun e => absurd e c1) id) ht) (Nat.le_of_ble_eq_true rfl) (Nat.le_of_ble_eq_true rfl) (Nat.le_of_ble_eq_true rfl) (Nat.le_of_ble_eq_true rfl) (fun r9 M9 hp => ?_)
    obtain ⟨rfl, x9, t9⟩ := hp
    have s9 := (x9.2 q (sm_le41 h41)).trans hs
    refine sg_aload_n dX6_loseName_24 rfl ?_
    refine sg_iconst 0 dX6_loseName_25 (by decide) ?_
    refine sg_putx dX6_loseName_26 fl_X6_112 ft_X4_4 s9 (Nat.le_of_ble_eq_true rfl) (fun M2 x2 q2 => ?_)
    refine sg_return dX6_loseName_29 rfl (Nat.le_of_ble_eq_true rfl) (Nat.le_of_ble_eq_true rfl) ?_
    refine ⟨rfl, (x9.mono (fun z hz => List.mem_cons_of_mem _ hz)).tr (x2.mono (fun z hz => by rw [List.mem_singleton.mp hz]; exact List.mem_cons_self)), q2, ?_⟩
    rw [if_neg c1]
    exact (show sm_t5 M9 (sm_say nm 5 0 yr τ) from t9).ex x2 (fun z hz => sm_ge41 h41 (by simp only [List.mem_cons, List.not_mem_nil, or_false] at hz; omega))
theorem c_handOver {c dc q g m : Nat} {cu it yr n ow nm : Int32} {sa da : Nat → Option Nat} {τ : sm_T5} (to : Int32) (h41 : 41 ≤ q) (hs : M[q]? = some (sm_o 4 [.ref g, .ref m, .int n, .int ow, .int nm])) (ht : sm_t5 M τ) (hz : nm = 0 ∨ τ.1 < 200) (h : sm_X M c dc cu it yr sa da) : sm_Ct l b D cA yX6_handOver cX6_handOver 3 none 1 0 0 [.ref 0, .ref q, .int to] M (fun r M1 => r = none ∧ sm_ex M M1 [q, 8, 9, 10, 11, 12] ∧ M1[q]? = some (sm_o 4 [.ref g, .ref m, .int n, .int to, .int nm]) ∧ sm_t5 M1 (sm_sayIf nm 2 to yr τ)) := by
  unfold sm_sayIf
  refine sm_enter (by decide +kernel) rfl (fun _ => Nat.le_of_ble_eq_true rfl) ?_
  refine sg_aload_n dX6_handOver_0 rfl ?_
  refine sg_iload_n dX6_handOver_1 rfl ?_
  refine sg_putx dX6_handOver_2 fl_X6_105 ft_X4_3 hs (Nat.le_of_ble_eq_true rfl) (fun M2 x2 q2 => ?_)
  have h2 := h.ex x2 (fun z hz => sm_ge41 h41 (by simp only [List.mem_cons, List.not_mem_nil, or_false] at hz; omega))
  have t2 := ht.ex x2 (fun z hz => sm_ge41 h41 (by simp only [List.mem_cons, List.not_mem_nil, or_false] at hz; omega))
  have x2' := x2.mono (ys := [q, 8, 9, 10, 11, 12]) (fun z hz => by rw [List.mem_singleton.mp hz]; exact List.mem_cons_self)
  obtain ⟨h0, h1, h16⟩ := id h2
  refine sg_aload_n dX6_handOver_5 rfl ?_
  refine sg_get dX6_handOver_6 fl_X6_112 (by first | rfl | assumption) rfl ?_
  refine sg_if_eq 29 dX6_handOver_9 (by decide) (fun c1 => ?_) (fun c1 => ?_)
  · refine sg_return dX6_handOver_29 rfl (Nat.le_of_ble_eq_true rfl) (Nat.le_of_ble_eq_true rfl) ?_
    exact ⟨rfl, x2', q2, by rw [if_pos c1]; exact t2⟩
  · refine sg_aload_n dX6_handOver_12 rfl ?_
    refine sg_get dX6_handOver_13 fl_X6_33 (by first | rfl | assumption) rfl ?_
    refine sg_aload_n dX6_handOver_16 rfl ?_
    refine sg_get dX6_handOver_17 fl_X6_112 (by first | rfl | assumption) rfl ?_
    refine sg_iconst 2 dX6_handOver_20 (by decide) ?_
    refine sg_iload_n dX6_handOver_21 rfl ?_
    refine sg_aload_n dX6_handOver_22 rfl ?_
    refine sg_get dX6_handOver_23 fl_X6_66 (by first | rfl | assumption) rfl ?_
    refine sg_V4 dX6_handOver_26 cv_X6_136 t2.1 (c_tell nm 2 to yr (hz.elim (fun e => absurd e c1) id) t2) (Nat.le_of_ble_eq_true rfl) (Nat.le_of_ble_eq_true rfl) (Nat.le_of_ble_eq_true rfl) (Nat.le_of_ble_eq_true rfl) (fun r9 M9 hp => ?_)
    obtain ⟨rfl, x9, t9⟩ := hp
    refine sg_return dX6_handOver_29 rfl (Nat.le_of_ble_eq_true rfl) (Nat.le_of_ble_eq_true rfl) ?_
    exact ⟨rfl, x2'.tr (x9.mono (fun z hz => List.mem_cons_of_mem _ hz)), (x9.2 q (sm_le41 h41)).trans q2, by rw [if_neg c1]; exact t9⟩
theorem c_worthOf {c dc q g m n j : Nat} {cu it yr ow nm fame : Int32} {sa da : Nat → Option Nat} {fg fm r1 r2 r3 r4 : Nat → Int32} (hn : n ≤ 80) (hl : 0 < n → sm_least fg 0 n = nI j ∧ j < 5) (hs : sm_st M q g m n fg fm ow nm) (hr : sm_rates M r1 r2 r3 r4 fame) (h : sm_X M c dc cu it yr sa da) : sm_Ct l b D cA yX6_worthOf cX6_worthOf 3 (some .int) 3 0 0 [.ref 0, .ref q] M (fun r M1 => r = some (.int (if n = 0 then 0 else sm_wbl r1 r2 r3 r4 j (nI n) + (if nm = 0 then 0 else fame))) ∧ M1 = M) := by
  obtain ⟨h0, h1, h16⟩ := id h
  obtain ⟨hq, hg, hm⟩ := id hs
  have h3 := hr.1
  have fin : 0 < n → ∀ (f : Int32), sm_G l b D cA yX6_worthOf cX6_worthOf 3 (some .int) 3 0 0 (fun r M1 => r = some (.int (sm_wbl r1 r2 r3 r4 j (nI n) + f)) ∧ M1 = M) 0 0 27 [some (.ref 0), some (.ref q), none] [.int f] M := fun hn0 f => by
    refine sg_istore_n dX6_worthOf_27 (by decide) ?_
    refine sg_aload_n dX6_worthOf_28 rfl ?_
    refine sg_get dX6_worthOf_29 fl_X6_26 (by first | rfl | assumption) rfl ?_
    refine sg_aload_n dX6_worthOf_32 rfl ?_
    refine sg_V0 dX6_worthOf_33 cv_X6_149 hq (c_leastGrade hn hs) (Nat.le_of_ble_eq_true rfl) (Nat.le_of_ble_eq_true rfl) (Nat.le_of_ble_eq_true rfl) (Nat.le_of_ble_eq_true rfl) (fun r9 M9 hp => ?_)
    obtain ⟨rfl, e9⟩ := hp
    rw [e9]
    refine sg_aload_n dX6_worthOf_36 rfl ?_
    refine sg_get dX6_worthOf_37 fl_X6_96 (by first | rfl | assumption) rfl ?_
    refine sg_V2 dX6_worthOf_40 cv_X6_281 h3 (c_worthByLength j _ (hl hn0).1 (hl hn0).2 hr) (Nat.le_of_ble_eq_true rfl) (Nat.le_of_ble_eq_true rfl) (Nat.le_of_ble_eq_true rfl) (Nat.le_of_ble_eq_true rfl) (fun r9 M9 hp => ?_)
    obtain ⟨rfl, e9⟩ := hp
    rw [e9]
    refine sg_iload_n dX6_worthOf_43 rfl ?_
    refine sg_iadd dX6_worthOf_44 ?_
    refine sg_ireturn dX6_worthOf_45 rfl (Nat.le_of_ble_eq_true rfl) (Nat.le_of_ble_eq_true rfl) ?_
    exact ⟨rfl, rfl⟩
  refine sm_enter (by decide +kernel) rfl (fun _ => Nat.le_of_ble_eq_true rfl) ?_
  refine sg_aload_n dX6_worthOf_0 rfl ?_
  refine sg_get dX6_worthOf_1 fl_X6_96 (by first | rfl | assumption) rfl ?_
  refine sg_if_ne 9 dX6_worthOf_4 (by decide) (fun c1 => ?_) (fun c1 => ?_)
  · have hn0 : 0 < n := by
      rcases Nat.eq_zero_or_pos n with e | e
      · rw [e] at c1
        exact absurd nI_0 c1
      · exact e
    rw [if_neg (show ¬ n = 0 by omega)]
    refine sg_aload_n dX6_worthOf_9 rfl ?_
    refine sg_get dX6_worthOf_10 fl_X6_112 (by first | rfl | assumption) rfl ?_
    refine sg_if_ne 20 dX6_worthOf_13 (by decide) (fun c2 => ?_) (fun c2 => ?_)
    · rw [if_neg c2]
      refine sg_aload_n dX6_worthOf_20 rfl ?_
      refine sg_get dX6_worthOf_21 fl_X6_26 (by first | rfl | assumption) rfl ?_
      refine sg_get dX6_worthOf_24 fl_X6_278 (by first | rfl | assumption) rfl ?_
      exact fin hn0 fame
    · rw [if_pos c2]
      refine sg_iconst 0 dX6_worthOf_16 (by decide) ?_
      refine sg_goto 27 dX6_worthOf_17 (by decide) ?_
      exact fin hn0 0
  · have hn0 : n = 0 := by
      rcases Nat.eq_zero_or_pos n with e | e
      · exact e
      · exact absurd c1 (nI_ne0 e (by omega))
    rw [if_pos hn0]
    refine sg_iconst 0 dX6_worthOf_7 (by decide) ?_
    refine sg_ireturn dX6_worthOf_8 rfl (Nat.le_of_ble_eq_true rfl) (Nat.le_of_ble_eq_true rfl) ?_
    exact ⟨rfl, rfl⟩
end SM30
end
section
/-! ShellMoney: what set() replaces; names of what is cut and joined -/
section SM31
variable {l : Launch} {b : Nat} {D : va_G} {cA : Nat → ClassId} {M : sm_M}
theorem c_replaced {q : Nat} {f : Nat → Int32} (g v lo hi : Int32) (hq : M[q]? = some (sm_i 5 f)) : sm_Ct l b D cA yX6_replaced cX6_replaced 6 (some .int) 0 0 0 [.ref q, .int g, .int v, .int lo, .int hi] M (fun r M1 => (((0 ≤ g.toInt ∧ g.toInt < 5) ∧ lo.toInt ≤ v.toInt ∧ v.toInt ≤ hi.toInt) → r = some (.int (f g.toInt.toNat)) ∧ M1 = M.set q (sm_i 5 (upd f g.toInt.toNat v))) ∧ (¬ ((0 ≤ g.toInt ∧ g.toInt < 5) ∧ lo.toInt ≤ v.toInt ∧ v.toInt ≤ hi.toInt) → r = some (.int (-1)) ∧ M1 = M)) := by
  refine sm_enter (by decide +kernel) rfl (fun _ => Nat.le_of_ble_eq_true rfl) ?_
  refine sg_iload_n dX6_replaced_0 rfl ?_
  refine sg_if_lt 21 dX6_replaced_1 (by decide) (fun c1 => ?_) (fun c1 => ?_)
  · simp only [Int32.lt_iff_toInt_lt, ti_0] at c1
    refine sg_iconst (-1) dX6_replaced_21 (by decide) ?_
    refine sg_ireturn dX6_replaced_22 rfl (Nat.le_of_ble_eq_true rfl) (Nat.le_of_ble_eq_true rfl) ?_
    exact ⟨fun q => absurd q (by omega), fun _ => ⟨rfl, rfl⟩⟩
  · simp only [Int32.lt_iff_toInt_lt, ti_0] at c1
    refine sg_iload_n dX6_replaced_4 rfl ?_
    refine sg_aload_n dX6_replaced_5 rfl ?_
    refine sg_alen dX6_replaced_6 (by first | rfl | assumption) ?_
    refine sg_icmp_ge 21 dX6_replaced_7 (by decide) (fun c2 => ?_) (fun c2 => ?_)
    · rw [Int32.le_iff_toInt_le, nI_toInt (by decide)] at c2
      refine sg_iconst (-1) dX6_replaced_21 (by decide) ?_
      refine sg_ireturn dX6_replaced_22 rfl (Nat.le_of_ble_eq_true rfl) (Nat.le_of_ble_eq_true rfl) ?_
      exact ⟨fun q => absurd q (by omega), fun _ => ⟨rfl, rfl⟩⟩
    · rw [Int32.le_iff_toInt_le, nI_toInt (by decide)] at c2
      refine sg_iload_n dX6_replaced_10 rfl ?_
      refine sg_iload_n dX6_replaced_11 rfl ?_
      refine sg_icmp_lt 21 dX6_replaced_12 (by decide) (fun c3 => ?_) (fun c3 => ?_)
      · rw [Int32.lt_iff_toInt_lt] at c3
        refine sg_iconst (-1) dX6_replaced_21 (by decide) ?_
        refine sg_ireturn dX6_replaced_22 rfl (Nat.le_of_ble_eq_true rfl) (Nat.le_of_ble_eq_true rfl) ?_
        exact ⟨fun q => absurd q (by omega), fun _ => ⟨rfl, rfl⟩⟩
      · rw [Int32.lt_iff_toInt_lt] at c3
        refine sg_iload_n dX6_replaced_15 rfl ?_
        refine sg_iload dX6_replaced_16 rfl ?_
        refine sg_icmp_le 23 dX6_replaced_18 (by decide) (fun c4 => ?_) (fun c4 => ?_)
        · rw [Int32.le_iff_toInt_le] at c4
          refine sg_aload_n dX6_replaced_23 rfl ?_
          refine sg_iload_n dX6_replaced_24 rfl ?_
          refine sg_ald (g.toInt.toNat) dX6_replaced_25 (by first | rfl | assumption) (sm_asN (by omega)) (by omega) (by decide) ?_
          refine sg_istore dX6_replaced_26 (by decide) ?_
          refine sg_aload_n dX6_replaced_28 rfl ?_
          refine sg_iload_n dX6_replaced_29 rfl ?_
          refine sg_iload_n dX6_replaced_30 rfl ?_
          refine sg_ast (g.toInt.toNat) dX6_replaced_31 (by first | rfl | assumption) (sm_asN (by omega)) (by omega) (by decide) ?_
          refine sg_iload dX6_replaced_32 rfl ?_
          refine sg_ireturn dX6_replaced_34 rfl (Nat.le_of_ble_eq_true rfl) (Nat.le_of_ble_eq_true rfl) ?_
          exact ⟨fun _ => ⟨rfl, rfl⟩, fun q => absurd ⟨⟨by omega, by omega⟩, by omega, by omega⟩ q⟩
        · rw [Int32.le_iff_toInt_le] at c4
          refine sg_iconst (-1) dX6_replaced_21 (by decide) ?_
          refine sg_ireturn dX6_replaced_22 rfl (Nat.le_of_ble_eq_true rfl) (Nat.le_of_ble_eq_true rfl) ?_
          exact ⟨fun q => absurd q (by omega), fun _ => ⟨rfl, rfl⟩⟩
theorem c_replacedFame {c dc : Nat} {cu it yr fame : Int32} {sa da : Nat → Option Nat} {r1 r2 r3 r4 : Nat → Int32} (v : Int32) (hr : sm_rates M r1 r2 r3 r4 fame) (h : sm_X M c dc cu it yr sa da) : sm_Ct l b D cA yX6_replacedFame cX6_replacedFame 3 (some .int) 0 0 0 [.ref 0, .int v] M (fun r M1 => ((0 ≤ v.toInt ∧ v.toInt ≤ 500) → r = some (.int fame) ∧ sm_ex M M1 [3] ∧ sm_rates M1 r1 r2 r3 r4 v) ∧ (¬ (0 ≤ v.toInt ∧ v.toInt ≤ 500) → r = some (.int (-1)) ∧ M1 = M)) := by
  obtain ⟨h0, h1, h16⟩ := h
  obtain ⟨h3, h4, h5, h6, h7⟩ := hr
  refine sm_enter (by decide +kernel) rfl (fun _ => Nat.le_of_ble_eq_true rfl) ?_
  refine sg_iload_n dX6_replacedFame_0 rfl ?_
  refine sg_if_lt 11 dX6_replacedFame_1 (by decide) (fun c1 => ?_) (fun c1 => ?_)
  · simp only [Int32.lt_iff_toInt_lt, ti_0] at c1
    refine sg_iconst (-1) dX6_replacedFame_11 (by decide) ?_
    refine sg_ireturn dX6_replacedFame_12 rfl (Nat.le_of_ble_eq_true rfl) (Nat.le_of_ble_eq_true rfl) ?_
    exact ⟨fun q => absurd q (by omega), fun _ => ⟨rfl, rfl⟩⟩
  · simp only [Int32.lt_iff_toInt_lt, ti_0] at c1
    refine sg_iload_n dX6_replacedFame_4 rfl ?_
    refine sg_sipush 500 dX6_replacedFame_5 (by decide) ?_
    refine sg_icmp_le 13 dX6_replacedFame_8 (by decide) (fun c2 => ?_) (fun c2 => ?_)
    · simp only [Int32.le_iff_toInt_le, ti_500] at c2
      refine sg_aload_n dX6_replacedFame_13 rfl ?_
      refine sg_get dX6_replacedFame_14 fl_X6_26 (by first | rfl | assumption) rfl ?_
      refine sg_get dX6_replacedFame_17 fl_X6_278 (by first | rfl | assumption) rfl ?_
      refine sg_istore_n dX6_replacedFame_20 (by decide) ?_
      refine sg_aload_n dX6_replacedFame_21 rfl ?_
      refine sg_get dX6_replacedFame_22 fl_X6_26 (by first | rfl | assumption) rfl ?_
      refine sg_iload_n dX6_replacedFame_25 rfl ?_
      refine sg_putx dX6_replacedFame_26 fl_X6_278 ft_X3_4 h3 (Nat.le_of_ble_eq_true rfl) (fun M2 x2 q2 => ?_)
      refine sg_iload_n dX6_replacedFame_29 rfl ?_
      refine sg_ireturn dX6_replacedFame_30 rfl (Nat.le_of_ble_eq_true rfl) (Nat.le_of_ble_eq_true rfl) ?_
      exact ⟨fun _ => ⟨rfl, x2, q2, (x2.2 4 (by decide)).trans h4, (x2.2 5 (by decide)).trans h5, (x2.2 6 (by decide)).trans h6, (x2.2 7 (by decide)).trans h7⟩, fun q => absurd ⟨by omega, by omega⟩ q⟩
    · simp only [Int32.le_iff_toInt_le, ti_500] at c2
      refine sg_iconst (-1) dX6_replacedFame_11 (by decide) ?_
      refine sg_ireturn dX6_replacedFame_12 rfl (Nat.le_of_ble_eq_true rfl) (Nat.le_of_ble_eq_true rfl) ?_
      exact ⟨fun q => absurd q (by omega), fun _ => ⟨rfl, rfl⟩⟩
theorem c_replacedCustom {c dc : Nat} {cu it yr : Int32} {sa da : Nat → Option Nat} (v : Int32) (h : sm_X M c dc cu it yr sa da) : sm_Ct l b D cA yX6_replacedCustom cX6_replacedCustom 3 (some .int) 0 0 0 [.ref 0, .int v] M (fun r M1 => ((0 ≤ v.toInt ∧ v.toInt ≤ 1) → r = some (.int cu) ∧ sm_ex M M1 [0] ∧ sm_X M1 c dc v it yr sa da) ∧ (¬ (0 ≤ v.toInt ∧ v.toInt ≤ 1) → r = some (.int (-1)) ∧ M1 = M)) := by
  obtain ⟨h0, h1, h16⟩ := h
  refine sm_enter (by decide +kernel) rfl (fun _ => Nat.le_of_ble_eq_true rfl) ?_
  refine sg_iload_n dX6_replacedCustom_0 rfl ?_
  refine sg_if_lt 9 dX6_replacedCustom_1 (by decide) (fun c1 => ?_) (fun c1 => ?_)
  · simp only [Int32.lt_iff_toInt_lt, ti_0] at c1
    refine sg_iconst (-1) dX6_replacedCustom_9 (by decide) ?_
    refine sg_ireturn dX6_replacedCustom_10 rfl (Nat.le_of_ble_eq_true rfl) (Nat.le_of_ble_eq_true rfl) ?_
    exact ⟨fun q => absurd q (by omega), fun _ => ⟨rfl, rfl⟩⟩
  · simp only [Int32.lt_iff_toInt_lt, ti_0] at c1
    refine sg_iload_n dX6_replacedCustom_4 rfl ?_
    refine sg_iconst 1 dX6_replacedCustom_5 (by decide) ?_
    refine sg_icmp_le 11 dX6_replacedCustom_6 (by decide) (fun c2 => ?_) (fun c2 => ?_)
    · simp only [Int32.le_iff_toInt_le, ti_1] at c2
      refine sg_aload_n dX6_replacedCustom_11 rfl ?_
      refine sg_get dX6_replacedCustom_12 fl_X6_60 (by first | rfl | assumption) rfl ?_
      refine sg_istore_n dX6_replacedCustom_15 (by decide) ?_
      refine sg_aload_n dX6_replacedCustom_16 rfl ?_
      refine sg_iload_n dX6_replacedCustom_17 rfl ?_
      refine sg_putx dX6_replacedCustom_18 fl_X6_60 ft_X6_9 h0 (Nat.le_of_ble_eq_true rfl) (fun M2 x2 q2 => ?_)
      refine sg_iload_n dX6_replacedCustom_21 rfl ?_
      refine sg_ireturn dX6_replacedCustom_22 rfl (Nat.le_of_ble_eq_true rfl) (Nat.le_of_ble_eq_true rfl) ?_
      exact ⟨fun _ => ⟨rfl, x2, q2, (x2.2 1 (by decide)).trans h1, (x2.2 16 (by decide)).trans h16⟩, fun q => absurd ⟨by omega, by omega⟩ q⟩
    · simp only [Int32.le_iff_toInt_le, ti_1] at c2
      refine sg_iconst (-1) dX6_replacedCustom_9 (by decide) ?_
      refine sg_ireturn dX6_replacedCustom_10 rfl (Nat.le_of_ble_eq_true rfl) (Nat.le_of_ble_eq_true rfl) ?_
      exact ⟨fun q => absurd q (by omega), fun _ => ⟨rfl, rfl⟩⟩
theorem c_replacedInterest {c dc : Nat} {cu it yr : Int32} {sa da : Nat → Option Nat} (v : Int32) (h : sm_X M c dc cu it yr sa da) : sm_Ct l b D cA yX6_replacedInterest cX6_replacedInterest 3 (some .int) 0 0 0 [.ref 0, .int v] M (fun r M1 => ((0 ≤ v.toInt ∧ v.toInt ≤ 50) → r = some (.int it) ∧ sm_ex M M1 [0] ∧ sm_X M1 c dc cu v yr sa da) ∧ (¬ (0 ≤ v.toInt ∧ v.toInt ≤ 50) → r = some (.int (-1)) ∧ M1 = M)) := by
  obtain ⟨h0, h1, h16⟩ := h
  refine sm_enter (by decide +kernel) rfl (fun _ => Nat.le_of_ble_eq_true rfl) ?_
  refine sg_iload_n dX6_replacedInterest_0 rfl ?_
  refine sg_if_lt 10 dX6_replacedInterest_1 (by decide) (fun c1 => ?_) (fun c1 => ?_)
  · simp only [Int32.lt_iff_toInt_lt, ti_0] at c1
    refine sg_iconst (-1) dX6_replacedInterest_10 (by decide) ?_
    refine sg_ireturn dX6_replacedInterest_11 rfl (Nat.le_of_ble_eq_true rfl) (Nat.le_of_ble_eq_true rfl) ?_
    exact ⟨fun q => absurd q (by omega), fun _ => ⟨rfl, rfl⟩⟩
  · simp only [Int32.lt_iff_toInt_lt, ti_0] at c1
    refine sg_iload_n dX6_replacedInterest_4 rfl ?_
    refine sg_bipush 50 dX6_replacedInterest_5 (by decide) ?_
    refine sg_icmp_le 12 dX6_replacedInterest_7 (by decide) (fun c2 => ?_) (fun c2 => ?_)
    · simp only [Int32.le_iff_toInt_le, ti_50] at c2
      refine sg_aload_n dX6_replacedInterest_12 rfl ?_
      refine sg_get dX6_replacedInterest_13 fl_X6_63 (by first | rfl | assumption) rfl ?_
      refine sg_istore_n dX6_replacedInterest_16 (by decide) ?_
      refine sg_aload_n dX6_replacedInterest_17 rfl ?_
      refine sg_iload_n dX6_replacedInterest_18 rfl ?_
      refine sg_putx dX6_replacedInterest_19 fl_X6_63 ft_X6_10 h0 (Nat.le_of_ble_eq_true rfl) (fun M2 x2 q2 => ?_)
      refine sg_iload_n dX6_replacedInterest_22 rfl ?_
      refine sg_ireturn dX6_replacedInterest_23 rfl (Nat.le_of_ble_eq_true rfl) (Nat.le_of_ble_eq_true rfl) ?_
      exact ⟨fun _ => ⟨rfl, x2, q2, (x2.2 1 (by decide)).trans h1, (x2.2 16 (by decide)).trans h16⟩, fun q => absurd ⟨by omega, by omega⟩ q⟩
    · simp only [Int32.le_iff_toInt_le, ti_50] at c2
      refine sg_iconst (-1) dX6_replacedInterest_10 (by decide) ?_
      refine sg_ireturn dX6_replacedInterest_11 rfl (Nat.le_of_ble_eq_true rfl) (Nat.le_of_ble_eq_true rfl) ?_
      exact ⟨fun q => absurd q (by omega), fun _ => ⟨rfl, rfl⟩⟩
theorem sm_lt41 {z q : Nat} (h : 41 ≤ q) (hz : z ∈ [0, 1, 16] ∨ z ∈ [8, 9, 10, 11, 12]) : z ∉ [q] := by
  simp only [List.mem_cons, List.not_mem_nil, or_false] at hz
  exact sm_ge41 h (by omega)
/-- the name of a strand that was cut (it has one; the rest has none) -/
theorem c_settleNameOfCut {c dc q1 g1 m1 n1 q2 g2 m2 n2 : Nat} {cu it yr o1 o2 nm : Int32} {sa da : Nat → Option Nat} {τ : sm_T5} (ha : 41 ≤ q1) (hb : 41 ≤ q2) (hq : q1 ≠ q2) (hn1 : n1 ≤ 80) (hn2 : n2 ≤ 80) (h1 : M[q1]? = some (sm_o 4 [.ref g1, .ref m1, .int (nI n1), .int o1, .int nm])) (h2 : M[q2]? = some (sm_o 4 [.ref g2, .ref m2, .int (nI n2), .int o2, .int 0])) (ht : sm_t5 M τ) (hz : τ.1 < 200) (hnm : ¬ nm = 0) (h : sm_X M c dc cu it yr sa da) : sm_Ct l b D cA yX6_settleNameOfCut cX6_settleNameOfCut 5 none 2 0 0 [.ref 0, .ref q1, .ref q2] M (fun r M1 => r = none ∧ sm_ex M M1 [q1, q2, 8, 9, 10, 11, 12] ∧ M1[q1]? = some (sm_o 4 [.ref g1, .ref m1, .int (nI n1), .int o1, .int (if cu = 0 ∨ n1 < n2 then 0 else nm)]) ∧ M1[q2]? = some (sm_o 4 [.ref g2, .ref m2, .int (nI n2), .int o2, .int (if ¬ cu = 0 ∧ n1 < n2 then nm else 0)]) ∧ sm_t5 M1 (if cu = 0 then sm_say nm 5 0 yr τ else sm_say nm 3 (nI (if n1 < n2 then n2 else n1)) yr τ)) := by
  obtain ⟨h0, hx1, hx16⟩ := id h
  refine sm_enter (by decide +kernel) rfl (fun _ => Nat.le_of_ble_eq_true rfl) ?_
  refine sg_aload_n dX6_settleNameOfCut_0 rfl ?_
  refine sg_get dX6_settleNameOfCut_1 fl_X6_60 (by first | rfl | assumption) rfl ?_
  refine sg_if_ne 13 dX6_settleNameOfCut_4 (by decide) (fun c1 => ?_) (fun c1 => ?_)
  · rw [if_neg c1]
    refine sg_aload_n dX6_settleNameOfCut_13 rfl ?_
    refine sg_get dX6_settleNameOfCut_14 fl_X6_96 (by first | rfl | assumption) rfl ?_
    refine sg_aload_n dX6_settleNameOfCut_17 rfl ?_
    refine sg_get dX6_settleNameOfCut_18 fl_X6_96 (by first | rfl | assumption) rfl ?_
    refine sg_icmp_le 28 dX6_settleNameOfCut_21 (by decide) (fun c2 => ?_) (fun c2 => ?_)
    · rw [nI_leI (by omega) (by omega)] at c2
      rw [show (if cu = 0 ∨ n1 < n2 then (0 : Int32) else nm) = nm from if_neg (fun q => q.elim c1 (fun q => by omega)), show (if ¬ cu = 0 ∧ n1 < n2 then nm else (0 : Int32)) = 0 from if_neg (fun q => by have := q.2; omega), show (if n1 < n2 then n2 else n1) = n1 from if_neg (by omega)]
      refine sg_aload_n dX6_settleNameOfCut_28 rfl ?_
      refine sg_astore_n dX6_settleNameOfCut_29 (by decide) ?_
      refine sg_aload_n dX6_settleNameOfCut_30 rfl ?_
      refine sg_get dX6_settleNameOfCut_31 fl_X6_112 (by first | rfl | assumption) rfl ?_
      refine sg_istore dX6_settleNameOfCut_34 (by decide) ?_
      refine sg_aload_n dX6_settleNameOfCut_36 rfl ?_
      refine sg_iconst 0 dX6_settleNameOfCut_37 (by decide) ?_
      refine sg_putx dX6_settleNameOfCut_38 fl_X6_112 ft_X4_4 h1 (Nat.le_of_ble_eq_true rfl) (fun M2 x2 q2' => ?_)
      refine sg_aload_n dX6_settleNameOfCut_41 rfl ?_
      refine sg_iload dX6_settleNameOfCut_42 rfl ?_
      refine sg_putx dX6_settleNameOfCut_44 fl_X6_112 ft_X4_4 q2' (Nat.le_of_ble_eq_true rfl) (fun M3 x3 q3 => ?_)
      have x23 := x2.tr x3
      have t3 := ht.ex x23 (fun z hz => sm_lt41 ha (Or.inr hz))
      have k3 := h.ex x23 (fun z hz => sm_lt41 ha (Or.inl hz))
      have k0 := k3.1
      refine sg_aload_n dX6_settleNameOfCut_47 rfl ?_
      refine sg_get dX6_settleNameOfCut_48 fl_X6_33 (by first | rfl | assumption) rfl ?_
      refine sg_iload dX6_settleNameOfCut_51 rfl ?_
      refine sg_iconst 3 dX6_settleNameOfCut_53 (by decide) ?_
      refine sg_aload_n dX6_settleNameOfCut_54 rfl ?_
      refine sg_get dX6_settleNameOfCut_55 fl_X6_96 (by first | rfl | assumption) rfl ?_
      refine sg_aload_n dX6_settleNameOfCut_58 rfl ?_
      refine sg_get dX6_settleNameOfCut_59 fl_X6_66 (by first | rfl | assumption) rfl ?_
      refine sg_V4 dX6_settleNameOfCut_62 cv_X6_136 t3.1 (c_tell nm 3 (nI n1) yr hz t3) (Nat.le_of_ble_eq_true rfl) (Nat.le_of_ble_eq_true rfl) (Nat.le_of_ble_eq_true rfl) (Nat.le_of_ble_eq_true rfl) (fun r9 M9 hp => ?_)
      obtain ⟨rfl, x9, t9⟩ := hp
      refine sg_return dX6_settleNameOfCut_65 rfl (Nat.le_of_ble_eq_true rfl) (Nat.le_of_ble_eq_true rfl) ?_
      exact ⟨rfl, (x23.mono (fun z hz => by rw [List.mem_singleton.mp hz]; exact List.mem_cons_self)).tr (x9.mono (fun z hz => List.mem_cons_of_mem _ (List.mem_cons_of_mem _ hz))), (x9.2 q1 (sm_le41 ha)).trans q3, (x9.2 q2 (sm_le41 hb)).trans ((x23.2 q2 (fun e => hq (List.mem_singleton.mp e).symm)).trans h2), t9⟩
    · rw [nI_leI (by omega) (by omega)] at c2
      rw [show (if cu = 0 ∨ n1 < n2 then (0 : Int32) else nm) = 0 from if_pos (Or.inr (by omega)), show (if ¬ cu = 0 ∧ n1 < n2 then nm else (0 : Int32)) = nm from if_pos ⟨c1, by omega⟩, show (if n1 < n2 then n2 else n1) = n2 from if_pos (by omega)]
      refine sg_aload_n dX6_settleNameOfCut_24 rfl ?_
      refine sg_goto 29 dX6_settleNameOfCut_25 (by decide) ?_
      refine sg_astore_n dX6_settleNameOfCut_29 (by decide) ?_
      refine sg_aload_n dX6_settleNameOfCut_30 rfl ?_
      refine sg_get dX6_settleNameOfCut_31 fl_X6_112 (by first | rfl | assumption) rfl ?_
      refine sg_istore dX6_settleNameOfCut_34 (by decide) ?_
      refine sg_aload_n dX6_settleNameOfCut_36 rfl ?_
      refine sg_iconst 0 dX6_settleNameOfCut_37 (by decide) ?_
      refine sg_putx dX6_settleNameOfCut_38 fl_X6_112 ft_X4_4 h1 (Nat.le_of_ble_eq_true rfl) (fun M2 x2 q2' => ?_)
      have a2 := (x2.2 q2 (fun e => hq (List.mem_singleton.mp e).symm)).trans h2
      refine sg_aload_n dX6_settleNameOfCut_41 rfl ?_
      refine sg_iload dX6_settleNameOfCut_42 rfl ?_
      refine sg_putx dX6_settleNameOfCut_44 fl_X6_112 ft_X4_4 a2 (Nat.le_of_ble_eq_true rfl) (fun M3 x3 q3 => ?_)
      have b1 := (x3.2 q1 (fun e => hq (List.mem_singleton.mp e))).trans q2'
      have t3 := (ht.ex x2 (fun z hz => sm_lt41 ha (Or.inr hz))).ex x3 (fun z hz => sm_lt41 hb (Or.inr hz))
      have k3 := (h.ex x2 (fun z hz => sm_lt41 ha (Or.inl hz))).ex x3 (fun z hz => sm_lt41 hb (Or.inl hz))
      have k0 := k3.1
      refine sg_aload_n dX6_settleNameOfCut_47 rfl ?_
      refine sg_get dX6_settleNameOfCut_48 fl_X6_33 (by first | rfl | assumption) rfl ?_
      refine sg_iload dX6_settleNameOfCut_51 rfl ?_
      refine sg_iconst 3 dX6_settleNameOfCut_53 (by decide) ?_
      refine sg_aload_n dX6_settleNameOfCut_54 rfl ?_
      refine sg_get dX6_settleNameOfCut_55 fl_X6_96 (by first | rfl | assumption) rfl ?_
      refine sg_aload_n dX6_settleNameOfCut_58 rfl ?_
      refine sg_get dX6_settleNameOfCut_59 fl_X6_66 (by first | rfl | assumption) rfl ?_
      refine sg_V4 dX6_settleNameOfCut_62 cv_X6_136 t3.1 (c_tell nm 3 (nI n2) yr hz t3) (Nat.le_of_ble_eq_true rfl) (Nat.le_of_ble_eq_true rfl) (Nat.le_of_ble_eq_true rfl) (Nat.le_of_ble_eq_true rfl) (fun r9 M9 hp => ?_)
      obtain ⟨rfl, x9, t9⟩ := hp
      refine sg_return dX6_settleNameOfCut_65 rfl (Nat.le_of_ble_eq_true rfl) (Nat.le_of_ble_eq_true rfl) ?_
      exact ⟨rfl, (x2.mono (fun z hz => by rw [List.mem_singleton.mp hz]; exact List.mem_cons_self)).tr ((x3.mono (fun z hz => by rw [List.mem_singleton.mp hz]; exact List.mem_cons_of_mem _ List.mem_cons_self)).tr (x9.mono (fun z hz => List.mem_cons_of_mem _ (List.mem_cons_of_mem _ hz)))), (x9.2 q1 (sm_le41 ha)).trans b1, (x9.2 q2 (sm_le41 hb)).trans q3, t9⟩
  · rw [show (if cu = 0 ∨ n1 < n2 then (0 : Int32) else nm) = 0 from if_pos (Or.inl c1), show (if ¬ cu = 0 ∧ n1 < n2 then nm else (0 : Int32)) = 0 from if_neg (fun q => q.1 c1), if_pos c1]
    refine sg_aload_n dX6_settleNameOfCut_7 rfl ?_
    refine sg_aload_n dX6_settleNameOfCut_8 rfl ?_
    refine sg_V1 dX6_settleNameOfCut_9 cv_X6_132 h0 (c_loseName ha h1 ht (Or.inr hz) h) (Nat.le_of_ble_eq_true rfl) (Nat.le_of_ble_eq_true rfl) (Nat.le_of_ble_eq_true rfl) (Nat.le_of_ble_eq_true rfl) (fun r9 M9 hp => ?_)
    obtain ⟨rfl, x9, q9, t9⟩ := hp
    unfold sm_sayIf at t9
    rw [if_neg hnm] at t9
    refine sg_return dX6_settleNameOfCut_12 rfl (Nat.le_of_ble_eq_true rfl) (Nat.le_of_ble_eq_true rfl) ?_
    refine ⟨rfl, x9.mono (fun z hz => ?_), q9, (x9.2 q2 (fun e => ?_)).trans h2, t9⟩
    · rcases List.mem_cons.mp hz with e | e
      · rw [e]; exact List.mem_cons_self
      · exact List.mem_cons_of_mem _ (List.mem_cons_of_mem _ e)
    · rcases List.mem_cons.mp e with e | e
      · exact hq e.symm
      · exact sm_le41 hb e
/-- the names of two strands that were joined -/
theorem c_settleNameOfJoined {c dc q1 g1 m1 q2 g2 m2 : Nat} {cu it yr n1 n2 o1 o2 a1 a2 : Int32} {sa da : Nat → Option Nat} {τ : sm_T5} (ha : 41 ≤ q1) (hb : 41 ≤ q2) (hq : q1 ≠ q2) (h1 : M[q1]? = some (sm_o 4 [.ref g1, .ref m1, .int n1, .int o1, .int a1])) (h2 : M[q2]? = some (sm_o 4 [.ref g2, .ref m2, .int n2, .int o2, .int a2])) (ht : sm_t5 M τ) (hz : τ.1 + ((if a1 = 0 then 0 else 1) + (if a2 = 0 then 0 else 1)) ≤ 200) (h : sm_X M c dc cu it yr sa da) : sm_Ct l b D cA yX6_settleNameOfJoined cX6_settleNameOfJoined 3 none 2 0 0 [.ref 0, .ref q1, .ref q2] M (fun r M1 => r = none ∧ sm_ex M M1 [q1, q2, 8, 9, 10, 11, 12] ∧ M1[q1]? = some (sm_o 4 [.ref g1, .ref m1, .int n1, .int o1, .int (if a1 = 0 then a2 else a1)]) ∧ M1[q2]? = some (sm_o 4 [.ref g2, .ref m2, .int n2, .int o2, .int 0]) ∧ sm_t5 M1 (sm_sayIf (if a1 = 0 then a2 else a1) 4 n1 yr (if a1 = 0 then τ else sm_sayIf a2 5 0 yr τ))) := by
  have fin : ∀ (M2 : sm_M) (a : Int32) (τ2 : sm_T5), sm_ex M M2 [q1, q2, 8, 9, 10, 11, 12] → M2[q1]? = some (sm_o 4 [.ref g1, .ref m1, .int n1, .int o1, .int a]) → M2[q2]? = some (sm_o 4 [.ref g2, .ref m2, .int n2, .int o2, .int 0]) → sm_t5 M2 τ2 → (a = 0 ∨ τ2.1 < 200) → sm_X M2 c dc cu it yr sa da → sm_G l b D cA yX6_settleNameOfJoined cX6_settleNameOfJoined 3 none 2 0 0 (fun r M1 => r = none ∧ sm_ex M M1 [q1, q2, 8, 9, 10, 11, 12] ∧ M1[q1]? = some (sm_o 4 [.ref g1, .ref m1, .int n1, .int o1, .int a]) ∧ M1[q2]? = some (sm_o 4 [.ref g2, .ref m2, .int n2, .int o2, .int 0]) ∧ sm_t5 M1 (sm_sayIf a 4 n1 yr τ2)) 0 0 28 [some (.ref 0), some (.ref q1), some (.ref q2)] [] M2 := fun M2 a τ2 x2 k1 k2 t2 z2 kx => by
    have k0 := kx.1
    unfold sm_sayIf
    refine sg_aload_n dX6_settleNameOfJoined_28 rfl ?_
    refine sg_get dX6_settleNameOfJoined_29 fl_X6_112 (by first | rfl | assumption) rfl ?_
    refine sg_if_eq 55 dX6_settleNameOfJoined_32 (by decide) (fun c1 => ?_) (fun c1 => ?_)
    · rw [if_pos c1]
      refine sg_return dX6_settleNameOfJoined_55 rfl (Nat.le_of_ble_eq_true rfl) (Nat.le_of_ble_eq_true rfl) ?_
      exact ⟨rfl, x2, k1, k2, t2⟩
    · rw [if_neg c1]
      refine sg_aload_n dX6_settleNameOfJoined_35 rfl ?_
      refine sg_get dX6_settleNameOfJoined_36 fl_X6_33 (by first | rfl | assumption) rfl ?_
      refine sg_aload_n dX6_settleNameOfJoined_39 rfl ?_
      refine sg_get dX6_settleNameOfJoined_40 fl_X6_112 (by first | rfl | assumption) rfl ?_
      refine sg_iconst 4 dX6_settleNameOfJoined_43 (by decide) ?_
      refine sg_aload_n dX6_settleNameOfJoined_44 rfl ?_
      refine sg_get dX6_settleNameOfJoined_45 fl_X6_96 (by first | rfl | assumption) rfl ?_
      refine sg_aload_n dX6_settleNameOfJoined_48 rfl ?_
      refine sg_get dX6_settleNameOfJoined_49 fl_X6_66 (by first | rfl | assumption) rfl ?_
      refine sg_V4 dX6_settleNameOfJoined_52 cv_X6_136 t2.1 (c_tell a 4 n1 yr (z2.elim (fun e => absurd e c1) id) t2) (Nat.le_of_ble_eq_true rfl) (Nat.le_of_ble_eq_true rfl) (Nat.le_of_ble_eq_true rfl) (Nat.le_of_ble_eq_true rfl) (fun r9 M9 hp => ?_)
      obtain ⟨rfl, x9, t9⟩ := hp
      refine sg_return dX6_settleNameOfJoined_55 rfl (Nat.le_of_ble_eq_true rfl) (Nat.le_of_ble_eq_true rfl) ?_
      exact ⟨rfl, x2.tr (x9.mono (fun z hz => List.mem_cons_of_mem _ (List.mem_cons_of_mem _ hz))), (x9.2 q1 (sm_le41 ha)).trans k1, (x9.2 q2 (sm_le41 hb)).trans k2, t9⟩
  refine sm_enter (by decide +kernel) rfl (fun _ => Nat.le_of_ble_eq_true rfl) ?_
  refine sg_aload_n dX6_settleNameOfJoined_0 rfl ?_
  refine sg_get dX6_settleNameOfJoined_1 fl_X6_112 (by first | rfl | assumption) rfl ?_
  refine sg_if_ne 23 dX6_settleNameOfJoined_4 (by decide) (fun c1 => ?_) (fun c1 => ?_)
  · rw [if_neg c1] at hz
    rw [if_neg c1, if_neg c1]
    have k0 := h.1
    have hz2 : a2 = 0 ∨ τ.1 < 200 := by
      by_cases e : a2 = 0
      · exact Or.inl e
      · rw [if_neg e] at hz
        exact Or.inr (by omega)
    refine sg_aload_n dX6_settleNameOfJoined_23 rfl ?_
    refine sg_aload_n dX6_settleNameOfJoined_24 rfl ?_
    refine sg_V1 dX6_settleNameOfJoined_25 cv_X6_132 k0 (c_loseName hb h2 ht hz2 h) (Nat.le_of_ble_eq_true rfl) (Nat.le_of_ble_eq_true rfl) (Nat.le_of_ble_eq_true rfl) (Nat.le_of_ble_eq_true rfl) (fun r9 M9 hp => ?_)
    obtain ⟨rfl, x9, q9, t9⟩ := hp
    refine fin M9 a1 _ (x9.mono (fun z hz => List.mem_cons_of_mem _ hz)) ((x9.2 q1 (fun e => ?_)).trans h1) q9 t9 (Or.inr ?_) (h.ex x9 (fun z hz => ?_))
    · rcases List.mem_cons.mp e with e | e
      · exact hq e
      · exact sm_le41 ha e
    · unfold sm_sayIf
      by_cases e : a2 = 0
      · rw [if_pos e] at hz ⊢
        omega
      · rw [if_neg e] at hz ⊢
        show τ.1 + 1 < 200
        omega
    · intro e
      rcases List.mem_cons.mp e with e | e
      · simp only [List.mem_cons, List.not_mem_nil, or_false] at hz
        omega
      · simp only [List.mem_cons, List.not_mem_nil, or_false] at hz e
        omega
  · rw [if_pos c1] at hz
    rw [if_pos c1, if_pos c1]
    refine sg_aload_n dX6_settleNameOfJoined_7 rfl ?_
    refine sg_aload_n dX6_settleNameOfJoined_8 rfl ?_
    refine sg_get dX6_settleNameOfJoined_9 fl_X6_112 (by first | rfl | assumption) rfl ?_
    refine sg_putx dX6_settleNameOfJoined_12 fl_X6_112 ft_X4_4 h1 (Nat.le_of_ble_eq_true rfl) (fun M2 x2 q2' => ?_)
    have b2 := (x2.2 q2 (fun e => hq (List.mem_singleton.mp e).symm)).trans h2
    refine sg_aload_n dX6_settleNameOfJoined_15 rfl ?_
    refine sg_iconst 0 dX6_settleNameOfJoined_16 (by decide) ?_
    refine sg_putx dX6_settleNameOfJoined_17 fl_X6_112 ft_X4_4 b2 (Nat.le_of_ble_eq_true rfl) (fun M3 x3 q3 => ?_)
    refine sg_goto 28 dX6_settleNameOfJoined_20 (by decide) ?_
    refine fin M3 a2 τ ((x2.mono (fun z hz => by rw [List.mem_singleton.mp hz]; exact List.mem_cons_self)).tr (x3.mono (fun z hz => by rw [List.mem_singleton.mp hz]; exact List.mem_cons_of_mem _ List.mem_cons_self))) ((x3.2 q1 (fun e => hq (List.mem_singleton.mp e))).trans q2') q3 ((ht.ex x2 (fun z hz => sm_lt41 ha (Or.inr hz))).ex x3 (fun z hz => sm_lt41 hb (Or.inr hz))) ?_ ((h.ex x2 (fun z hz => sm_lt41 ha (Or.inl hz))).ex x3 (fun z hz => sm_lt41 hb (Or.inl hz)))
    by_cases e : a2 = 0
    · exact Or.inl e
    · rw [if_neg e] at hz
      exact Or.inr (by omega)
end SM31
end
