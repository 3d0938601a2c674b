-- ===== PART A: goes FIRST, ahead of the names: the tables' words, and 'selects' of the private methods out of them =====
/-- a private method of a class that the tables say can be made, by its rows of tables_1 -/
def lw_okq (q : MethodName × Nat) : Prop := (q.1.cls ≠ "java/lang/invoke/MethodHandle" ∧ q.1.cls ≠ "java/lang/invoke/VarHandle") ∧ Cond.instantiable q.1.cls q.2 ∈ tables_1 ∧ Cond.privateMethod q.1 ∈ tables_1 ∧ Cond.instanceMethod q.1 ∈ tables_1
theorem lw_p0 : lw_okq (⟨"PleaPapers$Facts", "replay", "(LPleaPapers$Papers;I)V"⟩, 9) := ⟨⟨by decide +kernel, by decide +kernel⟩, List.mem_of_getElem? (i := 215) (by decide +kernel), List.mem_of_getElem? (i := 273) (by decide +kernel), List.mem_of_getElem? (i := 274) (by decide +kernel)⟩
theorem lw_p1 : lw_okq (⟨"PleaPapers$Facts", "free", "(I)V"⟩, 9) := ⟨⟨by decide +kernel, by decide +kernel⟩, List.mem_of_getElem? (i := 215) (by decide +kernel), List.mem_of_getElem? (i := 277) (by decide +kernel), List.mem_of_getElem? (i := 278) (by decide +kernel)⟩
theorem lw_p2 : lw_okq (⟨"PleaPapers$Facts", "hear", "([II)V"⟩, 9) := ⟨⟨by decide +kernel, by decide +kernel⟩, List.mem_of_getElem? (i := 215) (by decide +kernel), List.mem_of_getElem? (i := 284) (by decide +kernel), List.mem_of_getElem? (i := 285) (by decide +kernel)⟩
theorem lw_p3 : lw_okq (⟨"PleaPapers$Facts", "allow", "(III)Z"⟩, 9) := ⟨⟨by decide +kernel, by decide +kernel⟩, List.mem_of_getElem? (i := 215) (by decide +kernel), List.mem_of_getElem? (i := 288) (by decide +kernel), List.mem_of_getElem? (i := 289) (by decide +kernel)⟩
theorem lw_p4 : lw_okq (⟨"PleaPapers$Facts", "awaitsAnswerOf", "(II)Z"⟩, 9) := ⟨⟨by decide +kernel, by decide +kernel⟩, List.mem_of_getElem? (i := 215) (by decide +kernel), List.mem_of_getElem? (i := 292) (by decide +kernel), List.mem_of_getElem? (i := 293) (by decide +kernel)⟩
theorem lw_p5 : lw_okq (⟨"PleaPapers$Facts", "apply", "(III)V"⟩, 9) := ⟨⟨by decide +kernel, by decide +kernel⟩, List.mem_of_getElem? (i := 215) (by decide +kernel), List.mem_of_getElem? (i := 296) (by decide +kernel), List.mem_of_getElem? (i := 297) (by decide +kernel)⟩
theorem lw_p6 : lw_okq (⟨"PleaPapers$Facts", "answer", "(III)V"⟩, 9) := ⟨⟨by decide +kernel, by decide +kernel⟩, List.mem_of_getElem? (i := 215) (by decide +kernel), List.mem_of_getElem? (i := 300) (by decide +kernel), List.mem_of_getElem? (i := 301) (by decide +kernel)⟩
theorem lw_p7 : lw_okq (⟨"PleaPapers$Facts", "admitSilently", "(I)I"⟩, 9) := ⟨⟨by decide +kernel, by decide +kernel⟩, List.mem_of_getElem? (i := 215) (by decide +kernel), List.mem_of_getElem? (i := 304) (by decide +kernel), List.mem_of_getElem? (i := 305) (by decide +kernel)⟩
theorem lw_p8 : lw_okq (⟨"PleaPapers$Facts", "sumUp", "()V"⟩, 9) := ⟨⟨by decide +kernel, by decide +kernel⟩, List.mem_of_getElem? (i := 215) (by decide +kernel), List.mem_of_getElem? (i := 308) (by decide +kernel), List.mem_of_getElem? (i := 309) (by decide +kernel)⟩
theorem lw_p9 : lw_okq (⟨"PleaPapers$Text", "append", "(I)V"⟩, 7) := ⟨⟨by decide +kernel, by decide +kernel⟩, List.mem_of_getElem? (i := 27) (by decide +kernel), List.mem_of_getElem? (i := 347) (by decide +kernel), List.mem_of_getElem? (i := 348) (by decide +kernel)⟩
theorem lw_p10 : lw_okq (⟨"PleaPapers$ClaimReader", "read", "(LPleaPapers$Text;)V"⟩, 5) := ⟨⟨by decide +kernel, by decide +kernel⟩, List.mem_of_getElem? (i := 59) (by decide +kernel), List.mem_of_getElem? (i := 356) (by decide +kernel), List.mem_of_getElem? (i := 357) (by decide +kernel)⟩
theorem lw_p11 : lw_okq (⟨"PleaPapers$Text", "begin", "()V"⟩, 7) := ⟨⟨by decide +kernel, by decide +kernel⟩, List.mem_of_getElem? (i := 27) (by decide +kernel), List.mem_of_getElem? (i := 360) (by decide +kernel), List.mem_of_getElem? (i := 361) (by decide +kernel)⟩
theorem lw_p12 : lw_okq (⟨"PleaPapers$Text", "next", "()V"⟩, 7) := ⟨⟨by decide +kernel, by decide +kernel⟩, List.mem_of_getElem? (i := 27) (by decide +kernel), List.mem_of_getElem? (i := 364) (by decide +kernel), List.mem_of_getElem? (i := 365) (by decide +kernel)⟩
theorem lw_p13 : lw_okq (⟨"PleaPapers$Text", "isLetterAt", "(I)Z"⟩, 7) := ⟨⟨by decide +kernel, by decide +kernel⟩, List.mem_of_getElem? (i := 27) (by decide +kernel), List.mem_of_getElem? (i := 368) (by decide +kernel), List.mem_of_getElem? (i := 369) (by decide +kernel)⟩
theorem lw_p14 : lw_okq (⟨"PleaPapers$Text", "isFigureAt", "(I)Z"⟩, 7) := ⟨⟨by decide +kernel, by decide +kernel⟩, List.mem_of_getElem? (i := 27) (by decide +kernel), List.mem_of_getElem? (i := 372) (by decide +kernel), List.mem_of_getElem? (i := 373) (by decide +kernel)⟩
theorem lw_p15 : lw_okq (⟨"PleaPapers$Text", "takesWord", "(Ljava/lang/String;)Z"⟩, 7) := ⟨⟨by decide +kernel, by decide +kernel⟩, List.mem_of_getElem? (i := 27) (by decide +kernel), List.mem_of_getElem? (i := 377) (by decide +kernel), List.mem_of_getElem? (i := 378) (by decide +kernel)⟩
def lw_privs_1 : List (MethodName × Nat) := [(⟨"PleaPapers$Facts", "replay", "(LPleaPapers$Papers;I)V"⟩, 9), (⟨"PleaPapers$Facts", "free", "(I)V"⟩, 9), (⟨"PleaPapers$Facts", "hear", "([II)V"⟩, 9), (⟨"PleaPapers$Facts", "allow", "(III)Z"⟩, 9), (⟨"PleaPapers$Facts", "awaitsAnswerOf", "(II)Z"⟩, 9), (⟨"PleaPapers$Facts", "apply", "(III)V"⟩, 9), (⟨"PleaPapers$Facts", "answer", "(III)V"⟩, 9), (⟨"PleaPapers$Facts", "admitSilently", "(I)I"⟩, 9), (⟨"PleaPapers$Facts", "sumUp", "()V"⟩, 9), (⟨"PleaPapers$Text", "append", "(I)V"⟩, 7), (⟨"PleaPapers$ClaimReader", "read", "(LPleaPapers$Text;)V"⟩, 5), (⟨"PleaPapers$Text", "begin", "()V"⟩, 7), (⟨"PleaPapers$Text", "next", "()V"⟩, 7), (⟨"PleaPapers$Text", "isLetterAt", "(I)Z"⟩, 7), (⟨"PleaPapers$Text", "isFigureAt", "(I)Z"⟩, 7), (⟨"PleaPapers$Text", "takesWord", "(Ljava/lang/String;)Z"⟩, 7)]
theorem lw_r1 : ∀ q ∈ lw_privs_1, lw_okq q := List.forall_mem_cons.mpr ⟨lw_p0, List.forall_mem_cons.mpr ⟨lw_p1, List.forall_mem_cons.mpr ⟨lw_p2, List.forall_mem_cons.mpr ⟨lw_p3, List.forall_mem_cons.mpr ⟨lw_p4, List.forall_mem_cons.mpr ⟨lw_p5, List.forall_mem_cons.mpr ⟨lw_p6, List.forall_mem_cons.mpr ⟨lw_p7, List.forall_mem_cons.mpr ⟨lw_p8, List.forall_mem_cons.mpr ⟨lw_p9, List.forall_mem_cons.mpr ⟨lw_p10, List.forall_mem_cons.mpr ⟨lw_p11, List.forall_mem_cons.mpr ⟨lw_p12, List.forall_mem_cons.mpr ⟨lw_p13, List.forall_mem_cons.mpr ⟨lw_p14, List.forall_mem_cons.mpr ⟨lw_p15, fun _ h => absurd h List.not_mem_nil⟩⟩⟩⟩⟩⟩⟩⟩⟩⟩⟩⟩⟩⟩⟩⟩
theorem lw_p16 : lw_okq (⟨"PleaPapers$Text", "isSound", "()Z"⟩, 7) := ⟨⟨by decide +kernel, by decide +kernel⟩, List.mem_of_getElem? (i := 27) (by decide +kernel), List.mem_of_getElem? (i := 381) (by decide +kernel), List.mem_of_getElem? (i := 382) (by decide +kernel)⟩
theorem lw_p17 : lw_okq (⟨"PleaPapers$Text", "isWord", "(Ljava/lang/String;)Z"⟩, 7) := ⟨⟨by decide +kernel, by decide +kernel⟩, List.mem_of_getElem? (i := 27) (by decide +kernel), List.mem_of_getElem? (i := 385) (by decide +kernel), List.mem_of_getElem? (i := 386) (by decide +kernel)⟩
theorem lw_p18 : lw_okq (⟨"PleaPapers$Text", "fail", "(I)V"⟩, 7) := ⟨⟨by decide +kernel, by decide +kernel⟩, List.mem_of_getElem? (i := 27) (by decide +kernel), List.mem_of_getElem? (i := 438) (by decide +kernel), List.mem_of_getElem? (i := 439) (by decide +kernel)⟩
theorem lw_p19 : lw_okq (⟨"PleaPapers$Text", "numberHere", "(II)I"⟩, 7) := ⟨⟨by decide +kernel, by decide +kernel⟩, List.mem_of_getElem? (i := 27) (by decide +kernel), List.mem_of_getElem? (i := 442) (by decide +kernel), List.mem_of_getElem? (i := 443) (by decide +kernel)⟩
theorem lw_p20 : lw_okq (⟨"PleaPapers$Text", "isSign", "(C)Z"⟩, 7) := ⟨⟨by decide +kernel, by decide +kernel⟩, List.mem_of_getElem? (i := 27) (by decide +kernel), List.mem_of_getElem? (i := 461) (by decide +kernel), List.mem_of_getElem? (i := 462) (by decide +kernel)⟩
theorem lw_p21 : lw_okq (⟨"PleaPapers$ClaimReader", "readFact", "(LPleaPapers$Text;)V"⟩, 5) := ⟨⟨by decide +kernel, by decide +kernel⟩, List.mem_of_getElem? (i := 59) (by decide +kernel), List.mem_of_getElem? (i := 465) (by decide +kernel), List.mem_of_getElem? (i := 466) (by decide +kernel)⟩
theorem lw_p22 : lw_okq (⟨"PleaPapers$ClaimReader", "emit", "(I)V"⟩, 5) := ⟨⟨by decide +kernel, by decide +kernel⟩, List.mem_of_getElem? (i := 59) (by decide +kernel), List.mem_of_getElem? (i := 469) (by decide +kernel), List.mem_of_getElem? (i := 470) (by decide +kernel)⟩
theorem lw_p23 : lw_okq (⟨"PleaPapers$Text", "takesSign", "(C)Z"⟩, 7) := ⟨⟨by decide +kernel, by decide +kernel⟩, List.mem_of_getElem? (i := 27) (by decide +kernel), List.mem_of_getElem? (i := 473) (by decide +kernel), List.mem_of_getElem? (i := 474) (by decide +kernel)⟩
theorem lw_p24 : lw_okq (⟨"PleaPapers$Text", "isAtEnd", "()Z"⟩, 7) := ⟨⟨by decide +kernel, by decide +kernel⟩, List.mem_of_getElem? (i := 27) (by decide +kernel), List.mem_of_getElem? (i := 480) (by decide +kernel), List.mem_of_getElem? (i := 481) (by decide +kernel)⟩
theorem lw_p25 : lw_okq (⟨"PleaPapers$Claims", "add", "(LPleaPapers$ClaimReader;)I"⟩, 4) := ⟨⟨by decide +kernel, by decide +kernel⟩, List.mem_of_getElem? (i := 104) (by decide +kernel), List.mem_of_getElem? (i := 485) (by decide +kernel), List.mem_of_getElem? (i := 486) (by decide +kernel)⟩
theorem lw_p26 : lw_okq (⟨"PleaPapers$ClaimReader", "fillTable", "([J)V"⟩, 5) := ⟨⟨by decide +kernel, by decide +kernel⟩, List.mem_of_getElem? (i := 59) (by decide +kernel), List.mem_of_getElem? (i := 490) (by decide +kernel), List.mem_of_getElem? (i := 491) (by decide +kernel)⟩
theorem lw_p27 : lw_okq (⟨"PleaPapers$ClaimReader", "wordOf", "(I)J"⟩, 5) := ⟨⟨by decide +kernel, by decide +kernel⟩, List.mem_of_getElem? (i := 59) (by decide +kernel), List.mem_of_getElem? (i := 494) (by decide +kernel), List.mem_of_getElem? (i := 495) (by decide +kernel)⟩
theorem lw_p28 : lw_okq (⟨"PleaPapers$Papers", "lastDay", "()I"⟩, 4) := ⟨⟨by decide +kernel, by decide +kernel⟩, List.mem_of_getElem? (i := 130) (by decide +kernel), List.mem_of_getElem? (i := 510) (by decide +kernel), List.mem_of_getElem? (i := 511) (by decide +kernel)⟩
theorem lw_p29 : lw_okq (⟨"PleaPapers$PaperReader", "read", "(LPleaPapers$Text;LPleaPapers$Facts;I)V"⟩, 2) := ⟨⟨by decide +kernel, by decide +kernel⟩, List.mem_of_getElem? (i := 84) (by decide +kernel), List.mem_of_getElem? (i := 514) (by decide +kernel), List.mem_of_getElem? (i := 515) (by decide +kernel)⟩
theorem lw_p30 : lw_okq (⟨"PleaPapers$PaperReader", "readClause", "(LPleaPapers$Text;LPleaPapers$Facts;I)V"⟩, 2) := ⟨⟨by decide +kernel, by decide +kernel⟩, List.mem_of_getElem? (i := 84) (by decide +kernel), List.mem_of_getElem? (i := 521) (by decide +kernel), List.mem_of_getElem? (i := 522) (by decide +kernel)⟩
theorem lw_p31 : lw_okq (⟨"PleaPapers$PaperReader", "readItem", "(LPleaPapers$Text;LPleaPapers$Facts;II)V"⟩, 2) := ⟨⟨by decide +kernel, by decide +kernel⟩, List.mem_of_getElem? (i := 84) (by decide +kernel), List.mem_of_getElem? (i := 537) (by decide +kernel), List.mem_of_getElem? (i := 538) (by decide +kernel)⟩
def lw_privs_2 : List (MethodName × Nat) := [(⟨"PleaPapers$Text", "isSound", "()Z"⟩, 7), (⟨"PleaPapers$Text", "isWord", "(Ljava/lang/String;)Z"⟩, 7), (⟨"PleaPapers$Text", "fail", "(I)V"⟩, 7), (⟨"PleaPapers$Text", "numberHere", "(II)I"⟩, 7), (⟨"PleaPapers$Text", "isSign", "(C)Z"⟩, 7), (⟨"PleaPapers$ClaimReader", "readFact", "(LPleaPapers$Text;)V"⟩, 5), (⟨"PleaPapers$ClaimReader", "emit", "(I)V"⟩, 5), (⟨"PleaPapers$Text", "takesSign", "(C)Z"⟩, 7), (⟨"PleaPapers$Text", "isAtEnd", "()Z"⟩, 7), (⟨"PleaPapers$Claims", "add", "(LPleaPapers$ClaimReader;)I"⟩, 4), (⟨"PleaPapers$ClaimReader", "fillTable", "([J)V"⟩, 5), (⟨"PleaPapers$ClaimReader", "wordOf", "(I)J"⟩, 5), (⟨"PleaPapers$Papers", "lastDay", "()I"⟩, 4), (⟨"PleaPapers$PaperReader", "read", "(LPleaPapers$Text;LPleaPapers$Facts;I)V"⟩, 2), (⟨"PleaPapers$PaperReader", "readClause", "(LPleaPapers$Text;LPleaPapers$Facts;I)V"⟩, 2), (⟨"PleaPapers$PaperReader", "readItem", "(LPleaPapers$Text;LPleaPapers$Facts;II)V"⟩, 2)]
theorem lw_r2 : ∀ q ∈ lw_privs_2, lw_okq q := List.forall_mem_cons.mpr ⟨lw_p16, List.forall_mem_cons.mpr ⟨lw_p17, List.forall_mem_cons.mpr ⟨lw_p18, List.forall_mem_cons.mpr ⟨lw_p19, List.forall_mem_cons.mpr ⟨lw_p20, List.forall_mem_cons.mpr ⟨lw_p21, List.forall_mem_cons.mpr ⟨lw_p22, List.forall_mem_cons.mpr ⟨lw_p23, List.forall_mem_cons.mpr ⟨lw_p24, List.forall_mem_cons.mpr ⟨lw_p25, List.forall_mem_cons.mpr ⟨lw_p26, List.forall_mem_cons.mpr ⟨lw_p27, List.forall_mem_cons.mpr ⟨lw_p28, List.forall_mem_cons.mpr ⟨lw_p29, List.forall_mem_cons.mpr ⟨lw_p30, List.forall_mem_cons.mpr ⟨lw_p31, fun _ h => absurd h List.not_mem_nil⟩⟩⟩⟩⟩⟩⟩⟩⟩⟩⟩⟩⟩⟩⟩⟩
theorem lw_p32 : lw_okq (⟨"PleaPapers$Papers", "add", "(II[I)I"⟩, 4) := ⟨⟨by decide +kernel, by decide +kernel⟩, List.mem_of_getElem? (i := 130) (by decide +kernel), List.mem_of_getElem? (i := 549) (by decide +kernel), List.mem_of_getElem? (i := 550) (by decide +kernel)⟩
theorem lw_p33 : lw_okq (⟨"PleaPapers$Facts", "howMany", "(I)I"⟩, 9) := ⟨⟨by decide +kernel, by decide +kernel⟩, List.mem_of_getElem? (i := 215) (by decide +kernel), List.mem_of_getElem? (i := 570) (by decide +kernel), List.mem_of_getElem? (i := 571) (by decide +kernel)⟩
theorem lw_p34 : lw_okq (⟨"PleaPapers", "isClaim", "(I)Z"⟩, 9) := ⟨⟨by decide +kernel, by decide +kernel⟩, List.mem_of_getElem? (i := 19) (by decide +kernel), List.mem_of_getElem? (i := 584) (by decide +kernel), List.mem_of_getElem? (i := 585) (by decide +kernel)⟩
theorem lw_p35 : lw_okq (⟨"PleaPapers", "sureness", "(I)I"⟩, 9) := ⟨⟨by decide +kernel, by decide +kernel⟩, List.mem_of_getElem? (i := 19) (by decide +kernel), List.mem_of_getElem? (i := 588) (by decide +kernel), List.mem_of_getElem? (i := 589) (by decide +kernel)⟩
theorem lw_p36 : lw_okq (⟨"PleaPapers$Facts", "soBy", "(I)I"⟩, 9) := ⟨⟨by decide +kernel, by decide +kernel⟩, List.mem_of_getElem? (i := 215) (by decide +kernel), List.mem_of_getElem? (i := 601) (by decide +kernel), List.mem_of_getElem? (i := 602) (by decide +kernel)⟩
theorem lw_p37 : lw_okq (⟨"PleaPapers$Claims", "isOwed", "(II)Z"⟩, 4) := ⟨⟨by decide +kernel, by decide +kernel⟩, List.mem_of_getElem? (i := 104) (by decide +kernel), List.mem_of_getElem? (i := 605) (by decide +kernel), List.mem_of_getElem? (i := 606) (by decide +kernel)⟩
theorem lw_p38 : lw_okq (⟨"PleaPapers", "isPaper", "(I)Z"⟩, 9) := ⟨⟨by decide +kernel, by decide +kernel⟩, List.mem_of_getElem? (i := 19) (by decide +kernel), List.mem_of_getElem? (i := 616) (by decide +kernel), List.mem_of_getElem? (i := 617) (by decide +kernel)⟩
theorem lw_p39 : lw_okq (⟨"PleaPapers$Papers", "factSet", "(I)I"⟩, 4) := ⟨⟨by decide +kernel, by decide +kernel⟩, List.mem_of_getElem? (i := 130) (by decide +kernel), List.mem_of_getElem? (i := 621) (by decide +kernel), List.mem_of_getElem? (i := 622) (by decide +kernel)⟩
theorem lw_p40 : lw_okq (⟨"PleaPapers", "turnsOn", "(II)Z"⟩, 9) := ⟨⟨by decide +kernel, by decide +kernel⟩, List.mem_of_getElem? (i := 19) (by decide +kernel), List.mem_of_getElem? (i := 641) (by decide +kernel), List.mem_of_getElem? (i := 642) (by decide +kernel)⟩
theorem lw_p41 : lw_okq (⟨"PleaPapers", "isEnough", "(II)Z"⟩, 9) := ⟨⟨by decide +kernel, by decide +kernel⟩, List.mem_of_getElem? (i := 19) (by decide +kernel), List.mem_of_getElem? (i := 652) (by decide +kernel), List.mem_of_getElem? (i := 653) (by decide +kernel)⟩
theorem lw_p42 : lw_okq (⟨"PleaPapers$Facts", "admittedBy", "(I)I"⟩, 9) := ⟨⟨by decide +kernel, by decide +kernel⟩, List.mem_of_getElem? (i := 215) (by decide +kernel), List.mem_of_getElem? (i := 663) (by decide +kernel), List.mem_of_getElem? (i := 664) (by decide +kernel)⟩
theorem lw_p43 : lw_okq (⟨"PleaPapers", "changesIfTurned", "(IIZ)Z"⟩, 9) := ⟨⟨by decide +kernel, by decide +kernel⟩, List.mem_of_getElem? (i := 19) (by decide +kernel), List.mem_of_getElem? (i := 667) (by decide +kernel), List.mem_of_getElem? (i := 668) (by decide +kernel)⟩
theorem lw_p44 : lw_okq (⟨"PleaPapers$Proofs", "add", "(IIII)I"⟩, 6) := ⟨⟨by decide +kernel, by decide +kernel⟩, List.mem_of_getElem? (i := 157) (by decide +kernel), List.mem_of_getElem? (i := 675) (by decide +kernel), List.mem_of_getElem? (i := 676) (by decide +kernel)⟩
theorem lw_p45 : lw_okq (⟨"PleaPapers", "isProof", "(I)Z"⟩, 9) := ⟨⟨by decide +kernel, by decide +kernel⟩, List.mem_of_getElem? (i := 19) (by decide +kernel), List.mem_of_getElem? (i := 684) (by decide +kernel), List.mem_of_getElem? (i := 685) (by decide +kernel)⟩
theorem lw_p46 : lw_okq (⟨"PleaPapers$Facts", "bearing", "(II)I"⟩, 9) := ⟨⟨by decide +kernel, by decide +kernel⟩, List.mem_of_getElem? (i := 215) (by decide +kernel), List.mem_of_getElem? (i := 692) (by decide +kernel), List.mem_of_getElem? (i := 693) (by decide +kernel)⟩
theorem lw_p47 : lw_okq (⟨"PleaPapers$Scale", "weighFacts", "(LPleaPapers$Proofs;LPleaPapers$Facts;I)V"⟩, 2) := ⟨⟨by decide +kernel, by decide +kernel⟩, List.mem_of_getElem? (i := 257) (by decide +kernel), List.mem_of_getElem? (i := 700) (by decide +kernel), List.mem_of_getElem? (i := 701) (by decide +kernel)⟩
def lw_privs_3 : List (MethodName × Nat) := [(⟨"PleaPapers$Papers", "add", "(II[I)I"⟩, 4), (⟨"PleaPapers$Facts", "howMany", "(I)I"⟩, 9), (⟨"PleaPapers", "isClaim", "(I)Z"⟩, 9), (⟨"PleaPapers", "sureness", "(I)I"⟩, 9), (⟨"PleaPapers$Facts", "soBy", "(I)I"⟩, 9), (⟨"PleaPapers$Claims", "isOwed", "(II)Z"⟩, 4), (⟨"PleaPapers", "isPaper", "(I)Z"⟩, 9), (⟨"PleaPapers$Papers", "factSet", "(I)I"⟩, 4), (⟨"PleaPapers", "turnsOn", "(II)Z"⟩, 9), (⟨"PleaPapers", "isEnough", "(II)Z"⟩, 9), (⟨"PleaPapers$Facts", "admittedBy", "(I)I"⟩, 9), (⟨"PleaPapers", "changesIfTurned", "(IIZ)Z"⟩, 9), (⟨"PleaPapers$Proofs", "add", "(IIII)I"⟩, 6), (⟨"PleaPapers", "isProof", "(I)Z"⟩, 9), (⟨"PleaPapers$Facts", "bearing", "(II)I"⟩, 9), (⟨"PleaPapers$Scale", "weighFacts", "(LPleaPapers$Proofs;LPleaPapers$Facts;I)V"⟩, 2)]
theorem lw_r3 : ∀ q ∈ lw_privs_3, lw_okq q := List.forall_mem_cons.mpr ⟨lw_p32, List.forall_mem_cons.mpr ⟨lw_p33, List.forall_mem_cons.mpr ⟨lw_p34, List.forall_mem_cons.mpr ⟨lw_p35, List.forall_mem_cons.mpr ⟨lw_p36, List.forall_mem_cons.mpr ⟨lw_p37, List.forall_mem_cons.mpr ⟨lw_p38, List.forall_mem_cons.mpr ⟨lw_p39, List.forall_mem_cons.mpr ⟨lw_p40, List.forall_mem_cons.mpr ⟨lw_p41, List.forall_mem_cons.mpr ⟨lw_p42, List.forall_mem_cons.mpr ⟨lw_p43, List.forall_mem_cons.mpr ⟨lw_p44, List.forall_mem_cons.mpr ⟨lw_p45, List.forall_mem_cons.mpr ⟨lw_p46, List.forall_mem_cons.mpr ⟨lw_p47, fun _ h => absurd h List.not_mem_nil⟩⟩⟩⟩⟩⟩⟩⟩⟩⟩⟩⟩⟩⟩⟩⟩
theorem lw_p48 : lw_okq (⟨"PleaPapers$Scale", "cutBy", "(LPleaPapers$Proofs;LPleaPapers$Facts;II)V"⟩, 2) := ⟨⟨by decide +kernel, by decide +kernel⟩, List.mem_of_getElem? (i := 257) (by decide +kernel), List.mem_of_getElem? (i := 704) (by decide +kernel), List.mem_of_getElem? (i := 705) (by decide +kernel)⟩
theorem lw_p49 : lw_okq (⟨"PleaPapers$Scale", "weighClaims", "(LPleaPapers$Suit;LPleaPapers$Facts;I)I"⟩, 2) := ⟨⟨by decide +kernel, by decide +kernel⟩, List.mem_of_getElem? (i := 257) (by decide +kernel), List.mem_of_getElem? (i := 715) (by decide +kernel), List.mem_of_getElem? (i := 716) (by decide +kernel)⟩
theorem lw_p50 : lw_okq (⟨"PleaPapers", "gain", "(III)I"⟩, 9) := ⟨⟨by decide +kernel, by decide +kernel⟩, List.mem_of_getElem? (i := 19) (by decide +kernel), List.mem_of_getElem? (i := 730) (by decide +kernel), List.mem_of_getElem? (i := 731) (by decide +kernel)⟩
theorem lw_p51 : lw_okq (⟨"PleaPapers$Proofs", "costOf", "(I)I"⟩, 6) := ⟨⟨by decide +kernel, by decide +kernel⟩, List.mem_of_getElem? (i := 157) (by decide +kernel), List.mem_of_getElem? (i := 734) (by decide +kernel), List.mem_of_getElem? (i := 735) (by decide +kernel)⟩
theorem lw_p52 : lw_okq (⟨"PleaPapers", "bestSet", "(II)I"⟩, 9) := ⟨⟨by decide +kernel, by decide +kernel⟩, List.mem_of_getElem? (i := 19) (by decide +kernel), List.mem_of_getElem? (i := 743) (by decide +kernel), List.mem_of_getElem? (i := 744) (by decide +kernel)⟩
theorem lw_p53 : lw_okq (⟨"PleaPapers$Proofs", "notBrought", "(II)I"⟩, 6) := ⟨⟨by decide +kernel, by decide +kernel⟩, List.mem_of_getElem? (i := 157) (by decide +kernel), List.mem_of_getElem? (i := 747) (by decide +kernel), List.mem_of_getElem? (i := 748) (by decide +kernel)⟩
theorem lw_p54 : lw_okq (⟨"PleaPapers", "leadSet", "(I)I"⟩, 9) := ⟨⟨by decide +kernel, by decide +kernel⟩, List.mem_of_getElem? (i := 19) (by decide +kernel), List.mem_of_getElem? (i := 755) (by decide +kernel), List.mem_of_getElem? (i := 756) (by decide +kernel)⟩
theorem lw_p55 : lw_okq (⟨"PleaPapers", "replySet", "(II)I"⟩, 9) := ⟨⟨by decide +kernel, by decide +kernel⟩, List.mem_of_getElem? (i := 19) (by decide +kernel), List.mem_of_getElem? (i := 759) (by decide +kernel), List.mem_of_getElem? (i := 760) (by decide +kernel)⟩
theorem lw_p56 : lw_okq (⟨"PleaPapers$Suit", "draw", "(I)I"⟩, 5) := ⟨⟨by decide +kernel, by decide +kernel⟩, List.mem_of_getElem? (i := 98) (by decide +kernel), List.mem_of_getElem? (i := 775) (by decide +kernel), List.mem_of_getElem? (i := 776) (by decide +kernel)⟩
theorem lw_p57 : lw_okq (⟨"PleaPapers$Claims", "coinsOwed", "(I)I"⟩, 4) := ⟨⟨by decide +kernel, by decide +kernel⟩, List.mem_of_getElem? (i := 104) (by decide +kernel), List.mem_of_getElem? (i := 783) (by decide +kernel), List.mem_of_getElem? (i := 784) (by decide +kernel)⟩
theorem lw_p58 : lw_okq (⟨"PleaPapers$Suit", "copyFrom", "(LPleaPapers$Suit;)V"⟩, 5) := ⟨⟨by decide +kernel, by decide +kernel⟩, List.mem_of_getElem? (i := 98) (by decide +kernel), List.mem_of_getElem? (i := 795) (by decide +kernel), List.mem_of_getElem? (i := 796) (by decide +kernel)⟩
theorem lw_p59 : lw_okq (⟨"PleaPapers$Claims", "copyFrom", "(LPleaPapers$Claims;)V"⟩, 4) := ⟨⟨by decide +kernel, by decide +kernel⟩, List.mem_of_getElem? (i := 104) (by decide +kernel), List.mem_of_getElem? (i := 799) (by decide +kernel), List.mem_of_getElem? (i := 800) (by decide +kernel)⟩
theorem lw_p60 : lw_okq (⟨"PleaPapers$Papers", "copyFrom", "(LPleaPapers$Papers;)V"⟩, 4) := ⟨⟨by decide +kernel, by decide +kernel⟩, List.mem_of_getElem? (i := 130) (by decide +kernel), List.mem_of_getElem? (i := 804) (by decide +kernel), List.mem_of_getElem? (i := 805) (by decide +kernel)⟩
theorem lw_p61 : lw_okq (⟨"PleaPapers$Proofs", "copyFrom", "(LPleaPapers$Proofs;)V"⟩, 6) := ⟨⟨by decide +kernel, by decide +kernel⟩, List.mem_of_getElem? (i := 157) (by decide +kernel), List.mem_of_getElem? (i := 808) (by decide +kernel), List.mem_of_getElem? (i := 809) (by decide +kernel)⟩
theorem lw_p62 : lw_okq (⟨"PleaPapersModel", "begin", "()V"⟩, 45) := ⟨⟨by decide +kernel, by decide +kernel⟩, List.mem_of_getElem? (i := 817) (by decide +kernel), List.mem_of_getElem? (i := 974) (by decide +kernel), List.mem_of_getElem? (i := 975) (by decide +kernel)⟩
theorem lw_p63 : lw_okq (⟨"PleaPapersModel", "beginReading", "()V"⟩, 45) := ⟨⟨by decide +kernel, by decide +kernel⟩, List.mem_of_getElem? (i := 817) (by decide +kernel), List.mem_of_getElem? (i := 979) (by decide +kernel), List.mem_of_getElem? (i := 980) (by decide +kernel)⟩
def lw_privs_4 : List (MethodName × Nat) := [(⟨"PleaPapers$Scale", "cutBy", "(LPleaPapers$Proofs;LPleaPapers$Facts;II)V"⟩, 2), (⟨"PleaPapers$Scale", "weighClaims", "(LPleaPapers$Suit;LPleaPapers$Facts;I)I"⟩, 2), (⟨"PleaPapers", "gain", "(III)I"⟩, 9), (⟨"PleaPapers$Proofs", "costOf", "(I)I"⟩, 6), (⟨"PleaPapers", "bestSet", "(II)I"⟩, 9), (⟨"PleaPapers$Proofs", "notBrought", "(II)I"⟩, 6), (⟨"PleaPapers", "leadSet", "(I)I"⟩, 9), (⟨"PleaPapers", "replySet", "(II)I"⟩, 9), (⟨"PleaPapers$Suit", "draw", "(I)I"⟩, 5), (⟨"PleaPapers$Claims", "coinsOwed", "(I)I"⟩, 4), (⟨"PleaPapers$Suit", "copyFrom", "(LPleaPapers$Suit;)V"⟩, 5), (⟨"PleaPapers$Claims", "copyFrom", "(LPleaPapers$Claims;)V"⟩, 4), (⟨"PleaPapers$Papers", "copyFrom", "(LPleaPapers$Papers;)V"⟩, 4), (⟨"PleaPapers$Proofs", "copyFrom", "(LPleaPapers$Proofs;)V"⟩, 6), (⟨"PleaPapersModel", "begin", "()V"⟩, 45), (⟨"PleaPapersModel", "beginReading", "()V"⟩, 45)]
theorem lw_r4 : ∀ q ∈ lw_privs_4, lw_okq q := List.forall_mem_cons.mpr ⟨lw_p48, List.forall_mem_cons.mpr ⟨lw_p49, List.forall_mem_cons.mpr ⟨lw_p50, List.forall_mem_cons.mpr ⟨lw_p51, List.forall_mem_cons.mpr ⟨lw_p52, List.forall_mem_cons.mpr ⟨lw_p53, List.forall_mem_cons.mpr ⟨lw_p54, List.forall_mem_cons.mpr ⟨lw_p55, List.forall_mem_cons.mpr ⟨lw_p56, List.forall_mem_cons.mpr ⟨lw_p57, List.forall_mem_cons.mpr ⟨lw_p58, List.forall_mem_cons.mpr ⟨lw_p59, List.forall_mem_cons.mpr ⟨lw_p60, List.forall_mem_cons.mpr ⟨lw_p61, List.forall_mem_cons.mpr ⟨lw_p62, List.forall_mem_cons.mpr ⟨lw_p63, fun _ h => absurd h List.not_mem_nil⟩⟩⟩⟩⟩⟩⟩⟩⟩⟩⟩⟩⟩⟩⟩⟩
theorem lw_p64 : lw_okq (⟨"PleaPapersModel", "takeWord", "()V"⟩, 45) := ⟨⟨by decide +kernel, by decide +kernel⟩, List.mem_of_getElem? (i := 817) (by decide +kernel), List.mem_of_getElem? (i := 983) (by decide +kernel), List.mem_of_getElem? (i := 984) (by decide +kernel)⟩
theorem lw_p65 : lw_okq (⟨"PleaPapersModel", "here", "()I"⟩, 45) := ⟨⟨by decide +kernel, by decide +kernel⟩, List.mem_of_getElem? (i := 817) (by decide +kernel), List.mem_of_getElem? (i := 987) (by decide +kernel), List.mem_of_getElem? (i := 988) (by decide +kernel)⟩
theorem lw_p66 : lw_okq (⟨"PleaPapersModel", "isWord", "(IIIIII)Z"⟩, 45) := ⟨⟨by decide +kernel, by decide +kernel⟩, List.mem_of_getElem? (i := 817) (by decide +kernel), List.mem_of_getElem? (i := 993) (by decide +kernel), List.mem_of_getElem? (i := 994) (by decide +kernel)⟩
theorem lw_p67 : lw_okq (⟨"PleaPapersModel", "want", "(ZII)Z"⟩, 45) := ⟨⟨by decide +kernel, by decide +kernel⟩, List.mem_of_getElem? (i := 817) (by decide +kernel), List.mem_of_getElem? (i := 997) (by decide +kernel), List.mem_of_getElem? (i := 998) (by decide +kernel)⟩
theorem lw_p68 : lw_okq (⟨"PleaPapersModel", "takeNumber", "(II)I"⟩, 45) := ⟨⟨by decide +kernel, by decide +kernel⟩, List.mem_of_getElem? (i := 817) (by decide +kernel), List.mem_of_getElem? (i := 1001) (by decide +kernel), List.mem_of_getElem? (i := 1002) (by decide +kernel)⟩
theorem lw_p69 : lw_okq (⟨"PleaPapersModel", "takeCase", "()V"⟩, 45) := ⟨⟨by decide +kernel, by decide +kernel⟩, List.mem_of_getElem? (i := 817) (by decide +kernel), List.mem_of_getElem? (i := 1008) (by decide +kernel), List.mem_of_getElem? (i := 1009) (by decide +kernel)⟩
theorem lw_p70 : lw_okq (⟨"PleaPapersModel", "takeOperand", "()V"⟩, 45) := ⟨⟨by decide +kernel, by decide +kernel⟩, List.mem_of_getElem? (i := 817) (by decide +kernel), List.mem_of_getElem? (i := 1012) (by decide +kernel), List.mem_of_getElem? (i := 1013) (by decide +kernel)⟩
theorem lw_p71 : lw_okq (⟨"PleaPapersModel", "push", "(I)V"⟩, 45) := ⟨⟨by decide +kernel, by decide +kernel⟩, List.mem_of_getElem? (i := 817) (by decide +kernel), List.mem_of_getElem? (i := 1016) (by decide +kernel), List.mem_of_getElem? (i := 1017) (by decide +kernel)⟩
theorem lw_p72 : lw_okq (⟨"PleaPapersModel", "isNext", "(IIII)Z"⟩, 45) := ⟨⟨by decide +kernel, by decide +kernel⟩, List.mem_of_getElem? (i := 817) (by decide +kernel), List.mem_of_getElem? (i := 1020) (by decide +kernel), List.mem_of_getElem? (i := 1021) (by decide +kernel)⟩
theorem lw_p73 : lw_okq (⟨"PleaPapersModel", "say", "(I)V"⟩, 45) := ⟨⟨by decide +kernel, by decide +kernel⟩, List.mem_of_getElem? (i := 817) (by decide +kernel), List.mem_of_getElem? (i := 1024) (by decide +kernel), List.mem_of_getElem? (i := 1025) (by decide +kernel)⟩
theorem lw_p74 : lw_okq (⟨"PleaPapersModel", "closeNots", "()V"⟩, 45) := ⟨⟨by decide +kernel, by decide +kernel⟩, List.mem_of_getElem? (i := 817) (by decide +kernel), List.mem_of_getElem? (i := 1028) (by decide +kernel), List.mem_of_getElem? (i := 1029) (by decide +kernel)⟩
theorem lw_p75 : lw_okq (⟨"PleaPapersModel", "isTop", "(I)Z"⟩, 45) := ⟨⟨by decide +kernel, by decide +kernel⟩, List.mem_of_getElem? (i := 817) (by decide +kernel), List.mem_of_getElem? (i := 1032) (by decide +kernel), List.mem_of_getElem? (i := 1033) (by decide +kernel)⟩
theorem lw_p76 : lw_okq (⟨"PleaPapersModel", "sayTop", "()V"⟩, 45) := ⟨⟨by decide +kernel, by decide +kernel⟩, List.mem_of_getElem? (i := 817) (by decide +kernel), List.mem_of_getElem? (i := 1036) (by decide +kernel), List.mem_of_getElem? (i := 1037) (by decide +kernel)⟩
theorem lw_p77 : lw_okq (⟨"PleaPapersModel", "takeJoin", "()Z"⟩, 45) := ⟨⟨by decide +kernel, by decide +kernel⟩, List.mem_of_getElem? (i := 817) (by decide +kernel), List.mem_of_getElem? (i := 1040) (by decide +kernel), List.mem_of_getElem? (i := 1041) (by decide +kernel)⟩
theorem lw_p78 : lw_okq (⟨"PleaPapersModel", "hearAll", "(I)V"⟩, 45) := ⟨⟨by decide +kernel, by decide +kernel⟩, List.mem_of_getElem? (i := 817) (by decide +kernel), List.mem_of_getElem? (i := 1049) (by decide +kernel), List.mem_of_getElem? (i := 1050) (by decide +kernel)⟩
theorem lw_p79 : lw_okq (⟨"PleaPapersModel", "free", "(I)V"⟩, 45) := ⟨⟨by decide +kernel, by decide +kernel⟩, List.mem_of_getElem? (i := 817) (by decide +kernel), List.mem_of_getElem? (i := 1053) (by decide +kernel), List.mem_of_getElem? (i := 1054) (by decide +kernel)⟩
def lw_privs_5 : List (MethodName × Nat) := [(⟨"PleaPapersModel", "takeWord", "()V"⟩, 45), (⟨"PleaPapersModel", "here", "()I"⟩, 45), (⟨"PleaPapersModel", "isWord", "(IIIIII)Z"⟩, 45), (⟨"PleaPapersModel", "want", "(ZII)Z"⟩, 45), (⟨"PleaPapersModel", "takeNumber", "(II)I"⟩, 45), (⟨"PleaPapersModel", "takeCase", "()V"⟩, 45), (⟨"PleaPapersModel", "takeOperand", "()V"⟩, 45), (⟨"PleaPapersModel", "push", "(I)V"⟩, 45), (⟨"PleaPapersModel", "isNext", "(IIII)Z"⟩, 45), (⟨"PleaPapersModel", "say", "(I)V"⟩, 45), (⟨"PleaPapersModel", "closeNots", "()V"⟩, 45), (⟨"PleaPapersModel", "isTop", "(I)Z"⟩, 45), (⟨"PleaPapersModel", "sayTop", "()V"⟩, 45), (⟨"PleaPapersModel", "takeJoin", "()Z"⟩, 45), (⟨"PleaPapersModel", "hearAll", "(I)V"⟩, 45), (⟨"PleaPapersModel", "free", "(I)V"⟩, 45)]
theorem lw_r5 : ∀ q ∈ lw_privs_5, lw_okq q := List.forall_mem_cons.mpr ⟨lw_p64, List.forall_mem_cons.mpr ⟨lw_p65, List.forall_mem_cons.mpr ⟨lw_p66, List.forall_mem_cons.mpr ⟨lw_p67, List.forall_mem_cons.mpr ⟨lw_p68, List.forall_mem_cons.mpr ⟨lw_p69, List.forall_mem_cons.mpr ⟨lw_p70, List.forall_mem_cons.mpr ⟨lw_p71, List.forall_mem_cons.mpr ⟨lw_p72, List.forall_mem_cons.mpr ⟨lw_p73, List.forall_mem_cons.mpr ⟨lw_p74, List.forall_mem_cons.mpr ⟨lw_p75, List.forall_mem_cons.mpr ⟨lw_p76, List.forall_mem_cons.mpr ⟨lw_p77, List.forall_mem_cons.mpr ⟨lw_p78, List.forall_mem_cons.mpr ⟨lw_p79, fun _ h => absurd h List.not_mem_nil⟩⟩⟩⟩⟩⟩⟩⟩⟩⟩⟩⟩⟩⟩⟩⟩
theorem lw_p80 : lw_okq (⟨"PleaPapersModel", "hear", "(IZ)V"⟩, 45) := ⟨⟨by decide +kernel, by decide +kernel⟩, List.mem_of_getElem? (i := 817) (by decide +kernel), List.mem_of_getElem? (i := 1057) (by decide +kernel), List.mem_of_getElem? (i := 1058) (by decide +kernel)⟩
theorem lw_p81 : lw_okq (⟨"PleaPapersModel", "mayBe", "(III)Z"⟩, 45) := ⟨⟨by decide +kernel, by decide +kernel⟩, List.mem_of_getElem? (i := 817) (by decide +kernel), List.mem_of_getElem? (i := 1061) (by decide +kernel), List.mem_of_getElem? (i := 1062) (by decide +kernel)⟩
theorem lw_p82 : lw_okq (⟨"PleaPapersModel", "act", "(III)V"⟩, 45) := ⟨⟨by decide +kernel, by decide +kernel⟩, List.mem_of_getElem? (i := 817) (by decide +kernel), List.mem_of_getElem? (i := 1065) (by decide +kernel), List.mem_of_getElem? (i := 1066) (by decide +kernel)⟩
theorem lw_p83 : lw_okq (⟨"PleaPapersModel", "takeClause", "(I)V"⟩, 45) := ⟨⟨by decide +kernel, by decide +kernel⟩, List.mem_of_getElem? (i := 817) (by decide +kernel), List.mem_of_getElem? (i := 1072) (by decide +kernel), List.mem_of_getElem? (i := 1073) (by decide +kernel)⟩
theorem lw_p84 : lw_okq (⟨"PleaPapersModel", "kindHere", "()I"⟩, 45) := ⟨⟨by decide +kernel, by decide +kernel⟩, List.mem_of_getElem? (i := 817) (by decide +kernel), List.mem_of_getElem? (i := 1076) (by decide +kernel), List.mem_of_getElem? (i := 1077) (by decide +kernel)⟩
theorem lw_p85 : lw_okq (⟨"PleaPapersModel", "takeItem", "(II)V"⟩, 45) := ⟨⟨by decide +kernel, by decide +kernel⟩, List.mem_of_getElem? (i := 817) (by decide +kernel), List.mem_of_getElem? (i := 1083) (by decide +kernel), List.mem_of_getElem? (i := 1084) (by decide +kernel)⟩
theorem lw_p86 : lw_okq (⟨"PleaPapersModel", "standing", "(I)I"⟩, 45) := ⟨⟨by decide +kernel, by decide +kernel⟩, List.mem_of_getElem? (i := 817) (by decide +kernel), List.mem_of_getElem? (i := 1100) (by decide +kernel), List.mem_of_getElem? (i := 1101) (by decide +kernel)⟩
theorem lw_p87 : lw_okq (⟨"PleaPapersModel", "isClaim", "(I)Z"⟩, 45) := ⟨⟨by decide +kernel, by decide +kernel⟩, List.mem_of_getElem? (i := 817) (by decide +kernel), List.mem_of_getElem? (i := 1117) (by decide +kernel), List.mem_of_getElem? (i := 1118) (by decide +kernel)⟩
theorem lw_p88 : lw_okq (⟨"PleaPapersModel", "factsOf", "(I)I"⟩, 45) := ⟨⟨by decide +kernel, by decide +kernel⟩, List.mem_of_getElem? (i := 817) (by decide +kernel), List.mem_of_getElem? (i := 1121) (by decide +kernel), List.mem_of_getElem? (i := 1122) (by decide +kernel)⟩
theorem lw_p89 : lw_okq (⟨"PleaPapersModel", "findCases", "(I)V"⟩, 45) := ⟨⟨by decide +kernel, by decide +kernel⟩, List.mem_of_getElem? (i := 817) (by decide +kernel), List.mem_of_getElem? (i := 1125) (by decide +kernel), List.mem_of_getElem? (i := 1126) (by decide +kernel)⟩
theorem lw_p90 : lw_okq (⟨"PleaPapersModel", "asks", "(II)Z"⟩, 45) := ⟨⟨by decide +kernel, by decide +kernel⟩, List.mem_of_getElem? (i := 817) (by decide +kernel), List.mem_of_getElem? (i := 1129) (by decide +kernel), List.mem_of_getElem? (i := 1130) (by decide +kernel)⟩
theorem lw_p91 : lw_okq (⟨"PleaPapersModel", "lay", "(Z)V"⟩, 45) := ⟨⟨by decide +kernel, by decide +kernel⟩, List.mem_of_getElem? (i := 817) (by decide +kernel), List.mem_of_getElem? (i := 1133) (by decide +kernel), List.mem_of_getElem? (i := 1134) (by decide +kernel)⟩
theorem lw_p92 : lw_okq (⟨"PleaPapersModel", "pop", "()Z"⟩, 45) := ⟨⟨by decide +kernel, by decide +kernel⟩, List.mem_of_getElem? (i := 817) (by decide +kernel), List.mem_of_getElem? (i := 1137) (by decide +kernel), List.mem_of_getElem? (i := 1138) (by decide +kernel)⟩
theorem lw_p93 : lw_okq (⟨"PleaPapersModel", "sureBy", "(I)I"⟩, 45) := ⟨⟨by decide +kernel, by decide +kernel⟩, List.mem_of_getElem? (i := 817) (by decide +kernel), List.mem_of_getElem? (i := 1141) (by decide +kernel), List.mem_of_getElem? (i := 1142) (by decide +kernel)⟩
theorem lw_p94 : lw_okq (⟨"PleaPapersModel", "openFacts", "()I"⟩, 45) := ⟨⟨by decide +kernel, by decide +kernel⟩, List.mem_of_getElem? (i := 817) (by decide +kernel), List.mem_of_getElem? (i := 1145) (by decide +kernel), List.mem_of_getElem? (i := 1146) (by decide +kernel)⟩
theorem lw_p95 : lw_okq (⟨"PleaPapersModel", "soBy", "(II)I"⟩, 45) := ⟨⟨by decide +kernel, by decide +kernel⟩, List.mem_of_getElem? (i := 817) (by decide +kernel), List.mem_of_getElem? (i := 1149) (by decide +kernel), List.mem_of_getElem? (i := 1150) (by decide +kernel)⟩
def lw_privs_6 : List (MethodName × Nat) := [(⟨"PleaPapersModel", "hear", "(IZ)V"⟩, 45), (⟨"PleaPapersModel", "mayBe", "(III)Z"⟩, 45), (⟨"PleaPapersModel", "act", "(III)V"⟩, 45), (⟨"PleaPapersModel", "takeClause", "(I)V"⟩, 45), (⟨"PleaPapersModel", "kindHere", "()I"⟩, 45), (⟨"PleaPapersModel", "takeItem", "(II)V"⟩, 45), (⟨"PleaPapersModel", "standing", "(I)I"⟩, 45), (⟨"PleaPapersModel", "isClaim", "(I)Z"⟩, 45), (⟨"PleaPapersModel", "factsOf", "(I)I"⟩, 45), (⟨"PleaPapersModel", "findCases", "(I)V"⟩, 45), (⟨"PleaPapersModel", "asks", "(II)Z"⟩, 45), (⟨"PleaPapersModel", "lay", "(Z)V"⟩, 45), (⟨"PleaPapersModel", "pop", "()Z"⟩, 45), (⟨"PleaPapersModel", "sureBy", "(I)I"⟩, 45), (⟨"PleaPapersModel", "openFacts", "()I"⟩, 45), (⟨"PleaPapersModel", "soBy", "(II)I"⟩, 45)]
theorem lw_r6 : ∀ q ∈ lw_privs_6, lw_okq q := List.forall_mem_cons.mpr ⟨lw_p80, List.forall_mem_cons.mpr ⟨lw_p81, List.forall_mem_cons.mpr ⟨lw_p82, List.forall_mem_cons.mpr ⟨lw_p83, List.forall_mem_cons.mpr ⟨lw_p84, List.forall_mem_cons.mpr ⟨lw_p85, List.forall_mem_cons.mpr ⟨lw_p86, List.forall_mem_cons.mpr ⟨lw_p87, List.forall_mem_cons.mpr ⟨lw_p88, List.forall_mem_cons.mpr ⟨lw_p89, List.forall_mem_cons.mpr ⟨lw_p90, List.forall_mem_cons.mpr ⟨lw_p91, List.forall_mem_cons.mpr ⟨lw_p92, List.forall_mem_cons.mpr ⟨lw_p93, List.forall_mem_cons.mpr ⟨lw_p94, List.forall_mem_cons.mpr ⟨lw_p95, fun _ h => absurd h List.not_mem_nil⟩⟩⟩⟩⟩⟩⟩⟩⟩⟩⟩⟩⟩⟩⟩⟩
theorem lw_p96 : lw_okq (⟨"PleaPapersModel", "isEnough", "(II)Z"⟩, 45) := ⟨⟨by decide +kernel, by decide +kernel⟩, List.mem_of_getElem? (i := 817) (by decide +kernel), List.mem_of_getElem? (i := 1180) (by decide +kernel), List.mem_of_getElem? (i := 1181) (by decide +kernel)⟩
theorem lw_p97 : lw_okq (⟨"PleaPapersModel", "isProof", "(I)Z"⟩, 45) := ⟨⟨by decide +kernel, by decide +kernel⟩, List.mem_of_getElem? (i := 817) (by decide +kernel), List.mem_of_getElem? (i := 1200) (by decide +kernel), List.mem_of_getElem? (i := 1201) (by decide +kernel)⟩
theorem lw_p98 : lw_okq (⟨"PleaPapersModel", "counts", "(I)I"⟩, 45) := ⟨⟨by decide +kernel, by decide +kernel⟩, List.mem_of_getElem? (i := 817) (by decide +kernel), List.mem_of_getElem? (i := 1208) (by decide +kernel), List.mem_of_getElem? (i := 1209) (by decide +kernel)⟩
theorem lw_p99 : lw_okq (⟨"PleaPapersModel", "likelyBy", "(II)I"⟩, 45) := ⟨⟨by decide +kernel, by decide +kernel⟩, List.mem_of_getElem? (i := 817) (by decide +kernel), List.mem_of_getElem? (i := 1216) (by decide +kernel), List.mem_of_getElem? (i := 1217) (by decide +kernel)⟩
theorem lw_p100 : lw_okq (⟨"PleaPapersModel", "findWays", "(I)V"⟩, 45) := ⟨⟨by decide +kernel, by decide +kernel⟩, List.mem_of_getElem? (i := 817) (by decide +kernel), List.mem_of_getElem? (i := 1224) (by decide +kernel), List.mem_of_getElem? (i := 1225) (by decide +kernel)⟩
theorem lw_p101 : lw_okq (⟨"PleaPapersModel", "chanceOf", "(I)I"⟩, 45) := ⟨⟨by decide +kernel, by decide +kernel⟩, List.mem_of_getElem? (i := 817) (by decide +kernel), List.mem_of_getElem? (i := 1229) (by decide +kernel), List.mem_of_getElem? (i := 1230) (by decide +kernel)⟩
theorem lw_p102 : lw_okq (⟨"PleaPapersModel", "worthTo", "(II)I"⟩, 45) := ⟨⟨by decide +kernel, by decide +kernel⟩, List.mem_of_getElem? (i := 817) (by decide +kernel), List.mem_of_getElem? (i := 1237) (by decide +kernel), List.mem_of_getElem? (i := 1238) (by decide +kernel)⟩
theorem lw_p103 : lw_okq (⟨"PleaPapersModel", "worthBy", "(I)I"⟩, 45) := ⟨⟨by decide +kernel, by decide +kernel⟩, List.mem_of_getElem? (i := 817) (by decide +kernel), List.mem_of_getElem? (i := 1241) (by decide +kernel), List.mem_of_getElem? (i := 1242) (by decide +kernel)⟩
theorem lw_p104 : lw_okq (⟨"PleaPapersModel", "choose", "(II)V"⟩, 45) := ⟨⟨by decide +kernel, by decide +kernel⟩, List.mem_of_getElem? (i := 817) (by decide +kernel), List.mem_of_getElem? (i := 1251) (by decide +kernel), List.mem_of_getElem? (i := 1252) (by decide +kernel)⟩
theorem lw_p105 : lw_okq (⟨"PleaPapersModel", "setOf", "(I)I"⟩, 45) := ⟨⟨by decide +kernel, by decide +kernel⟩, List.mem_of_getElem? (i := 817) (by decide +kernel), List.mem_of_getElem? (i := 1255) (by decide +kernel), List.mem_of_getElem? (i := 1256) (by decide +kernel)⟩
theorem lw_p106 : lw_okq (⟨"PleaPapersModel", "costOf", "(I)I"⟩, 45) := ⟨⟨by decide +kernel, by decide +kernel⟩, List.mem_of_getElem? (i := 817) (by decide +kernel), List.mem_of_getElem? (i := 1259) (by decide +kernel), List.mem_of_getElem? (i := 1260) (by decide +kernel)⟩
theorem lw_p107 : lw_okq (⟨"PleaPapersModel", "findAnswer", "(II)V"⟩, 45) := ⟨⟨by decide +kernel, by decide +kernel⟩, List.mem_of_getElem? (i := 817) (by decide +kernel), List.mem_of_getElem? (i := 1267) (by decide +kernel), List.mem_of_getElem? (i := 1268) (by decide +kernel)⟩
theorem lw_p108 : lw_okq (⟨"PleaPapersModel", "draw", "(I)I"⟩, 45) := ⟨⟨by decide +kernel, by decide +kernel⟩, List.mem_of_getElem? (i := 817) (by decide +kernel), List.mem_of_getElem? (i := 1283) (by decide +kernel), List.mem_of_getElem? (i := 1284) (by decide +kernel)⟩
theorem lw_p109 : lw_okq (⟨"PleaPapersModel", "copy", "(II)V"⟩, 45) := ⟨⟨by decide +kernel, by decide +kernel⟩, List.mem_of_getElem? (i := 817) (by decide +kernel), List.mem_of_getElem? (i := 1295) (by decide +kernel), List.mem_of_getElem? (i := 1296) (by decide +kernel)⟩
def lw_privs_7 : List (MethodName × Nat) := [(⟨"PleaPapersModel", "isEnough", "(II)Z"⟩, 45), (⟨"PleaPapersModel", "isProof", "(I)Z"⟩, 45), (⟨"PleaPapersModel", "counts", "(I)I"⟩, 45), (⟨"PleaPapersModel", "likelyBy", "(II)I"⟩, 45), (⟨"PleaPapersModel", "findWays", "(I)V"⟩, 45), (⟨"PleaPapersModel", "chanceOf", "(I)I"⟩, 45), (⟨"PleaPapersModel", "worthTo", "(II)I"⟩, 45), (⟨"PleaPapersModel", "worthBy", "(I)I"⟩, 45), (⟨"PleaPapersModel", "choose", "(II)V"⟩, 45), (⟨"PleaPapersModel", "setOf", "(I)I"⟩, 45), (⟨"PleaPapersModel", "costOf", "(I)I"⟩, 45), (⟨"PleaPapersModel", "findAnswer", "(II)V"⟩, 45), (⟨"PleaPapersModel", "draw", "(I)I"⟩, 45), (⟨"PleaPapersModel", "copy", "(II)V"⟩, 45)]
theorem lw_r7 : ∀ q ∈ lw_privs_7, lw_okq q := List.forall_mem_cons.mpr ⟨lw_p96, List.forall_mem_cons.mpr ⟨lw_p97, List.forall_mem_cons.mpr ⟨lw_p98, List.forall_mem_cons.mpr ⟨lw_p99, List.forall_mem_cons.mpr ⟨lw_p100, List.forall_mem_cons.mpr ⟨lw_p101, List.forall_mem_cons.mpr ⟨lw_p102, List.forall_mem_cons.mpr ⟨lw_p103, List.forall_mem_cons.mpr ⟨lw_p104, List.forall_mem_cons.mpr ⟨lw_p105, List.forall_mem_cons.mpr ⟨lw_p106, List.forall_mem_cons.mpr ⟨lw_p107, List.forall_mem_cons.mpr ⟨lw_p108, List.forall_mem_cons.mpr ⟨lw_p109, fun _ h => absurd h List.not_mem_nil⟩⟩⟩⟩⟩⟩⟩⟩⟩⟩⟩⟩⟩⟩
def lw_privs : List (MethodName × Nat) := lw_privs_1 ++ (lw_privs_2 ++ (lw_privs_3 ++ (lw_privs_4 ++ (lw_privs_5 ++ (lw_privs_6 ++ (lw_privs_7))))))
def lw_tbl : List Cond := k2_sels lw_privs ++ tables_1
theorem lw_privs_ok : ∀ q ∈ lw_privs, lw_okq q := by
  show ∀ q ∈ lw_privs_1 ++ (lw_privs_2 ++ (lw_privs_3 ++ (lw_privs_4 ++ (lw_privs_5 ++ (lw_privs_6 ++ (lw_privs_7)))))), lw_okq q
  exact List.forall_mem_append.mpr ⟨lw_r1, List.forall_mem_append.mpr ⟨lw_r2, List.forall_mem_append.mpr ⟨lw_r3, List.forall_mem_append.mpr ⟨lw_r4, List.forall_mem_append.mpr ⟨lw_r5, List.forall_mem_append.mpr ⟨lw_r6, lw_r7⟩⟩⟩⟩⟩⟩

def RX0 : String := "PleaPapers$ClaimReader"
def TX0 : u_T := fun k => match k with
  | 0 => ("PleaPapers$ClaimReader", "code", "[I", true)
  | 1 => ("PleaPapers$ClaimReader", "stack", "[J", true)
  | 2 => ("PleaPapers$ClaimReader", "size", "I", false)
  | 3 => ("PleaPapers$ClaimReader", "coins", "I", false)
  | _ => ("PleaPapers$ClaimReader", "factSet", "I", false)
def tyX0 : Nat → FieldType := fun k => match k with
  | 0 => .array .int
  | 1 => .array .long
  | 2 => .int
  | 3 => .int
  | _ => .int
theorem nmX0 : ∀ a, a < 5 → ∀ b, b < 5 → a ≠ b → (TX0 a).2.1 ≠ (TX0 b).2.1 := by decide +kernel
theorem tyX0_ok : ∀ k, k < 5 → parseFieldDescriptor (TX0 k).2.2.1 = some (tyX0 k) := by decide +kernel
abbrev cX0_init : ByteArray := prog_2_method_1_code
def yX0_init : MethodName := ⟨RX0, "<init>", "()V"⟩
abbrev cX0_read : ByteArray := prog_2_method_2_code
def yX0_read : MethodName := ⟨RX0, "read", "(LPleaPapers$Text;)V"⟩
abbrev cX0_readAny : ByteArray := prog_2_method_3_code
def yX0_readAny : MethodName := ⟨RX0, "readAny", "(LPleaPapers$ClaimReader;LPleaPapers$Text;I)V"⟩
abbrev cX0_readAll : ByteArray := prog_2_method_4_code
def yX0_readAll : MethodName := ⟨RX0, "readAll", "(LPleaPapers$ClaimReader;LPleaPapers$Text;I)V"⟩
abbrev cX0_readOne : ByteArray := prog_2_method_5_code
def yX0_readOne : MethodName := ⟨RX0, "readOne", "(LPleaPapers$ClaimReader;LPleaPapers$Text;I)V"⟩
abbrev cX0_readFact : ByteArray := prog_2_method_6_code
def yX0_readFact : MethodName := ⟨RX0, "readFact", "(LPleaPapers$Text;)V"⟩
abbrev cX0_emit : ByteArray := prog_2_method_7_code
def yX0_emit : MethodName := ⟨RX0, "emit", "(I)V"⟩
abbrev cX0_fillTable : ByteArray := prog_2_method_8_code
def yX0_fillTable : MethodName := ⟨RX0, "fillTable", "([J)V"⟩
abbrev cX0_wordOf : ByteArray := prog_2_method_9_code
def yX0_wordOf : MethodName := ⟨RX0, "wordOf", "(I)J"⟩
abbrev cX0_factWord : ByteArray := prog_2_method_10_code
def yX0_factWord : MethodName := ⟨RX0, "factWord", "(II)J"⟩
def RX1 : String := "PleaPapers$Claims"
def TX1 : u_T := fun k => match k with
  | 0 => ("PleaPapers$Claims", "number", "I", false)
  | 1 => ("PleaPapers$Claims", "coins", "[I", true)
  | 2 => ("PleaPapers$Claims", "factSets", "[I", true)
  | _ => ("PleaPapers$Claims", "tables", "[[J", true)
def tyX1 : Nat → FieldType := fun k => match k with
  | 0 => .int
  | 1 => .array .int
  | 2 => .array .int
  | _ => .array (.array .long)
theorem nmX1 : ∀ a, a < 4 → ∀ b, b < 4 → a ≠ b → (TX1 a).2.1 ≠ (TX1 b).2.1 := by decide +kernel
theorem tyX1_ok : ∀ k, k < 4 → parseFieldDescriptor (TX1 k).2.2.1 = some (tyX1 k) := by decide +kernel
abbrev cX1_init : ByteArray := prog_3_method_1_code
def yX1_init : MethodName := ⟨RX1, "<init>", "()V"⟩
abbrev cX1_add : ByteArray := prog_3_method_2_code
def yX1_add : MethodName := ⟨RX1, "add", "(LPleaPapers$ClaimReader;)I"⟩
abbrev cX1_isOwed : ByteArray := prog_3_method_3_code
def yX1_isOwed : MethodName := ⟨RX1, "isOwed", "(II)Z"⟩
abbrev cX1_coinsOwed : ByteArray := prog_3_method_4_code
def yX1_coinsOwed : MethodName := ⟨RX1, "coinsOwed", "(I)I"⟩
abbrev cX1_copyFrom : ByteArray := prog_3_method_5_code
def yX1_copyFrom : MethodName := ⟨RX1, "copyFrom", "(LPleaPapers$Claims;)V"⟩
def RX2 : String := "PleaPapers$Facts"
def TX2 : u_T := fun k => match k with
  | 0 => ("PleaPapers$Facts", "stand", "[I", true)
  | 1 => ("PleaPapers$Facts", "word", "[I", true)
  | 2 => ("PleaPapers$Facts", "sayer", "[I", true)
  | 3 => ("PleaPapers$Facts", "saidIn", "[I", true)
  | 4 => ("PleaPapers$Facts", "answeredIn", "[I", true)
  | 5 => ("PleaPapers$Facts", "silent", "[I", true)
  | 6 => ("PleaPapers$Facts", "open", "I", false)
  | 7 => ("PleaPapers$Facts", "openAsNot", "I", false)
  | _ => ("PleaPapers$Facts", "admittedAsSo", "I", false)
def tyX2 : Nat → FieldType := fun k => match k with
  | 0 => .array .int
  | 1 => .array .int
  | 2 => .array .int
  | 3 => .array .int
  | 4 => .array .int
  | 5 => .array .int
  | 6 => .int
  | 7 => .int
  | _ => .int
theorem nmX2 : ∀ a, a < 9 → ∀ b, b < 9 → a ≠ b → (TX2 a).2.1 ≠ (TX2 b).2.1 := by decide +kernel
theorem tyX2_ok : ∀ k, k < 9 → parseFieldDescriptor (TX2 k).2.2.1 = some (tyX2 k) := by decide +kernel
abbrev cX2_init : ByteArray := prog_4_method_1_code
def yX2_init : MethodName := ⟨RX2, "<init>", "()V"⟩
abbrev cX2_replay : ByteArray := prog_4_method_2_code
def yX2_replay : MethodName := ⟨RX2, "replay", "(LPleaPapers$Papers;I)V"⟩
abbrev cX2_free : ByteArray := prog_4_method_3_code
def yX2_free : MethodName := ⟨RX2, "free", "(I)V"⟩
abbrev cX2_hear : ByteArray := prog_4_method_4_code
def yX2_hear : MethodName := ⟨RX2, "hear", "([II)V"⟩
abbrev cX2_allow : ByteArray := prog_4_method_5_code
def yX2_allow : MethodName := ⟨RX2, "allow", "(III)Z"⟩
abbrev cX2_awaitsAnswerOf : ByteArray := prog_4_method_6_code
def yX2_awaitsAnswerOf : MethodName := ⟨RX2, "awaitsAnswerOf", "(II)Z"⟩
abbrev cX2_apply : ByteArray := prog_4_method_7_code
def yX2_apply : MethodName := ⟨RX2, "apply", "(III)V"⟩
abbrev cX2_answer : ByteArray := prog_4_method_8_code
def yX2_answer : MethodName := ⟨RX2, "answer", "(III)V"⟩
abbrev cX2_admitSilently : ByteArray := prog_4_method_9_code
def yX2_admitSilently : MethodName := ⟨RX2, "admitSilently", "(I)I"⟩
abbrev cX2_sumUp : ByteArray := prog_4_method_10_code
def yX2_sumUp : MethodName := ⟨RX2, "sumUp", "()V"⟩
abbrev cX2_soBy : ByteArray := prog_4_method_11_code
def yX2_soBy : MethodName := ⟨RX2, "soBy", "(I)I"⟩
abbrev cX2_howMany : ByteArray := prog_4_method_12_code
def yX2_howMany : MethodName := ⟨RX2, "howMany", "(I)I"⟩
abbrev cX2_admittedBy : ByteArray := prog_4_method_13_code
def yX2_admittedBy : MethodName := ⟨RX2, "admittedBy", "(I)I"⟩
abbrev cX2_bearing : ByteArray := prog_4_method_14_code
def yX2_bearing : MethodName := ⟨RX2, "bearing", "(II)I"⟩
def RX3 : String := "PleaPapers$PaperReader"
def TX3 : u_T := fun k => match k with
  | 0 => ("PleaPapers$PaperReader", "acts", "[I", true)
  | _ => ("PleaPapers$PaperReader", "toldKinds", "I", false)
def tyX3 : Nat → FieldType := fun k => match k with
  | 0 => .array .int
  | _ => .int
theorem nmX3 : ∀ a, a < 2 → ∀ b, b < 2 → a ≠ b → (TX3 a).2.1 ≠ (TX3 b).2.1 := by decide +kernel
theorem tyX3_ok : ∀ k, k < 2 → parseFieldDescriptor (TX3 k).2.2.1 = some (tyX3 k) := by decide +kernel
abbrev cX3_init : ByteArray := prog_5_method_1_code
def yX3_init : MethodName := ⟨RX3, "<init>", "()V"⟩
abbrev cX3_read : ByteArray := prog_5_method_2_code
def yX3_read : MethodName := ⟨RX3, "read", "(LPleaPapers$Text;LPleaPapers$Facts;I)V"⟩
abbrev cX3_readClause : ByteArray := prog_5_method_3_code
def yX3_readClause : MethodName := ⟨RX3, "readClause", "(LPleaPapers$Text;LPleaPapers$Facts;I)V"⟩
abbrev cX3_kindHere : ByteArray := prog_5_method_4_code
def yX3_kindHere : MethodName := ⟨RX3, "kindHere", "(LPleaPapers$Text;)I"⟩
abbrev cX3_readItem : ByteArray := prog_5_method_5_code
def yX3_readItem : MethodName := ⟨RX3, "readItem", "(LPleaPapers$Text;LPleaPapers$Facts;II)V"⟩
def RX4 : String := "PleaPapers$Papers"
def TX4 : u_T := fun k => match k with
  | 0 => ("PleaPapers$Papers", "number", "I", false)
  | 1 => ("PleaPapers$Papers", "late", "I", false)
  | 2 => ("PleaPapers$Papers", "days", "[I", true)
  | _ => ("PleaPapers$Papers", "acts", "[[I", true)
def tyX4 : Nat → FieldType := fun k => match k with
  | 0 => .int
  | 1 => .int
  | 2 => .array .int
  | _ => .array (.array .int)
theorem nmX4 : ∀ a, a < 4 → ∀ b, b < 4 → a ≠ b → (TX4 a).2.1 ≠ (TX4 b).2.1 := by decide +kernel
theorem tyX4_ok : ∀ k, k < 4 → parseFieldDescriptor (TX4 k).2.2.1 = some (tyX4 k) := by decide +kernel
abbrev cX4_init : ByteArray := prog_6_method_1_code
def yX4_init : MethodName := ⟨RX4, "<init>", "()V"⟩
abbrev cX4_lastDay : ByteArray := prog_6_method_2_code
def yX4_lastDay : MethodName := ⟨RX4, "lastDay", "()I"⟩
abbrev cX4_add : ByteArray := prog_6_method_3_code
def yX4_add : MethodName := ⟨RX4, "add", "(II[I)I"⟩
abbrev cX4_factSet : ByteArray := prog_6_method_4_code
def yX4_factSet : MethodName := ⟨RX4, "factSet", "(I)I"⟩
abbrev cX4_copyFrom : ByteArray := prog_6_method_5_code
def yX4_copyFrom : MethodName := ⟨RX4, "copyFrom", "(LPleaPapers$Papers;)V"⟩
def RX5 : String := "PleaPapers$Proofs"
def TX5 : u_T := fun k => match k with
  | 0 => ("PleaPapers$Proofs", "number", "I", false)
  | 1 => ("PleaPapers$Proofs", "brought", "I", false)
  | 2 => ("PleaPapers$Proofs", "sides", "[I", true)
  | 3 => ("PleaPapers$Proofs", "factOf", "[I", true)
  | 4 => ("PleaPapers$Proofs", "odds", "[I", true)
  | _ => ("PleaPapers$Proofs", "costs", "[I", true)
def tyX5 : Nat → FieldType := fun k => match k with
  | 0 => .int
  | 1 => .int
  | 2 => .array .int
  | 3 => .array .int
  | 4 => .array .int
  | _ => .array .int
theorem nmX5 : ∀ a, a < 6 → ∀ b, b < 6 → a ≠ b → (TX5 a).2.1 ≠ (TX5 b).2.1 := by decide +kernel
theorem tyX5_ok : ∀ k, k < 6 → parseFieldDescriptor (TX5 k).2.2.1 = some (tyX5 k) := by decide +kernel
abbrev cX5_init : ByteArray := prog_7_method_1_code
def yX5_init : MethodName := ⟨RX5, "<init>", "()V"⟩
abbrev cX5_add : ByteArray := prog_7_method_2_code
def yX5_add : MethodName := ⟨RX5, "add", "(IIII)I"⟩
abbrev cX5_notBrought : ByteArray := prog_7_method_3_code
def yX5_notBrought : MethodName := ⟨RX5, "notBrought", "(II)I"⟩
abbrev cX5_costOf : ByteArray := prog_7_method_4_code
def yX5_costOf : MethodName := ⟨RX5, "costOf", "(I)I"⟩
abbrev cX5_copyFrom : ByteArray := prog_7_method_5_code
def yX5_copyFrom : MethodName := ⟨RX5, "copyFrom", "(LPleaPapers$Proofs;)V"⟩
def RX6 : String := "PleaPapers$Scale"
def TX6 : u_T := fun k => match k with
  | 0 => ("PleaPapers$Scale", "shares", "[I", true)
  | _ => ("PleaPapers$Scale", "chances", "[I", true)
def tyX6 : Nat → FieldType := fun k => match k with
  | 0 => .array .int
  | _ => .array .int
theorem nmX6 : ∀ a, a < 2 → ∀ b, b < 2 → a ≠ b → (TX6 a).2.1 ≠ (TX6 b).2.1 := by decide +kernel
theorem tyX6_ok : ∀ k, k < 2 → parseFieldDescriptor (TX6 k).2.2.1 = some (tyX6 k) := by decide +kernel
abbrev cX6_init : ByteArray := prog_8_method_1_code
def yX6_init : MethodName := ⟨RX6, "<init>", "()V"⟩
abbrev cX6_weighFacts : ByteArray := prog_8_method_2_code
def yX6_weighFacts : MethodName := ⟨RX6, "weighFacts", "(LPleaPapers$Proofs;LPleaPapers$Facts;I)V"⟩
abbrev cX6_cutBy : ByteArray := prog_8_method_3_code
def yX6_cutBy : MethodName := ⟨RX6, "cutBy", "(LPleaPapers$Proofs;LPleaPapers$Facts;II)V"⟩
abbrev cX6_weighClaims : ByteArray := prog_8_method_4_code
def yX6_weighClaims : MethodName := ⟨RX6, "weighClaims", "(LPleaPapers$Suit;LPleaPapers$Facts;I)I"⟩
abbrev cX6_spread : ByteArray := prog_8_method_5_code
def yX6_spread : MethodName := ⟨RX6, "spread", "(LPleaPapers$Scale;LPleaPapers$Claims;LPleaPapers$Facts;III)V"⟩
def RX7 : String := "PleaPapers$Suit"
def TX7 : u_T := fun k => match k with
  | 0 => ("PleaPapers$Suit", "claims", "LPleaPapers$Claims;", true)
  | 1 => ("PleaPapers$Suit", "papers", "LPleaPapers$Papers;", true)
  | 2 => ("PleaPapers$Suit", "proofs", "LPleaPapers$Proofs;", true)
  | 3 => ("PleaPapers$Suit", "dueDays", "I", false)
  | _ => ("PleaPapers$Suit", "seedNumber", "I", false)
def tyX7 : Nat → FieldType := fun k => match k with
  | 0 => .object "PleaPapers$Claims"
  | 1 => .object "PleaPapers$Papers"
  | 2 => .object "PleaPapers$Proofs"
  | 3 => .int
  | _ => .int
theorem nmX7 : ∀ a, a < 5 → ∀ b, b < 5 → a ≠ b → (TX7 a).2.1 ≠ (TX7 b).2.1 := by decide +kernel
theorem tyX7_ok : ∀ k, k < 5 → parseFieldDescriptor (TX7 k).2.2.1 = some (tyX7 k) := by decide +kernel
abbrev cX7_init : ByteArray := prog_9_method_1_code
def yX7_init : MethodName := ⟨RX7, "<init>", "()V"⟩
abbrev cX7_draw : ByteArray := prog_9_method_2_code
def yX7_draw : MethodName := ⟨RX7, "draw", "(I)I"⟩
abbrev cX7_copyFrom : ByteArray := prog_9_method_3_code
def yX7_copyFrom : MethodName := ⟨RX7, "copyFrom", "(LPleaPapers$Suit;)V"⟩
def RX8 : String := "PleaPapers$Text"
def TX8 : u_T := fun k => match k with
  | 0 => ("PleaPapers$Text", "bytes", "[I", true)
  | 1 => ("PleaPapers$Text", "length", "I", false)
  | 2 => ("PleaPapers$Text", "kind", "I", false)
  | 3 => ("PleaPapers$Text", "start", "I", false)
  | 4 => ("PleaPapers$Text", "end", "I", false)
  | 5 => ("PleaPapers$Text", "faultNumber", "I", false)
  | _ => ("PleaPapers$Text", "faultPlace", "I", false)
def tyX8 : Nat → FieldType := fun k => match k with
  | 0 => .array .int
  | 1 => .int
  | 2 => .int
  | 3 => .int
  | 4 => .int
  | 5 => .int
  | _ => .int
theorem nmX8 : ∀ a, a < 7 → ∀ b, b < 7 → a ≠ b → (TX8 a).2.1 ≠ (TX8 b).2.1 := by decide +kernel
theorem tyX8_ok : ∀ k, k < 7 → parseFieldDescriptor (TX8 k).2.2.1 = some (tyX8 k) := by decide +kernel
abbrev cX8_init : ByteArray := prog_10_method_1_code
def yX8_init : MethodName := ⟨RX8, "<init>", "()V"⟩
abbrev cX8_append : ByteArray := prog_10_method_2_code
def yX8_append : MethodName := ⟨RX8, "append", "(I)V"⟩
abbrev cX8_begin : ByteArray := prog_10_method_3_code
def yX8_begin : MethodName := ⟨RX8, "begin", "()V"⟩
abbrev cX8_next : ByteArray := prog_10_method_4_code
def yX8_next : MethodName := ⟨RX8, "next", "()V"⟩
abbrev cX8_isLetterAt : ByteArray := prog_10_method_5_code
def yX8_isLetterAt : MethodName := ⟨RX8, "isLetterAt", "(I)Z"⟩
abbrev cX8_isFigureAt : ByteArray := prog_10_method_6_code
def yX8_isFigureAt : MethodName := ⟨RX8, "isFigureAt", "(I)Z"⟩
abbrev cX8_isSound : ByteArray := prog_10_method_7_code
def yX8_isSound : MethodName := ⟨RX8, "isSound", "()Z"⟩
abbrev cX8_isAtEnd : ByteArray := prog_10_method_8_code
def yX8_isAtEnd : MethodName := ⟨RX8, "isAtEnd", "()Z"⟩
abbrev cX8_fail : ByteArray := prog_10_method_9_code
def yX8_fail : MethodName := ⟨RX8, "fail", "(I)V"⟩
abbrev cX8_isWord : ByteArray := prog_10_method_10_code
def yX8_isWord : MethodName := ⟨RX8, "isWord", "(Ljava/lang/String;)Z"⟩
abbrev cX8_isSign : ByteArray := prog_10_method_11_code
def yX8_isSign : MethodName := ⟨RX8, "isSign", "(C)Z"⟩
abbrev cX8_takesWord : ByteArray := prog_10_method_12_code
def yX8_takesWord : MethodName := ⟨RX8, "takesWord", "(Ljava/lang/String;)Z"⟩
abbrev cX8_takesSign : ByteArray := prog_10_method_13_code
def yX8_takesSign : MethodName := ⟨RX8, "takesSign", "(C)Z"⟩
abbrev cX8_numberHere : ByteArray := prog_10_method_14_code
def yX8_numberHere : MethodName := ⟨RX8, "numberHere", "(II)I"⟩
def RX9 : String := "PleaPapers"
def TX9 : u_T := fun k => match k with
  | 0 => ("PleaPapers", "text", "LPleaPapers$Text;", true)
  | 1 => ("PleaPapers", "claimReader", "LPleaPapers$ClaimReader;", true)
  | 2 => ("PleaPapers", "paperReader", "LPleaPapers$PaperReader;", true)
  | 3 => ("PleaPapers", "suit", "LPleaPapers$Suit;", true)
  | 4 => ("PleaPapers", "facts", "LPleaPapers$Facts;", true)
  | 5 => ("PleaPapers", "otherwise", "LPleaPapers$Facts;", true)
  | 6 => ("PleaPapers", "scale", "LPleaPapers$Scale;", true)
  | 7 => ("PleaPapers", "images", "[LPleaPapers$Suit;", true)
  | _ => ("PleaPapers", "kept", "[Z", true)
def tyX9 : Nat → FieldType := fun k => match k with
  | 0 => .object "PleaPapers$Text"
  | 1 => .object "PleaPapers$ClaimReader"
  | 2 => .object "PleaPapers$PaperReader"
  | 3 => .object "PleaPapers$Suit"
  | 4 => .object "PleaPapers$Facts"
  | 5 => .object "PleaPapers$Facts"
  | 6 => .object "PleaPapers$Scale"
  | 7 => .array (.object "PleaPapers$Suit")
  | _ => .array .boolean
theorem nmX9 : ∀ a, a < 9 → ∀ b, b < 9 → a ≠ b → (TX9 a).2.1 ≠ (TX9 b).2.1 := by decide +kernel
theorem tyX9_ok : ∀ k, k < 9 → parseFieldDescriptor (TX9 k).2.2.1 = some (tyX9 k) := by decide +kernel
abbrev cX9_init : ByteArray := prog_1_method_1_code
def yX9_init : MethodName := ⟨RX9, "<init>", "()V"⟩
abbrev cX9_feed : ByteArray := prog_1_method_2_code
def yX9_feed : MethodName := ⟨RX9, "feed", "(IJ)I"⟩
abbrev cX9_claim : ByteArray := prog_1_method_3_code
def yX9_claim : MethodName := ⟨RX9, "claim", "()I"⟩
abbrev cX9_paper : ByteArray := prog_1_method_4_code
def yX9_paper : MethodName := ⟨RX9, "paper", "(I)I"⟩
abbrev cX9_fault : ByteArray := prog_1_method_5_code
def yX9_fault : MethodName := ⟨RX9, "fault", "()I"⟩
abbrev cX9_due : ByteArray := prog_1_method_6_code
def yX9_due : MethodName := ⟨RX9, "due", "(I)I"⟩
abbrev cX9_count : ByteArray := prog_1_method_7_code
def yX9_count : MethodName := ⟨RX9, "count", "(I)I"⟩
abbrev cX9_fact : ByteArray := prog_1_method_8_code
def yX9_fact : MethodName := ⟨RX9, "fact", "(II)I"⟩
abbrev cX9_told : ByteArray := prog_1_method_9_code
def yX9_told : MethodName := ⟨RX9, "told", "(II)I"⟩
abbrev cX9_heard : ByteArray := prog_1_method_10_code
def yX9_heard : MethodName := ⟨RX9, "heard", "(II)I"⟩
abbrev cX9_strike : ByteArray := prog_1_method_11_code
def yX9_strike : MethodName := ⟨RX9, "strike", "()I"⟩
abbrev cX9_open : ByteArray := prog_1_method_12_code
def yX9_open : MethodName := ⟨RX9, "open", "()I"⟩
abbrev cX9_holds : ByteArray := prog_1_method_13_code
def yX9_holds : MethodName := ⟨RX9, "holds", "(II)I"⟩
abbrev cX9_turns : ByteArray := prog_1_method_14_code
def yX9_turns : MethodName := ⟨RX9, "turns", "(I)I"⟩
abbrev cX9_enough : ByteArray := prog_1_method_15_code
def yX9_enough : MethodName := ⟨RX9, "enough", "(I)I"⟩
abbrev cX9_silence : ByteArray := prog_1_method_16_code
def yX9_silence : MethodName := ⟨RX9, "silence", "(II)I"⟩
abbrev cX9_proof : ByteArray := prog_1_method_17_code
def yX9_proof : MethodName := ⟨RX9, "proof", "(IIII)I"⟩
abbrev cX9_bring : ByteArray := prog_1_method_18_code
def yX9_bring : MethodName := ⟨RX9, "bring", "(IZ)I"⟩
abbrev cX9_proved : ByteArray := prog_1_method_19_code
def yX9_proved : MethodName := ⟨RX9, "proved", "(II)I"⟩
abbrev cX9_likely : ByteArray := prog_1_method_20_code
def yX9_likely : MethodName := ⟨RX9, "likely", "(I)I"⟩
abbrev cX9_chance : ByteArray := prog_1_method_21_code
def yX9_chance : MethodName := ⟨RX9, "chance", "(I)I"⟩
abbrev cX9_worth : ByteArray := prog_1_method_22_code
def yX9_worth : MethodName := ⟨RX9, "worth", "(I)I"⟩
abbrev cX9_best : ByteArray := prog_1_method_23_code
def yX9_best : MethodName := ⟨RX9, "best", "(III)I"⟩
abbrev cX9_game : ByteArray := prog_1_method_24_code
def yX9_game : MethodName := ⟨RX9, "game", "(II)I"⟩
abbrev cX9_without : ByteArray := prog_1_method_25_code
def yX9_without : MethodName := ⟨RX9, "without", "(I)I"⟩
abbrev cX9_seed : ByteArray := prog_1_method_26_code
def yX9_seed : MethodName := ⟨RX9, "seed", "(I)I"⟩
abbrev cX9_trial : ByteArray := prog_1_method_27_code
def yX9_trial : MethodName := ⟨RX9, "trial", "()I"⟩
abbrev cX9_keep : ByteArray := prog_1_method_28_code
def yX9_keep : MethodName := ⟨RX9, "keep", "(I)I"⟩
abbrev cX9_goBack : ByteArray := prog_1_method_29_code
def yX9_goBack : MethodName := ⟨RX9, "goBack", "(I)I"⟩
abbrev cX9_isSide : ByteArray := prog_1_method_30_code
def yX9_isSide : MethodName := ⟨RX9, "isSide", "(I)Z"⟩
abbrev cX9_isFact : ByteArray := prog_1_method_31_code
def yX9_isFact : MethodName := ⟨RX9, "isFact", "(I)Z"⟩
abbrev cX9_isImage : ByteArray := prog_1_method_32_code
def yX9_isImage : MethodName := ⟨RX9, "isImage", "(I)Z"⟩
abbrev cX9_isClaim : ByteArray := prog_1_method_33_code
def yX9_isClaim : MethodName := ⟨RX9, "isClaim", "(I)Z"⟩
abbrev cX9_isPaper : ByteArray := prog_1_method_34_code
def yX9_isPaper : MethodName := ⟨RX9, "isPaper", "(I)Z"⟩
abbrev cX9_isProof : ByteArray := prog_1_method_35_code
def yX9_isProof : MethodName := ⟨RX9, "isProof", "(I)Z"⟩
abbrev cX9_has : ByteArray := prog_1_method_36_code
def yX9_has : MethodName := ⟨RX9, "has", "(II)Z"⟩
abbrev cX9_setsWithin : ByteArray := prog_1_method_37_code
def yX9_setsWithin : MethodName := ⟨RX9, "setsWithin", "(I)I"⟩
abbrev cX9_nextSet : ByteArray := prog_1_method_38_code
def yX9_nextSet : MethodName := ⟨RX9, "nextSet", "(II)I"⟩
abbrev cX9_isFewer : ByteArray := prog_1_method_39_code
def yX9_isFewer : MethodName := ⟨RX9, "isFewer", "(II)Z"⟩
abbrev cX9_sureness : ByteArray := prog_1_method_40_code
def yX9_sureness : MethodName := ⟨RX9, "sureness", "(I)I"⟩
abbrev cX9_turnsOn : ByteArray := prog_1_method_41_code
def yX9_turnsOn : MethodName := ⟨RX9, "turnsOn", "(II)Z"⟩
abbrev cX9_isEnough : ByteArray := prog_1_method_42_code
def yX9_isEnough : MethodName := ⟨RX9, "isEnough", "(II)Z"⟩
abbrev cX9_changesIfTurned : ByteArray := prog_1_method_43_code
def yX9_changesIfTurned : MethodName := ⟨RX9, "changesIfTurned", "(IIZ)Z"⟩
abbrev cX9_gain : ByteArray := prog_1_method_44_code
def yX9_gain : MethodName := ⟨RX9, "gain", "(III)I"⟩
abbrev cX9_bestSet : ByteArray := prog_1_method_45_code
def yX9_bestSet : MethodName := ⟨RX9, "bestSet", "(II)I"⟩
abbrev cX9_leadSet : ByteArray := prog_1_method_46_code
def yX9_leadSet : MethodName := ⟨RX9, "leadSet", "(I)I"⟩
abbrev cX9_replySet : ByteArray := prog_1_method_47_code
def yX9_replySet : MethodName := ⟨RX9, "replySet", "(II)I"⟩
def RX10 : String := "PleaPapersModel"
def TX10 : u_T := fun k => match k with
  | 0 => ("PleaPapersModel", "claims", "[I", true)
  | 1 => ("PleaPapersModel", "coins", "[I", true)
  | 2 => ("PleaPapersModel", "codes", "[I", true)
  | 3 => ("PleaPapersModel", "codeSize", "[I", true)
  | 4 => ("PleaPapersModel", "papers", "[I", true)
  | 5 => ("PleaPapersModel", "days", "[I", true)
  | 6 => ("PleaPapersModel", "late", "[Z", true)
  | 7 => ("PleaPapersModel", "acts", "[I", true)
  | 8 => ("PleaPapersModel", "proofs", "[I", true)
  | 9 => ("PleaPapersModel", "proofSide", "[I", true)
  | 10 => ("PleaPapersModel", "proofFact", "[I", true)
  | 11 => ("PleaPapersModel", "proofOdds", "[I", true)
  | 12 => ("PleaPapersModel", "proofCost", "[I", true)
  | 13 => ("PleaPapersModel", "brought", "[Z", true)
  | 14 => ("PleaPapersModel", "due", "[I", true)
  | 15 => ("PleaPapersModel", "seed", "[I", true)
  | 16 => ("PleaPapersModel", "isKept", "[Z", true)
  | 17 => ("PleaPapersModel", "isBegun", "Z", false)
  | 18 => ("PleaPapersModel", "stands", "[I", true)
  | 19 => ("PleaPapersModel", "word", "[I", true)
  | 20 => ("PleaPapersModel", "saidBy", "[I", true)
  | 21 => ("PleaPapersModel", "saidIn", "[I", true)
  | 22 => ("PleaPapersModel", "answeredIn", "[I", true)
  | 23 => ("PleaPapersModel", "silent", "[I", true)
  | 24 => ("PleaPapersModel", "text", "[I", true)
  | 25 => ("PleaPapersModel", "textSize", "I", false)
  | 26 => ("PleaPapersModel", "at", "I", false)
  | 27 => ("PleaPapersModel", "first", "I", false)
  | 28 => ("PleaPapersModel", "length", "I", false)
  | 29 => ("PleaPapersModel", "faultOf", "I", false)
  | 30 => ("PleaPapersModel", "fault", "I", false)
  | 31 => ("PleaPapersModel", "waits", "[I", true)
  | 32 => ("PleaPapersModel", "waiting", "I", false)
  | 33 => ("PleaPapersModel", "open", "I", false)
  | 34 => ("PleaPapersModel", "code", "[I", true)
  | 35 => ("PleaPapersModel", "coded", "I", false)
  | 36 => ("PleaPapersModel", "kinds", "I", false)
  | 37 => ("PleaPapersModel", "seen", "I", false)
  | 38 => ("PleaPapersModel", "holdsIn", "[Z", true)
  | 39 => ("PleaPapersModel", "stack", "I", false)
  | 40 => ("PleaPapersModel", "wayOdds", "[I", true)
  | 41 => ("PleaPapersModel", "likelyNow", "[I", true)
  | 42 => ("PleaPapersModel", "chosen", "[I", true)
  | 43 => ("PleaPapersModel", "chosenMany", "I", false)
  | _ => ("PleaPapersModel", "answer", "I", false)
def tyX10 : Nat → FieldType := fun k => match k with
  | 0 => .array .int
  | 1 => .array .int
  | 2 => .array .int
  | 3 => .array .int
  | 4 => .array .int
  | 5 => .array .int
  | 6 => .array .boolean
  | 7 => .array .int
  | 8 => .array .int
  | 9 => .array .int
  | 10 => .array .int
  | 11 => .array .int
  | 12 => .array .int
  | 13 => .array .boolean
  | 14 => .array .int
  | 15 => .array .int
  | 16 => .array .boolean
  | 17 => .boolean
  | 18 => .array .int
  | 19 => .array .int
  | 20 => .array .int
  | 21 => .array .int
  | 22 => .array .int
  | 23 => .array .int
  | 24 => .array .int
  | 25 => .int
  | 26 => .int
  | 27 => .int
  | 28 => .int
  | 29 => .int
  | 30 => .int
  | 31 => .array .int
  | 32 => .int
  | 33 => .int
  | 34 => .array .int
  | 35 => .int
  | 36 => .int
  | 37 => .int
  | 38 => .array .boolean
  | 39 => .int
  | 40 => .array .int
  | 41 => .array .int
  | 42 => .array .int
  | 43 => .int
  | _ => .int
theorem nmX10 : ∀ a, a < 45 → ∀ b, b < 45 → a ≠ b → (TX10 a).2.1 ≠ (TX10 b).2.1 := by decide +kernel
theorem tyX10_ok : ∀ k, k < 45 → parseFieldDescriptor (TX10 k).2.2.1 = some (tyX10 k) := by decide +kernel
abbrev cX10_init : ByteArray := prog_12_method_1_code
def yX10_init : MethodName := ⟨RX10, "<init>", "()V"⟩
abbrev cX10_in : ByteArray := prog_12_method_3_code
def yX10_in : MethodName := ⟨RX10, "in", "(JJJ)Z"⟩
abbrev cX10_one : ByteArray := prog_12_method_4_code
def yX10_one : MethodName := ⟨RX10, "one", "(Z)I"⟩
abbrev cX10_has : ByteArray := prog_12_method_5_code
def yX10_has : MethodName := ⟨RX10, "has", "(II)Z"⟩
abbrev cX10_ones : ByteArray := prog_12_method_6_code
def yX10_ones : MethodName := ⟨RX10, "ones", "(I)I"⟩
abbrev cX10_begin : ByteArray := prog_12_method_7_code
def yX10_begin : MethodName := ⟨RX10, "begin", "()V"⟩
abbrev cX10_copy : ByteArray := prog_12_method_8_code
def yX10_copy : MethodName := ⟨RX10, "copy", "(II)V"⟩
abbrev cX10_free : ByteArray := prog_12_method_9_code
def yX10_free : MethodName := ⟨RX10, "free", "(I)V"⟩
abbrev cX10_mayBe : ByteArray := prog_12_method_10_code
def yX10_mayBe : MethodName := ⟨RX10, "mayBe", "(III)Z"⟩
abbrev cX10_act : ByteArray := prog_12_method_11_code
def yX10_act : MethodName := ⟨RX10, "act", "(III)V"⟩
abbrev cX10_hear : ByteArray := prog_12_method_12_code
def yX10_hear : MethodName := ⟨RX10, "hear", "(IZ)V"⟩
abbrev cX10_hearAll : ByteArray := prog_12_method_13_code
def yX10_hearAll : MethodName := ⟨RX10, "hearAll", "(I)V"⟩
abbrev cX10_feed : ByteArray := prog_12_method_14_code
def yX10_feed : MethodName := ⟨RX10, "feed", "(IJ)I"⟩
abbrev cX10_here : ByteArray := prog_12_method_15_code
def yX10_here : MethodName := ⟨RX10, "here", "()I"⟩
abbrev cX10_want : ByteArray := prog_12_method_16_code
def yX10_want : MethodName := ⟨RX10, "want", "(ZII)Z"⟩
abbrev cX10_takeWord : ByteArray := prog_12_method_17_code
def yX10_takeWord : MethodName := ⟨RX10, "takeWord", "()V"⟩
abbrev cX10_isWord : ByteArray := prog_12_method_18_code
def yX10_isWord : MethodName := ⟨RX10, "isWord", "(IIIIII)Z"⟩
abbrev cX10_isNext : ByteArray := prog_12_method_19_code
def yX10_isNext : MethodName := ⟨RX10, "isNext", "(IIII)Z"⟩
abbrev cX10_takeNumber : ByteArray := prog_12_method_20_code
def yX10_takeNumber : MethodName := ⟨RX10, "takeNumber", "(II)I"⟩
abbrev cX10_say : ByteArray := prog_12_method_21_code
def yX10_say : MethodName := ⟨RX10, "say", "(I)V"⟩
abbrev cX10_isTop : ByteArray := prog_12_method_22_code
def yX10_isTop : MethodName := ⟨RX10, "isTop", "(I)Z"⟩
abbrev cX10_sayTop : ByteArray := prog_12_method_23_code
def yX10_sayTop : MethodName := ⟨RX10, "sayTop", "()V"⟩
abbrev cX10_push : ByteArray := prog_12_method_24_code
def yX10_push : MethodName := ⟨RX10, "push", "(I)V"⟩
abbrev cX10_closeNots : ByteArray := prog_12_method_25_code
def yX10_closeNots : MethodName := ⟨RX10, "closeNots", "()V"⟩
abbrev cX10_takeOperand : ByteArray := prog_12_method_26_code
def yX10_takeOperand : MethodName := ⟨RX10, "takeOperand", "()V"⟩
abbrev cX10_takeJoin : ByteArray := prog_12_method_27_code
def yX10_takeJoin : MethodName := ⟨RX10, "takeJoin", "()Z"⟩
abbrev cX10_takeCase : ByteArray := prog_12_method_28_code
def yX10_takeCase : MethodName := ⟨RX10, "takeCase", "()V"⟩
abbrev cX10_beginReading : ByteArray := prog_12_method_29_code
def yX10_beginReading : MethodName := ⟨RX10, "beginReading", "()V"⟩
abbrev cX10_claim : ByteArray := prog_12_method_30_code
def yX10_claim : MethodName := ⟨RX10, "claim", "()I"⟩
abbrev cX10_kindHere : ByteArray := prog_12_method_31_code
def yX10_kindHere : MethodName := ⟨RX10, "kindHere", "()I"⟩
abbrev cX10_takeItem : ByteArray := prog_12_method_32_code
def yX10_takeItem : MethodName := ⟨RX10, "takeItem", "(II)V"⟩
abbrev cX10_takeClause : ByteArray := prog_12_method_33_code
def yX10_takeClause : MethodName := ⟨RX10, "takeClause", "(I)V"⟩
abbrev cX10_paper : ByteArray := prog_12_method_34_code
def yX10_paper : MethodName := ⟨RX10, "paper", "(I)I"⟩
abbrev cX10_fault : ByteArray := prog_12_method_35_code
def yX10_fault : MethodName := ⟨RX10, "fault", "()I"⟩
abbrev cX10_due : ByteArray := prog_12_method_36_code
def yX10_due : MethodName := ⟨RX10, "due", "(I)I"⟩
abbrev cX10_standing : ByteArray := prog_12_method_37_code
def yX10_standing : MethodName := ⟨RX10, "standing", "(I)I"⟩
abbrev cX10_count : ByteArray := prog_12_method_38_code
def yX10_count : MethodName := ⟨RX10, "count", "(I)I"⟩
abbrev cX10_isFact : ByteArray := prog_12_method_39_code
def yX10_isFact : MethodName := ⟨RX10, "isFact", "(I)Z"⟩
abbrev cX10_isClaim : ByteArray := prog_12_method_40_code
def yX10_isClaim : MethodName := ⟨RX10, "isClaim", "(I)Z"⟩
abbrev cX10_isSide : ByteArray := prog_12_method_41_code
def yX10_isSide : MethodName := ⟨RX10, "isSide", "(I)Z"⟩
abbrev cX10_fact : ByteArray := prog_12_method_42_code
def yX10_fact : MethodName := ⟨RX10, "fact", "(II)I"⟩
abbrev cX10_lay : ByteArray := prog_12_method_43_code
def yX10_lay : MethodName := ⟨RX10, "lay", "(Z)V"⟩
abbrev cX10_pop : ByteArray := prog_12_method_44_code
def yX10_pop : MethodName := ⟨RX10, "pop", "()Z"⟩
abbrev cX10_asks : ByteArray := prog_12_method_45_code
def yX10_asks : MethodName := ⟨RX10, "asks", "(II)Z"⟩
abbrev cX10_findCases : ByteArray := prog_12_method_46_code
def yX10_findCases : MethodName := ⟨RX10, "findCases", "(I)V"⟩
abbrev cX10_openFacts : ByteArray := prog_12_method_47_code
def yX10_openFacts : MethodName := ⟨RX10, "openFacts", "()I"⟩
abbrev cX10_soBy : ByteArray := prog_12_method_48_code
def yX10_soBy : MethodName := ⟨RX10, "soBy", "(II)I"⟩
abbrev cX10_sureBy : ByteArray := prog_12_method_49_code
def yX10_sureBy : MethodName := ⟨RX10, "sureBy", "(I)I"⟩
abbrev cX10_factsOf : ByteArray := prog_12_method_50_code
def yX10_factsOf : MethodName := ⟨RX10, "factsOf", "(I)I"⟩
abbrev cX10_told : ByteArray := prog_12_method_51_code
def yX10_told : MethodName := ⟨RX10, "told", "(II)I"⟩
abbrev cX10_heard : ByteArray := prog_12_method_52_code
def yX10_heard : MethodName := ⟨RX10, "heard", "(II)I"⟩
abbrev cX10_strike : ByteArray := prog_12_method_53_code
def yX10_strike : MethodName := ⟨RX10, "strike", "()I"⟩
abbrev cX10_open : ByteArray := prog_12_method_54_code
def yX10_open : MethodName := ⟨RX10, "open", "()I"⟩
abbrev cX10_holds : ByteArray := prog_12_method_55_code
def yX10_holds : MethodName := ⟨RX10, "holds", "(II)I"⟩
abbrev cX10_turns : ByteArray := prog_12_method_56_code
def yX10_turns : MethodName := ⟨RX10, "turns", "(I)I"⟩
abbrev cX10_isEnough : ByteArray := prog_12_method_57_code
def yX10_isEnough : MethodName := ⟨RX10, "isEnough", "(II)Z"⟩
abbrev cX10_enough : ByteArray := prog_12_method_58_code
def yX10_enough : MethodName := ⟨RX10, "enough", "(I)I"⟩
abbrev cX10_silence : ByteArray := prog_12_method_59_code
def yX10_silence : MethodName := ⟨RX10, "silence", "(II)I"⟩
abbrev cX10_proof : ByteArray := prog_12_method_60_code
def yX10_proof : MethodName := ⟨RX10, "proof", "(IIII)I"⟩
abbrev cX10_isProof : ByteArray := prog_12_method_61_code
def yX10_isProof : MethodName := ⟨RX10, "isProof", "(I)Z"⟩
abbrev cX10_bring : ByteArray := prog_12_method_62_code
def yX10_bring : MethodName := ⟨RX10, "bring", "(IZ)I"⟩
abbrev cX10_counts : ByteArray := prog_12_method_63_code
def yX10_counts : MethodName := ⟨RX10, "counts", "(I)I"⟩
abbrev cX10_proved : ByteArray := prog_12_method_64_code
def yX10_proved : MethodName := ⟨RX10, "proved", "(II)I"⟩
abbrev cX10_likelyBy : ByteArray := prog_12_method_65_code
def yX10_likelyBy : MethodName := ⟨RX10, "likelyBy", "(II)I"⟩
abbrev cX10_likely : ByteArray := prog_12_method_66_code
def yX10_likely : MethodName := ⟨RX10, "likely", "(I)I"⟩
abbrev cX10_findWays : ByteArray := prog_12_method_67_code
def yX10_findWays : MethodName := ⟨RX10, "findWays", "(I)V"⟩
abbrev cX10_chanceOf : ByteArray := prog_12_method_68_code
def yX10_chanceOf : MethodName := ⟨RX10, "chanceOf", "(I)I"⟩
abbrev cX10_chance : ByteArray := prog_12_method_69_code
def yX10_chance : MethodName := ⟨RX10, "chance", "(I)I"⟩
abbrev cX10_worthBy : ByteArray := prog_12_method_70_code
def yX10_worthBy : MethodName := ⟨RX10, "worthBy", "(I)I"⟩
abbrev cX10_worthTo : ByteArray := prog_12_method_71_code
def yX10_worthTo : MethodName := ⟨RX10, "worthTo", "(II)I"⟩
abbrev cX10_worth : ByteArray := prog_12_method_72_code
def yX10_worth : MethodName := ⟨RX10, "worth", "(I)I"⟩
abbrev cX10_choose : ByteArray := prog_12_method_73_code
def yX10_choose : MethodName := ⟨RX10, "choose", "(II)V"⟩
abbrev cX10_setOf : ByteArray := prog_12_method_74_code
def yX10_setOf : MethodName := ⟨RX10, "setOf", "(I)I"⟩
abbrev cX10_costOf : ByteArray := prog_12_method_75_code
def yX10_costOf : MethodName := ⟨RX10, "costOf", "(I)I"⟩
abbrev cX10_best : ByteArray := prog_12_method_76_code
def yX10_best : MethodName := ⟨RX10, "best", "(III)I"⟩
abbrev cX10_findAnswer : ByteArray := prog_12_method_77_code
def yX10_findAnswer : MethodName := ⟨RX10, "findAnswer", "(II)V"⟩
abbrev cX10_game : ByteArray := prog_12_method_78_code
def yX10_game : MethodName := ⟨RX10, "game", "(II)I"⟩
abbrev cX10_without : ByteArray := prog_12_method_79_code
def yX10_without : MethodName := ⟨RX10, "without", "(I)I"⟩
abbrev cX10_seed : ByteArray := prog_12_method_80_code
def yX10_seed : MethodName := ⟨RX10, "seed", "(I)I"⟩
abbrev cX10_draw : ByteArray := prog_12_method_81_code
def yX10_draw : MethodName := ⟨RX10, "draw", "(I)I"⟩
abbrev cX10_trial : ByteArray := prog_12_method_82_code
def yX10_trial : MethodName := ⟨RX10, "trial", "()I"⟩
abbrev cX10_keep : ByteArray := prog_12_method_83_code
def yX10_keep : MethodName := ⟨RX10, "keep", "(I)I"⟩
abbrev cX10_goBack : ByteArray := prog_12_method_84_code
def yX10_goBack : MethodName := ⟨RX10, "goBack", "(I)I"⟩
def RJ6 : String := "java/lang/Integer"
def TJ6 : u_T := fun k => match k with
  | _ => ("", "", "", false)
def tyJ6 : Nat → FieldType := fun k => match k with
  | _ => .int
theorem nmJ6 : ∀ a, a < 0 → ∀ b, b < 0 → a ≠ b → (TJ6 a).2.1 ≠ (TJ6 b).2.1 := by decide +kernel
theorem tyJ6_ok : ∀ k, k < 0 → parseFieldDescriptor (TJ6 k).2.2.1 = some (tyJ6 k) := by decide +kernel
abbrev cJ6_bitCount_0f7a4 : ByteArray := prog_13_method_49_code
def yJ6_bitCount_0f7a4 : MethodName := ⟨RJ6, "bitCount", "(I)I"⟩
def RJ0 : String := "java/lang/String"
def TJ0 : u_T := fun k => match k with
  | _ => ("", "", "", false)
def tyJ0 : Nat → FieldType := fun k => match k with
  | _ => .int
theorem nmJ0 : ∀ a, a < 0 → ∀ b, b < 0 → a ≠ b → (TJ0 a).2.1 ≠ (TJ0 b).2.1 := by decide +kernel
theorem tyJ0_ok : ∀ k, k < 0 → parseFieldDescriptor (TJ0 k).2.2.1 = some (tyJ0 k) := by decide +kernel
abbrev cJ0_length_8abf5 : ByteArray := prog_14_method_54_code
def yJ0_length_8abf5 : MethodName := ⟨RJ0, "length", "()I"⟩
abbrev cJ0_charAt_5068e : ByteArray := prog_14_method_56_code
def yJ0_charAt_5068e : MethodName := ⟨RJ0, "charAt", "(I)C"⟩
abbrev cJ0_coder_7d493 : ByteArray := prog_14_method_152_code
def yJ0_coder_7d493 : MethodName := ⟨RJ0, "coder", "()B"⟩
abbrev cJ0_isLatin1_aae02 : ByteArray := prog_14_method_154_code
def yJ0_isLatin1_aae02 : MethodName := ⟨RJ0, "isLatin1", "()Z"⟩
abbrev cJ0_checkIndex_df160 : ByteArray := prog_14_method_155_code
def yJ0_checkIndex_df160 : MethodName := ⟨RJ0, "checkIndex", "(II)V"⟩
def RJ1 : String := "java/lang/StringLatin1"
def TJ1 : u_T := fun k => match k with
  | _ => ("", "", "", false)
def tyJ1 : Nat → FieldType := fun k => match k with
  | _ => .int
theorem nmJ1 : ∀ a, a < 0 → ∀ b, b < 0 → a ≠ b → (TJ1 a).2.1 ≠ (TJ1 b).2.1 := by decide +kernel
theorem tyJ1_ok : ∀ k, k < 0 → parseFieldDescriptor (TJ1 k).2.2.1 = some (tyJ1 k) := by decide +kernel
abbrev cJ1_charAt_3b067 : ByteArray := prog_15_method_2_code
def yJ1_charAt_3b067 : MethodName := ⟨RJ1, "charAt", "([BI)C"⟩
def RJ2 : String := "java/lang/StringUTF16"
def TJ2 : u_T := fun k => match k with
  | _ => ("", "", "", false)
def tyJ2 : Nat → FieldType := fun k => match k with
  | _ => .int
theorem nmJ2 : ∀ a, a < 0 → ∀ b, b < 0 → a ≠ b → (TJ2 a).2.1 ≠ (TJ2 b).2.1 := by decide +kernel
theorem tyJ2_ok : ∀ k, k < 0 → parseFieldDescriptor (TJ2 k).2.2.1 = some (tyJ2 k) := by decide +kernel
abbrev cJ2_getChar_3b067 : ByteArray := prog_16_method_5_code
def yJ2_getChar_3b067 : MethodName := ⟨RJ2, "getChar", "([BI)C"⟩
abbrev cJ2_length_9d52b : ByteArray := prog_16_method_6_code
def yJ2_length_9d52b : MethodName := ⟨RJ2, "length", "([B)I"⟩
abbrev cJ2_charAt_3b067 : ByteArray := prog_16_method_83_code
def yJ2_charAt_3b067 : MethodName := ⟨RJ2, "charAt", "([BI)C"⟩
abbrev cJ2_checkIndex_2214a : ByteArray := prog_16_method_91_code
def yJ2_checkIndex_2214a : MethodName := ⟨RJ2, "checkIndex", "(I[B)V"⟩
def RJ10 : String := "java/lang/System"
def TJ10 : u_T := fun k => match k with
  | _ => ("", "", "", false)
def tyJ10 : Nat → FieldType := fun k => match k with
  | _ => .int
theorem nmJ10 : ∀ a, a < 0 → ∀ b, b < 0 → a ≠ b → (TJ10 a).2.1 ≠ (TJ10 b).2.1 := by decide +kernel
theorem tyJ10_ok : ∀ k, k < 0 → parseFieldDescriptor (TJ10 k).2.2.1 = some (tyJ10 k) := by decide +kernel
def RJ3 : String := "jdk/internal/util/Preconditions"
def TJ3 : u_T := fun k => match k with
  | _ => ("", "", "", false)
def tyJ3 : Nat → FieldType := fun k => match k with
  | _ => .int
theorem nmJ3 : ∀ a, a < 0 → ∀ b, b < 0 → a ≠ b → (TJ3 a).2.1 ≠ (TJ3 b).2.1 := by decide +kernel
theorem tyJ3_ok : ∀ k, k < 0 → parseFieldDescriptor (TJ3 k).2.2.1 = some (tyJ3 k) := by decide +kernel
abbrev cJ3_checkIndex_8e157 : ByteArray := prog_18_method_11_code
def yJ3_checkIndex_8e157 : MethodName := ⟨RJ3, "checkIndex", "(IILjava/util/function/BiFunction;)I"⟩
def RL : String := "PleaPapersLaw"
abbrev cL_law : ByteArray := code
def yL_law : MethodName := ⟨RL, "law", "([I)Z"⟩
abbrev vwCl : List vw_C := [(RX0, TX0, 5), (RX1, TX1, 4), (RX2, TX2, 9), (RX3, TX3, 2), (RX4, TX4, 4), (RX5, TX5, 6), (RX6, TX6, 2), (RX7, TX7, 5), (RX8, TX8, 7), (RX9, TX9, 9), (RX10, TX10, 45)]
theorem dk {c : ByteArray} {t : List (Nat × Instr × Nat)} (h : ∀ q ∈ t, decode c q.1 = .ok q.2) (i : Nat) {pc : Nat} {ins : Instr} {len : Nat} (e : t[i]? = some (pc, ins, len)) : decode c pc = .ok (ins, len) := h (pc, ins, len) (List.mem_of_getElem? e)
