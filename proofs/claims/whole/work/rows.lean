section
-- ===== PART A: goes FIRST, ahead of the names: the tables' words, and 'selects' of the private methods out of them =====
/-- a private method of a class that the tables say can be made, by its rows of tables_1 -/
def lw_okq (q : MethodName × Nat) : Prop := (q.1.cls ≠ "java/lang/invoke/MethodHandle" ∧ q.1.cls ≠ "java/lang/invoke/VarHandle") ∧ Cond.instantiable q.1.cls q.2 ∈ tables_1 ∧ Cond.privateMethod q.1 ∈ tables_1 ∧ Cond.instanceMethod q.1 ∈ tables_1
theorem lw_p0 : lw_okq (⟨"ShellSum$Names", "findOrAdd", "([CII)LShellSum$Named;"⟩, 2) := ⟨⟨by decide +kernel, by decide +kernel⟩, List.mem_of_getElem? (i := 27) (by decide +kernel), List.mem_of_getElem? (i := 139) (by decide +kernel), List.mem_of_getElem? (i := 140) (by decide +kernel)⟩
theorem lw_p1 : lw_okq (⟨"ShellSum$Names", "find", "([CII)LShellSum$Named;"⟩, 2) := ⟨⟨by decide +kernel, by decide +kernel⟩, List.mem_of_getElem? (i := 27) (by decide +kernel), List.mem_of_getElem? (i := 143) (by decide +kernel), List.mem_of_getElem? (i := 144) (by decide +kernel)⟩
theorem lw_p2 : lw_okq (⟨"ShellSum$Named", "isCalled", "([CII)Z"⟩, 3) := ⟨⟨by decide +kernel, by decide +kernel⟩, List.mem_of_getElem? (i := 149) (by decide +kernel), List.mem_of_getElem? (i := 147) (by decide +kernel), List.mem_of_getElem? (i := 148) (by decide +kernel)⟩
theorem lw_p3 : lw_okq (⟨"ShellSum$Names", "remove", "([CII)Z"⟩, 2) := ⟨⟨by decide +kernel, by decide +kernel⟩, List.mem_of_getElem? (i := 27) (by decide +kernel), List.mem_of_getElem? (i := 177) (by decide +kernel), List.mem_of_getElem? (i := 178) (by decide +kernel)⟩
theorem lw_p4 : lw_okq (⟨"ShellSum$Reckoner", "manages", "(I)Z"⟩, 9) := ⟨⟨by decide +kernel, by decide +kernel⟩, List.mem_of_getElem? (i := 21) (by decide +kernel), List.mem_of_getElem? (i := 198) (by decide +kernel), List.mem_of_getElem? (i := 199) (by decide +kernel)⟩
theorem lw_p5 : lw_okq (⟨"ShellSum$Reckoner", "skipBlanks", "()V"⟩, 9) := ⟨⟨by decide +kernel, by decide +kernel⟩, List.mem_of_getElem? (i := 21) (by decide +kernel), List.mem_of_getElem? (i := 203) (by decide +kernel), List.mem_of_getElem? (i := 204) (by decide +kernel)⟩
theorem lw_p6 : lw_okq (⟨"ShellSum$Reckoner", "charAt", "(I)C"⟩, 9) := ⟨⟨by decide +kernel, by decide +kernel⟩, List.mem_of_getElem? (i := 21) (by decide +kernel), List.mem_of_getElem? (i := 207) (by decide +kernel), List.mem_of_getElem? (i := 208) (by decide +kernel)⟩
theorem lw_p7 : lw_okq (⟨"ShellSum$Reckoner", "expression", "(I)J"⟩, 9) := ⟨⟨by decide +kernel, by decide +kernel⟩, List.mem_of_getElem? (i := 21) (by decide +kernel), List.mem_of_getElem? (i := 212) (by decide +kernel), List.mem_of_getElem? (i := 213) (by decide +kernel)⟩
theorem lw_p8 : lw_okq (⟨"ShellSum$Reckoner", "wordEnd", "()I"⟩, 9) := ⟨⟨by decide +kernel, by decide +kernel⟩, List.mem_of_getElem? (i := 21) (by decide +kernel), List.mem_of_getElem? (i := 217) (by decide +kernel), List.mem_of_getElem? (i := 218) (by decide +kernel)⟩
theorem lw_p9 : lw_okq (⟨"ShellSum$Reckoner", "assignmentSign", "()I"⟩, 9) := ⟨⟨by decide +kernel, by decide +kernel⟩, List.mem_of_getElem? (i := 21) (by decide +kernel), List.mem_of_getElem? (i := 222) (by decide +kernel), List.mem_of_getElem? (i := 223) (by decide +kernel)⟩
theorem lw_p10 : lw_okq (⟨"java/lang/Throwable", "fillInStackTrace", "(I)Ljava/lang/Throwable;"⟩, 6) := ⟨⟨by decide +kernel, by decide +kernel⟩, List.mem_of_getElem? (i := 270) (by decide +kernel), List.mem_of_getElem? (i := 268) (by decide +kernel), List.mem_of_getElem? (i := 269) (by decide +kernel)⟩
theorem lw_p11 : lw_okq (⟨"ShellSum$Reckoner", "assign", "(IIIJ)J"⟩, 9) := ⟨⟨by decide +kernel, by decide +kernel⟩, List.mem_of_getElem? (i := 21) (by decide +kernel), List.mem_of_getElem? (i := 300) (by decide +kernel), List.mem_of_getElem? (i := 301) (by decide +kernel)⟩
theorem lw_p12 : lw_okq (⟨"ShellSum$Reckoner", "nameValue", "(II)J"⟩, 9) := ⟨⟨by decide +kernel, by decide +kernel⟩, List.mem_of_getElem? (i := 21) (by decide +kernel), List.mem_of_getElem? (i := 304) (by decide +kernel), List.mem_of_getElem? (i := 305) (by decide +kernel)⟩
theorem lw_p13 : lw_okq (⟨"ShellSum$Named", "writeDecimal", "(J)V"⟩, 3) := ⟨⟨by decide +kernel, by decide +kernel⟩, List.mem_of_getElem? (i := 149) (by decide +kernel), List.mem_of_getElem? (i := 338) (by decide +kernel), List.mem_of_getElem? (i := 339) (by decide +kernel)⟩
theorem lw_p14 : lw_okq (⟨"ShellSum$Reckoner", "choice", "(I)J"⟩, 9) := ⟨⟨by decide +kernel, by decide +kernel⟩, List.mem_of_getElem? (i := 21) (by decide +kernel), List.mem_of_getElem? (i := 350) (by decide +kernel), List.mem_of_getElem? (i := 351) (by decide +kernel)⟩
theorem lw_p15 : lw_okq (⟨"ShellSum$Reckoner", "binary", "(I)J"⟩, 9) := ⟨⟨by decide +kernel, by decide +kernel⟩, List.mem_of_getElem? (i := 21) (by decide +kernel), List.mem_of_getElem? (i := 354) (by decide +kernel), List.mem_of_getElem? (i := 355) (by decide +kernel)⟩
def lw_privs_1 : List (MethodName × Nat) := [(⟨"ShellSum$Names", "findOrAdd", "([CII)LShellSum$Named;"⟩, 2), (⟨"ShellSum$Names", "find", "([CII)LShellSum$Named;"⟩, 2), (⟨"ShellSum$Named", "isCalled", "([CII)Z"⟩, 3), (⟨"ShellSum$Names", "remove", "([CII)Z"⟩, 2), (⟨"ShellSum$Reckoner", "manages", "(I)Z"⟩, 9), (⟨"ShellSum$Reckoner", "skipBlanks", "()V"⟩, 9), (⟨"ShellSum$Reckoner", "charAt", "(I)C"⟩, 9), (⟨"ShellSum$Reckoner", "expression", "(I)J"⟩, 9), (⟨"ShellSum$Reckoner", "wordEnd", "()I"⟩, 9), (⟨"ShellSum$Reckoner", "assignmentSign", "()I"⟩, 9), (⟨"java/lang/Throwable", "fillInStackTrace", "(I)Ljava/lang/Throwable;"⟩, 6), (⟨"ShellSum$Reckoner", "assign", "(IIIJ)J"⟩, 9), (⟨"ShellSum$Reckoner", "nameValue", "(II)J"⟩, 9), (⟨"ShellSum$Named", "writeDecimal", "(J)V"⟩, 3), (⟨"ShellSum$Reckoner", "choice", "(I)J"⟩, 9), (⟨"ShellSum$Reckoner", "binary", "(I)J"⟩, 9)]
theorem lw_r1 : ∀ q ∈ lw_privs_1, lw_okq q := List.forall_mem_cons.mpr ⟨lw_p0, List.forall_mem_cons.mpr ⟨lw_p1, List.forall_mem_cons.mpr ⟨lw_p2, List.forall_mem_cons.mpr ⟨lw_p3, List.forall_mem_cons.mpr ⟨lw_p4, List.forall_mem_cons.mpr ⟨lw_p5, List.forall_mem_cons.mpr ⟨lw_p6, List.forall_mem_cons.mpr ⟨lw_p7, List.forall_mem_cons.mpr ⟨lw_p8, List.forall_mem_cons.mpr ⟨lw_p9, List.forall_mem_cons.mpr ⟨lw_p10, List.forall_mem_cons.mpr ⟨lw_p11, List.forall_mem_cons.mpr ⟨lw_p12, List.forall_mem_cons.mpr ⟨lw_p13, List.forall_mem_cons.mpr ⟨lw_p14, List.forall_mem_cons.mpr ⟨lw_p15, fun _ h => absurd h List.not_mem_nil⟩⟩⟩⟩⟩⟩⟩⟩⟩⟩⟩⟩⟩⟩⟩⟩
theorem lw_p16 : lw_okq (⟨"ShellSum$Reckoner", "unary", "(I)J"⟩, 9) := ⟨⟨by decide +kernel, by decide +kernel⟩, List.mem_of_getElem? (i := 21) (by decide +kernel), List.mem_of_getElem? (i := 358) (by decide +kernel), List.mem_of_getElem? (i := 359) (by decide +kernel)⟩
theorem lw_p17 : lw_okq (⟨"ShellSum$Reckoner", "expect", "(C)V"⟩, 9) := ⟨⟨by decide +kernel, by decide +kernel⟩, List.mem_of_getElem? (i := 21) (by decide +kernel), List.mem_of_getElem? (i := 363) (by decide +kernel), List.mem_of_getElem? (i := 364) (by decide +kernel)⟩
theorem lw_p18 : lw_okq (⟨"ShellSum$Reckoner", "word", "()J"⟩, 9) := ⟨⟨by decide +kernel, by decide +kernel⟩, List.mem_of_getElem? (i := 21) (by decide +kernel), List.mem_of_getElem? (i := 368) (by decide +kernel), List.mem_of_getElem? (i := 369) (by decide +kernel)⟩
theorem lw_p19 : lw_okq (⟨"ShellSum$Reckoner", "signOfTwo", "()I"⟩, 9) := ⟨⟨by decide +kernel, by decide +kernel⟩, List.mem_of_getElem? (i := 21) (by decide +kernel), List.mem_of_getElem? (i := 374) (by decide +kernel), List.mem_of_getElem? (i := 375) (by decide +kernel)⟩
theorem lw_p20 : lw_okq (⟨"ShellSum$Reckoner", "settle", "(IIJ)J"⟩, 9) := ⟨⟨by decide +kernel, by decide +kernel⟩, List.mem_of_getElem? (i := 21) (by decide +kernel), List.mem_of_getElem? (i := 378) (by decide +kernel), List.mem_of_getElem? (i := 379) (by decide +kernel)⟩
theorem lw_p21 : lw_okq (⟨"ShellSum$Reckoner", "join", "(IJJ)J"⟩, 9) := ⟨⟨by decide +kernel, by decide +kernel⟩, List.mem_of_getElem? (i := 21) (by decide +kernel), List.mem_of_getElem? (i := 382) (by decide +kernel), List.mem_of_getElem? (i := 383) (by decide +kernel)⟩
theorem lw_p22 : lw_okq (⟨"ShellSum$Reckoner", "await", "(IJ)V"⟩, 9) := ⟨⟨by decide +kernel, by decide +kernel⟩, List.mem_of_getElem? (i := 21) (by decide +kernel), List.mem_of_getElem? (i := 389) (by decide +kernel), List.mem_of_getElem? (i := 390) (by decide +kernel)⟩
theorem lw_p23 : lw_okq (⟨"ShellSumModel", "placeFor", "([III)I"⟩, 26) := ⟨⟨by decide +kernel, by decide +kernel⟩, List.mem_of_getElem? (i := 395) (by decide +kernel), List.mem_of_getElem? (i := 513) (by decide +kernel), List.mem_of_getElem? (i := 514) (by decide +kernel)⟩
theorem lw_p24 : lw_okq (⟨"ShellSumModel", "find", "([III)I"⟩, 26) := ⟨⟨by decide +kernel, by decide +kernel⟩, List.mem_of_getElem? (i := 395) (by decide +kernel), List.mem_of_getElem? (i := 517) (by decide +kernel), List.mem_of_getElem? (i := 518) (by decide +kernel)⟩
theorem lw_p25 : lw_okq (⟨"ShellSumModel", "sign", "()I"⟩, 26) := ⟨⟨by decide +kernel, by decide +kernel⟩, List.mem_of_getElem? (i := 395) (by decide +kernel), List.mem_of_getElem? (i := 533) (by decide +kernel), List.mem_of_getElem? (i := 534) (by decide +kernel)⟩
theorem lw_p26 : lw_okq (⟨"ShellSumModel", "plain", "(IZ)V"⟩, 26) := ⟨⟨by decide +kernel, by decide +kernel⟩, List.mem_of_getElem? (i := 395) (by decide +kernel), List.mem_of_getElem? (i := 537) (by decide +kernel), List.mem_of_getElem? (i := 538) (by decide +kernel)⟩
theorem lw_p27 : lw_okq (⟨"ShellSumModel", "wait", "(IZIIJ)V"⟩, 26) := ⟨⟨by decide +kernel, by decide +kernel⟩, List.mem_of_getElem? (i := 395) (by decide +kernel), List.mem_of_getElem? (i := 541) (by decide +kernel), List.mem_of_getElem? (i := 542) (by decide +kernel)⟩
theorem lw_p28 : lw_okq (⟨"ShellSumModel", "go", "()V"⟩, 26) := ⟨⟨by decide +kernel, by decide +kernel⟩, List.mem_of_getElem? (i := 395) (by decide +kernel), List.mem_of_getElem? (i := 545) (by decide +kernel), List.mem_of_getElem? (i := 546) (by decide +kernel)⟩
theorem lw_p29 : lw_okq (⟨"ShellSumModel", "aSum", "(Z)V"⟩, 26) := ⟨⟨by decide +kernel, by decide +kernel⟩, List.mem_of_getElem? (i := 395) (by decide +kernel), List.mem_of_getElem? (i := 549) (by decide +kernel), List.mem_of_getElem? (i := 550) (by decide +kernel)⟩
theorem lw_p30 : lw_okq (⟨"ShellSumModel", "nameEnd", "()I"⟩, 26) := ⟨⟨by decide +kernel, by decide +kernel⟩, List.mem_of_getElem? (i := 395) (by decide +kernel), List.mem_of_getElem? (i := 553) (by decide +kernel), List.mem_of_getElem? (i := 554) (by decide +kernel)⟩
theorem lw_p31 : lw_okq (⟨"ShellSumModel", "gives", "()I"⟩, 26) := ⟨⟨by decide +kernel, by decide +kernel⟩, List.mem_of_getElem? (i := 395) (by decide +kernel), List.mem_of_getElem? (i := 557) (by decide +kernel), List.mem_of_getElem? (i := 558) (by decide +kernel)⟩
def lw_privs_2 : List (MethodName × Nat) := [(⟨"ShellSum$Reckoner", "unary", "(I)J"⟩, 9), (⟨"ShellSum$Reckoner", "expect", "(C)V"⟩, 9), (⟨"ShellSum$Reckoner", "word", "()J"⟩, 9), (⟨"ShellSum$Reckoner", "signOfTwo", "()I"⟩, 9), (⟨"ShellSum$Reckoner", "settle", "(IIJ)J"⟩, 9), (⟨"ShellSum$Reckoner", "join", "(IJJ)J"⟩, 9), (⟨"ShellSum$Reckoner", "await", "(IJ)V"⟩, 9), (⟨"ShellSumModel", "placeFor", "([III)I"⟩, 26), (⟨"ShellSumModel", "find", "([III)I"⟩, 26), (⟨"ShellSumModel", "sign", "()I"⟩, 26), (⟨"ShellSumModel", "plain", "(IZ)V"⟩, 26), (⟨"ShellSumModel", "wait", "(IZIIJ)V"⟩, 26), (⟨"ShellSumModel", "go", "()V"⟩, 26), (⟨"ShellSumModel", "aSum", "(Z)V"⟩, 26), (⟨"ShellSumModel", "nameEnd", "()I"⟩, 26), (⟨"ShellSumModel", "gives", "()I"⟩, 26)]
theorem lw_r2 : ∀ q ∈ lw_privs_2, lw_okq q := List.forall_mem_cons.mpr ⟨lw_p16, List.forall_mem_cons.mpr ⟨lw_p17, List.forall_mem_cons.mpr ⟨lw_p18, List.forall_mem_cons.mpr ⟨lw_p19, List.forall_mem_cons.mpr ⟨lw_p20, List.forall_mem_cons.mpr ⟨lw_p21, List.forall_mem_cons.mpr ⟨lw_p22, List.forall_mem_cons.mpr ⟨lw_p23, List.forall_mem_cons.mpr ⟨lw_p24, List.forall_mem_cons.mpr ⟨lw_p25, List.forall_mem_cons.mpr ⟨lw_p26, List.forall_mem_cons.mpr ⟨lw_p27, List.forall_mem_cons.mpr ⟨lw_p28, List.forall_mem_cons.mpr ⟨lw_p29, List.forall_mem_cons.mpr ⟨lw_p30, List.forall_mem_cons.mpr ⟨lw_p31, fun _ h => absurd h List.not_mem_nil⟩⟩⟩⟩⟩⟩⟩⟩⟩⟩⟩⟩⟩⟩⟩⟩
theorem lw_p32 : lw_okq (⟨"ShellSumModel", "at", "(I)I"⟩, 26) := ⟨⟨by decide +kernel, by decide +kernel⟩, List.mem_of_getElem? (i := 395) (by decide +kernel), List.mem_of_getElem? (i := 561) (by decide +kernel), List.mem_of_getElem? (i := 562) (by decide +kernel)⟩
theorem lw_p33 : lw_okq (⟨"ShellSumModel", "inner", "()V"⟩, 26) := ⟨⟨by decide +kernel, by decide +kernel⟩, List.mem_of_getElem? (i := 395) (by decide +kernel), List.mem_of_getElem? (i := 565) (by decide +kernel), List.mem_of_getElem? (i := 566) (by decide +kernel)⟩
theorem lw_p34 : lw_okq (⟨"ShellSumModel", "taken", "()J"⟩, 26) := ⟨⟨by decide +kernel, by decide +kernel⟩, List.mem_of_getElem? (i := 395) (by decide +kernel), List.mem_of_getElem? (i := 569) (by decide +kernel), List.mem_of_getElem? (i := 570) (by decide +kernel)⟩
theorem lw_p35 : lw_okq (⟨"ShellSumModel", "keep", "(J)V"⟩, 26) := ⟨⟨by decide +kernel, by decide +kernel⟩, List.mem_of_getElem? (i := 395) (by decide +kernel), List.mem_of_getElem? (i := 573) (by decide +kernel), List.mem_of_getElem? (i := 574) (by decide +kernel)⟩
theorem lw_p36 : lw_okq (⟨"ShellSumModel", "more", "(ZI)V"⟩, 26) := ⟨⟨by decide +kernel, by decide +kernel⟩, List.mem_of_getElem? (i := 395) (by decide +kernel), List.mem_of_getElem? (i := 577) (by decide +kernel), List.mem_of_getElem? (i := 578) (by decide +kernel)⟩
theorem lw_p37 : lw_okq (⟨"ShellSumModel", "rank", "()I"⟩, 26) := ⟨⟨by decide +kernel, by decide +kernel⟩, List.mem_of_getElem? (i := 395) (by decide +kernel), List.mem_of_getElem? (i := 581) (by decide +kernel), List.mem_of_getElem? (i := 582) (by decide +kernel)⟩
theorem lw_p38 : lw_okq (⟨"ShellSumModel", "joined", "(IIZJJZ)J"⟩, 26) := ⟨⟨by decide +kernel, by decide +kernel⟩, List.mem_of_getElem? (i := 395) (by decide +kernel), List.mem_of_getElem? (i := 585) (by decide +kernel), List.mem_of_getElem? (i := 586) (by decide +kernel)⟩
theorem lw_p39 : lw_okq (⟨"ShellSumModel", "term", "(Z)V"⟩, 26) := ⟨⟨by decide +kernel, by decide +kernel⟩, List.mem_of_getElem? (i := 395) (by decide +kernel), List.mem_of_getElem? (i := 589) (by decide +kernel), List.mem_of_getElem? (i := 590) (by decide +kernel)⟩
theorem lw_p40 : lw_okq (⟨"ShellSumModel", "named", "(II)J"⟩, 26) := ⟨⟨by decide +kernel, by decide +kernel⟩, List.mem_of_getElem? (i := 395) (by decide +kernel), List.mem_of_getElem? (i := 593) (by decide +kernel), List.mem_of_getElem? (i := 594) (by decide +kernel)⟩
theorem lw_p41 : lw_okq (⟨"ShellSumModel", "numberEnd", "([III)I"⟩, 26) := ⟨⟨by decide +kernel, by decide +kernel⟩, List.mem_of_getElem? (i := 395) (by decide +kernel), List.mem_of_getElem? (i := 597) (by decide +kernel), List.mem_of_getElem? (i := 598) (by decide +kernel)⟩
theorem lw_p42 : lw_okq (⟨"ShellSumModel", "given", "(ZIII)V"⟩, 26) := ⟨⟨by decide +kernel, by decide +kernel⟩, List.mem_of_getElem? (i := 395) (by decide +kernel), List.mem_of_getElem? (i := 605) (by decide +kernel), List.mem_of_getElem? (i := 606) (by decide +kernel)⟩
theorem lw_p43 : lw_okq (⟨"ShellSumModel", "give", "(IIJ)V"⟩, 26) := ⟨⟨by decide +kernel, by decide +kernel⟩, List.mem_of_getElem? (i := 395) (by decide +kernel), List.mem_of_getElem? (i := 609) (by decide +kernel), List.mem_of_getElem? (i := 610) (by decide +kernel)⟩
def lw_privs_3 : List (MethodName × Nat) := [(⟨"ShellSumModel", "at", "(I)I"⟩, 26), (⟨"ShellSumModel", "inner", "()V"⟩, 26), (⟨"ShellSumModel", "taken", "()J"⟩, 26), (⟨"ShellSumModel", "keep", "(J)V"⟩, 26), (⟨"ShellSumModel", "more", "(ZI)V"⟩, 26), (⟨"ShellSumModel", "rank", "()I"⟩, 26), (⟨"ShellSumModel", "joined", "(IIZJJZ)J"⟩, 26), (⟨"ShellSumModel", "term", "(Z)V"⟩, 26), (⟨"ShellSumModel", "named", "(II)J"⟩, 26), (⟨"ShellSumModel", "numberEnd", "([III)I"⟩, 26), (⟨"ShellSumModel", "given", "(ZIII)V"⟩, 26), (⟨"ShellSumModel", "give", "(IIJ)V"⟩, 26)]
theorem lw_r3 : ∀ q ∈ lw_privs_3, lw_okq q := List.forall_mem_cons.mpr ⟨lw_p32, List.forall_mem_cons.mpr ⟨lw_p33, List.forall_mem_cons.mpr ⟨lw_p34, List.forall_mem_cons.mpr ⟨lw_p35, List.forall_mem_cons.mpr ⟨lw_p36, List.forall_mem_cons.mpr ⟨lw_p37, List.forall_mem_cons.mpr ⟨lw_p38, List.forall_mem_cons.mpr ⟨lw_p39, List.forall_mem_cons.mpr ⟨lw_p40, List.forall_mem_cons.mpr ⟨lw_p41, List.forall_mem_cons.mpr ⟨lw_p42, List.forall_mem_cons.mpr ⟨lw_p43, fun _ h => absurd h List.not_mem_nil⟩⟩⟩⟩⟩⟩⟩⟩⟩⟩⟩⟩
def lw_privs : List (MethodName × Nat) := lw_privs_1 ++ (lw_privs_2 ++ (lw_privs_3))
def lw_tbl : List Cond := k2_sels lw_privs ++ tables_1
theorem lw_privs_ok : ∀ q ∈ lw_privs, lw_okq q := by
  show ∀ q ∈ lw_privs_1 ++ (lw_privs_2 ++ (lw_privs_3)), lw_okq q
  exact List.forall_mem_append.mpr ⟨lw_r1, List.forall_mem_append.mpr ⟨lw_r2, lw_r3⟩⟩
end
section
/-! ===== BEGIN words of one list among another's, by their places ===== -/
theorem goodIn_r {big : List Cond} (ws : List Cond) (ps : List Nat) (hp : ws = ps.filterMap (fun i => big[i]?)) (h : ws.all goodWord = true) : GoodIn big ws := by
  intro w hw
  have h1 := List.all_eq_true.mp h w hw
  rw [hp] at hw
  obtain ⟨i, -, hi⟩ := List.mem_filterMap.mp hw
  have hm : w ∈ big := by first | exact List.mem_of_getElem? hi | exact List.getElem?_mem hi
  exact ⟨hm, good_of_word h1⟩
theorem goodIn_app {big a b : List Cond} (ha : GoodIn big a) (hb : GoodIn big b) : GoodIn big (a ++ b) := fun w h => (List.mem_append.mp h).elim (ha w) (hb w)
theorem goodIn_ca {big a b : List Cond} {c : Cond} (ha : GoodIn big (c :: a)) (hb : GoodIn big b) : GoodIn big (c :: (a ++ b)) := fun w h => (List.mem_cons.mp h).elim (fun e => ha w (List.mem_cons.mpr (Or.inl e))) (fun h => (List.mem_append.mp h).elim (fun h => ha w (List.mem_cons.mpr (Or.inr h))) (hb w))
theorem goodIn_sub {big ws : List Cond} (hm : ∀ w ∈ ws, w ∈ big) (h : ws.all goodWord = true) : GoodIn big ws := fun w hw => ⟨hm w hw, good_of_word (List.all_eq_true.mp h w hw)⟩
/-! ===== END ===== -/

/-! ===== BEGIN exceptions that leave a method, and their catching by the caller (launches without stack traces) ===== -/
section VXA
/-! The laws vx_back, vx_callV, vx_callS, vx_callSW, vx_throw0, vx_throwS follow proofs of the library, with one case more: JvmDerived/Free/Laws.lean (Back.of_free), Shelf42/LK1.lean (callV, callS), Shelf/KitTraced.lean (throwNew0V, throwNewS). -/
/-- where a method has thrown q: the class by its name, the cell, what was written, the world -/
def vx_T (XC : String → State → State → Prop) (st : State) (q : Addr) (t : State) (mc ms : Nat) (free : Addr → Prop) : Prop :=
  ∃ (E : String) (ce : Cell) (L : List Loc), XC E st t ∧ t.heap[q]? = some ce ∧ ce.vm = .none ∧ st.vm.findClass E = some ce.cls ∧ st.WarmedH t.vm ∧ st.sameButNew ({ t with vm := st.vm } : State) L mc ms ∧ ∀ z ∈ L, free z.base
def vx_Q (Qc : Array Value → State → Outcome → State → Prop) (XC : String → State → State → Prop) (mc ms : Nat) (free : Addr → Prop) : Array Value → State → Outcome → State → Prop := fun a st o t =>
  (Qc a st o t ∧ ∃ L, FrameEnd st o t L mc ms ∧ ∀ q ∈ L, free q.base) ∨ ∃ q, o = .threw q ∧ vx_T XC st q t mc ms free
/-- a callee that returns or throws -/
def vx_Met (l : Launch) (y : MethodName) (ws : List Cond) (rm : Room) (Pc : Array Value → State → Prop) (Qc : Array Value → State → Outcome → State → Prop) (XC : String → State → State → Prop) (mc ms : Nat) (free : Addr → Prop) : Prop :=
  MetFree l y (headSpec ws rm) Pc (fun _ _ _ _ _ => True) (vx_Q Qc XC mc ms free)
def vx_Post (XC : String → State → State → Prop) (mc ms : Nat) (free : Addr → Prop) : Pt → Array Value → Addr → Pt → Prop := fun A a q B =>
  ∃ (g : JFrame) (mk : MethodId) (t : State) (L : List Loc) (E : String) (ce : Cell), B.U.heap = t.heap ∧ B.U.vm = t.vm ∧ XC E (A.U.calling g mk a) t ∧ t.heap[q]? = some ce ∧ ce.vm = .none ∧ A.U.vm.findClass E = some ce.cls ∧ B.locs = A.locs ++ L ∧ (∀ z ∈ L, free z.base) ∧ B.cells = A.cells + mc ∧ B.slots = A.slots + ms
def vx_Back (l : Launch) (R : Room) (p : Program) (e : Env) (below : List Frame) (s : State) (sargs : Array Value) (y : MethodName) (len W9 : Nat)
    (Pre : Pt → Array Value → Prop) (Post : Pt → Array Value → Option Value → Pt → Prop) (PostX : Pt → Array Value → Addr → Pt → Prop) : Prop :=
  ∀ (m : MethodId) (meth : Method) (c : Code) (A : Pt) (g : JFrame) (ig : Instr) (mk : MethodId) (a : Array Value),
    Stand p l e R s m sargs below meth c A.U A.locs A.cells A.slots → g.method = m → g.locals.size = c.maxLocals → decode c.code g.pc = .ok (ig, len) →
    2 * g.monitorRoom + (g.stack.map fun v => v.category).sum ≤ W9 → A.U.methodNamed? y = some mk → Pre A a →
    (∃ (v : Option Value) (B : Pt), Stand p l e R s m sargs below meth c B.U B.locs B.cells B.slots ∧ Post A a v B ∧
      Steps p.tables e below (doInvoke e (A.U.setTop g) [] mk a).1 (B.U.setTop { g with pc := g.pc + len, stack := v.toList ++ g.stack })) ∨
    (∃ (q : Addr) (B : Pt), Stand p l e R s m sargs below meth c B.U B.locs B.cells B.slots ∧ PostX A a q B ∧
      Steps p.tables e below (doInvoke e (A.U.setTop g) [] mk a).1 ((B.U.setTop g).pushFrame (.throwing q)))
section Payer
variable {l : Launch} {R : Room} {p : Program} {e : Env} {below : List Frame} {s : State} {sargs : Array Value} {y : MethodName} {len W9 : Nat}
theorem vx_back {ws : List Cond} {rm : Room} {Pc : Array Value → State → Prop} {Qc : Array Value → State → Outcome → State → Prop} {XC : String → State → State → Prop} {mc ms : Nat} {free : Addr → Prop} {bytes : ByteArray} {maxL : Nat} {ret : Option FieldType}
    (hM : vx_Met l y ws rm Pc Qc XC mc ms free) (hblind : FrameBlind Pc) (hrc : rm.cells = mc) (hrs : rm.slots = ms)
    (hframes : rm.frames + 1 ≤ R.frames) (hlocals : W9 + (maxL + 11) + rm.locals ≤ R.locals)
    (hws : ∀ w ∈ ws, ∀ a' U, s.WarmedH U.vm → w.before a' U = true) (hcode : Cond.code y bytes maxL ret ∈ ws) (hinit : ∀ a' U, s.WarmedH U.vm → (Cond.initialized y.cls).before a' U = true) :
    vx_Back l R p e below s sargs y len W9 (PreOf R mc ms Pc) (PostOf Qc mc ms free) (vx_Post XC mc ms free) := by
  intro m meth c A g ig mk a X hg hsize hdg hW hn hp
  have h1 : (headSpec ws rm).pre.before a A.U = true := atoms_intro fun w hw => hws w hw _ _ X.warmed
  have h2 : (Cond.code y bytes maxL ret).before a A.U = true := hws _ hcode _ _ X.warmed
  have h3 : (Cond.initialized y.cls).before a A.U = true := hinit _ _ X.warmed
  have h4 : A.cells + (headSpec ws rm).room.cells ≤ R.cells := by rw [show (headSpec ws rm).room.cells = mc from hrc]; exact hp.1
  have h5 : A.slots + (headSpec ws rm).room.slots ≤ R.slots := by rw [show (headSpec ws rm).room.slots = ms from hrs]; exact hp.2.1
  have hPc : Pc a (A.U.calling g mk a) := hblind _ _ _ _ hp.2.2
  obtain ⟨U, Ls, c0, s0⟩ := A
  dsimp only [Pt.U, Pt.locs, Pt.cells, Pt.slots] at h1 h2 h3 h4 h5 X hn hPc ⊢
  obtain ⟨methY, cY, hmY, hcY, -, hlY, -, -, -, -⟩ := Cond.code_spec hn h2
  obtain ⟨kY, hkY, -⟩ := className_of_methodNamed hn
  have hinitY : kY.init = .initialized := Cond.initialized_spec (findClass_of_methodNamed hn) hkY h3
  have h : At U g.method c below := by rw [hg]; exact X.here
  have hlocals9 : W9 + (maxL + 11) + (headSpec ws rm).room.locals ≤ R.locals := hlocals
  have happ : (headSpec ws rm).appliesLoose y e.platform (U.calling g mk a) = true :=
    Spec.appliesLoose_calling (g := g) h hdg hn hkY hinitY
      (X.room_calling (g := g) (R' := (headSpec ws rm).room) hsize hmY hcY hframes (by rw [hlY]; omega) h4 h5) h1
  obtain ⟨mid, hmid⟩ := h.above
  have hfr : (U.setTop g).frames = (.java g :: mid) ++ below := by rw [State.frames_setTop' g h.top, hmid]; rfl
  obtain ⟨o, s₂, hsteps, -, hend, hq⟩ := Steps.callFree hM p X.admits X.cas X.clock (acts := []) hfr happ hPc trivial
  have hq' : vx_Q Qc XC mc ms free a (U.calling g mk a) o s₂ := hq
  rw [State.frames_setTop' g h.top] at hend
  obtain ⟨g₀, hg0⟩ := Option.isSome_iff_exists.mp h.top
  obtain ⟨r, hr⟩ := State.topJava?_eq_some.mp hg0
  have hr' : (({ U with heap := s₂.heap, slotsUsed := s₂.slotsUsed } : State).setVm s₂.vm).frames = .java g₀ :: r := hr
  rcases hq' with ⟨hqc, L, hfe, hL⟩ | ⟨q, rfl, E, ce, L, hx, hce, hcv, hcl, hW₂, hsm, hL⟩
  · obtain ⟨⟨v, rfl⟩, hW₂, e2, q2, q3, q4, q5, q6⟩ := id hfe
    have e3 : s₂ = ({ (U.calling g mk a).setFrames s₂.frames with heap := s₂.heap, slotsUsed := s₂.slotsUsed } : State).setVm s₂.vm := by
      have : s₂ = ({ s₂ with vm := (U.calling g mk a).vm } : State).setVm s₂.vm := rfl
      rw [e2] at this
      exact this
    obtain ⟨c₂, i₂, len₂, hc₂, hd₂, hf₂⟩ := hend
    have hW' : U.WarmedH s₂.vm := hW₂
    have hcc : c₂ = c := by
      have h1 : s₂.code? g.method = U.code? g.method := by
        rw [State.code?_eq, State.code?_eq, hW'.alike.method?]
      exact Option.some.inj (hc₂.symm.trans (h1.trans h.code))
    subst hcc
    have hlen : len₂ = len := by rw [hdg] at hd₂; cases hd₂; rfl
    subst hlen
    have hs₂ : s₂ = (({ U with heap := s₂.heap, slotsUsed := s₂.slotsUsed } : State).setVm s₂.vm).setTop { g with pc := g.pc + len₂, stack := v.toList ++ g.stack } := by
      refine e3.trans ?_
      rw [hf₂, State.calling_eq h.top, State.setFrames_setFrames, State.setTop_of_frames _ hr', hr]
      rfl
    have hsame : U.sameButNew ({ U with heap := s₂.heap, slotsUsed := s₂.slotsUsed } : State) L mc ms := by
      refine ⟨?_, q2, q3, q4, q5, q6⟩
      obtain ⟨t, ht, -⟩ := State.frames_cons hr
      show ({ U with heap := s₂.heap, slotsUsed := s₂.slotsUsed } : State) = { U.setFrames U.frames with heap := s₂.heap, slotsUsed := s₂.slotsUsed }
      rw [State.setFrames_self ht]
    subst hg
    refine Or.inl ⟨v, ⟨(({ U with heap := s₂.heap, slotsUsed := s₂.slotsUsed } : State).setVm s₂.vm), Ls ++ L, c0 + mc, s0 + ms⟩,
      ⟨X.admits, X.cas, X.clock, X.frames, X.room, X.hears, X.method, X.code, (X.here.setHeapUsed s₂.heap s₂.slotsUsed).setVm hW'.alike, X.tail, State.WarmedH.trans X.warmed hW', X.limits, X.bytes, X.same.trans (hsame.setVm s.vm)⟩,
      ⟨g, mk, s₂, L, rfl, rfl, hqc, rfl, hL, rfl, rfl⟩, ?_⟩
    show Steps p.tables e below _ ((({ U with heap := s₂.heap, slotsUsed := s₂.slotsUsed } : State).setVm s₂.vm).setTop { g with pc := g.pc + len₂, stack := v.toList ++ g.stack })
    rw [← hs₂]
    exact hsteps
  · obtain ⟨e2, q2, q3, q4, q5, q6⟩ := id hsm
    have e3 : s₂ = ({ (U.calling g mk a).setFrames s₂.frames with heap := s₂.heap, slotsUsed := s₂.slotsUsed } : State).setVm s₂.vm := by
      have : s₂ = ({ s₂ with vm := (U.calling g mk a).vm } : State).setVm s₂.vm := rfl
      rw [e2] at this
      exact this
    have hf₂ : s₂.frames = .throwing q :: .java g :: U.frames.tail := hend
    have hW' : U.WarmedH s₂.vm := hW₂
    have hs₂ : s₂ = ((({ U with heap := s₂.heap, slotsUsed := s₂.slotsUsed } : State).setVm s₂.vm).setTop g).pushFrame (.throwing q) := by
      refine e3.trans ?_
      rw [hf₂, State.calling_eq h.top, State.setFrames_setFrames, State.pushFrame, State.frames_setTop _ hr', State.setTop_of_frames _ hr', State.setFrames_setFrames, hr]
      rfl
    have hsame : U.sameButNew ({ U with heap := s₂.heap, slotsUsed := s₂.slotsUsed } : State) L mc ms := by
      refine ⟨?_, q2, q3, q4, q5, q6⟩
      obtain ⟨t, ht, -⟩ := State.frames_cons hr
      show ({ U with heap := s₂.heap, slotsUsed := s₂.slotsUsed } : State) = { U.setFrames U.frames with heap := s₂.heap, slotsUsed := s₂.slotsUsed }
      rw [State.setFrames_self ht]
    subst hg
    refine Or.inr ⟨q, ⟨(({ U with heap := s₂.heap, slotsUsed := s₂.slotsUsed } : State).setVm s₂.vm), Ls ++ L, c0 + mc, s0 + ms⟩,
      ⟨X.admits, X.cas, X.clock, X.frames, X.room, X.hears, X.method, X.code, (X.here.setHeapUsed s₂.heap s₂.slotsUsed).setVm hW'.alike, X.tail, State.WarmedH.trans X.warmed hW', X.limits, X.bytes, X.same.trans (hsame.setVm s.vm)⟩,
      ⟨g, mk, s₂, L, E, ce, rfl, rfl, hx, hce, hcv, hcl, rfl, hL, rfl, rfl⟩, ?_⟩
    show Steps p.tables e below _ (((({ U with heap := s₂.heap, slotsUsed := s₂.slotsUsed } : State).setVm s₂.vm).setTop g).pushFrame (.throwing q))
    rw [← hs₂]
    exact hsteps
end Payer
section Calls
variable {p : Program} {l : Launch} {e : Env} {R : Room} {s : State} {m : MethodId} {args : Array Value} {below : List Frame} {meth : Method} {c : Code} {T : State} {locs : List Loc} {cells slots : Nat}
theorem vx_callV (X : Stand p l e R s m args below meth c T locs cells slots) (hexec : p.tables.exec = Jvm.exec) {own C : String} {index : Nat} {y : MethodName} {bytes : ByteArray} {maxL : Nat} {ret : Option FieldType}
    (hown : s.vm.findClass own = some m.cls) (hlink : (Cond.methodLink own index y).before args s = true) (hinst : (Cond.instanceMethod y).before args s = true) (hsel : (Cond.selects C y y).before args s = true)
    (hcode : (Cond.code y bytes maxL ret).before args s = true) (hy : y.cls ≠ "java/lang/invoke/MethodHandle" ∧ y.cls ≠ "java/lang/invoke/VarHandle")
    {W9 : Nat} {Pre : Pt → Array Value → Prop} {Post : Pt → Array Value → Option Value → Pt → Prop} {PostX : Pt → Array Value → Addr → Pt → Prop} (hK : vx_Back l R p e below s args y 3 W9 Pre Post PostX)
    {b : Addr} {cellB : Cell} (hcell : T.heap[b]? = some cellB) (hobj : cellB.vm.isStatics = false) (hcls : s.vm.findClass C = some cellB.cls)
    {g : JFrame} (hg : g.method = m) (hsize : g.locals.size = c.maxLocals) {argsL rest : List Value} (hlen : ∀ sig, parseMethodDescriptor y.desc = some sig → argsL.length = sig.parameters.length)
    (hstack : g.stack = argsL.reverse ++ .ref b :: rest) (hW : 2 * g.monitorRoom + (rest.map fun v => v.category).sum ≤ W9) (hdg : decode c.code g.pc = .ok (.invokevirtual index, 3))
    (hpre : ∀ vm₁, s.WarmedH vm₁ → Pre ⟨T.setVm vm₁, locs, cells, slots⟩ (Value.ref b :: argsL).toArray) :
    (∃ (v : Option Value) (vm₁ : Vm) (B : Pt), s.WarmedH vm₁ ∧ Stand p l e R s m args below meth c B.U B.locs B.cells B.slots ∧ Post ⟨T.setVm vm₁, locs, cells, slots⟩ (Value.ref b :: argsL).toArray v B ∧
      ∀ target, Steps p.tables e below (B.U.setTop { g with pc := g.pc + 3, stack := v.toList ++ rest }) target → Steps p.tables e below (T.setTop g) target) ∨
    (∃ (q : Addr) (vm₁ : Vm) (B : Pt), s.WarmedH vm₁ ∧ Stand p l e R s m args below meth c B.U B.locs B.cells B.slots ∧ PostX ⟨T.setVm vm₁, locs, cells, slots⟩ (Value.ref b :: argsL).toArray q B ∧
      Steps p.tables e below (T.setTop g) ((B.U.setTop { g with stack := rest }).pushFrame (.throwing q))) := by
  obtain ⟨mk, methM, hnamed, hmethM, hstM, habM⟩ := Cond.instanceMethod_spec hinst
  obtain ⟨methM', cM, hmethM', -, -, -, -, -, -, hsigM⟩ := Cond.code_spec hnamed hcode
  cases hmethM.symm.trans hmethM'
  obtain ⟨c2, r2, m2, q1, q2, q3, q4, kP, hkP, hkPi⟩ := Cond.selects_spec hsel
  cases hcls.symm.trans q1
  cases (State.methodFound?_of_named hnamed hy).symm.trans q2
  cases hnamed.symm.trans q3
  have hselP : selectMethod e.platform s.vm cellB.cls mk = .method mk := by rw [Launch.admits_selectMethod X.admits]; exact q4
  obtain ⟨vm₁, X₁, hstep₁⟩ := X.invokevirtual hexec hown hlink hnamed hmethM hstM hkP hkPi hy (a := b) (cell := cellB) hcell
    (fun z h => by rw [h] at hobj; cases hobj) hselP hmethM habM hkP hkPi (g := g) hg (argsL := argsL) (rest := rest) (hlen _ hsigM) hstack hdg
  rcases hK m meth c ⟨T.setVm vm₁, locs, cells, slots⟩ { g with stack := rest } (.invokevirtual index) mk (Value.ref b :: argsL).toArray X₁ hg hsize hdg hW (X₁.named hnamed) (hpre vm₁ X₁.warmed) with ⟨v, B, X', hpost, hsteps⟩ | ⟨q, B, X', hpost, hsteps⟩
  · exact Or.inl ⟨v, vm₁, B, X₁.warmed, X', hpost, fun target h => hstep₁ _ fun acts => by rw [doInvoke_state]; exact hsteps.trans h⟩
  · exact Or.inr ⟨q, vm₁, B, X₁.warmed, X', hpost, hstep₁ _ fun acts => by rw [doInvoke_state]; exact hsteps⟩
theorem vx_callS (X : Stand p l e R s m args below meth c T locs cells slots) (hexec : p.tables.exec = Jvm.exec) {own : String} {index : Nat} {y : MethodName} {bytes : ByteArray} {maxL : Nat} {ret : Option FieldType}
    (hown : s.vm.findClass own = some m.cls) (hlink : (Cond.methodLink own index y).before args s = true) (hstat : (Cond.static y).before args s = true) (hinit : (Cond.initialized y.cls).before args s = true)
    (hcode : (Cond.code y bytes maxL ret).before args s = true) (hy : y.cls ≠ "java/lang/invoke/MethodHandle" ∧ y.cls ≠ "java/lang/invoke/VarHandle")
    {W9 : Nat} {Pre : Pt → Array Value → Prop} {Post : Pt → Array Value → Option Value → Pt → Prop} {PostX : Pt → Array Value → Addr → Pt → Prop} (hK : vx_Back l R p e below s args y 3 W9 Pre Post PostX)
    {g : JFrame} (hg : g.method = m) (hsize : g.locals.size = c.maxLocals) {argsL rest : List Value} (hlen : ∀ sig, parseMethodDescriptor y.desc = some sig → argsL.length = sig.parameters.length)
    (hstack : g.stack = argsL.reverse ++ rest) (hW : 2 * g.monitorRoom + (rest.map fun v => v.category).sum ≤ W9) (hdg : decode c.code g.pc = .ok (.invokestatic index, 3))
    (hpre : ∀ vm₁, s.WarmedH vm₁ → Pre ⟨T.setVm vm₁, locs, cells, slots⟩ argsL.toArray) :
    (∃ (v : Option Value) (vm₁ : Vm) (B : Pt), s.WarmedH vm₁ ∧ Stand p l e R s m args below meth c B.U B.locs B.cells B.slots ∧ Post ⟨T.setVm vm₁, locs, cells, slots⟩ argsL.toArray v B ∧
      ∀ target, Steps p.tables e below (B.U.setTop { g with pc := g.pc + 3, stack := v.toList ++ rest }) target → Steps p.tables e below (T.setTop g) target) ∨
    (∃ (q : Addr) (vm₁ : Vm) (B : Pt), s.WarmedH vm₁ ∧ Stand p l e R s m args below meth c B.U B.locs B.cells B.slots ∧ PostX ⟨T.setVm vm₁, locs, cells, slots⟩ argsL.toArray q B ∧
      Steps p.tables e below (T.setTop g) ((B.U.setTop { g with stack := rest }).pushFrame (.throwing q))) := by
  obtain ⟨mk, hnamed⟩ := Cond.code_named hcode
  obtain ⟨methM, cM, hmethM, -, -, -, -, -, -, hsigM⟩ := Cond.code_spec hnamed hcode
  have hstatic : methM.isStatic = true := Cond.static_spec hnamed hmethM hstat
  obtain ⟨kP, hkP, -⟩ := className_of_methodNamed hnamed
  have hinitP : kP.init = .initialized := Cond.initialized_spec (findClass_of_methodNamed hnamed) hkP hinit
  obtain ⟨vm₁, X₁, hstep₁⟩ := X.invokestatic hexec hown hlink hnamed hmethM hstatic hkP hinitP hy (g := g) hg (argsL := argsL) (rest := rest) (hlen _ hsigM) hstack hdg
  rcases hK m meth c ⟨T.setVm vm₁, locs, cells, slots⟩ { g with stack := rest } (.invokestatic index) mk argsL.toArray X₁ hg hsize hdg hW (X₁.named hnamed) (hpre vm₁ X₁.warmed) with ⟨v, B, X', hpost, hsteps⟩ | ⟨q, B, X', hpost, hsteps⟩
  · exact Or.inl ⟨v, vm₁, B, X₁.warmed, X', hpost, fun target h => hstep₁ _ fun acts => by rw [doInvoke_state]; exact hsteps.trans h⟩
  · exact Or.inr ⟨q, vm₁, B, X₁.warmed, X', hpost, hstep₁ _ fun acts => by rw [doInvoke_state]; exact hsteps⟩
end Calls
theorem vx_cls {s : State} {T : State} {vm₁ : Vm} {E : String} {k : ClassId} (hW : s.WarmedH vm₁) (h : (T.setVm vm₁).vm.findClass E = some k) : s.vm.findClass E = some k := by
  have h1 : vm₁.findClass E = some k := h
  rw [hW.alike.findClass] at h1
  exact h1
/-- the method's frame g, with q thrown over it -/
def vx_W (p : Program) (l : Launch) (e : Env) (R : Room) (s : State) (m : MethodId) (args : Array Value) (below : List Frame) (meth : Method) (c : Code) (H : Heap) (locs : List Loc) (cells slots : Nat) (Q : State → Prop) (g : JFrame) (q : Addr) : Prop :=
  ∀ T : State, T.heap = H → Stand p l e R s m args below meth c T locs cells slots → ∃ t, Steps p.tables e below ((T.setTop g).pushFrame (.throwing q)) t ∧ Q t
def vx_Run (p : Program) (l : Launch) (e : Env) (R : Room) (s : State) (m : MethodId) (args : Array Value) (below : List Frame) (meth : Method) (c : Code) (H : Heap) (locs : List Loc) (cells slots mc ms : Nat) (g : JFrame) (rest : List Value) (Qa : State → Outcome → State → Prop) (XC : String → State → State → Prop) (free : Addr → Prop) : Prop :=
  ∀ T : State, T.heap = H → Stand p l e R s m args below meth c T locs cells slots →
    (∃ (v : Option Value) (st₀ t T' : State) (L : List Loc), st₀.heap = H ∧ Stand p l e R s m args below meth c T' (locs ++ L) (cells + mc) (slots + ms) ∧ (∀ q ∈ L, free q.base) ∧ T'.heap = t.heap ∧ T'.vm = t.vm ∧ Qa st₀ (.returned v) t ∧
      Goes p e below T g T' { g with pc := g.pc + 3, stack := v.toList ++ rest }) ∨
    (∃ (q : Addr) (st₀ t T' : State) (L : List Loc) (E : String) (ce : Cell), st₀.heap = H ∧ Stand p l e R s m args below meth c T' (locs ++ L) (cells + mc) (slots + ms) ∧ (∀ z ∈ L, free z.base) ∧ T'.heap = t.heap ∧ T'.vm = t.vm ∧ XC E st₀ t ∧ t.heap[q]? = some ce ∧ ce.vm = .none ∧ s.vm.findClass E = some ce.cls ∧
      Steps p.tables e below (T.setTop g) ((T'.setTop { g with stack := rest }).pushFrame (.throwing q)))
def vx_X {S : Type} (px : S → Prop) (B : String → S → State → Prop) (A : Nat → Prop) : String → State → State → Prop := fun E st t => ∃ u : S, px u ∧ B E u t ∧ va_F A st t
section Runs
variable {p : Program} {l : Launch} {e : Env} {R : Room} {s : State} {m : MethodId} {args : Array Value} {below : List Frame} {meth : Method} {c : Code} {H : Heap} {locs : List Loc} {cells slots : Nat}
variable {y : MethodName} {bytes cc : ByteArray} {maxL nL mc ms n index : Nat} {ret : Option FieldType} {ws : List Cond} {rm : Room} {Pc : Array Value → State → Prop} {Qc : Array Value → State → Outcome → State → Prop} {XC : String → State → State → Prop} {free : Addr → Prop} {Ts : List Cond} {own C : String} {b : Addr} {As rest : List Value} {g : JFrame}
theorem vx_callBack (cb : CallB R s args own index y bytes maxL ret ws rm mc ms n) (hM : vx_Met l y ws rm Pc Qc XC mc ms free) (hbl : FrameBlind Pc) : vx_Back l R p e below s args y 3 8 (PreOf R mc ms Pc) (PostOf Qc mc ms free) (vx_Post XC mc ms free) := by
  obtain ⟨hrc, hrs, hfr, hlo, hws, hcw, -, hini, -⟩ := cb
  exact vx_back (bytes := bytes) (maxL := maxL) (ret := ret) hM hbl hrc hrs hfr hlo hws hcw (fun a' U hW => word_at hW (Or.inl (by first | rfl | simp [Cond.onTables, Cond.keeps, Cond.steady])) hini)
theorem vx_runV (S : CallFix p m c cc nL s args Ts own) (hM : vx_Met l y ws rm Pc Qc XC mc ms free) (cw : CallW R s args own C index y bytes maxL ret ws rm mc ms n) (hp : PreV s H C b Pc As)
    (hg : g.method = m) (hn : As.length = n) (hsize : g.locals.size = nL) (hstack : g.stack = As.reverse ++ .ref b :: rest) (hW : 2 * g.monitorRoom + (rest.map fun v => v.category).sum ≤ 8) (hdg : decode cc g.pc = .ok (.invokevirtual index, 3)) (hf : cells + mc ≤ R.cells ∧ slots + ms ≤ R.slots) :
    vx_Run p l e R s m args below meth c H locs cells slots mc ms g rest (Qc (Value.ref b :: As).toArray) XC free := by
  have hK : vx_Back l R p e below s args y 3 8 (PreOf R mc ms Pc) (PostOf Qc mc ms free) (vx_Post XC mc ms free) := vx_callBack cw.1 hM hp.1
  obtain ⟨⟨-, -, -, -, -, -, hcode, -, hy, hlen, hl⟩, hin, hse⟩ := cw
  obtain ⟨hx, hb, hml, ho, -⟩ := S
  obtain ⟨-, ⟨cellB, hcB, hoB, hclB⟩, hPc⟩ := hp
  intro T hT X
  rcases vx_callV X hx (C := C) (bytes := bytes) (maxL := maxL) (ret := ret) ho hl hin hse hcode hy hK (by rw [hT]; exact hcB) hoB hclB hg (hsize.trans hml.symm) (argsL := As) (rest := rest) (fun sig h => hn.trans (hlen sig h)) hstack hW (by rw [hb]; exact hdg)
    (fun vm₁ hW₁ => ⟨hf.1, hf.2, hPc (T.setVm vm₁) hT hW₁⟩) with ⟨v, vm₁, ⟨U', l2, c2, s2⟩, hW₁, X', ⟨g', mk, t, L, e1, e2, hq, h1, hL, h2, h3⟩, st⟩ | ⟨q, vm₁, ⟨U', l2, c2, s2⟩, hW₁, X', ⟨g', mk, t, L, E, ce, e1, e2, hq, hce, hcv, hcl, h1, hL, h2, h3⟩, st⟩
  · dsimp only [Pt.U, Pt.locs, Pt.cells, Pt.slots] at X' e1 e2 h1 h2 h3 st
    subst h1; subst h2; subst h3
    exact Or.inl ⟨v, (T.setVm vm₁).calling g' mk (Value.ref b :: As).toArray, t, U', L, hT, X', hL, e1, e2, hq, st⟩
  · dsimp only [Pt.U, Pt.locs, Pt.cells, Pt.slots] at X' e1 e2 h1 h2 h3 st hcl
    subst h1; subst h2; subst h3
    exact Or.inr ⟨q, (T.setVm vm₁).calling g' mk (Value.ref b :: As).toArray, t, U', L, E, ce, hT, X', hL, e1, e2, hq, hce, hcv, vx_cls hW₁ hcl, st⟩
theorem vx_runS (S : CallFix p m c cc nL s args Ts own) (hM : vx_Met l y ws rm Pc Qc XC mc ms free) (cw : CallB R s args own index y bytes maxL ret ws rm mc ms n ∧ (Cond.static y).before args s = true) (hp : PreS s H Pc As)
    (hg : g.method = m) (hn : As.length = n) (hsize : g.locals.size = nL) (hstack : g.stack = As.reverse ++ rest) (hW : 2 * g.monitorRoom + (rest.map fun v => v.category).sum ≤ 8) (hdg : decode cc g.pc = .ok (.invokestatic index, 3)) (hf : cells + mc ≤ R.cells ∧ slots + ms ≤ R.slots) :
    vx_Run p l e R s m args below meth c H locs cells slots mc ms g rest (Qc As.toArray) XC free := by
  have hK : vx_Back l R p e below s args y 3 8 (PreOf R mc ms Pc) (PostOf Qc mc ms free) (vx_Post XC mc ms free) := vx_callBack cw.1 hM hp.1
  obtain ⟨⟨-, -, -, -, -, -, hcode, hini, hy, hlen, hl⟩, hstt⟩ := cw
  obtain ⟨hx, hb, hml, ho, -⟩ := S
  intro T hT X
  rcases vx_callS X hx (bytes := bytes) (maxL := maxL) (ret := ret) ho hl hstt hini hcode hy hK hg (hsize.trans hml.symm) (argsL := As) (rest := rest) (fun sig h => hn.trans (hlen sig h)) hstack hW (by rw [hb]; exact hdg)
    (fun vm₁ hW₁ => ⟨hf.1, hf.2, hp.2 (T.setVm vm₁) hT hW₁⟩) with ⟨v, vm₁, ⟨U', l2, c2, s2⟩, hW₁, X', ⟨g', mk, t, L, e1, e2, hq, h1, hL, h2, h3⟩, st⟩ | ⟨q, vm₁, ⟨U', l2, c2, s2⟩, hW₁, X', ⟨g', mk, t, L, E, ce, e1, e2, hq, hce, hcv, hcl, h1, hL, h2, h3⟩, st⟩
  · dsimp only [Pt.U, Pt.locs, Pt.cells, Pt.slots] at X' e1 e2 h1 h2 h3 st
    subst h1; subst h2; subst h3
    exact Or.inl ⟨v, (T.setVm vm₁).calling g' mk As.toArray, t, U', L, hT, X', hL, e1, e2, hq, st⟩
  · dsimp only [Pt.U, Pt.locs, Pt.cells, Pt.slots] at X' e1 e2 h1 h2 h3 st hcl
    subst h1; subst h2; subst h3
    exact Or.inr ⟨q, (T.setVm vm₁).calling g' mk As.toArray, t, U', L, E, ce, hT, X', hL, e1, e2, hq, hce, hcv, vx_cls hW₁ hcl, st⟩
end Runs
section Rows
variable {p : Program} {l : Launch} {e : Env} {R : Room} {s : State} {m : MethodId} {args : Array Value} {below : List Frame} {meth : Method} {c : Code} {H : Heap} {locs : List Loc} {cells slots : Nat} {Q : State → Prop}
variable {mc ms : Nat} {free : Addr → Prop} {A0 A1 : Nat → Prop} {H0 : Heap} {a : Array Value} {pc : Nat} {ls : Array Slot} {st0 rest : List Value}
theorem vx_keep {st₀ t T' : State} {L : List Loc} (h0 : st₀.heap = H) (e1 : T'.heap = t.heap) (hS : va_S A0 H0 H locs) (hA : ∀ q, q < H.size → A1 q → A0 q) (hf : ∀ q, free q → A0 q) (hL : ∀ q ∈ L, free q.base) (hF : va_F A1 st₀ t) :
    H.size ≤ T'.heap.size ∧ (∀ q : Nat, q < H.size → ¬ A1 q → T'.heap[q]? = H[q]?) ∧ va_S A0 H0 T'.heap (locs ++ L) := by
  obtain ⟨hz, hk⟩ := hF
  rw [h0] at hz hk
  exact ⟨by rw [e1]; exact hz, fun q h1 h2 => by rw [e1]; exact hk q h1 h2,
    ⟨Nat.le_trans hS.1 (by rw [e1]; exact hz), fun q h1 h2 => by rw [e1, hk q (Nat.lt_of_lt_of_le h1 hS.1) (fun z => h2 (hA q (Nat.lt_of_lt_of_le h1 hS.1) z))]; exact hS.2.1 q h1 h2, fun q hq => by
      rcases List.mem_append.mp hq with h | h
      · exact hS.2.2 q h
      · exact hf _ (hL q h)⟩⟩
theorem vx_calli {S SX : Type} {post : Int32 → S → Prop} {px : SX → Prop} {B : S → State → Prop} {BX : String → SX → State → Prop} {AX : Nat → Prop} (hr : vx_Run p l e R s m args below meth c H locs cells slots mc ms (F0 m pc ls st0) rest (va_Qi post B A1 a) (vx_X px BX AX) free) (hS : va_S A0 H0 H locs) (hA : ∀ q, q < H.size → A1 q → A0 q) (hf : ∀ q, free q → A0 q) (hAX : ∀ q, q < H.size → AX q → A0 q)
    (kx : ∀ (E : String) (ce : Cell) (q9 : Addr) (u : SX) (t : State) (H1 : Heap) (locs1 : List Loc), t.heap = H1 → s.vm.Alike t.vm → px u → BX E u t → H.size ≤ H1.size → (∀ q : Nat, q < H.size → ¬ AX q → H1[q]? = H[q]?) → va_S A0 H0 H1 locs1 → H1[q9]? = some ce → ce.vm = .none → s.vm.findClass E = some ce.cls → vx_W p l e R s m args below meth c H1 locs1 (cells + mc) (slots + ms) Q (F0 m pc ls rest) q9)
    (kk : ∀ (r : Int32) (u : S) (t : State) (H1 : Heap) (locs1 : List Loc), t.heap = H1 → s.vm.Alike t.vm → post r u → B u t → H.size ≤ H1.size → (∀ q : Nat, q < H.size → ¬ A1 q → H1[q]? = H[q]?) → va_S A0 H0 H1 locs1 → W p l e R s m args below meth c H1 locs1 (cells + mc) (slots + ms) Q (F0 m (pc + 3) ls (.int r :: rest))) : W p l e R s m args below meth c H locs cells slots Q (F0 m pc ls st0) := by
  intro T hT X
  rcases hr T hT X with ⟨v, st₀, t, T', L, h0, X', hL, e1, e2, ⟨⟨r, u, hv, hp, hb⟩, hF⟩, st⟩ | ⟨q, st₀, t, T', L, E, ce, h0, X', hL, e1, e2, ⟨u, hp, hb, hF⟩, hce, hcv, hcl, st⟩
  · cases hv
    obtain ⟨k1, k2, k3⟩ := vx_keep h0 e1 hS hA hf hL hF
    obtain ⟨t2, a1, b1⟩ := kk r u t T'.heap (locs ++ L) e1.symm (by rw [← e2]; exact X'.warmed.alike) hp hb k1 k2 k3 T' rfl X'
    exact ⟨t2, st t2 a1, b1⟩
  · obtain ⟨k1, k2, k3⟩ := vx_keep h0 e1 hS hAX hf hL hF
    obtain ⟨t2, a1, b1⟩ := kx E ce q u t T'.heap (locs ++ L) e1.symm (by rw [← e2]; exact X'.warmed.alike) hp hb k1 k2 k3 (by rw [e1]; exact hce) hcv hcl T' rfl X'
    exact ⟨t2, st.trans a1, b1⟩
theorem vx_calll {S SX : Type} {post : Int64 → S → Prop} {px : SX → Prop} {B : S → State → Prop} {BX : String → SX → State → Prop} {AX : Nat → Prop} (hr : vx_Run p l e R s m args below meth c H locs cells slots mc ms (F0 m pc ls st0) rest (va_Ql post B A1 a) (vx_X px BX AX) free) (hS : va_S A0 H0 H locs) (hA : ∀ q, q < H.size → A1 q → A0 q) (hf : ∀ q, free q → A0 q) (hAX : ∀ q, q < H.size → AX q → A0 q)
    (kx : ∀ (E : String) (ce : Cell) (q9 : Addr) (u : SX) (t : State) (H1 : Heap) (locs1 : List Loc), t.heap = H1 → s.vm.Alike t.vm → px u → BX E u t → H.size ≤ H1.size → (∀ q : Nat, q < H.size → ¬ AX q → H1[q]? = H[q]?) → va_S A0 H0 H1 locs1 → H1[q9]? = some ce → ce.vm = .none → s.vm.findClass E = some ce.cls → vx_W p l e R s m args below meth c H1 locs1 (cells + mc) (slots + ms) Q (F0 m pc ls rest) q9)
    (kk : ∀ (r : Int64) (u : S) (t : State) (H1 : Heap) (locs1 : List Loc), t.heap = H1 → s.vm.Alike t.vm → post r u → B u t → H.size ≤ H1.size → (∀ q : Nat, q < H.size → ¬ A1 q → H1[q]? = H[q]?) → va_S A0 H0 H1 locs1 → W p l e R s m args below meth c H1 locs1 (cells + mc) (slots + ms) Q (F0 m (pc + 3) ls (.long r :: rest))) : W p l e R s m args below meth c H locs cells slots Q (F0 m pc ls st0) := by
  intro T hT X
  rcases hr T hT X with ⟨v, st₀, t, T', L, h0, X', hL, e1, e2, ⟨⟨r, u, hv, hp, hb⟩, hF⟩, st⟩ | ⟨q, st₀, t, T', L, E, ce, h0, X', hL, e1, e2, ⟨u, hp, hb, hF⟩, hce, hcv, hcl, st⟩
  · cases hv
    obtain ⟨k1, k2, k3⟩ := vx_keep h0 e1 hS hA hf hL hF
    obtain ⟨t2, a1, b1⟩ := kk r u t T'.heap (locs ++ L) e1.symm (by rw [← e2]; exact X'.warmed.alike) hp hb k1 k2 k3 T' rfl X'
    exact ⟨t2, st t2 a1, b1⟩
  · obtain ⟨k1, k2, k3⟩ := vx_keep h0 e1 hS hAX hf hL hF
    obtain ⟨t2, a1, b1⟩ := kx E ce q u t T'.heap (locs ++ L) e1.symm (by rw [← e2]; exact X'.warmed.alike) hp hb k1 k2 k3 (by rw [e1]; exact hce) hcv hcl T' rfl X'
    exact ⟨t2, st.trans a1, b1⟩
theorem vx_callf {S SX : Type} {post : UInt32 → S → Prop} {px : SX → Prop} {B : S → State → Prop} {BX : String → SX → State → Prop} {AX : Nat → Prop} (hr : vx_Run p l e R s m args below meth c H locs cells slots mc ms (F0 m pc ls st0) rest (va_Qf post B A1 a) (vx_X px BX AX) free) (hS : va_S A0 H0 H locs) (hA : ∀ q, q < H.size → A1 q → A0 q) (hf : ∀ q, free q → A0 q) (hAX : ∀ q, q < H.size → AX q → A0 q)
    (kx : ∀ (E : String) (ce : Cell) (q9 : Addr) (u : SX) (t : State) (H1 : Heap) (locs1 : List Loc), t.heap = H1 → s.vm.Alike t.vm → px u → BX E u t → H.size ≤ H1.size → (∀ q : Nat, q < H.size → ¬ AX q → H1[q]? = H[q]?) → va_S A0 H0 H1 locs1 → H1[q9]? = some ce → ce.vm = .none → s.vm.findClass E = some ce.cls → vx_W p l e R s m args below meth c H1 locs1 (cells + mc) (slots + ms) Q (F0 m pc ls rest) q9)
    (kk : ∀ (r : UInt32) (u : S) (t : State) (H1 : Heap) (locs1 : List Loc), t.heap = H1 → s.vm.Alike t.vm → post r u → B u t → H.size ≤ H1.size → (∀ q : Nat, q < H.size → ¬ A1 q → H1[q]? = H[q]?) → va_S A0 H0 H1 locs1 → W p l e R s m args below meth c H1 locs1 (cells + mc) (slots + ms) Q (F0 m (pc + 3) ls (.float r :: rest))) : W p l e R s m args below meth c H locs cells slots Q (F0 m pc ls st0) := by
  intro T hT X
  rcases hr T hT X with ⟨v, st₀, t, T', L, h0, X', hL, e1, e2, ⟨⟨r, u, hv, hp, hb⟩, hF⟩, st⟩ | ⟨q, st₀, t, T', L, E, ce, h0, X', hL, e1, e2, ⟨u, hp, hb, hF⟩, hce, hcv, hcl, st⟩
  · cases hv
    obtain ⟨k1, k2, k3⟩ := vx_keep h0 e1 hS hA hf hL hF
    obtain ⟨t2, a1, b1⟩ := kk r u t T'.heap (locs ++ L) e1.symm (by rw [← e2]; exact X'.warmed.alike) hp hb k1 k2 k3 T' rfl X'
    exact ⟨t2, st t2 a1, b1⟩
  · obtain ⟨k1, k2, k3⟩ := vx_keep h0 e1 hS hAX hf hL hF
    obtain ⟨t2, a1, b1⟩ := kx E ce q u t T'.heap (locs ++ L) e1.symm (by rw [← e2]; exact X'.warmed.alike) hp hb k1 k2 k3 (by rw [e1]; exact hce) hcv hcl T' rfl X'
    exact ⟨t2, st.trans a1, b1⟩
theorem vx_calld {S SX : Type} {post : UInt64 → S → Prop} {px : SX → Prop} {B : S → State → Prop} {BX : String → SX → State → Prop} {AX : Nat → Prop} (hr : vx_Run p l e R s m args below meth c H locs cells slots mc ms (F0 m pc ls st0) rest (va_Qd post B A1 a) (vx_X px BX AX) free) (hS : va_S A0 H0 H locs) (hA : ∀ q, q < H.size → A1 q → A0 q) (hf : ∀ q, free q → A0 q) (hAX : ∀ q, q < H.size → AX q → A0 q)
    (kx : ∀ (E : String) (ce : Cell) (q9 : Addr) (u : SX) (t : State) (H1 : Heap) (locs1 : List Loc), t.heap = H1 → s.vm.Alike t.vm → px u → BX E u t → H.size ≤ H1.size → (∀ q : Nat, q < H.size → ¬ AX q → H1[q]? = H[q]?) → va_S A0 H0 H1 locs1 → H1[q9]? = some ce → ce.vm = .none → s.vm.findClass E = some ce.cls → vx_W p l e R s m args below meth c H1 locs1 (cells + mc) (slots + ms) Q (F0 m pc ls rest) q9)
    (kk : ∀ (r : UInt64) (u : S) (t : State) (H1 : Heap) (locs1 : List Loc), t.heap = H1 → s.vm.Alike t.vm → post r u → B u t → H.size ≤ H1.size → (∀ q : Nat, q < H.size → ¬ A1 q → H1[q]? = H[q]?) → va_S A0 H0 H1 locs1 → W p l e R s m args below meth c H1 locs1 (cells + mc) (slots + ms) Q (F0 m (pc + 3) ls (.double r :: rest))) : W p l e R s m args below meth c H locs cells slots Q (F0 m pc ls st0) := by
  intro T hT X
  rcases hr T hT X with ⟨v, st₀, t, T', L, h0, X', hL, e1, e2, ⟨⟨r, u, hv, hp, hb⟩, hF⟩, st⟩ | ⟨q, st₀, t, T', L, E, ce, h0, X', hL, e1, e2, ⟨u, hp, hb, hF⟩, hce, hcv, hcl, st⟩
  · cases hv
    obtain ⟨k1, k2, k3⟩ := vx_keep h0 e1 hS hA hf hL hF
    obtain ⟨t2, a1, b1⟩ := kk r u t T'.heap (locs ++ L) e1.symm (by rw [← e2]; exact X'.warmed.alike) hp hb k1 k2 k3 T' rfl X'
    exact ⟨t2, st t2 a1, b1⟩
  · obtain ⟨k1, k2, k3⟩ := vx_keep h0 e1 hS hAX hf hL hF
    obtain ⟨t2, a1, b1⟩ := kx E ce q u t T'.heap (locs ++ L) e1.symm (by rw [← e2]; exact X'.warmed.alike) hp hb k1 k2 k3 (by rw [e1]; exact hce) hcv hcl T' rfl X'
    exact ⟨t2, st.trans a1, b1⟩
theorem vx_callv {S SX : Type} {post : S → Prop} {px : SX → Prop} {B : S → State → Prop} {BX : String → SX → State → Prop} {AX : Nat → Prop} (hr : vx_Run p l e R s m args below meth c H locs cells slots mc ms (F0 m pc ls st0) rest (va_Qv post B A1 a) (vx_X px BX AX) free) (hS : va_S A0 H0 H locs) (hA : ∀ q, q < H.size → A1 q → A0 q) (hf : ∀ q, free q → A0 q) (hAX : ∀ q, q < H.size → AX q → A0 q)
    (kx : ∀ (E : String) (ce : Cell) (q9 : Addr) (u : SX) (t : State) (H1 : Heap) (locs1 : List Loc), t.heap = H1 → s.vm.Alike t.vm → px u → BX E u t → H.size ≤ H1.size → (∀ q : Nat, q < H.size → ¬ AX q → H1[q]? = H[q]?) → va_S A0 H0 H1 locs1 → H1[q9]? = some ce → ce.vm = .none → s.vm.findClass E = some ce.cls → vx_W p l e R s m args below meth c H1 locs1 (cells + mc) (slots + ms) Q (F0 m pc ls rest) q9)
    (kk : ∀ (u : S) (t : State) (H1 : Heap) (locs1 : List Loc), t.heap = H1 → s.vm.Alike t.vm → post u → B u t → H.size ≤ H1.size → (∀ q : Nat, q < H.size → ¬ A1 q → H1[q]? = H[q]?) → va_S A0 H0 H1 locs1 → W p l e R s m args below meth c H1 locs1 (cells + mc) (slots + ms) Q (F0 m (pc + 3) ls (rest))) : W p l e R s m args below meth c H locs cells slots Q (F0 m pc ls st0) := by
  intro T hT X
  rcases hr T hT X with ⟨v, st₀, t, T', L, h0, X', hL, e1, e2, ⟨⟨u, hv, hp, hb⟩, hF⟩, st⟩ | ⟨q, st₀, t, T', L, E, ce, h0, X', hL, e1, e2, ⟨u, hp, hb, hF⟩, hce, hcv, hcl, st⟩
  · cases hv
    obtain ⟨k1, k2, k3⟩ := vx_keep h0 e1 hS hA hf hL hF
    obtain ⟨t2, a1, b1⟩ := kk u t T'.heap (locs ++ L) e1.symm (by rw [← e2]; exact X'.warmed.alike) hp hb k1 k2 k3 T' rfl X'
    exact ⟨t2, st t2 a1, b1⟩
  · obtain ⟨k1, k2, k3⟩ := vx_keep h0 e1 hS hAX hf hL hF
    obtain ⟨t2, a1, b1⟩ := kx E ce q u t T'.heap (locs ++ L) e1.symm (by rw [← e2]; exact X'.warmed.alike) hp hb k1 k2 k3 (by rw [e1]; exact hce) hcv hcl T' rfl X'
    exact ⟨t2, st.trans a1, b1⟩
/-- caught by the row x of this method's table; the rows ahead don't take it -/
theorem vx_catch {own name : String} {E : String} {ce : Cell} {q : Addr} (hown : s.vm.findClass own = some m.cls) (pre : List ExceptionTableEntry) (x : ExceptionTableEntry) (suf : List ExceptionTableEntry) (hsplit : c.exceptionTable.toList = pre ++ x :: suf)
    (hpass : ∀ z ∈ pre, covers z pc = false ∨ (z.catchType ≠ 0 ∧ ∃ nm : String, (Cond.classLink own z.catchType nm).before args s = true ∧ va_Nc E nm s)) (hx : covers x pc = true) (h0 : x.catchType ≠ 0)
    (hlink : (Cond.classLink own x.catchType name).before args s = true) (hcast : (Cond.castable E name).before args s = true) (hcell : H[q]? = some ce) (hv : ce.vm = .none) (hcl : s.vm.findClass E = some ce.cls)
    (kk : W p l e R s m args below meth c H locs cells slots Q (F0 m x.handlerPc ls [.ref q])) : vx_W p l e R s m args below meth c H locs cells slots Q (F0 m pc ls rest) q := by
  intro T hT X
  have hpl : e.platform.magicAccessors = ({} : Platform).magicAccessors := by rw [X.admits.platform]
  obtain ⟨c3, c4, hc3, hc4, hasg⟩ := Cond.castable_spec hcast
  cases Option.some.inj (hc3.symm.trans hcl)
  obtain ⟨c5, hc5, hcl5⟩ := Cond.classLink_spec hown hlink e.platform hpl
  cases Option.some.inj (hc4.symm.trans hc5)
  obtain ⟨vm', X', st⟩ := X.thenCaughtThrough q (g := F0 m pc ls rest) rfl (Steps.refl _) (by rw [hT]; exact hcell) (by rw [hv]; rfl) (by obtain ⟨k9, h9, -⟩ := Vm.findClass_spec hcl; exact ⟨k9, h9⟩) pre x suf hsplit
    (fun z hz => by
      rcases hpass z hz with h | ⟨hz0, nm, hl1, hn1⟩
      · exact Or.inl h
      · obtain ⟨c6, hc6, hcl6⟩ := Cond.classLink_spec hown hl1 e.platform hpl
        obtain ⟨a8, b8, h1, h2, h3⟩ := hn1
        cases Option.some.inj (h1.symm.trans hcl)
        cases Option.some.inj (h2.symm.trans hc6)
        exact Or.inr ⟨hz0, _, hcl6, h3⟩) hx (Or.inr ⟨h0, c4, hcl5, hasg⟩)
  obtain ⟨t, a1, b1⟩ := kk (T.setVm vm') hT X'
  exact ⟨t, st.trans a1, b1⟩
end Rows
section Ends
variable {p : Program} {l : Launch} {e : Env} {R : Room} {s : State} {m : MethodId} {args : Array Value} {below : List Frame} {meth : Method} {c : Code} {H : Heap} {locs : List Loc} {cells slots : Nat} {Q : State → Prop}
variable {mc ms : Nat} {free : Addr → Prop} {A0 A1 : Nat → Prop} {H0 : Heap} {a : Array Value} {ls : Array Slot} {st0 rest : List Value}
variable {Qc : Array Value → State → Outcome → State → Prop} {XC : String → State → State → Prop}
/-- what a body that may throw owes at its end -/
def vx_MQ (below : List Frame) (Qc : Array Value → State → Outcome → State → Prop) (XC : String → State → State → Prop) (a : Array Value) (s : State) (mc ms : Nat) (free : Addr → Prop) : State → Prop := fun t =>
  ∃ o, t.status = .running ∧ Ended t below o ∧ vx_Q Qc XC mc ms free a s o t
theorem vx_ret {g : JFrame} {mc ms : Nat} (k : W p l e R s m args below meth c H locs cells slots (MQ below Qc args s mc ms free) g) : W p l e R s m args below meth c H locs cells slots (vx_MQ below Qc XC args s mc ms free) g := by
  intro T hT X
  obtain ⟨t, a1, o, b1, b2, b3, b4⟩ := k T hT X
  exact ⟨t, a1, o, b1, b2, Or.inl ⟨b3, b4⟩⟩
/-- not caught here: it goes on to the caller -/
theorem vx_widen {g : JFrame} {q : Addr} {k n : Nat} (h1 : cells ≤ k) (h2 : slots ≤ n) (kk : vx_W p l e R s m args below meth c H locs k n Q g q) : vx_W p l e R s m args below meth c H locs cells slots Q g q := fun T hT X => kk T hT (stand_widen X h1 h2)
theorem vx_out {pc : Nat} {E : String} {ce : Cell} {q : Addr} {mc ms : Nat} (hout : ∀ x ∈ c.exceptionTable.toList, covers x pc = false) (hlocks : meth.locks = false) (hcell : H[q]? = some ce) (hv : ce.vm = .none) (hcl : s.vm.findClass E = some ce.cls)
    (hx : ∀ t : State, t.heap = H → s.vm.Alike t.vm → XC E s t) (hf : ∀ z ∈ locs, free z.base) (hc : cells ≤ mc) (hs : slots ≤ ms) :
    vx_W p l e R s m args below meth c H locs cells slots (vx_MQ below Qc XC args s mc ms free) (F0 m pc ls rest) q := by
  intro T hT X
  obtain ⟨st1, hrun, hend, hW, hsm⟩ := X.leaveThrown q (g := F0 m pc ls rest) rfl rfl rfl hout hlocks
  have hcell9 : (T.setFrames (.throwing q :: below)).heap[q]? = some ce := by
    show T.heap[q]? = some ce
    rw [hT]; exact hcell
  exact ⟨_, st1, .threw q, hrun, hend, Or.inr ⟨q, rfl, E, ce, locs, hx _ hT hW.alike, hcell9, hv, hcl, hW, hsm.mono hc hs, hf⟩⟩
theorem vx_frame {U : State} {k n : Nat} (h : s.sameButNew ({ U with vm := s.vm } : State) locs k n) : s.heap.size ≤ U.heap.size ∧ ∀ q : Nat, q < s.heap.size → (∀ z ∈ locs, z.base ≠ q) → U.heap[q]? = s.heap[q]? := by
  obtain ⟨-, h2, -, -, -, h6⟩ := h
  refine ⟨h2, fun q hq hz => ?_⟩
  obtain ⟨c9, e1, e2, e3, e4⟩ := h6 q _ (Array.getElem?_eq_getElem hq)
  have hs : c9.slots = (s.heap[q]).slots := Array.ext_getElem? fun i => e4 i fun hm => hz _ hm rfl
  have h9 : c9 = s.heap[q] := by
    rw [hs] at e2
    exact e2
  have e5 : U.heap[q]? = some c9 := e1
  rw [e5, h9, Array.getElem?_eq_getElem hq]
/-- the words of a throw but the four that speak of the heap -/
def vx_no (w : Cond) : Bool := decide (w ≠ .isRef (.static Bundle.tN "UNASSIGNED_STACK" Bundle.steD)) && decide (w ≠ .isRef (.static Bundle.tN "SUPPRESSED_SENTINEL" Bundle.listD)) && decide (w ≠ .laysStatic Bundle.tN "UNASSIGNED_STACK" Bundle.steD) && decide (w ≠ .laysStatic Bundle.tN "SUPPRESSED_SENTINEL" Bundle.listD)
def vx_at0 (own : String) (ic : Nat) (X : String) (names : List String) : List Cond := (Bundle.ownAtoms0 own ic X names).filter vx_no
def vx_atS (own : String) (ic : Nat) (X : String) (names : List String) : List Cond := (Bundle.ownAtoms own ic X names).filter vx_no
/-- a word that the tables alone decide, or a good one -/
def vx_ot (w : Cond) : Bool := w.onTables || goodWord w
theorem vx_ot_at {args a' : Array Value} {s U : State} {w : Cond} (hW : s.WarmedH U.vm) (hvm : s.vm = U.vm) (hg : vx_ot w = true) (h : w.before args s = true) : w.before a' U = true := by
  simp only [vx_ot, Bool.or_eq_true] at hg
  rcases hg with hg | hg
  · exact va_tabs hg hvm h
  · exact word_at hW (good_of_word hg) h
/-- a list's words: the good ones out of the method's own list, the others by premises of their own -/
theorem vx_hat {args : Array Value} {s : State} {L B : List Cond} (h1 : ∀ w ∈ L.filter goodWord, w.before args s = true) (h2 : ∀ w ∈ L.filter (fun w => !goodWord w), w ∈ B) (h3 : ∀ w ∈ B, w.before args s = true) : ∀ w ∈ L, w.before args s = true := by
  intro w hw
  by_cases g : goodWord w = true
  · exact h1 w (List.mem_filter.mpr ⟨hw, g⟩)
  · refine h3 w (h2 w (List.mem_filter.mpr ⟨hw, ?_⟩))
    show (!goodWord w) = true
    cases hgw : goodWord w
    · rfl
    · exact absurd hgw g
theorem vx_c {args : Array Value} {s : State} {w : Cond} {B : List Cond} (h : w.before args s = true) (t : ∀ w ∈ B, w.before args s = true) : ∀ w' ∈ w :: B, w'.before args s = true := fun w' h' => (List.mem_cons.mp h').elim (fun e => by rw [e]; exact h) (t w')
theorem vx_n {args : Array Value} {s : State} : ∀ w ∈ ([] : List Cond), w.before args s = true := fun _ h => nomatch h
theorem vx_own {args : Array Value} {s : State} {L : List Cond} (h1 : ∀ w ∈ L.filter vx_no, w.before args s = true)
    (hU : (Cond.isRef (.static Bundle.tN "UNASSIGNED_STACK" Bundle.steD)).before args s = true) (hN : (Cond.isRef (.static Bundle.tN "SUPPRESSED_SENTINEL" Bundle.listD)).before args s = true)
    (lU : (Cond.laysStatic Bundle.tN "UNASSIGNED_STACK" Bundle.steD).before args s = true) (lN : (Cond.laysStatic Bundle.tN "SUPPRESSED_SENTINEL" Bundle.listD).before args s = true) : ∀ w ∈ L, w.before args s = true := by
  intro w hw
  by_cases e1 : w = .isRef (.static Bundle.tN "UNASSIGNED_STACK" Bundle.steD)
  · rw [e1]; exact hU
  · by_cases e2 : w = .isRef (.static Bundle.tN "SUPPRESSED_SENTINEL" Bundle.listD)
    · rw [e2]; exact hN
    · by_cases e3 : w = .laysStatic Bundle.tN "UNASSIGNED_STACK" Bundle.steD
      · rw [e3]; exact lU
      · by_cases e4 : w = .laysStatic Bundle.tN "SUPPRESSED_SENTINEL" Bundle.listD
        · rw [e4]; exact lN
        · exact h1 w (List.mem_filter.mpr ⟨hw, by unfold vx_no; rw [decide_eq_true e1, decide_eq_true e2, decide_eq_true e3, decide_eq_true e4]; rfl⟩)
/-- where a static field lies, its class's statics cell in H -/
def vx_L (C n d : String) (A : Nat → Prop) (U : State) (H : Heap) : Prop := ∃ (c : ClassId) (k : Class) (i : Nat) (f : Field) (a : Nat) (cell : Cell), U.vm.findClass C = some c ∧ U.fieldFound? C n d = some (c, k, i, f) ∧ f.isStatic = true ∧ k.statics = some a ∧ H[a]? = some cell ∧ cell.vm.isStatics = true ∧ cell.cls = c ∧ f.slot < cell.slots.size ∧ k.staticTypes[f.slot]? = some f.type ∧ ¬ A a
theorem vx_L.moved {C n d : String} {A : Nat → Prop} {u U : State} {H : Heap} (hvm : u.vm.Alike U.vm) (h : vx_L C n d A u H) : vx_L C n d A U H := by
  obtain ⟨c, k, i, f, a, cell, h1, h2, h3, h4, h5, h6, h7, h8, h9, h10⟩ := h
  obtain ⟨k', hi', he⟩ := State.fieldFound?_setVm hvm h2
  exact ⟨c, k', i, f, a, cell, by rw [hvm.findClass]; exact h1, hi', h3, by rw [he]; exact h4, h5, h6, h7, h8, by rw [he]; exact h9, h10⟩
theorem vx_L.kept {C n d : String} {A : Nat → Prop} {U : State} {H H1 : Heap} (h : vx_L C n d A U H) (hq : ∀ a : Nat, a < H.size → ¬ A a → H1[a]? = H[a]?) : vx_L C n d A U H1 := by
  obtain ⟨c, k, i, f, a, cell, h1, h2, h3, h4, h5, h6, h7, h8, h9, h10⟩ := h
  exact ⟨c, k, i, f, a, cell, h1, h2, h3, h4, by rw [hq a (Array.getElem?_eq_some_iff.mp h5).1 h10]; exact h5, h6, h7, h8, h9, h10⟩
theorem vx_L.narrow {C n d : String} {A B : Nat → Prop} {U : State} {H : Heap} (h : vx_L C n d A U H) (hAB : ∀ q, B q → A q) : vx_L C n d B U H := by
  obtain ⟨c, k, i, f, a, cell, h1, h2, h3, h4, h5, h6, h7, h8, h9, h10⟩ := h
  exact ⟨c, k, i, f, a, cell, h1, h2, h3, h4, h5, h6, h7, h8, h9, fun z => h10 (hAB _ z)⟩
theorem vx_L.word {C n d : String} {A : Nat → Prop} {s : State} {args : Array Value} (h : vx_L C n d A s s.heap) : (Cond.laysStatic C n d).before args s = true := by
  obtain ⟨c, k, i, f, a, cell, h1, h2, h3, h4, h5, h6, h7, h8, h9, -⟩ := h
  show (Cond.laysStatic C n d).holds args s none s [] = true
  exact Cond.laysStatic_of h1 h2 h3 h4 h5 h6 h7 h8 h9
/-- .. and what it holds: null or some reference -/
def vx_Zq (C n d : String) (A : Nat → Prop) (U : State) (H : Heap) : Prop := va_Zq C n d A U H ∧ vx_L C n d A U H
theorem vx_Zq.moved {C n d : String} {A : Nat → Prop} {u U : State} {H : Heap} (hvm : u.vm.Alike U.vm) (h : vx_Zq C n d A u H) : vx_Zq C n d A U H := ⟨va_Zq.moved hvm h.1, vx_L.moved hvm h.2⟩
theorem vx_Zq.kept {C n d : String} {A : Nat → Prop} {U : State} {H H1 : Heap} (h : vx_Zq C n d A U H) (hq : ∀ a : Nat, a < H.size → ¬ A a → H1[a]? = H[a]?) : vx_Zq C n d A U H1 := ⟨va_Zq.kept h.1 hq, vx_L.kept h.2 hq⟩
theorem vx_Zq.narrow {C n d : String} {A B : Nat → Prop} {U : State} {H : Heap} (h : vx_Zq C n d A U H) (hAB : ∀ q, B q → A q) : vx_Zq C n d B U H := ⟨va_Zq.narrow h.1 hAB, vx_L.narrow h.2 hAB⟩
theorem vx_Zqof {args : Array Value} {s : State} {C n d : String} {A : Nat → Prop} (hl : (Cond.laysStatic C n d).before args s = true) (hini : (Cond.initialized C).before args s = true) (h : (Cond.isRef (.static C n d)).before args s = true) (hA : ∀ a : Nat, a < s.heap.size → ¬ A a) : vx_Zq C n d A s s.heap := by
  refine ⟨va_Zqof hl hini h hA, ?_⟩
  obtain ⟨c, k, i, f, a, cell, h1, h2, h3, h4, h5, h6, h7, h8, h9⟩ := Cond.laysStatic_spec hl
  exact ⟨c, k, i, f, a, cell, h1, h2, h3, h4, h5, h6, h7, h8, h9, hA a (Array.getElem?_eq_some_iff.mp h5).1⟩
theorem vx_isRef {C n d : String} {v : Value} {A : Nat → Prop} {s : State} {args : Array Value} (h : va_Z C n d v A s s.heap) (hv : v.isRef = true) : (Cond.isRef (.static C n d)).before args s = true := by
  obtain ⟨cf, kf, fi, f, a, cell, h1, h2, h3, h4, h5, h6, h7, -⟩ := h
  have he : (Term.static C n d).eval args s none [] s = some v := by
    simp [Term.eval, State.fieldNamed?, h1, h2, h4, h5, h6, h7]
  simp only [Cond.before, Cond.holds, Cond.value, he]
  cases v <;> simp_all [Value.isRef]
theorem vx_isRefq {C n d : String} {A : Nat → Prop} {s : State} {args : Array Value} (h : va_Zq C n d A s s.heap) : (Cond.isRef (.static C n d)).before args s = true := by
  rcases h with h | ⟨t, h⟩
  · exact vx_isRef h rfl
  · exact vx_isRef h rfl
/-- the same frame, seen from here: as if the method were called anew in this heap -/
theorem vx_rebase {T : State} (X : Stand p l e R s m args below meth c T locs cells slots) {R' : Room} (hf : R'.frames ≤ R.frames) (hl : R'.locals ≤ R.locals) (hc : cells + R'.cells ≤ R.cells) (hs : slots + R'.slots ≤ R.slots) :
    Stand p l e R' ((T.setVm s.vm).setFrames (.invoking m args :: below)) m args below meth c T [] 0 0 := by
  have htop : (T.setVm s.vm).topJava?.isSome := X.here.top
  have hF : ((T.setVm s.vm).setFrames (.invoking m args :: below)).frames = .invoking m args :: below := State.frames_setFrames _ (State.cur_lt_of_top htop)
  obtain ⟨g₀, hg0⟩ := Option.isSome_iff_exists.mp htop
  obtain ⟨r, hr⟩ := State.topJava?_eq_some.mp hg0
  have hl9 : e.platform.stackLimits (T.setVm s.vm).me = e.platform.stackLimits s.me := X.limits
  have hb9 : (T.setVm s.vm).me.stackBytes = s.me.stackBytes := X.bytes
  refine ⟨X.admits, X.cas, X.clock, hF, ?_, X.hears, X.method, X.code, X.here, X.tail, X.warmed, ?_, ?_, ?_⟩
  · have h := X.room
    have hU : ((T.setVm s.vm).setFrames (.invoking m args :: below)).localsInUse = s.localsInUse := by
      rw [State.localsInUse_invoking hF (meth := meth) (c := c) X.method X.code, State.localsInUse_invoking X.frames X.method X.code]
    simp only [State.hasRoom, Bool.and_eq_true, decide_eq_true_eq] at h ⊢
    obtain ⟨⟨⟨⟨h1, h2, h3, h4, h5, h6⟩, h7⟩, h8⟩, h9⟩ := h
    rw [X.frames, List.length_cons] at h2 h3
    have q1 := X.heapSize
    have q2 := X.used
    simp only [hF, hU, List.length_cons, State.stackLimits_setFrames, State.stackBytes_setFrames, hl9, hb9]
    refine ⟨⟨⟨⟨by omega, by omega, by omega, by omega, by omega, h6⟩, ?_⟩, ?_⟩, X.book⟩
    · show T.heap.size + R'.cells ≤ e.platform.maxCells
      omega
    · show T.slotsUsed + R'.slots ≤ e.platform.maxSlots
      omega
  · rw [State.stackLimits_setFrames]; rfl
  · rw [State.stackBytes_setFrames]; rfl
  · refine ⟨?_, Nat.le_refl _, Nat.le_refl _, ?_, ?_, fun a c9 h9 => ⟨c9, h9, rfl, rfl, fun _ _ => rfl⟩⟩
    · obtain ⟨t, ht, -⟩ := State.frames_cons hr
      show T.setVm s.vm = { ((T.setVm s.vm).setFrames (.invoking m args :: below)).setFrames (T.setVm s.vm).frames with heap := T.heap, slotsUsed := T.slotsUsed }
      rw [State.setFrames_setFrames, State.setFrames_self ht]
      rfl
    · show T.slotsUsed = T.slotsUsed + ((T.heap.toList.drop T.heap.size).map (·.slots.size)).sum
      rw [List.drop_eq_nil_of_le (Nat.le_of_eq Array.length_toList)]
      rfl
    · show ((T.heap.toList.drop T.heap.size).map (·.slots.size)).sum ≤ 0
      rw [List.drop_eq_nil_of_le (Nat.le_of_eq Array.length_toList)]
      exact Nat.le_refl _
/-- 'throw new E()': new; dup; invokespecial; athrow -/
theorem vx_throw0 {cc : ByteArray} {pc : Nat} (hexec : p.tables.exec = Jvm.exec) (hb : c.code = cc) (hl : l.stackTraces = false) {own cls : String} {names : List String} {ik ic mc ms : Nat} {A : Nat → Prop}
    (hown : s.vm.findClass own = some m.cls) (hcls : Bundle.fit cls = true) (hnames : ∀ n ∈ names, Bundle.fit n = true)
    (hk : (Cond.classLink own ik cls).before args s = true) (hini : (Cond.initialized cls).before args s = true) (hat : ∀ w ∈ vx_at0 own ic cls names, w.before args s = true)
    (hgood : ∀ w ∈ Cond.classLink own ik cls :: Cond.initialized cls :: vx_at0 own ic cls names, vx_ot w = true)
    (hU : vx_Zq Bundle.tN "UNASSIGNED_STACK" Bundle.steD A s s.heap) (hN : vx_Zq Bundle.tN "SUPPRESSED_SENTINEL" Bundle.listD A s s.heap) (hS : va_S A s.heap H locs) (hsize : ls.size = c.maxLocals)
    (d0 : decode cc pc = .ok (.new ik, 3)) (d3 : decode cc (pc + 3) = .ok (.dup, 1)) (d4 : decode cc (pc + 4) = .ok (.invokespecial ic, 3)) (d7 : decode cc (pc + 7) = .ok (.athrow, 1))
    (hout : ∀ x ∈ c.exceptionTable.toList, covers x (pc + 7) = false)
    (hRframes : names.length + 3 < R.frames) (hRlocals : (rest.map fun v => v.category).sum + (13 * (names.length + 1) + 42) ≤ R.locals) (hRcells : cells + 1 ≤ R.cells) (hRslots : slots + 6 ≤ R.slots) (hlocks : meth.locks = false)
    (hx : ∀ t : State, s.vm.Alike t.vm → H.size ≤ t.heap.size → (∀ q : Nat, q < H.size → t.heap[q]? = H[q]?) → XC cls s t)
    (hf : ∀ z ∈ locs, free z.base) (hc : cells + 1 ≤ mc) (hs : slots + 6 ≤ ms) :
    W p l e R s m args below meth c H locs cells slots (vx_MQ below Qc XC args s mc ms free) (F0 m pc ls rest) := by
  intro T hT X
  have htr : e.platform.stackTraces = false := (show e.platform.stackTraces = l.stackTraces by rw [X.admits.platform]).trans hl
  have Y := vx_rebase X (R' := { frames := R.frames, locals := R.locals, cells := 1, slots := 6 }) (Nat.le_refl _) (Nat.le_refl _) hRcells hRslots
  obtain ⟨s', hA⟩ : ∃ z, z = (T.setVm s.vm).setFrames (.invoking m args :: below) := ⟨_, rfl⟩
  rw [← hA] at Y
  have hvm : s'.vm = s.vm := by rw [hA]; rfl
  have hhp : s'.heap = H := by rw [hA]; exact hT
  have hW0 : s.WarmedH s'.vm := by rw [hvm]; exact State.WarmedH.refl s
  have hat' : ∀ w ∈ vx_at0 own ic cls names, w.before args s' = true := fun w hw => vx_ot_at hW0 hvm.symm (hgood w (List.mem_cons_of_mem _ (List.mem_cons_of_mem _ hw))) (hat w hw)
  have hk' : (Cond.classLink own ik cls).before args s' = true := vx_ot_at hW0 hvm.symm (hgood _ List.mem_cons_self) hk
  have hini' : (Cond.initialized cls).before args s' = true := vx_ot_at hW0 hvm.symm (hgood _ (List.mem_cons_of_mem _ List.mem_cons_self)) hini
  have hU' : vx_Zq Bundle.tN "UNASSIGNED_STACK" Bundle.steD A s' s'.heap := by rw [hhp]; exact vx_Zq.moved hW0.alike (hU.kept hS.2.1)
  have hN' : vx_Zq Bundle.tN "SUPPRESSED_SENTINEL" Bundle.listD A s' s'.heap := by rw [hhp]; exact vx_Zq.moved hW0.alike (hN.kept hS.2.1)
  have h : ∀ w ∈ Bundle.ownAtoms0 own ic cls names, w.before args s' = true := vx_own hat' (vx_isRefq hU'.1) (vx_isRefq hN'.1) hU'.2.word hN'.2.word
  have hown' : s'.vm.findClass own = some m.cls := by rw [hvm]; exact hown
  have hins : (Cond.instantiable cls 6).before args s' = true := h _ (by simp [Bundle.ownAtoms0])
  obtain ⟨vm₁, cX, kX, hfX, hkX, -, -, X₁, st1⟩ := Y.newCold hexec (own := own) (C := cls) (index := ik) (n := 6) hown' hk' hins hini'
    (g := F0 m pc ls rest) rfl (by rw [hb]; exact d0) (Nat.le_refl _) (Nat.le_refl _)
  generalize hT1 : (T.setVm vm₁).pushCell { cls := cX, slots := kX.instanceTypes.map defaultValue, vm := .none } = T1 at X₁ st1
  have hcat : (Value.ref T.heap.size).category = 1 := rfl
  have hcellA : T1.heap[T.heap.size]? = some (freshCell cX kX) := by rw [← hT1]; exact State.heap_pushCell_size _ _
  have d3' : decode c.code (pc + 3) = .ok (.dup, 1) := by rw [hb]; exact d3
  obtain ⟨U, hsteps, hrun, hend, hW, hsame, ce, hce, hO⟩ := X₁.ctorThrow0 hexec htr (own := own) (cls := cls) (names := names) (ic := ic) hown' hcls hnames h (fun x hx => nomatch hx) hfX hkX hcellA (by rw [hhp, hT]; exact Nat.le_refl _)
    (g := { method := m, pc := pc + 4, locals := ls, stack := .ref T.heap.size :: .ref T.heap.size :: rest, locked := none }) rfl hsize rfl rfl (rest := rest) rfl
    (by rw [hb]; exact d4) (by rw [hb]; exact d7) hout hRframes (by simp only [List.map_cons, List.sum_cons, hcat]; omega) hlocks
  obtain ⟨f1, f2⟩ := vx_frame hsame
  rw [hhp] at f1 f2
  have hWs : s.WarmedH U.vm := State.WarmedH.trans hW0 hW
  have hcl : s.vm.findClass cls = some ce.cls := by
    have h9 := hO.cls
    rw [hvm] at h9
    exact h9
  have hall : s.sameButNew ({ U with vm := s.vm } : State) locs mc ms := by
    subst hA
    obtain ⟨e1, e2⟩ := hsame
    rw [State.setFrames_setFrames] at e1
    have h2 : (T.setVm s.vm).sameButNew ({ U with vm := s.vm } : State) [] (0 + 1) (0 + 6) := ⟨e1, e2⟩
    have h3 := X.same.trans h2
    rw [List.append_nil] at h3
    exact h3.mono hc hs
  refine ⟨U, ?_, .threw T.heap.size, hrun, hend, Or.inr ⟨T.heap.size, rfl, cls, ce, locs, hx U hWs.alike f1 (fun q hq => f2 q hq (fun z hz => nomatch hz)), hce, hO.vm, hcl, hWs, hall, hf⟩⟩
  refine st1 _ ?_
  show Steps p.tables e below (T1.setTop { method := m, pc := pc + 3, locals := ls, stack := .ref T.heap.size :: rest, locked := none }) _
  jvm_step X₁.here [X₁.here.top, hexec, d3', Value.category]
  exact hsteps
/-- 'throw new E("text")': new; dup; ldc; invokespecial; athrow -/
theorem vx_throwS {cc : ByteArray} {pc : Nat} (hexec : p.tables.exec = Jvm.exec) (hb : c.code = cc) (hl : l.stackTraces = false) {own cls text : String} {names : List String} {ik is ic mc ms sa : Nat} {A : Nat → Prop}
    (hown : s.vm.findClass own = some m.cls) (hcls : Bundle.fit cls = true) (hnames : ∀ n ∈ names, Bundle.fit n = true)
    (hk : (Cond.classLink own ik cls).before args s = true) (hini : (Cond.initialized cls).before args s = true) (hstr : vk_R own is text sa s) (hat : ∀ w ∈ vx_atS own ic cls names, w.before args s = true)
    (hgood : ∀ w ∈ Cond.classLink own ik cls :: Cond.initialized cls :: vx_atS own ic cls names, vx_ot w = true)
    (hU : vx_Zq Bundle.tN "UNASSIGNED_STACK" Bundle.steD A s s.heap) (hN : vx_Zq Bundle.tN "SUPPRESSED_SENTINEL" Bundle.listD A s s.heap) (hS : va_S A s.heap H locs) (hsize : ls.size = c.maxLocals)
    (d0 : decode cc pc = .ok (.new ik, 3)) (d3 : decode cc (pc + 3) = .ok (.dup, 1)) (d4 : decode cc (pc + 4) = .ok (.ldc is, 2)) (d6 : decode cc (pc + 6) = .ok (.invokespecial ic, 3)) (d9 : decode cc (pc + 9) = .ok (.athrow, 1))
    (hout : ∀ x ∈ c.exceptionTable.toList, covers x (pc + 9) = false)
    (hRframes : names.length + 3 < R.frames) (hRlocals : (rest.map fun v => v.category).sum + (13 * (names.length + 1) + 43) ≤ R.locals) (hRcells : cells + 1 ≤ R.cells) (hRslots : slots + 6 ≤ R.slots) (hlocks : meth.locks = false)
    (hx : ∀ t : State, s.vm.Alike t.vm → H.size ≤ t.heap.size → (∀ q : Nat, q < H.size → t.heap[q]? = H[q]?) → XC cls s t)
    (hf : ∀ z ∈ locs, free z.base) (hc : cells + 1 ≤ mc) (hs : slots + 6 ≤ ms) :
    W p l e R s m args below meth c H locs cells slots (vx_MQ below Qc XC args s mc ms free) (F0 m pc ls rest) := by
  intro T hT X
  have htr : e.platform.stackTraces = false := (show e.platform.stackTraces = l.stackTraces by rw [X.admits.platform]).trans hl
  have Y := vx_rebase X (R' := { frames := R.frames, locals := R.locals, cells := 1, slots := 6 }) (Nat.le_refl _) (Nat.le_refl _) hRcells hRslots
  obtain ⟨s', hA⟩ : ∃ z, z = (T.setVm s.vm).setFrames (.invoking m args :: below) := ⟨_, rfl⟩
  rw [← hA] at Y
  have hvm : s'.vm = s.vm := by rw [hA]; rfl
  have hhp : s'.heap = H := by rw [hA]; exact hT
  have hW0 : s.WarmedH s'.vm := by rw [hvm]; exact State.WarmedH.refl s
  have hat' : ∀ w ∈ vx_atS own ic cls names, w.before args s' = true := fun w hw => vx_ot_at hW0 hvm.symm (hgood w (List.mem_cons_of_mem _ (List.mem_cons_of_mem _ hw))) (hat w hw)
  have hk' : (Cond.classLink own ik cls).before args s' = true := vx_ot_at hW0 hvm.symm (hgood _ List.mem_cons_self) hk
  have hini' : (Cond.initialized cls).before args s' = true := vx_ot_at hW0 hvm.symm (hgood _ (List.mem_cons_of_mem _ List.mem_cons_self)) hini
  have hU' : vx_Zq Bundle.tN "UNASSIGNED_STACK" Bundle.steD A s' s'.heap := by rw [hhp]; exact vx_Zq.moved hW0.alike (hU.kept hS.2.1)
  have hN' : vx_Zq Bundle.tN "SUPPRESSED_SENTINEL" Bundle.listD A s' s'.heap := by rw [hhp]; exact vx_Zq.moved hW0.alike (hN.kept hS.2.1)
  have h : ∀ w ∈ Bundle.ownAtoms own ic cls names, w.before args s' = true := vx_own hat' (vx_isRefq hU'.1) (vx_isRefq hN'.1) hU'.2.word hN'.2.word
  have hown' : s'.vm.findClass own = some m.cls := by rw [hvm]; exact hown
  have hins : (Cond.instantiable cls 6).before args s' = true := h _ (by simp [Bundle.ownAtoms])
  obtain ⟨vm₁, cX, kX, hfX, hkX, -, -, X₁, st1⟩ := Y.newCold hexec (own := own) (C := cls) (index := ik) (n := 6) hown' hk' hins hini'
    (g := F0 m pc ls rest) rfl (by rw [hb]; exact d0) (Nat.le_refl _) (Nat.le_refl _)
  generalize hT1 : (T.setVm vm₁).pushCell { cls := cX, slots := kX.instanceTypes.map defaultValue, vm := .none } = T1 at X₁ st1
  have hcat : (Value.ref T.heap.size).category = 1 := rfl
  have hcellA : T1.heap[T.heap.size]? = some (freshCell cX kX) := by rw [← hT1]; exact State.heap_pushCell_size _ _
  have d3' : decode c.code (pc + 3) = .ok (.dup, 1) := by rw [hb]; exact d3
  have d4' : decode c.code (pc + 4) = .ok (.ldc is, 2) := by rw [hb]; exact d4
  have hstr' : vk_R own is text sa s' := vk_R.warm hW0 hstr
  obtain ⟨U, hsteps, hrun, hend, hW, hsame, ce, hce, hO⟩ := X₁.ctorThrowS hexec htr (own := own) (cls := cls) (names := names) (ic := ic) hown' hcls hnames h (fun x hx => nomatch hx) hfX hkX hcellA (by rw [hhp, hT]; exact Nat.le_refl _) (msg := .ref sa) rfl
    (g := { method := m, pc := pc + 6, locals := ls, stack := .ref sa :: .ref T.heap.size :: .ref T.heap.size :: rest, locked := none }) rfl hsize rfl rfl (rest := rest) rfl
    (by rw [hb]; exact d6) (by rw [hb]; exact d9) hout hRframes (by simp only [List.map_cons, List.sum_cons, hcat]; omega) hlocks
  obtain ⟨f1, f2⟩ := vx_frame hsame
  rw [hhp] at f1 f2
  have hWs : s.WarmedH U.vm := State.WarmedH.trans hW0 hW
  have hcl : s.vm.findClass cls = some ce.cls := by
    have h9 := hO.cls
    rw [hvm] at h9
    exact h9
  have hall : s.sameButNew ({ U with vm := s.vm } : State) locs mc ms := by
    subst hA
    obtain ⟨e1, e2⟩ := hsame
    rw [State.setFrames_setFrames] at e1
    have h2 : (T.setVm s.vm).sameButNew ({ U with vm := s.vm } : State) [] (0 + 1) (0 + 6) := ⟨e1, e2⟩
    have h3 := X.same.trans h2
    rw [List.append_nil] at h3
    exact h3.mono hc hs
  refine ⟨U, ?_, .threw T.heap.size, hrun, hend, Or.inr ⟨T.heap.size, rfl, cls, ce, locs, hx U hWs.alike f1 (fun q hq => f2 q hq (fun z hz => nomatch hz)), hce, hO.vm, hcl, hWs, hall, hf⟩⟩
  refine st1 _ ?_
  show Steps p.tables e below (T1.setTop { method := m, pc := pc + 3, locals := ls, stack := .ref T.heap.size :: rest, locked := none }) _
  jvm_step X₁.here [X₁.here.top, hexec, d3', Value.category]
  exact X₁.ldcString hexec (own := own) (text := text) (index := is) (a := sa) hown' hstr'.1 hstr'.2
    (g := { method := m, pc := pc + 4, locals := ls, stack := .ref T.heap.size :: .ref T.heap.size :: rest, locked := none }) rfl d4' _ hsteps
/-- 'throw new E("text")', the text by a wide index -/
theorem vx_throwSW {cc : ByteArray} {pc : Nat} (hexec : p.tables.exec = Jvm.exec) (hb : c.code = cc) (hl : l.stackTraces = false) {own cls text : String} {names : List String} {ik is ic mc ms sa : Nat} {A : Nat → Prop}
    (hown : s.vm.findClass own = some m.cls) (hcls : Bundle.fit cls = true) (hnames : ∀ n ∈ names, Bundle.fit n = true)
    (hk : (Cond.classLink own ik cls).before args s = true) (hini : (Cond.initialized cls).before args s = true) (hstr : vk_R own is text sa s) (hat : ∀ w ∈ vx_atS own ic cls names, w.before args s = true)
    (hgood : ∀ w ∈ Cond.classLink own ik cls :: Cond.initialized cls :: vx_atS own ic cls names, vx_ot w = true)
    (hU : vx_Zq Bundle.tN "UNASSIGNED_STACK" Bundle.steD A s s.heap) (hN : vx_Zq Bundle.tN "SUPPRESSED_SENTINEL" Bundle.listD A s s.heap) (hS : va_S A s.heap H locs) (hsize : ls.size = c.maxLocals)
    (d0 : decode cc pc = .ok (.new ik, 3)) (d3 : decode cc (pc + 3) = .ok (.dup, 1)) (d4 : decode cc (pc + 4) = .ok (.ldc_w is, 3)) (d7 : decode cc (pc + 7) = .ok (.invokespecial ic, 3)) (d10 : decode cc (pc + 10) = .ok (.athrow, 1))
    (hout : ∀ x ∈ c.exceptionTable.toList, covers x (pc + 10) = false)
    (hRframes : names.length + 3 < R.frames) (hRlocals : (rest.map fun v => v.category).sum + (13 * (names.length + 1) + 43) ≤ R.locals) (hRcells : cells + 1 ≤ R.cells) (hRslots : slots + 6 ≤ R.slots) (hlocks : meth.locks = false)
    (hx : ∀ t : State, s.vm.Alike t.vm → H.size ≤ t.heap.size → (∀ q : Nat, q < H.size → t.heap[q]? = H[q]?) → XC cls s t)
    (hf : ∀ z ∈ locs, free z.base) (hc : cells + 1 ≤ mc) (hs : slots + 6 ≤ ms) :
    W p l e R s m args below meth c H locs cells slots (vx_MQ below Qc XC args s mc ms free) (F0 m pc ls rest) := by
  intro T hT X
  have htr : e.platform.stackTraces = false := (show e.platform.stackTraces = l.stackTraces by rw [X.admits.platform]).trans hl
  have Y := vx_rebase X (R' := { frames := R.frames, locals := R.locals, cells := 1, slots := 6 }) (Nat.le_refl _) (Nat.le_refl _) hRcells hRslots
  obtain ⟨s', hA⟩ : ∃ z, z = (T.setVm s.vm).setFrames (.invoking m args :: below) := ⟨_, rfl⟩
  rw [← hA] at Y
  have hvm : s'.vm = s.vm := by rw [hA]; rfl
  have hhp : s'.heap = H := by rw [hA]; exact hT
  have hW0 : s.WarmedH s'.vm := by rw [hvm]; exact State.WarmedH.refl s
  have hat' : ∀ w ∈ vx_atS own ic cls names, w.before args s' = true := fun w hw => vx_ot_at hW0 hvm.symm (hgood w (List.mem_cons_of_mem _ (List.mem_cons_of_mem _ hw))) (hat w hw)
  have hk' : (Cond.classLink own ik cls).before args s' = true := vx_ot_at hW0 hvm.symm (hgood _ List.mem_cons_self) hk
  have hini' : (Cond.initialized cls).before args s' = true := vx_ot_at hW0 hvm.symm (hgood _ (List.mem_cons_of_mem _ List.mem_cons_self)) hini
  have hU' : vx_Zq Bundle.tN "UNASSIGNED_STACK" Bundle.steD A s' s'.heap := by rw [hhp]; exact vx_Zq.moved hW0.alike (hU.kept hS.2.1)
  have hN' : vx_Zq Bundle.tN "SUPPRESSED_SENTINEL" Bundle.listD A s' s'.heap := by rw [hhp]; exact vx_Zq.moved hW0.alike (hN.kept hS.2.1)
  have h : ∀ w ∈ Bundle.ownAtoms own ic cls names, w.before args s' = true := vx_own hat' (vx_isRefq hU'.1) (vx_isRefq hN'.1) hU'.2.word hN'.2.word
  have hown' : s'.vm.findClass own = some m.cls := by rw [hvm]; exact hown
  have hins : (Cond.instantiable cls 6).before args s' = true := h _ (by simp [Bundle.ownAtoms])
  obtain ⟨vm₁, cX, kX, hfX, hkX, -, -, X₁, st1⟩ := Y.newCold hexec (own := own) (C := cls) (index := ik) (n := 6) hown' hk' hins hini'
    (g := F0 m pc ls rest) rfl (by rw [hb]; exact d0) (Nat.le_refl _) (Nat.le_refl _)
  generalize hT1 : (T.setVm vm₁).pushCell { cls := cX, slots := kX.instanceTypes.map defaultValue, vm := .none } = T1 at X₁ st1
  have hcat : (Value.ref T.heap.size).category = 1 := rfl
  have hcellA : T1.heap[T.heap.size]? = some (freshCell cX kX) := by rw [← hT1]; exact State.heap_pushCell_size _ _
  have d3' : decode c.code (pc + 3) = .ok (.dup, 1) := by rw [hb]; exact d3
  have d4' : decode c.code (pc + 4) = .ok (.ldc_w is, 3) := by rw [hb]; exact d4
  have hstr' : vk_R own is text sa s' := vk_R.warm hW0 hstr
  obtain ⟨U, hsteps, hrun, hend, hW, hsame, ce, hce, hO⟩ := X₁.ctorThrowS hexec htr (own := own) (cls := cls) (names := names) (ic := ic) hown' hcls hnames h (fun x hx => nomatch hx) hfX hkX hcellA (by rw [hhp, hT]; exact Nat.le_refl _) (msg := .ref sa) rfl
    (g := { method := m, pc := pc + 7, locals := ls, stack := .ref sa :: .ref T.heap.size :: .ref T.heap.size :: rest, locked := none }) rfl hsize rfl rfl (rest := rest) rfl
    (by rw [hb]; exact d7) (by rw [hb]; exact d10) hout hRframes (by simp only [List.map_cons, List.sum_cons, hcat]; omega) hlocks
  obtain ⟨f1, f2⟩ := vx_frame hsame
  rw [hhp] at f1 f2
  have hWs : s.WarmedH U.vm := State.WarmedH.trans hW0 hW
  have hcl : s.vm.findClass cls = some ce.cls := by
    have h9 := hO.cls
    rw [hvm] at h9
    exact h9
  have hall : s.sameButNew ({ U with vm := s.vm } : State) locs mc ms := by
    subst hA
    obtain ⟨e1, e2⟩ := hsame
    rw [State.setFrames_setFrames] at e1
    have h2 : (T.setVm s.vm).sameButNew ({ U with vm := s.vm } : State) [] (0 + 1) (0 + 6) := ⟨e1, e2⟩
    have h3 := X.same.trans h2
    rw [List.append_nil] at h3
    exact h3.mono hc hs
  refine ⟨U, ?_, .threw T.heap.size, hrun, hend, Or.inr ⟨T.heap.size, rfl, cls, ce, locs, hx U hWs.alike f1 (fun q hq => f2 q hq (fun z hz => nomatch hz)), hce, hO.vm, hcl, hWs, hall, hf⟩⟩
  refine st1 _ ?_
  show Steps p.tables e below (T1.setTop { method := m, pc := pc + 3, locals := ls, stack := .ref T.heap.size :: rest, locked := none }) _
  jvm_step X₁.here [X₁.here.top, hexec, d3', Value.category]
  exact X₁.ldcStringW hexec (own := own) (text := text) (index := is) (a := sa) hown' hstr'.1 hstr'.2
    (g := { method := m, pc := pc + 4, locals := ls, stack := .ref T.heap.size :: .ref T.heap.size :: rest, locked := none }) rfl d4' _ hsteps
end Ends
section Bodies
variable {l : Launch}
theorem vx_ofW {y : MethodName} {ws ws' : List Cond} {rm : Room} {Pc : Array Value → State → Prop} {Qc : Array Value → State → Outcome → State → Prop} {XC : String → State → State → Prop} {mc ms : Nat} {free : Addr → Prop} {cc : ByteArray} {maxL : Nat} {ret : Option FieldType}
    (hy : plainName y.cls = true) (hw : ws = Cond.code y cc maxL ret :: ws')
    (body : ∀ p e s m args below meth c s₁, BodyLoose p l y (headSpec ws rm) cc maxL ret e s m args below meth c s₁ → c.maxLocals = maxL → (∀ x ∈ c.exceptionTable.toList, False) → Pc args s →
      W p l e (headSpec ws rm).room s m args below meth c s.heap [] 0 0 (vx_MQ below Qc XC args s mc ms free) (entryFrame m args maxL)) : vx_Met l y ws rm Pc Qc XC mc ms free := by
  refine MetFree.of_bodyS (code := cc) (maxLocals := maxL) (ret := ret) hy ?_ ?_
  · intro args s m h hn
    obtain ⟨meth, c, h1, h2, h3, h4, h5, h6, -, -⟩ := Cond.code_spec hn (atoms_spec (ws := ws) h _ (by rw [hw]; exact List.mem_cons_self))
    exact ⟨meth, c, h1, h2, h3, h4, h5, h6⟩
  · intro p e s m args below meth c s₁ B hml hP _
    have hh0 : s₁.heap = s.heap := by rw [B.state]; rfl
    have ht : ∀ x ∈ c.exceptionTable.toList, False := by
      obtain ⟨meth9, c9, h1, h2, -, -, -, -, h7, -⟩ := Cond.code_spec B.named (atoms_spec (ws := ws) B.pre _ (by rw [hw]; exact List.mem_cons_self))
      cases Option.some.inj (h1.symm.trans B.method)
      cases Option.some.inj (h2.symm.trans (Stand.of_body B).code)
      intro x hx
      rw [Array.isEmpty_iff.mp h7] at hx
      cases hx
    obtain ⟨t, a1, o, b1, b2, b3⟩ := body p e s m args below meth c s₁ B hml ht hP s₁ hh0 (Stand.of_body B)
    exact ⟨t, o, a1, b1, b2, b3⟩
/-- the table of a body with handlers -/
theorem vx_table {p : Program} {x y : MethodName} {S : Spec} {cc bytes : ByteArray} {maxL maxL' : Nat} {ret ret' : Option FieldType} {e : Env} {s s₁ : State} {m : MethodId} {args : Array Value} {below : List Frame} {meth : Method} {c : Code} {hh : List (Nat × Nat × Nat × Nat)}
    (B : BodyLoose p l y S cc maxL ret e s m args below meth c s₁) (h : (Cond.codeWith y bytes maxL' ret' hh).before args s = true) : c.exceptionTable.toList = tableOf hh := by
  obtain ⟨m9, meth9, c9, hn9, h1, h2, -, -, h6, -⟩ := Cond.codeWith_spec h
  cases Option.some.inj (hn9.symm.trans B.named)
  cases Option.some.inj (h1.symm.trans B.method)
  cases Option.some.inj (h2.symm.trans (Stand.of_body B).code)
  rw [← h6, table_eq]
end Bodies
end VXA
/-! ===== END ===== -/
/-! ===== BEGIN a static call of a method with an exception table ===== -/
section VXS
variable {p : Program} {l : Launch} {e : Env} {R : Room} {s : State} {m : MethodId} {args : Array Value} {below : List Frame} {meth : Method} {c : Code} {T : State} {H : Heap} {locs : List Loc} {cells slots : Nat}
abbrev vx_CSW (R : Room) (s : State) (args : Array Value) (own : String) (index : Nat) (y : MethodName) (bytes : ByteArray) (maxL : Nat) (ret : Option FieldType) (hh : List (Nat × Nat × Nat × Nat)) (ws : List Cond) (rm : Room) (mc ms n : Nat) : Prop :=
  (rm.cells = mc ∧ rm.slots = ms ∧ rm.frames + 1 ≤ R.frames ∧ 8 + (maxL + 11) + rm.locals ≤ R.locals ∧ (∀ w ∈ ws, ∀ (a' : Array Value) (U : State), s.WarmedH U.vm → w.before a' U = true) ∧ Cond.codeWith y bytes maxL ret hh ∈ ws) ∧
  (Cond.codeWith y bytes maxL ret hh).before args s = true ∧ (Cond.initialized y.cls).before args s = true ∧ (y.cls ≠ "java/lang/invoke/MethodHandle" ∧ y.cls ≠ "java/lang/invoke/VarHandle") ∧
  (∀ sig, parseMethodDescriptor y.desc = some sig → n = sig.parameters.length) ∧ (Cond.methodLink own index y).before args s = true ∧ (Cond.static y).before args s = true
theorem vx_cwSW {own : String} {index maxL mc ms : Nat} {y : MethodName} {bytes : ByteArray} {ret : Option FieldType} {hh : List (Nat × Nat × Nat × Nat)} {Ts ws ws' : List Cond} {rm : Room} (n : Nat) (ht : ∀ w ∈ Ts, w.before args s = true) (hT : GoodIn Ts (va_wsS own index y ws)) (hw : ws = Cond.codeWith y bytes maxL ret hh :: ws') (hrc : rm.cells = mc) (hrs : rm.slots = ms)
    (hd : y.cls ≠ "java/lang/invoke/MethodHandle" ∧ y.cls ≠ "java/lang/invoke/VarHandle" ∧ (parseMethodDescriptor y.desc).map (fun d => d.parameters.length) = some n) (hR : rm.frames + 1 ≤ R.frames ∧ 8 + (maxL + 11) + rm.locals ≤ R.locals) :
    vx_CSW R s args own index y bytes maxL ret hh ws rm mc ms n := by
  have ok : ∀ w ∈ va_wsS own index y ws, w.before args s = true := fun w h => ht w (hT w h).1
  have hG : GoodIn Ts ws := fun w h => hT w (by unfold va_wsS; exact List.mem_append_right _ h)
  have hc : Cond.codeWith y bytes maxL ret hh ∈ ws := by rw [hw]; exact List.mem_cons_self
  refine ⟨⟨hrc, hrs, hR.1, hR.2, pay_in ht hG, hc⟩, ht _ (hG _ hc).1, ok _ (by simp [va_wsS]), ⟨hd.1, hd.2.1⟩, fun sig h => ?_, ok _ (by simp [va_wsS]), ok _ (by simp [va_wsS])⟩
  have h2 := hd.2.2
  rw [h] at h2
  exact (Option.some.inj h2).symm
theorem vx_callSW (X : Stand p l e R s m args below meth c T locs cells slots) (hexec : p.tables.exec = Jvm.exec) {own : String} {index : Nat} {y : MethodName} {bytes : ByteArray} {maxL : Nat} {ret : Option FieldType} {hh : List (Nat × Nat × Nat × Nat)}
    (hown : s.vm.findClass own = some m.cls) (hlink : (Cond.methodLink own index y).before args s = true) (hstat : (Cond.static y).before args s = true) (hinit : (Cond.initialized y.cls).before args s = true)
    (hcode : (Cond.codeWith y bytes maxL ret hh).before args s = true) (hy : y.cls ≠ "java/lang/invoke/MethodHandle" ∧ y.cls ≠ "java/lang/invoke/VarHandle")
    {W9 : Nat} {Pre : Pt → Array Value → Prop} {Post : Pt → Array Value → Option Value → Pt → Prop} (hK : Back l R p e below s args y 3 W9 Pre Post)
    {g : JFrame} (hg : g.method = m) (hsize : g.locals.size = c.maxLocals) {argsL rest : List Value} (hlen : ∀ sig, parseMethodDescriptor y.desc = some sig → argsL.length = sig.parameters.length)
    (hstack : g.stack = argsL.reverse ++ rest) (hW : 2 * g.monitorRoom + (rest.map fun v => v.category).sum ≤ W9) (hdg : decode c.code g.pc = .ok (.invokestatic index, 3))
    (hpre : ∀ vm₁, s.WarmedH vm₁ → Pre ⟨T.setVm vm₁, locs, cells, slots⟩ argsL.toArray) :
    ∃ (v : Option Value) (vm₁ : Vm) (B : Pt), s.WarmedH vm₁ ∧ Stand p l e R s m args below meth c B.U B.locs B.cells B.slots ∧ Post ⟨T.setVm vm₁, locs, cells, slots⟩ argsL.toArray v B ∧
      ∀ target, Steps p.tables e below (B.U.setTop { g with pc := g.pc + 3, stack := v.toList ++ rest }) target → Steps p.tables e below (T.setTop g) target := by
  obtain ⟨mk, methM, cM, hnamed, hmethM, -, -, -, -, -, -, hsigM⟩ := Cond.codeWith_spec hcode
  have hstatic : methM.isStatic = true := Cond.static_spec hnamed hmethM hstat
  obtain ⟨kP, hkP, -⟩ := className_of_methodNamed hnamed
  have hinitP : kP.init = .initialized := Cond.initialized_spec (findClass_of_methodNamed hnamed) hkP hinit
  obtain ⟨vm₁, X₁, hstep₁⟩ := X.invokestatic hexec hown hlink hnamed hmethM hstatic hkP hinitP hy (g := g) hg (argsL := argsL) (rest := rest) (hlen _ hsigM) hstack hdg
  obtain ⟨v, B, X', hpost, hsteps⟩ := hK m meth c ⟨T.setVm vm₁, locs, cells, slots⟩ { g with stack := rest } (.invokestatic index) mk argsL.toArray X₁ hg hsize hdg hW (X₁.named hnamed) (hpre vm₁ X₁.warmed)
  exact ⟨v, vm₁, B, X₁.warmed, X', hpost, fun target h => hstep₁ _ fun acts => by rw [doInvoke_state]; exact hsteps.trans h⟩
theorem vx_runSW {y : MethodName} {bytes cc : ByteArray} {maxL nL mc ms n index : Nat} {ret : Option FieldType} {hh : List (Nat × Nat × Nat × Nat)} {ws : List Cond} {rm : Room} {Pc : Array Value → State → Prop} {Qc : Array Value → State → Outcome → State → Prop} {free : Addr → Prop} {Ts : List Cond} {own : String} {As rest : List Value} {g : JFrame}
    (S : CallFix p m c cc nL s args Ts own) (hM : Met l y ws rm Pc Qc mc ms free) (cw : vx_CSW R s args own index y bytes maxL ret hh ws rm mc ms n) (hp : PreS s H Pc As)
    (hg : g.method = m) (hn : As.length = n) (hsize : g.locals.size = nL) (hstack : g.stack = As.reverse ++ rest) (hW : 2 * g.monitorRoom + (rest.map fun v => v.category).sum ≤ 8) (hdg : decode cc g.pc = .ok (.invokestatic index, 3)) (hf : cells + mc ≤ R.cells ∧ slots + ms ≤ R.slots) :
    va_Run p l e R s m args below meth c H locs cells slots mc ms g rest (Qc As.toArray) (free) := by
  obtain ⟨⟨hrc, hrs, hfr, hlo, hws, hcw⟩, hcode, hini, hy, hlen, hl, hstt⟩ := cw
  have hK : Back l R p e below s args y 3 8 (PreOf R mc ms Pc) (PostOf Qc mc ms free) := va_backW (hh := hh) (bytes := bytes) (maxL := maxL) (ret := ret) hM hp.1 hrc hrs hfr hlo hws hcw (fun a' U hW => word_at hW (Or.inl (by first | rfl | simp [Cond.onTables, Cond.keeps, Cond.steady])) hini)
  obtain ⟨hx, hb, hml, ho, -⟩ := S
  intro T hT X
  obtain ⟨v, vm₁, ⟨U', l2, c2, s2⟩, hW₁, X', ⟨g', mk, t, L, e1, e2, hq, h1, hL, h2, h3⟩, st⟩ := vx_callSW X hx (hh := hh) (bytes := bytes) (maxL := maxL) (ret := ret) ho hl hstt hini hcode hy hK hg (hsize.trans hml.symm) (argsL := As) (rest := rest) (fun sig h => hn.trans (hlen sig h)) hstack hW (by rw [hb]; exact hdg)
    (fun vm₁ hW₁ => ⟨hf.1, hf.2, hp.2 (T.setVm vm₁) hT hW₁⟩)
  dsimp only [Pt.U, Pt.locs, Pt.cells, Pt.slots] at X' e1 e2 h1 h2 h3 st
  subst h1; subst h2; subst h3
  exact ⟨v, (T.setVm vm₁).calling g' mk As.toArray, t, U', L, hT, X', hL, e1, e2, hq, st⟩
/-- not caught here, past rows that name other classes: it goes on to the caller -/
theorem vx_outP {p : Program} {l : Launch} {e : Env} {R : Room} {s : State} {m : MethodId} {args : Array Value} {below : List Frame} {meth : Method} {c : Code} {H : Heap} {locs : List Loc} {cells slots : Nat} {free : Addr → Prop} {ls : Array Slot} {rest : List Value} {Qc : Array Value → State → Outcome → State → Prop} {XC : String → State → State → Prop}
    {pc : Nat} {own E : String} {ce : Cell} {q : Addr} {mc ms : Nat} (hown : s.vm.findClass own = some m.cls) (hlocks : meth.locks = false)
    (hpass : ∀ z ∈ c.exceptionTable.toList, covers z pc = false ∨ (z.catchType ≠ 0 ∧ ∃ nm : String, (Cond.classLink own z.catchType nm).before args s = true ∧ va_Nc E nm s)) (hcell : H[q]? = some ce) (hv : ce.vm = .none) (hcl : s.vm.findClass E = some ce.cls)
    (hx : ∀ t : State, t.heap = H → s.vm.Alike t.vm → XC E s t) (hf : ∀ z ∈ locs, free z.base) (hc : cells ≤ mc) (hs : slots ≤ ms) :
    vx_W p l e R s m args below meth c H locs cells slots (vx_MQ below Qc XC args s mc ms free) (F0 m pc ls rest) q := by
  intro T hT X
  have hpl : e.platform.magicAccessors = ({} : Platform).magicAccessors := by rw [X.admits.platform]
  obtain ⟨vm', hW', X', st⟩ := X.outThrough hlocks q (g := F0 m pc ls rest) rfl rfl rfl (cell := ce) (by rw [hT]; exact hcell) (by rw [hv]; rfl)
    (by obtain ⟨k9, h9, -⟩ := Vm.findClass_spec hcl; exact ⟨k9, h9⟩) (fun z hz => by
      rcases hpass z hz with h | ⟨hz0, nm, hl1, hn1⟩
      · exact Or.inl h
      · obtain ⟨c6, hc6, hcl6⟩ := Cond.classLink_spec hown hl1 e.platform hpl
        obtain ⟨a8, b8, h1, h2, h3⟩ := hn1
        cases Option.some.inj (h1.symm.trans hcl)
        cases Option.some.inj (h2.symm.trans hc6)
        exact Or.inr ⟨hz0, _, hcl6, h3⟩)
  obtain ⟨g₀, hfr⟩ := X'.frames_eq
  have hcell9 : ((T.setVm vm').setFrames (.throwing q :: below)).heap[q]? = some ce := by
    show T.heap[q]? = some ce
    rw [hT]; exact hcell
  have hend : Ended ((T.setVm vm').setFrames (.throwing q :: below)) below (.threw q) := State.frames_setFrames _ (State.cur_lt_of_frames hfr)
  refine ⟨(T.setVm vm').setFrames (.throwing q :: below), ?_, .threw q, X'.here.running, hend, Or.inr ⟨q, rfl, E, ce, locs, hx _ hT (X'.ends _).1.alike, hcell9, hv, hcl, (X'.ends _).1, (X'.ends _).2.mono hc hs, hf⟩⟩
  rw [X.pushThrowing_eq]
  exact st
/-- a thing of a world lies in the heap -/
theorem vx_lt {D : va_G} {cl : List vw_C} {ws : va_W} {H1 : Heap} (h : va_P D cl ws H1) {k : Nat} {q : Nat × va_E} (hk : ws[k]? = some q) : q.1 < H1.size := (h k q hk).lt
end VXS
/-! ===== END ===== -/
/-! ===== BEGIN methods with a table of their own: called by a name, returning or throwing ===== -/
section VXH
/-! vx_backW, vx_callVX, vx_callSX, vx_callVW, vx_runVW, vx_runVX, vx_runSX, vx_ofWH follow the same proofs as their sisters above (Free/Laws.lean, Shelf42/LK1.lean); vx_outP calls Shelf42/NT130.lean (outThrough). -/
section
variable {l : Launch} {R : Room} {p : Program} {e : Env} {below : List Frame} {s : State} {sargs : Array Value} {y : MethodName} {len W9 : Nat}
theorem vx_backW {ws : List Cond} {rm : Room} {Pc : Array Value → State → Prop} {Qc : Array Value → State → Outcome → State → Prop} {XC : String → State → State → Prop} {mc ms : Nat} {free : Addr → Prop} {bytes : ByteArray} {maxL : Nat} {ret : Option FieldType} {hh : List (Nat × Nat × Nat × Nat)}
    (hM : vx_Met l y ws rm Pc Qc XC mc ms free) (hblind : FrameBlind Pc) (hrc : rm.cells = mc) (hrs : rm.slots = ms)
    (hframes : rm.frames + 1 ≤ R.frames) (hlocals : W9 + (maxL + 11) + rm.locals ≤ R.locals)
    (hws : ∀ w ∈ ws, ∀ a' U, s.WarmedH U.vm → w.before a' U = true) (hcode : Cond.codeWith y bytes maxL ret hh ∈ ws) (hinit : ∀ a' U, s.WarmedH U.vm → (Cond.initialized y.cls).before a' U = true) :
    vx_Back l R p e below s sargs y len W9 (PreOf R mc ms Pc) (PostOf Qc mc ms free) (vx_Post XC mc ms free) := by
  intro m meth c A g ig mk a X hg hsize hdg hW hn hp
  have h1 : (headSpec ws rm).pre.before a A.U = true := atoms_intro fun w hw => hws w hw _ _ X.warmed
  have h2 : (Cond.codeWith y bytes maxL ret hh).before a A.U = true := hws _ hcode _ _ X.warmed
  have h3 : (Cond.initialized y.cls).before a A.U = true := hinit _ _ X.warmed
  have h4 : A.cells + (headSpec ws rm).room.cells ≤ R.cells := by rw [show (headSpec ws rm).room.cells = mc from hrc]; exact hp.1
  have h5 : A.slots + (headSpec ws rm).room.slots ≤ R.slots := by rw [show (headSpec ws rm).room.slots = ms from hrs]; exact hp.2.1
  have hPc : Pc a (A.U.calling g mk a) := hblind _ _ _ _ hp.2.2
  obtain ⟨U, Ls, c0, s0⟩ := A
  dsimp only [Pt.U, Pt.locs, Pt.cells, Pt.slots] at h1 h2 h3 h4 h5 X hn hPc ⊢
  obtain ⟨m9, methY, cY, hn9, hmY, hcY, -, hlY, -⟩ := Cond.codeWith_spec h2
  cases Option.some.inj (hn9.symm.trans hn)
  obtain ⟨kY, hkY, -⟩ := className_of_methodNamed hn
  have hinitY : kY.init = .initialized := Cond.initialized_spec (findClass_of_methodNamed hn) hkY h3
  have h : At U g.method c below := by rw [hg]; exact X.here
  have hlocals9 : W9 + (maxL + 11) + (headSpec ws rm).room.locals ≤ R.locals := hlocals
  have happ : (headSpec ws rm).appliesLoose y e.platform (U.calling g mk a) = true :=
    Spec.appliesLoose_calling (g := g) h hdg hn hkY hinitY
      (X.room_calling (g := g) (R' := (headSpec ws rm).room) hsize hmY hcY hframes (by rw [hlY]; omega) h4 h5) h1
  obtain ⟨mid, hmid⟩ := h.above
  have hfr : (U.setTop g).frames = (.java g :: mid) ++ below := by rw [State.frames_setTop' g h.top, hmid]; rfl
  obtain ⟨o, s₂, hsteps, -, hend, hq⟩ := Steps.callFree hM p X.admits X.cas X.clock (acts := []) hfr happ hPc trivial
  have hq' : vx_Q Qc XC mc ms free a (U.calling g mk a) o s₂ := hq
  rw [State.frames_setTop' g h.top] at hend
  obtain ⟨g₀, hg0⟩ := Option.isSome_iff_exists.mp h.top
  obtain ⟨r, hr⟩ := State.topJava?_eq_some.mp hg0
  have hr' : (({ U with heap := s₂.heap, slotsUsed := s₂.slotsUsed } : State).setVm s₂.vm).frames = .java g₀ :: r := hr
  rcases hq' with ⟨hqc, L, hfe, hL⟩ | ⟨q, rfl, E, ce, L, hx, hce, hcv, hcl, hW₂, hsm, hL⟩
  · obtain ⟨⟨v, rfl⟩, hW₂, e2, q2, q3, q4, q5, q6⟩ := id hfe
    have e3 : s₂ = ({ (U.calling g mk a).setFrames s₂.frames with heap := s₂.heap, slotsUsed := s₂.slotsUsed } : State).setVm s₂.vm := by
      have : s₂ = ({ s₂ with vm := (U.calling g mk a).vm } : State).setVm s₂.vm := rfl
      rw [e2] at this
      exact this
    obtain ⟨c₂, i₂, len₂, hc₂, hd₂, hf₂⟩ := hend
    have hW' : U.WarmedH s₂.vm := hW₂
    have hcc : c₂ = c := by
      have h1 : s₂.code? g.method = U.code? g.method := by
        rw [State.code?_eq, State.code?_eq, hW'.alike.method?]
      exact Option.some.inj (hc₂.symm.trans (h1.trans h.code))
    subst hcc
    have hlen : len₂ = len := by rw [hdg] at hd₂; cases hd₂; rfl
    subst hlen
    have hs₂ : s₂ = (({ U with heap := s₂.heap, slotsUsed := s₂.slotsUsed } : State).setVm s₂.vm).setTop { g with pc := g.pc + len₂, stack := v.toList ++ g.stack } := by
      refine e3.trans ?_
      rw [hf₂, State.calling_eq h.top, State.setFrames_setFrames, State.setTop_of_frames _ hr', hr]
      rfl
    have hsame : U.sameButNew ({ U with heap := s₂.heap, slotsUsed := s₂.slotsUsed } : State) L mc ms := by
      refine ⟨?_, q2, q3, q4, q5, q6⟩
      obtain ⟨t, ht, -⟩ := State.frames_cons hr
      show ({ U with heap := s₂.heap, slotsUsed := s₂.slotsUsed } : State) = { U.setFrames U.frames with heap := s₂.heap, slotsUsed := s₂.slotsUsed }
      rw [State.setFrames_self ht]
    subst hg
    refine Or.inl ⟨v, ⟨(({ U with heap := s₂.heap, slotsUsed := s₂.slotsUsed } : State).setVm s₂.vm), Ls ++ L, c0 + mc, s0 + ms⟩,
      ⟨X.admits, X.cas, X.clock, X.frames, X.room, X.hears, X.method, X.code, (X.here.setHeapUsed s₂.heap s₂.slotsUsed).setVm hW'.alike, X.tail, State.WarmedH.trans X.warmed hW', X.limits, X.bytes, X.same.trans (hsame.setVm s.vm)⟩,
      ⟨g, mk, s₂, L, rfl, rfl, hqc, rfl, hL, rfl, rfl⟩, ?_⟩
    show Steps p.tables e below _ ((({ U with heap := s₂.heap, slotsUsed := s₂.slotsUsed } : State).setVm s₂.vm).setTop { g with pc := g.pc + len₂, stack := v.toList ++ g.stack })
    rw [← hs₂]
    exact hsteps
  · obtain ⟨e2, q2, q3, q4, q5, q6⟩ := id hsm
    have e3 : s₂ = ({ (U.calling g mk a).setFrames s₂.frames with heap := s₂.heap, slotsUsed := s₂.slotsUsed } : State).setVm s₂.vm := by
      have : s₂ = ({ s₂ with vm := (U.calling g mk a).vm } : State).setVm s₂.vm := rfl
      rw [e2] at this
      exact this
    have hf₂ : s₂.frames = .throwing q :: .java g :: U.frames.tail := hend
    have hW' : U.WarmedH s₂.vm := hW₂
    have hs₂ : s₂ = ((({ U with heap := s₂.heap, slotsUsed := s₂.slotsUsed } : State).setVm s₂.vm).setTop g).pushFrame (.throwing q) := by
      refine e3.trans ?_
      rw [hf₂, State.calling_eq h.top, State.setFrames_setFrames, State.pushFrame, State.frames_setTop _ hr', State.setTop_of_frames _ hr', State.setFrames_setFrames, hr]
      rfl
    have hsame : U.sameButNew ({ U with heap := s₂.heap, slotsUsed := s₂.slotsUsed } : State) L mc ms := by
      refine ⟨?_, q2, q3, q4, q5, q6⟩
      obtain ⟨t, ht, -⟩ := State.frames_cons hr
      show ({ U with heap := s₂.heap, slotsUsed := s₂.slotsUsed } : State) = { U.setFrames U.frames with heap := s₂.heap, slotsUsed := s₂.slotsUsed }
      rw [State.setFrames_self ht]
    subst hg
    refine Or.inr ⟨q, ⟨(({ U with heap := s₂.heap, slotsUsed := s₂.slotsUsed } : State).setVm s₂.vm), Ls ++ L, c0 + mc, s0 + ms⟩,
      ⟨X.admits, X.cas, X.clock, X.frames, X.room, X.hears, X.method, X.code, (X.here.setHeapUsed s₂.heap s₂.slotsUsed).setVm hW'.alike, X.tail, State.WarmedH.trans X.warmed hW', X.limits, X.bytes, X.same.trans (hsame.setVm s.vm)⟩,
      ⟨g, mk, s₂, L, E, ce, rfl, rfl, hx, hce, hcv, hcl, rfl, hL, rfl, rfl⟩, ?_⟩
    show Steps p.tables e below _ (((({ U with heap := s₂.heap, slotsUsed := s₂.slotsUsed } : State).setVm s₂.vm).setTop g).pushFrame (.throwing q))
    rw [← hs₂]
    exact hsteps
end
variable {p : Program} {l : Launch} {e : Env} {R : Room} {s : State} {m : MethodId} {args : Array Value} {below : List Frame} {meth : Method} {c : Code} {T : State} {H : Heap} {locs : List Loc} {cells slots : Nat}
theorem vx_callVX (X : Stand p l e R s m args below meth c T locs cells slots) (hexec : p.tables.exec = Jvm.exec) {own C : String} {index : Nat} {y : MethodName} {bytes : ByteArray} {maxL : Nat} {ret : Option FieldType} {hh : List (Nat × Nat × Nat × Nat)}
    (hown : s.vm.findClass own = some m.cls) (hlink : (Cond.methodLink own index y).before args s = true) (hinst : (Cond.instanceMethod y).before args s = true) (hsel : (Cond.selects C y y).before args s = true)
    (hcode : (Cond.codeWith y bytes maxL ret hh).before args s = true) (hy : y.cls ≠ "java/lang/invoke/MethodHandle" ∧ y.cls ≠ "java/lang/invoke/VarHandle")
    {W9 : Nat} {Pre : Pt → Array Value → Prop} {Post : Pt → Array Value → Option Value → Pt → Prop} {PostX : Pt → Array Value → Addr → Pt → Prop} (hK : vx_Back l R p e below s args y 3 W9 Pre Post PostX)
    {b : Addr} {cellB : Cell} (hcell : T.heap[b]? = some cellB) (hobj : cellB.vm.isStatics = false) (hcls : s.vm.findClass C = some cellB.cls)
    {g : JFrame} (hg : g.method = m) (hsize : g.locals.size = c.maxLocals) {argsL rest : List Value} (hlen : ∀ sig, parseMethodDescriptor y.desc = some sig → argsL.length = sig.parameters.length)
    (hstack : g.stack = argsL.reverse ++ .ref b :: rest) (hW : 2 * g.monitorRoom + (rest.map fun v => v.category).sum ≤ W9) (hdg : decode c.code g.pc = .ok (.invokevirtual index, 3))
    (hpre : ∀ vm₁, s.WarmedH vm₁ → Pre ⟨T.setVm vm₁, locs, cells, slots⟩ (Value.ref b :: argsL).toArray) :
    (∃ (v : Option Value) (vm₁ : Vm) (B : Pt), s.WarmedH vm₁ ∧ Stand p l e R s m args below meth c B.U B.locs B.cells B.slots ∧ Post ⟨T.setVm vm₁, locs, cells, slots⟩ (Value.ref b :: argsL).toArray v B ∧
      ∀ target, Steps p.tables e below (B.U.setTop { g with pc := g.pc + 3, stack := v.toList ++ rest }) target → Steps p.tables e below (T.setTop g) target) ∨
    (∃ (q : Addr) (vm₁ : Vm) (B : Pt), s.WarmedH vm₁ ∧ Stand p l e R s m args below meth c B.U B.locs B.cells B.slots ∧ PostX ⟨T.setVm vm₁, locs, cells, slots⟩ (Value.ref b :: argsL).toArray q B ∧
      Steps p.tables e below (T.setTop g) ((B.U.setTop { g with stack := rest }).pushFrame (.throwing q))) := by
  obtain ⟨mk, methM, hnamed, hmethM, hstM, habM⟩ := Cond.instanceMethod_spec hinst
  obtain ⟨m8, methM', cM, hn8, hmethM', -, -, -, -, -, -, hsigM⟩ := Cond.codeWith_spec hcode
  cases Option.some.inj (hn8.symm.trans hnamed)
  cases hmethM.symm.trans hmethM'
  obtain ⟨c2, r2, m2, q1, q2, q3, q4, kP, hkP, hkPi⟩ := Cond.selects_spec hsel
  cases hcls.symm.trans q1
  cases (State.methodFound?_of_named hnamed hy).symm.trans q2
  cases hnamed.symm.trans q3
  have hselP : selectMethod e.platform s.vm cellB.cls mk = .method mk := by rw [Launch.admits_selectMethod X.admits]; exact q4
  obtain ⟨vm₁, X₁, hstep₁⟩ := X.invokevirtual hexec hown hlink hnamed hmethM hstM hkP hkPi hy (a := b) (cell := cellB) hcell
    (fun z h => by rw [h] at hobj; cases hobj) hselP hmethM habM hkP hkPi (g := g) hg (argsL := argsL) (rest := rest) (hlen _ hsigM) hstack hdg
  rcases hK m meth c ⟨T.setVm vm₁, locs, cells, slots⟩ { g with stack := rest } (.invokevirtual index) mk (Value.ref b :: argsL).toArray X₁ hg hsize hdg hW (X₁.named hnamed) (hpre vm₁ X₁.warmed) with ⟨v, B, X', hpost, hsteps⟩ | ⟨q, B, X', hpost, hsteps⟩
  · exact Or.inl ⟨v, vm₁, B, X₁.warmed, X', hpost, fun target h => hstep₁ _ fun acts => by rw [doInvoke_state]; exact hsteps.trans h⟩
  · exact Or.inr ⟨q, vm₁, B, X₁.warmed, X', hpost, hstep₁ _ fun acts => by rw [doInvoke_state]; exact hsteps⟩
theorem vx_callSX (X : Stand p l e R s m args below meth c T locs cells slots) (hexec : p.tables.exec = Jvm.exec) {own : String} {index : Nat} {y : MethodName} {bytes : ByteArray} {maxL : Nat} {ret : Option FieldType} {hh : List (Nat × Nat × Nat × Nat)}
    (hown : s.vm.findClass own = some m.cls) (hlink : (Cond.methodLink own index y).before args s = true) (hstat : (Cond.static y).before args s = true) (hinit : (Cond.initialized y.cls).before args s = true)
    (hcode : (Cond.codeWith y bytes maxL ret hh).before args s = true) (hy : y.cls ≠ "java/lang/invoke/MethodHandle" ∧ y.cls ≠ "java/lang/invoke/VarHandle")
    {W9 : Nat} {Pre : Pt → Array Value → Prop} {Post : Pt → Array Value → Option Value → Pt → Prop} {PostX : Pt → Array Value → Addr → Pt → Prop} (hK : vx_Back l R p e below s args y 3 W9 Pre Post PostX)
    {g : JFrame} (hg : g.method = m) (hsize : g.locals.size = c.maxLocals) {argsL rest : List Value} (hlen : ∀ sig, parseMethodDescriptor y.desc = some sig → argsL.length = sig.parameters.length)
    (hstack : g.stack = argsL.reverse ++ rest) (hW : 2 * g.monitorRoom + (rest.map fun v => v.category).sum ≤ W9) (hdg : decode c.code g.pc = .ok (.invokestatic index, 3))
    (hpre : ∀ vm₁, s.WarmedH vm₁ → Pre ⟨T.setVm vm₁, locs, cells, slots⟩ argsL.toArray) :
    (∃ (v : Option Value) (vm₁ : Vm) (B : Pt), s.WarmedH vm₁ ∧ Stand p l e R s m args below meth c B.U B.locs B.cells B.slots ∧ Post ⟨T.setVm vm₁, locs, cells, slots⟩ argsL.toArray v B ∧
      ∀ target, Steps p.tables e below (B.U.setTop { g with pc := g.pc + 3, stack := v.toList ++ rest }) target → Steps p.tables e below (T.setTop g) target) ∨
    (∃ (q : Addr) (vm₁ : Vm) (B : Pt), s.WarmedH vm₁ ∧ Stand p l e R s m args below meth c B.U B.locs B.cells B.slots ∧ PostX ⟨T.setVm vm₁, locs, cells, slots⟩ argsL.toArray q B ∧
      Steps p.tables e below (T.setTop g) ((B.U.setTop { g with stack := rest }).pushFrame (.throwing q))) := by
  obtain ⟨mk, methM, cM, hnamed, hmethM, -, -, -, -, -, -, hsigM⟩ := Cond.codeWith_spec hcode
  have hstatic : methM.isStatic = true := Cond.static_spec hnamed hmethM hstat
  obtain ⟨kP, hkP, -⟩ := className_of_methodNamed hnamed
  have hinitP : kP.init = .initialized := Cond.initialized_spec (findClass_of_methodNamed hnamed) hkP hinit
  obtain ⟨vm₁, X₁, hstep₁⟩ := X.invokestatic hexec hown hlink hnamed hmethM hstatic hkP hinitP hy (g := g) hg (argsL := argsL) (rest := rest) (hlen _ hsigM) hstack hdg
  rcases hK m meth c ⟨T.setVm vm₁, locs, cells, slots⟩ { g with stack := rest } (.invokestatic index) mk argsL.toArray X₁ hg hsize hdg hW (X₁.named hnamed) (hpre vm₁ X₁.warmed) with ⟨v, B, X', hpost, hsteps⟩ | ⟨q, B, X', hpost, hsteps⟩
  · exact Or.inl ⟨v, vm₁, B, X₁.warmed, X', hpost, fun target h => hstep₁ _ fun acts => by rw [doInvoke_state]; exact hsteps.trans h⟩
  · exact Or.inr ⟨q, vm₁, B, X₁.warmed, X', hpost, hstep₁ _ fun acts => by rw [doInvoke_state]; exact hsteps⟩
theorem vx_callVW (X : Stand p l e R s m args below meth c T locs cells slots) (hexec : p.tables.exec = Jvm.exec) {own C : String} {index : Nat} {y : MethodName} {bytes : ByteArray} {maxL : Nat} {ret : Option FieldType} {hh : List (Nat × Nat × Nat × Nat)}
    (hown : s.vm.findClass own = some m.cls) (hlink : (Cond.methodLink own index y).before args s = true) (hinst : (Cond.instanceMethod y).before args s = true) (hsel : (Cond.selects C y y).before args s = true)
    (hcode : (Cond.codeWith y bytes maxL ret hh).before args s = true) (hy : y.cls ≠ "java/lang/invoke/MethodHandle" ∧ y.cls ≠ "java/lang/invoke/VarHandle")
    {W9 : Nat} {Pre : Pt → Array Value → Prop} {Post : Pt → Array Value → Option Value → Pt → Prop} (hK : Back l R p e below s args y 3 W9 Pre Post)
    {b : Addr} {cellB : Cell} (hcell : T.heap[b]? = some cellB) (hobj : cellB.vm.isStatics = false) (hcls : s.vm.findClass C = some cellB.cls)
    {g : JFrame} (hg : g.method = m) (hsize : g.locals.size = c.maxLocals) {argsL rest : List Value} (hlen : ∀ sig, parseMethodDescriptor y.desc = some sig → argsL.length = sig.parameters.length)
    (hstack : g.stack = argsL.reverse ++ .ref b :: rest) (hW : 2 * g.monitorRoom + (rest.map fun v => v.category).sum ≤ W9) (hdg : decode c.code g.pc = .ok (.invokevirtual index, 3))
    (hpre : ∀ vm₁, s.WarmedH vm₁ → Pre ⟨T.setVm vm₁, locs, cells, slots⟩ (Value.ref b :: argsL).toArray) :
    ∃ (v : Option Value) (vm₁ : Vm) (B : Pt), s.WarmedH vm₁ ∧ Stand p l e R s m args below meth c B.U B.locs B.cells B.slots ∧ Post ⟨T.setVm vm₁, locs, cells, slots⟩ (Value.ref b :: argsL).toArray v B ∧
      ∀ target, Steps p.tables e below (B.U.setTop { g with pc := g.pc + 3, stack := v.toList ++ rest }) target → Steps p.tables e below (T.setTop g) target := by
  obtain ⟨mk, methM, hnamed, hmethM, hstM, habM⟩ := Cond.instanceMethod_spec hinst
  obtain ⟨m8, methM', cM, hn8, hmethM', -, -, -, -, -, -, hsigM⟩ := Cond.codeWith_spec hcode
  cases Option.some.inj (hn8.symm.trans hnamed)
  cases hmethM.symm.trans hmethM'
  obtain ⟨c2, r2, m2, q1, q2, q3, q4, kP, hkP, hkPi⟩ := Cond.selects_spec hsel
  cases hcls.symm.trans q1
  cases (State.methodFound?_of_named hnamed hy).symm.trans q2
  cases hnamed.symm.trans q3
  have hselP : selectMethod e.platform s.vm cellB.cls mk = .method mk := by rw [Launch.admits_selectMethod X.admits]; exact q4
  obtain ⟨vm₁, X₁, hstep₁⟩ := X.invokevirtual hexec hown hlink hnamed hmethM hstM hkP hkPi hy (a := b) (cell := cellB) hcell
    (fun z h => by rw [h] at hobj; cases hobj) hselP hmethM habM hkP hkPi (g := g) hg (argsL := argsL) (rest := rest) (hlen _ hsigM) hstack hdg
  obtain ⟨v, B, X', hpost, hsteps⟩ := hK m meth c ⟨T.setVm vm₁, locs, cells, slots⟩ { g with stack := rest } (.invokevirtual index) mk (Value.ref b :: argsL).toArray X₁ hg hsize hdg hW (X₁.named hnamed) (hpre vm₁ X₁.warmed)
  exact ⟨v, vm₁, B, X₁.warmed, X', hpost, fun target h => hstep₁ _ fun acts => by rw [doInvoke_state]; exact hsteps.trans h⟩
abbrev vx_CVW (R : Room) (s : State) (args : Array Value) (own C : String) (index : Nat) (y : MethodName) (bytes : ByteArray) (maxL : Nat) (ret : Option FieldType) (hh : List (Nat × Nat × Nat × Nat)) (ws : List Cond) (rm : Room) (mc ms n : Nat) : Prop :=
  (rm.cells = mc ∧ rm.slots = ms ∧ rm.frames + 1 ≤ R.frames ∧ 8 + (maxL + 11) + rm.locals ≤ R.locals ∧ (∀ w ∈ ws, ∀ (a' : Array Value) (U : State), s.WarmedH U.vm → w.before a' U = true) ∧ Cond.codeWith y bytes maxL ret hh ∈ ws) ∧
  (Cond.codeWith y bytes maxL ret hh).before args s = true ∧ (Cond.initialized y.cls).before args s = true ∧ (y.cls ≠ "java/lang/invoke/MethodHandle" ∧ y.cls ≠ "java/lang/invoke/VarHandle") ∧
  (∀ sig, parseMethodDescriptor y.desc = some sig → n = sig.parameters.length) ∧ (Cond.methodLink own index y).before args s = true ∧ (Cond.instanceMethod y).before args s = true ∧ (Cond.selects C y y).before args s = true
theorem vx_cwVW {own C : String} {index maxL mc ms : Nat} {y : MethodName} {bytes : ByteArray} {ret : Option FieldType} {hh : List (Nat × Nat × Nat × Nat)} {Ts ws ws' : List Cond} {rm : Room} (n : Nat) (ht : ∀ w ∈ Ts, w.before args s = true) (hT : GoodIn Ts (wsV own index C y ws)) (hw : ws = Cond.codeWith y bytes maxL ret hh :: ws') (hrc : rm.cells = mc) (hrs : rm.slots = ms)
    (hd : y.cls = C ∧ y.cls ≠ "java/lang/invoke/MethodHandle" ∧ y.cls ≠ "java/lang/invoke/VarHandle" ∧ (parseMethodDescriptor y.desc).map (fun d => d.parameters.length) = some n) (hR : rm.frames + 1 ≤ R.frames ∧ 8 + (maxL + 11) + rm.locals ≤ R.locals) :
    vx_CVW R s args own C index y bytes maxL ret hh ws rm mc ms n := by
  obtain ⟨hC, hd⟩ := hd
  subst hC
  have ok : ∀ w ∈ wsV own index y.cls y ws, w.before args s = true := fun w h => ht w (hT w h).1
  have hG : GoodIn Ts ws := fun w h => hT w (by unfold wsV; exact List.mem_append_right _ h)
  have hc : Cond.codeWith y bytes maxL ret hh ∈ ws := by rw [hw]; exact List.mem_cons_self
  refine ⟨⟨hrc, hrs, hR.1, hR.2, pay_in ht hG, hc⟩, ht _ (hG _ hc).1, ok _ (by simp [wsV]), ⟨hd.1, hd.2.1⟩, fun sig h => ?_, ok _ (by simp [wsV]), ok _ (by simp [wsV]), ok _ (by simp [wsV])⟩
  have h2 := hd.2.2
  rw [h] at h2
  exact (Option.some.inj h2).symm
theorem vx_runVW {y : MethodName} {bytes cc : ByteArray} {maxL nL mc ms n index : Nat} {ret : Option FieldType} {hh : List (Nat × Nat × Nat × Nat)} {ws : List Cond} {rm : Room} {Pc : Array Value → State → Prop} {Qc : Array Value → State → Outcome → State → Prop} {free : Addr → Prop} {Ts : List Cond} {own C : String} {b : Addr} {As rest : List Value} {g : JFrame}
    (S : CallFix p m c cc nL s args Ts own) (hM : Met l y ws rm Pc Qc mc ms free) (cw : vx_CVW R s args own C index y bytes maxL ret hh ws rm mc ms n) (hp : PreV s H C b Pc As)
    (hg : g.method = m) (hn : As.length = n) (hsize : g.locals.size = nL) (hstack : g.stack = As.reverse ++ .ref b :: rest) (hW : 2 * g.monitorRoom + (rest.map fun v => v.category).sum ≤ 8) (hdg : decode cc g.pc = .ok (.invokevirtual index, 3)) (hf : cells + mc ≤ R.cells ∧ slots + ms ≤ R.slots) :
    va_Run p l e R s m args below meth c H locs cells slots mc ms g rest (Qc (Value.ref b :: As).toArray) free := by
  obtain ⟨⟨hrc, hrs, hfr, hlo, hws, hcw⟩, hcode, hini, hy, hlen, hl, hin, hse⟩ := cw
  have hK : Back l R p e below s args y 3 8 (PreOf R mc ms Pc) (PostOf Qc mc ms free) := va_backW (hh := hh) (bytes := bytes) (maxL := maxL) (ret := ret) hM hp.1 hrc hrs hfr hlo hws hcw (fun a' U hW => word_at hW (Or.inl (by first | rfl | simp [Cond.onTables, Cond.keeps, Cond.steady])) hini)
  obtain ⟨hx, hb, hml, ho, -⟩ := S
  obtain ⟨-, ⟨cellB, hcB, hoB, hclB⟩, hPc⟩ := hp
  intro T hT X
  obtain ⟨v, vm₁, ⟨U', l2, c2, s2⟩, hW₁, X', ⟨g', mk, t, L, e1, e2, hq, h1, hL, h2, h3⟩, st⟩ := vx_callVW X hx (C := C) (hh := hh) (bytes := bytes) (maxL := maxL) (ret := ret) ho hl hin hse hcode hy hK (by rw [hT]; exact hcB) hoB hclB hg (hsize.trans hml.symm) (argsL := As) (rest := rest) (fun sig h => hn.trans (hlen sig h)) hstack hW (by rw [hb]; exact hdg)
    (fun vm₁ hW₁ => ⟨hf.1, hf.2, hPc (T.setVm vm₁) hT hW₁⟩)
  dsimp only [Pt.U, Pt.locs, Pt.cells, Pt.slots] at X' e1 e2 h1 h2 h3 st
  subst h1; subst h2; subst h3
  exact ⟨v, (T.setVm vm₁).calling g' mk (Value.ref b :: As).toArray, t, U', L, hT, X', hL, e1, e2, hq, st⟩
section
variable {y : MethodName} {bytes cc : ByteArray} {maxL nL mc ms n index : Nat} {ret : Option FieldType} {ws : List Cond} {rm : Room} {Pc : Array Value → State → Prop} {Qc : Array Value → State → Outcome → State → Prop} {XC : String → State → State → Prop} {free : Addr → Prop} {Ts : List Cond} {own C : String} {b : Addr} {As rest : List Value} {g : JFrame}
theorem vx_runVX {hh : List (Nat × Nat × Nat × Nat)} (S : CallFix p m c cc nL s args Ts own) (hM : vx_Met l y ws rm Pc Qc XC mc ms free) (cw : vx_CVW R s args own C index y bytes maxL ret hh ws rm mc ms n) (hp : PreV s H C b Pc As)
    (hg : g.method = m) (hn : As.length = n) (hsize : g.locals.size = nL) (hstack : g.stack = As.reverse ++ .ref b :: rest) (hW : 2 * g.monitorRoom + (rest.map fun v => v.category).sum ≤ 8) (hdg : decode cc g.pc = .ok (.invokevirtual index, 3)) (hf : cells + mc ≤ R.cells ∧ slots + ms ≤ R.slots) :
    vx_Run p l e R s m args below meth c H locs cells slots mc ms g rest (Qc (Value.ref b :: As).toArray) XC free := by
  obtain ⟨⟨hrc, hrs, hfr, hlo, hws, hcw⟩, hcode, hini, hy, hlen, hl, hin, hse⟩ := cw
  have hK : vx_Back l R p e below s args y 3 8 (PreOf R mc ms Pc) (PostOf Qc mc ms free) (vx_Post XC mc ms free) := vx_backW (hh := hh) (bytes := bytes) (maxL := maxL) (ret := ret) hM hp.1 hrc hrs hfr hlo hws hcw (fun a' U hW => word_at hW (Or.inl (by first | rfl | simp [Cond.onTables, Cond.keeps, Cond.steady])) hini)
  obtain ⟨hx, hb, hml, ho, -⟩ := S
  obtain ⟨-, ⟨cellB, hcB, hoB, hclB⟩, hPc⟩ := hp
  intro T hT X
  rcases vx_callVX X hx (C := C) (hh := hh) (bytes := bytes) (maxL := maxL) (ret := ret) ho hl hin hse hcode hy hK (by rw [hT]; exact hcB) hoB hclB hg (hsize.trans hml.symm) (argsL := As) (rest := rest) (fun sig h => hn.trans (hlen sig h)) hstack hW (by rw [hb]; exact hdg)
    (fun vm₁ hW₁ => ⟨hf.1, hf.2, hPc (T.setVm vm₁) hT hW₁⟩) with ⟨v, vm₁, ⟨U', l2, c2, s2⟩, hW₁, X', ⟨g', mk, t, L, e1, e2, hq, h1, hL, h2, h3⟩, st⟩ | ⟨q, vm₁, ⟨U', l2, c2, s2⟩, hW₁, X', ⟨g', mk, t, L, E, ce, e1, e2, hq, hce, hcv, hcl, h1, hL, h2, h3⟩, st⟩
  · dsimp only [Pt.U, Pt.locs, Pt.cells, Pt.slots] at X' e1 e2 h1 h2 h3 st
    subst h1; subst h2; subst h3
    exact Or.inl ⟨v, (T.setVm vm₁).calling g' mk (Value.ref b :: As).toArray, t, U', L, hT, X', hL, e1, e2, hq, st⟩
  · dsimp only [Pt.U, Pt.locs, Pt.cells, Pt.slots] at X' e1 e2 h1 h2 h3 st hcl
    subst h1; subst h2; subst h3
    exact Or.inr ⟨q, (T.setVm vm₁).calling g' mk (Value.ref b :: As).toArray, t, U', L, E, ce, hT, X', hL, e1, e2, hq, hce, hcv, vx_cls hW₁ hcl, st⟩
theorem vx_runSX {hh : List (Nat × Nat × Nat × Nat)} (S : CallFix p m c cc nL s args Ts own) (hM : vx_Met l y ws rm Pc Qc XC mc ms free) (cw : vx_CSW R s args own index y bytes maxL ret hh ws rm mc ms n) (hp : PreS s H Pc As)
    (hg : g.method = m) (hn : As.length = n) (hsize : g.locals.size = nL) (hstack : g.stack = As.reverse ++ rest) (hW : 2 * g.monitorRoom + (rest.map fun v => v.category).sum ≤ 8) (hdg : decode cc g.pc = .ok (.invokestatic index, 3)) (hf : cells + mc ≤ R.cells ∧ slots + ms ≤ R.slots) :
    vx_Run p l e R s m args below meth c H locs cells slots mc ms g rest (Qc As.toArray) XC free := by
  obtain ⟨⟨hrc, hrs, hfr, hlo, hws, hcw⟩, hcode, hini, hy, hlen, hl, hstt⟩ := cw
  have hK : vx_Back l R p e below s args y 3 8 (PreOf R mc ms Pc) (PostOf Qc mc ms free) (vx_Post XC mc ms free) := vx_backW (hh := hh) (bytes := bytes) (maxL := maxL) (ret := ret) hM hp.1 hrc hrs hfr hlo hws hcw (fun a' U hW => word_at hW (Or.inl (by first | rfl | simp [Cond.onTables, Cond.keeps, Cond.steady])) hini)
  obtain ⟨hx, hb, hml, ho, -⟩ := S
  intro T hT X
  rcases vx_callSX X hx (hh := hh) (bytes := bytes) (maxL := maxL) (ret := ret) ho hl hstt hini hcode hy hK hg (hsize.trans hml.symm) (argsL := As) (rest := rest) (fun sig h => hn.trans (hlen sig h)) hstack hW (by rw [hb]; exact hdg)
    (fun vm₁ hW₁ => ⟨hf.1, hf.2, hp.2 (T.setVm vm₁) hT hW₁⟩) with ⟨v, vm₁, ⟨U', l2, c2, s2⟩, hW₁, X', ⟨g', mk, t, L, e1, e2, hq, h1, hL, h2, h3⟩, st⟩ | ⟨q, vm₁, ⟨U', l2, c2, s2⟩, hW₁, X', ⟨g', mk, t, L, E, ce, e1, e2, hq, hce, hcv, hcl, h1, hL, h2, h3⟩, st⟩
  · dsimp only [Pt.U, Pt.locs, Pt.cells, Pt.slots] at X' e1 e2 h1 h2 h3 st
    subst h1; subst h2; subst h3
    exact Or.inl ⟨v, (T.setVm vm₁).calling g' mk As.toArray, t, U', L, hT, X', hL, e1, e2, hq, st⟩
  · dsimp only [Pt.U, Pt.locs, Pt.cells, Pt.slots] at X' e1 e2 h1 h2 h3 st hcl
    subst h1; subst h2; subst h3
    exact Or.inr ⟨q, (T.setVm vm₁).calling g' mk As.toArray, t, U', L, E, ce, hT, X', hL, e1, e2, hq, hce, hcv, vx_cls hW₁ hcl, st⟩
end
end VXH
theorem vx_ofWH {l : Launch} {y : MethodName} {ws ws' : List Cond} {rm : Room} {Pc : Array Value → State → Prop} {Qc : Array Value → State → Outcome → State → Prop} {XC : String → State → State → Prop} {mc ms : Nat} {free : Addr → Prop} {cc : ByteArray} {maxL : Nat} {ret : Option FieldType} {hh : List (Nat × Nat × Nat × Nat)}
    (hy : plainName y.cls = true) (hw : ws = Cond.codeWith y cc maxL ret hh :: ws')
    (body : ∀ p e s m args below meth c s₁, BodyLoose p l y (headSpec ws rm) cc maxL ret e s m args below meth c s₁ → c.maxLocals = maxL → Pc args s →
      W p l e (headSpec ws rm).room s m args below meth c s.heap [] 0 0 (vx_MQ below Qc XC args s mc ms free) (entryFrame m args maxL)) : vx_Met l y ws rm Pc Qc XC mc ms free := by
  refine MetFree.of_bodyS (code := cc) (maxLocals := maxL) (ret := ret) hy ?_ ?_
  · intro args s m h hn
    obtain ⟨m9, meth, c, hn9, h1, h2, h3, h4, -, h5, h6, -⟩ := Cond.codeWith_spec (atoms_spec (ws := ws) h _ (by rw [hw]; exact List.mem_cons_self))
    cases hn.symm.trans hn9
    exact ⟨meth, c, h1, h2, h3, h4, h5, h6⟩
  · intro p e s m args below meth c s₁ B hml hP _
    have hh0 : s₁.heap = s.heap := by rw [B.state]; rfl
    obtain ⟨t, a1, o, b1, b2, b3⟩ := body p e s m args below meth c s₁ B hml hP s₁ hh0 (Stand.of_body B)
    exact ⟨t, o, a1, b1, b2, b3⟩
/-! ===== END ===== -/

/-! ===== BEGIN printed: names, fields, word lists, decode rows ===== -/
end
section
/-! names: classes, fields, methods; the tables' words by their places (written by wip/whole/gen/names.py) -/
def TA : u_T := fun k => match k with
  | 0 => ("ShellSum", "reckoner", "LShellSum$Reckoner;", true)
  | 1 => ("ShellSum", "row", "[C", true)
  | 2 => ("ShellSum", "names", "LShellSum$Names;", true)
  | 3 => ("ShellSum", "length", "I", false)
  | 4 => ("ShellSum", "hand", "[C", true)
  | 5 => ("ShellSum", "handLength", "I", false)
  | 6 => ("ShellSum", "right", "I", false)
  | _ => ("ShellSum", "wrong", "I", false)
def tyA : Nat → FieldType := fun k => match k with
  | 0 => .object "ShellSum$Reckoner"
  | 1 => .array .char
  | 2 => .object "ShellSum$Names"
  | 3 => .int
  | 4 => .array .char
  | 5 => .int
  | 6 => .int
  | _ => .int
theorem nmA : ∀ a, a < 8 → ∀ b, b < 8 → a ≠ b → (TA a).2.1 ≠ (TA b).2.1 := by decide +kernel
theorem tyA_ok : ∀ k, k < 8 → parseFieldDescriptor (TA k).2.2.1 = some (tyA k) := by decide +kernel
def TN : u_T := fun k => match k with
  | 0 => ("ShellSum$Named", "letters", "[C", true)
  | 1 => ("ShellSum$Named", "row", "[C", true)
  | _ => ("ShellSum$Named", "length", "I", false)
def tyN : Nat → FieldType := fun k => match k with
  | 0 => .array .char
  | 1 => .array .char
  | _ => .int
theorem nmN : ∀ a, a < 3 → ∀ b, b < 3 → a ≠ b → (TN a).2.1 ≠ (TN b).2.1 := by decide +kernel
theorem tyN_ok : ∀ k, k < 3 → parseFieldDescriptor (TN k).2.2.1 = some (tyN k) := by decide +kernel
def TS : u_T := fun k => match k with
  | 0 => ("ShellSum$Names", "kept", "[LShellSum$Named;", true)
  | _ => ("ShellSum$Names", "size", "I", false)
def tyS : Nat → FieldType := fun k => match k with
  | 0 => .array (.object "ShellSum$Named")
  | _ => .int
theorem nmS : ∀ a, a < 2 → ∀ b, b < 2 → a ≠ b → (TS a).2.1 ≠ (TS b).2.1 := by decide +kernel
theorem tyS_ok : ∀ k, k < 2 → parseFieldDescriptor (TS k).2.2.1 = some (tyS k) := by decide +kernel
def TR : u_T := fun k => match k with
  | 0 => ("ShellSum$Reckoner", "row", "[C", true)
  | 1 => ("ShellSum$Reckoner", "names", "LShellSum$Names;", true)
  | 2 => ("ShellSum$Reckoner", "waitingSigns", "[I", true)
  | 3 => ("ShellSum$Reckoner", "waitingFirsts", "[J", true)
  | 4 => ("ShellSum$Reckoner", "waiting", "I", false)
  | 5 => ("ShellSum$Reckoner", "length", "I", false)
  | 6 => ("ShellSum$Reckoner", "place", "I", false)
  | 7 => ("ShellSum$Reckoner", "unneeded", "I", false)
  | _ => ("ShellSum$Reckoner", "result", "J", false)
def tyR : Nat → FieldType := fun k => match k with
  | 0 => .array .char
  | 1 => .object "ShellSum$Names"
  | 2 => .array .int
  | 3 => .array .long
  | 4 => .int
  | 5 => .int
  | 6 => .int
  | 7 => .int
  | _ => .long
theorem nmR : ∀ a, a < 9 → ∀ b, b < 9 → a ≠ b → (TR a).2.1 ≠ (TR b).2.1 := by decide +kernel
theorem tyR_ok : ∀ k, k < 9 → parseFieldDescriptor (TR k).2.2.1 = some (tyR k) := by decide +kernel
def TM : u_T := fun k => match k with
  | 0 => ("ShellSumModel", "code", "I", false)
  | 1 => ("ShellSumModel", "text", "[I", true)
  | 2 => ("ShellSumModel", "sum", "[I", true)
  | 3 => ("ShellSumModel", "size", "I", false)
  | 4 => ("ShellSumModel", "length", "I", false)
  | 5 => ("ShellSumModel", "place", "I", false)
  | 6 => ("ShellSumModel", "nest", "I", false)
  | 7 => ("ShellSumModel", "bad", "Z", false)
  | 8 => ("ShellSumModel", "sort", "[I", true)
  | 9 => ("ShellSumModel", "one", "[I", true)
  | 10 => ("ShellSumModel", "two", "[I", true)
  | 11 => ("ShellSumModel", "live", "[Z", true)
  | 12 => ("ShellSumModel", "kept", "[J", true)
  | 13 => ("ShellSumModel", "values", "[J", true)
  | 14 => ("ShellSumModel", "waits", "I", false)
  | 15 => ("ShellSumModel", "high", "I", false)
  | 16 => ("ShellSumModel", "names", "[I", true)
  | 17 => ("ShellSumModel", "texts", "[I", true)
  | 18 => ("ShellSumModel", "nameSize", "[I", true)
  | 19 => ("ShellSumModel", "textSize", "[I", true)
  | 20 => ("ShellSumModel", "many", "I", false)
  | 21 => ("ShellSumModel", "good", "I", false)
  | 22 => ("ShellSumModel", "wrong", "I", false)
  | 23 => ("ShellSumModel", "hand", "[I", true)
  | 24 => ("ShellSumModel", "handSize", "I", false)
  | _ => ("ShellSumModel", "number", "J", false)
def tyM : Nat → FieldType := fun k => match k with
  | 0 => .int
  | 1 => .array .int
  | 2 => .array .int
  | 3 => .int
  | 4 => .int
  | 5 => .int
  | 6 => .int
  | 7 => .boolean
  | 8 => .array .int
  | 9 => .array .int
  | 10 => .array .int
  | 11 => .array .boolean
  | 12 => .array .long
  | 13 => .array .long
  | 14 => .int
  | 15 => .int
  | 16 => .array .int
  | 17 => .array .int
  | 18 => .array .int
  | 19 => .array .int
  | 20 => .int
  | 21 => .int
  | 22 => .int
  | 23 => .array .int
  | 24 => .int
  | _ => .long
theorem nmM : ∀ a, a < 26 → ∀ b, b < 26 → a ≠ b → (TM a).2.1 ≠ (TM b).2.1 := by decide +kernel
theorem tyM_ok : ∀ k, k < 26 → parseFieldDescriptor (TM k).2.2.1 = some (tyM k) := by decide +kernel
abbrev vwCl : List vw_C := [("ShellSum$Named", TN, 3), ("ShellSum$Names", TS, 2), ("ShellSum$Reckoner", TR, 9), ("ShellSum", TA, 8), ("ShellSumModel", TM, 26)]
abbrev cA_init : ByteArray := prog_1_method_1_code
def yA_init : MethodName := ⟨"ShellSum", "<init>", "()V"⟩
abbrev cR_init : ByteArray := prog_4_method_1_code
def yR_init : MethodName := ⟨"ShellSum$Reckoner", "<init>", "()V"⟩
abbrev cS_init : ByteArray := prog_3_method_1_code
def yS_init : MethodName := ⟨"ShellSum$Names", "<init>", "()V"⟩
abbrev cA_text : ByteArray := prog_1_method_2_code
def yA_text : MethodName := ⟨"ShellSum", "text", "(JI)I"⟩
abbrev cA_areOfText : ByteArray := prog_1_method_10_code
def yA_areOfText : MethodName := ⟨"ShellSum", "areOfText", "(JI)Z"⟩
abbrev cA_byteAt : ByteArray := prog_1_method_9_code
def yA_byteAt : MethodName := ⟨"ShellSum", "byteAt", "(JII)C"⟩
abbrev cA_isBlank : ByteArray := prog_1_method_13_code
def yA_isBlank : MethodName := ⟨"ShellSum", "isBlank", "(C)Z"⟩
abbrev cA_unpack : ByteArray := prog_1_method_12_code
def yA_unpack : MethodName := ⟨"ShellSum", "unpack", "(JI[CI)V"⟩
abbrev cA_name : ByteArray := prog_1_method_4_code
def yA_name : MethodName := ⟨"ShellSum", "name", "(JI)Z"⟩
abbrev cA_areName : ByteArray := prog_1_method_11_code
def yA_areName : MethodName := ⟨"ShellSum", "areName", "(JI)Z"⟩
abbrev cA_startsName : ByteArray := prog_1_method_15_code
def yA_startsName : MethodName := ⟨"ShellSum", "startsName", "(C)Z"⟩
abbrev cA_isOfWord : ByteArray := prog_1_method_16_code
def yA_isOfWord : MethodName := ⟨"ShellSum", "isOfWord", "(C)Z"⟩
abbrev cA_isDigit : ByteArray := prog_1_method_14_code
def yA_isDigit : MethodName := ⟨"ShellSum", "isDigit", "(C)Z"⟩
abbrev cA_put : ByteArray := prog_1_method_5_code
def yA_put : MethodName := ⟨"ShellSum", "put", "(JI)Z"⟩
abbrev cS_findOrAdd : ByteArray := prog_3_method_3_code
def yS_findOrAdd : MethodName := ⟨"ShellSum$Names", "findOrAdd", "([CII)LShellSum$Named;"⟩
abbrev cS_find : ByteArray := prog_3_method_2_code
def yS_find : MethodName := ⟨"ShellSum$Names", "find", "([CII)LShellSum$Named;"⟩
abbrev cN_isCalled : ByteArray := prog_2_method_2_code
def yN_isCalled : MethodName := ⟨"ShellSum$Named", "isCalled", "([CII)Z"⟩
abbrev cN_init : ByteArray := prog_2_method_1_code
def yN_init : MethodName := ⟨"ShellSum$Named", "<init>", "([CII)V"⟩
abbrev cA_drop : ByteArray := prog_1_method_6_code
def yA_drop : MethodName := ⟨"ShellSum", "drop", "()Z"⟩
abbrev cS_remove : ByteArray := prog_3_method_4_code
def yS_remove : MethodName := ⟨"ShellSum$Names", "remove", "([CII)Z"⟩
abbrev cA_letter : ByteArray := prog_1_method_7_code
def yA_letter : MethodName := ⟨"ShellSum", "letter", "(I)I"⟩
abbrev cA_count : ByteArray := prog_1_method_8_code
def yA_count : MethodName := ⟨"ShellSum", "count", "(I)I"⟩
abbrev cL_value : ByteArray := method_3_code
def yL_value : MethodName := ⟨"ShellSumLaw", "value", "(LShellSum;[J)I"⟩
abbrev cA_value : ByteArray := prog_1_method_3_code
def yA_value : MethodName := ⟨"ShellSum", "value", "()J"⟩
abbrev cR_manages : ByteArray := prog_4_method_2_code
def yR_manages : MethodName := ⟨"ShellSum$Reckoner", "manages", "(I)Z"⟩
abbrev cR_skipBlanks : ByteArray := prog_4_method_18_code
def yR_skipBlanks : MethodName := ⟨"ShellSum$Reckoner", "skipBlanks", "()V"⟩
abbrev cR_charAt : ByteArray := prog_4_method_20_code
def yR_charAt : MethodName := ⟨"ShellSum$Reckoner", "charAt", "(I)C"⟩
abbrev cR_expression : ByteArray := prog_4_method_3_code
def yR_expression : MethodName := ⟨"ShellSum$Reckoner", "expression", "(I)J"⟩
abbrev cR_wordEnd : ByteArray := prog_4_method_19_code
def yR_wordEnd : MethodName := ⟨"ShellSum$Reckoner", "wordEnd", "()I"⟩
abbrev cR_assignmentSign : ByteArray := prog_4_method_15_code
def yR_assignmentSign : MethodName := ⟨"ShellSum$Reckoner", "assignmentSign", "()I"⟩
abbrev cR_isShift : ByteArray := prog_4_method_16_code
def yR_isShift : MethodName := ⟨"ShellSum$Reckoner", "isShift", "(I)Z"⟩
abbrev cG_rankOf : ByteArray := prog_5_method_2_code
def yG_rankOf : MethodName := ⟨"ShellSum$Signs", "rankOf", "(I)I"⟩
abbrev cR_deeper : ByteArray := prog_4_method_7_code
def yR_deeper : MethodName := ⟨"ShellSum$Reckoner", "deeper", "(I)I"⟩
abbrev cR_assign : ByteArray := prog_4_method_10_code
def yR_assign : MethodName := ⟨"ShellSum$Reckoner", "assign", "(IIIJ)J"⟩
abbrev cR_nameValue : ByteArray := prog_4_method_9_code
def yR_nameValue : MethodName := ⟨"ShellSum$Reckoner", "nameValue", "(II)J"⟩
abbrev cA_numberIn : ByteArray := prog_1_method_17_code
def yA_numberIn : MethodName := ⟨"ShellSum", "numberIn", "([CII)J"⟩
abbrev cA_baseOf : ByteArray := prog_1_method_18_code
def yA_baseOf : MethodName := ⟨"ShellSum", "baseOf", "(CC)I"⟩
abbrev cA_digitOf : ByteArray := prog_1_method_19_code
def yA_digitOf : MethodName := ⟨"ShellSum", "digitOf", "(C)I"⟩
abbrev cG_apply : ByteArray := prog_5_method_4_code
def yG_apply : MethodName := ⟨"ShellSum$Signs", "apply", "(IJJ)J"⟩
abbrev cG_divide : ByteArray := prog_5_method_5_code
def yG_divide : MethodName := ⟨"ShellSum$Signs", "divide", "(IJJ)J"⟩
abbrev cG_holds : ByteArray := prog_5_method_6_code
def yG_holds : MethodName := ⟨"ShellSum$Signs", "holds", "(IJJ)Z"⟩
abbrev cN_writeDecimal : ByteArray := prog_2_method_3_code
def yN_writeDecimal : MethodName := ⟨"ShellSum$Named", "writeDecimal", "(J)V"⟩
abbrev cN_decimalLength : ByteArray := prog_2_method_4_code
def yN_decimalLength : MethodName := ⟨"ShellSum$Named", "decimalLength", "(J)I"⟩
abbrev cR_choice : ByteArray := prog_4_method_4_code
def yR_choice : MethodName := ⟨"ShellSum$Reckoner", "choice", "(I)J"⟩
abbrev cR_binary : ByteArray := prog_4_method_5_code
def yR_binary : MethodName := ⟨"ShellSum$Reckoner", "binary", "(I)J"⟩
abbrev cR_unary : ByteArray := prog_4_method_6_code
def yR_unary : MethodName := ⟨"ShellSum$Reckoner", "unary", "(I)J"⟩
abbrev cR_expect : ByteArray := prog_4_method_17_code
def yR_expect : MethodName := ⟨"ShellSum$Reckoner", "expect", "(C)V"⟩
abbrev cR_word : ByteArray := prog_4_method_8_code
def yR_word : MethodName := ⟨"ShellSum$Reckoner", "word", "()J"⟩
abbrev cR_signOfTwo : ByteArray := prog_4_method_14_code
def yR_signOfTwo : MethodName := ⟨"ShellSum$Reckoner", "signOfTwo", "()I"⟩
abbrev cR_settle : ByteArray := prog_4_method_12_code
def yR_settle : MethodName := ⟨"ShellSum$Reckoner", "settle", "(IIJ)J"⟩
abbrev cR_join : ByteArray := prog_4_method_13_code
def yR_join : MethodName := ⟨"ShellSum$Reckoner", "join", "(IJJ)J"⟩
abbrev cG_isSettledBy : ByteArray := prog_5_method_3_code
def yG_isSettledBy : MethodName := ⟨"ShellSum$Signs", "isSettledBy", "(IJ)Z"⟩
abbrev cR_await : ByteArray := prog_4_method_11_code
def yR_await : MethodName := ⟨"ShellSum$Reckoner", "await", "(IJ)V"⟩
abbrev cM_init : ByteArray := prog_7_method_1_code
def yM_init : MethodName := ⟨"ShellSumModel", "<init>", "()V"⟩
abbrev cM_thrown : ByteArray := prog_7_method_2_code
def yM_thrown : MethodName := ⟨"ShellSumModel", "thrown", "()I"⟩
abbrev cM_text : ByteArray := prog_7_method_8_code
def yM_text : MethodName := ⟨"ShellSumModel", "text", "(JI)I"⟩
abbrev cM_areTexts : ByteArray := prog_7_method_7_code
def yM_areTexts : MethodName := ⟨"ShellSumModel", "areTexts", "(JI)Z"⟩
abbrev cM_byteOf : ByteArray := prog_7_method_6_code
def yM_byteOf : MethodName := ⟨"ShellSumModel", "byteOf", "(JII)I"⟩
abbrev cM_isText : ByteArray := prog_7_method_5_code
def yM_isText : MethodName := ⟨"ShellSumModel", "isText", "(I)Z"⟩
abbrev cM_name : ByteArray := prog_7_method_11_code
def yM_name : MethodName := ⟨"ShellSumModel", "name", "(JI)Z"⟩
abbrev cM_isLetter : ByteArray := prog_7_method_3_code
def yM_isLetter : MethodName := ⟨"ShellSumModel", "isLetter", "(I)Z"⟩
abbrev cM_isDigit : ByteArray := prog_7_method_4_code
def yM_isDigit : MethodName := ⟨"ShellSumModel", "isDigit", "(I)Z"⟩
abbrev cM_put : ByteArray := prog_7_method_12_code
def yM_put : MethodName := ⟨"ShellSumModel", "put", "(JI)Z"⟩
abbrev cM_placeFor : ByteArray := prog_7_method_10_code
def yM_placeFor : MethodName := ⟨"ShellSumModel", "placeFor", "([III)I"⟩
abbrev cM_find : ByteArray := prog_7_method_9_code
def yM_find : MethodName := ⟨"ShellSumModel", "find", "([III)I"⟩
abbrev cM_drop : ByteArray := prog_7_method_13_code
def yM_drop : MethodName := ⟨"ShellSumModel", "drop", "()Z"⟩
abbrev cM_letter : ByteArray := prog_7_method_14_code
def yM_letter : MethodName := ⟨"ShellSumModel", "letter", "(I)I"⟩
abbrev cM_value : ByteArray := prog_7_method_35_code
def yM_value : MethodName := ⟨"ShellSumModel", "value", "()J"⟩
abbrev cM_sign : ByteArray := prog_7_method_19_code
def yM_sign : MethodName := ⟨"ShellSumModel", "sign", "()I"⟩
abbrev cM_plain : ByteArray := prog_7_method_22_code
def yM_plain : MethodName := ⟨"ShellSumModel", "plain", "(IZ)V"⟩
abbrev cM_wait : ByteArray := prog_7_method_21_code
def yM_wait : MethodName := ⟨"ShellSumModel", "wait", "(IZIIJ)V"⟩
abbrev cM_go : ByteArray := prog_7_method_34_code
def yM_go : MethodName := ⟨"ShellSumModel", "go", "()V"⟩
abbrev cM_aSum : ByteArray := prog_7_method_28_code
def yM_aSum : MethodName := ⟨"ShellSumModel", "aSum", "(Z)V"⟩
abbrev cM_nameEnd : ByteArray := prog_7_method_27_code
def yM_nameEnd : MethodName := ⟨"ShellSumModel", "nameEnd", "()I"⟩
abbrev cM_gives : ByteArray := prog_7_method_26_code
def yM_gives : MethodName := ⟨"ShellSumModel", "gives", "()I"⟩
abbrev cM_at : ByteArray := prog_7_method_20_code
def yM_at : MethodName := ⟨"ShellSumModel", "at", "(I)I"⟩
abbrev cM_inner : ByteArray := prog_7_method_25_code
def yM_inner : MethodName := ⟨"ShellSumModel", "inner", "()V"⟩
abbrev cM_taken : ByteArray := prog_7_method_24_code
def yM_taken : MethodName := ⟨"ShellSumModel", "taken", "()J"⟩
abbrev cM_keep : ByteArray := prog_7_method_23_code
def yM_keep : MethodName := ⟨"ShellSumModel", "keep", "(J)V"⟩
abbrev cM_more : ByteArray := prog_7_method_31_code
def yM_more : MethodName := ⟨"ShellSumModel", "more", "(ZI)V"⟩
abbrev cM_rank : ByteArray := prog_7_method_30_code
def yM_rank : MethodName := ⟨"ShellSumModel", "rank", "()I"⟩
abbrev cM_joined : ByteArray := prog_7_method_32_code
def yM_joined : MethodName := ⟨"ShellSumModel", "joined", "(IIZJJZ)J"⟩
abbrev cM_term : ByteArray := prog_7_method_33_code
def yM_term : MethodName := ⟨"ShellSumModel", "term", "(Z)V"⟩
abbrev cM_named : ByteArray := prog_7_method_17_code
def yM_named : MethodName := ⟨"ShellSumModel", "named", "(II)J"⟩
abbrev cM_numberEnd : ByteArray := prog_7_method_16_code
def yM_numberEnd : MethodName := ⟨"ShellSumModel", "numberEnd", "([III)I"⟩
abbrev cM_digitOf : ByteArray := prog_7_method_15_code
def yM_digitOf : MethodName := ⟨"ShellSumModel", "digitOf", "(I)I"⟩
abbrev cM_given : ByteArray := prog_7_method_29_code
def yM_given : MethodName := ⟨"ShellSumModel", "given", "(ZIII)V"⟩
abbrev cM_give : ByteArray := prog_7_method_18_code
def yM_give : MethodName := ⟨"ShellSumModel", "give", "(IIJ)V"⟩
abbrev cM_count : ByteArray := prog_7_method_36_code
def yM_count : MethodName := ⟨"ShellSumModel", "count", "(I)I"⟩
abbrev cL_law : ByteArray := code
def yL_law : MethodName := ⟨"ShellSumLaw", "law", "([I)Z"⟩
/-- the words of the tables that stay true as the run warms -/
def zw : List Cond := lw_tbl.filter goodWord
theorem zw_m {w : Cond} (h : w ∈ lw_tbl) (hg : goodWord w = true) : w ∈ zw := List.mem_filter.mpr ⟨h, hg⟩
theorem zw_t {w : Cond} (h : w ∈ zw) : w ∈ lw_tbl := (List.mem_filter.mp h).1
theorem zw_g {w : Cond} (h : w ∈ zw) : goodWord w = true := (List.mem_filter.mp h).2
theorem zt_1 {w : Cond} {i : Nat} (h : tables_1_1[i]? = some w) : w ∈ lw_tbl := List.mem_append_right _ (List.mem_append_left _ (List.mem_of_getElem? h))
theorem zt_2 {w : Cond} {i : Nat} (h : tables_1_2[i]? = some w) : w ∈ lw_tbl := List.mem_append_right _ (List.mem_append_right _ (List.mem_append_left _ (List.mem_of_getElem? h)))
theorem zt_3 {w : Cond} {i : Nat} (h : tables_1_3[i]? = some w) : w ∈ lw_tbl := List.mem_append_right _ (List.mem_append_right _ (List.mem_append_right _ (List.mem_of_getElem? h)))
theorem zt_s {w : Cond} {i : Nat} (h : (k2_sels lw_privs)[i]? = some w) : w ∈ lw_tbl := List.mem_append_left _ (List.mem_of_getElem? h)
theorem zw_1_0 : (Cond.initialized "ShellSumLaw") ∈ zw := zw_m (zt_1 (i := 0) rfl) rfl
theorem zw_1_1 : (Cond.initialized "ShellSum") ∈ zw := zw_m (zt_1 (i := 1) rfl) rfl
theorem zw_1_2 : (Cond.initialized "ShellSum$Reckoner") ∈ zw := zw_m (zt_1 (i := 2) rfl) rfl
theorem zw_1_3 : (Cond.initialized "ShellSum$Names") ∈ zw := zw_m (zt_1 (i := 3) rfl) rfl
theorem zw_1_4 : (Cond.initialized "ShellSumModel") ∈ zw := zw_m (zt_1 (i := 4) rfl) rfl
theorem zw_1_5 : (Cond.initialized "ShellSum$Signs") ∈ zw := zw_m (zt_1 (i := 5) rfl) rfl
theorem zw_1_6 : (Cond.initialized "java/lang/Throwable") ∈ zw := zw_m (zt_1 (i := 6) rfl) rfl
theorem zw_1_7 : (Cond.initialized "java/lang/Exception") ∈ zw := zw_m (zt_1 (i := 7) rfl) rfl
theorem zw_1_8 : (Cond.initialized "java/lang/RuntimeException") ∈ zw := zw_m (zt_1 (i := 8) rfl) rfl
theorem zw_1_9 : (Cond.initialized "java/lang/IllegalStateException") ∈ zw := zw_m (zt_1 (i := 9) rfl) rfl
theorem zw_1_10 : (Cond.initialized "ShellSum$Named") ∈ zw := zw_m (zt_1 (i := 10) rfl) rfl
theorem zw_1_11 : (Cond.initialized "java/lang/Math") ∈ zw := zw_m (zt_1 (i := 11) rfl) rfl
theorem zw_1_12 : (Cond.classLink "ShellSumLaw" 8 "ShellSum") ∈ zw := zw_m (zt_1 (i := 12) rfl) rfl
theorem zw_1_13 : (Cond.instantiable "ShellSum" 8) ∈ zw := zw_m (zt_1 (i := 13) rfl) rfl
theorem zw_1_14 : (Cond.methodLink "ShellSumLaw" 15 yA_init) ∈ zw := zw_m (zt_1 (i := 14) rfl) rfl
theorem zw_1_15 : (Cond.instanceMethod yA_init) ∈ zw := zw_m (zt_1 (i := 15) rfl) rfl
theorem zw_1_16 : (Cond.code yA_init prog_1_method_1_code 1 none) ∈ zw := zw_m (zt_1 (i := 16) rfl) rfl
theorem zw_1_17 : (Cond.methodLink "ShellSum" 3 (⟨"java/lang/Object", "<init>", "()V"⟩ : MethodName)) ∈ zw := zw_m (zt_1 (i := 17) rfl) rfl
theorem zw_1_18 : (Cond.instanceMethod (⟨"java/lang/Object", "<init>", "()V"⟩ : MethodName)) ∈ zw := zw_m (zt_1 (i := 18) rfl) rfl
theorem zw_1_19 : (Cond.code (⟨"java/lang/Object", "<init>", "()V"⟩ : MethodName) object_method_1_code 1 none) ∈ zw := zw_m (zt_1 (i := 19) rfl) rfl
theorem zw_1_20 : (Cond.classLink "ShellSum" 9 "ShellSum$Reckoner") ∈ zw := zw_m (zt_1 (i := 20) rfl) rfl
theorem zw_1_21 : (Cond.instantiable "ShellSum$Reckoner" 9) ∈ zw := zw_m (zt_1 (i := 21) rfl) rfl
theorem zw_1_22 : (Cond.methodLinkNest "ShellSum" 11 yR_init "ShellSum") ∈ lw_tbl := zt_1 (i := 22) rfl
theorem zw_1_23 : (Cond.instanceMethod yR_init) ∈ zw := zw_m (zt_1 (i := 23) rfl) rfl
theorem zw_1_24 : (Cond.code yR_init prog_4_method_1_code 1 none) ∈ zw := zw_m (zt_1 (i := 24) rfl) rfl
theorem zw_1_25 : (Cond.methodLink "ShellSum$Reckoner" 3 (⟨"java/lang/Object", "<init>", "()V"⟩ : MethodName)) ∈ zw := zw_m (zt_1 (i := 25) rfl) rfl
theorem zw_1_26 : (Cond.classLink "ShellSum$Reckoner" 15 "ShellSum$Names") ∈ zw := zw_m (zt_1 (i := 26) rfl) rfl
theorem zw_1_27 : (Cond.instantiable "ShellSum$Names" 2) ∈ zw := zw_m (zt_1 (i := 27) rfl) rfl
theorem zw_1_28 : (Cond.methodLinkNest "ShellSum$Reckoner" 17 yS_init "ShellSum") ∈ lw_tbl := zt_1 (i := 28) rfl
theorem zw_1_29 : (Cond.instanceMethod yS_init) ∈ zw := zw_m (zt_1 (i := 29) rfl) rfl
theorem zw_1_30 : (Cond.code yS_init prog_3_method_1_code 1 none) ∈ zw := zw_m (zt_1 (i := 30) rfl) rfl
theorem zw_1_31 : (Cond.methodLink "ShellSum$Names" 3 (⟨"java/lang/Object", "<init>", "()V"⟩ : MethodName)) ∈ zw := zw_m (zt_1 (i := 31) rfl) rfl
theorem zw_1_32 : (Cond.classLink "ShellSum$Names" 9 "ShellSum$Named") ∈ zw := zw_m (zt_1 (i := 32) rfl) rfl
theorem zw_1_33 : (Cond.arrayOver (.object "ShellSum$Named")) ∈ lw_tbl := zt_1 (i := 33) rfl
theorem zw_1_34 : (Cond.fieldLink "ShellSum$Names" 11 "ShellSum$Names" "kept" "[LShellSum$Named;") ∈ zw := zw_m (zt_1 (i := 34) rfl) rfl
theorem zw_1_35 : (Cond.fieldLink "ShellSum$Names" 17 "ShellSum$Names" "size" "I") ∈ zw := zw_m (zt_1 (i := 35) rfl) rfl
theorem zw_1_36 : (Cond.fieldLinkNest "ShellSum" 85 "ShellSum$Names" "size" "I" "ShellSum") ∈ lw_tbl := zt_1 (i := 36) rfl
theorem zw_1_37 : (Cond.laysFinal "ShellSum$Names" "ShellSum$Names" "kept" "[LShellSum$Named;") ∈ zw := zw_m (zt_1 (i := 37) rfl) rfl
theorem zw_1_39 : (Cond.lays "ShellSum$Names" "ShellSum$Names" "size" "I") ∈ zw := zw_m (zt_1 (i := 39) rfl) rfl
theorem zw_1_42 : (Cond.arrayClass .char) ∈ zw := zw_m (zt_1 (i := 42) rfl) rfl
theorem zw_1_43 : (Cond.fieldLink "ShellSum$Reckoner" 9 "ShellSum$Reckoner" "row" "[C") ∈ zw := zw_m (zt_1 (i := 43) rfl) rfl
theorem zw_1_44 : (Cond.fieldLinkNest "ShellSum" 16 "ShellSum$Reckoner" "row" "[C" "ShellSum") ∈ lw_tbl := zt_1 (i := 44) rfl
theorem zw_1_45 : (Cond.fieldLink "ShellSum$Reckoner" 18 "ShellSum$Reckoner" "names" "LShellSum$Names;") ∈ zw := zw_m (zt_1 (i := 45) rfl) rfl
theorem zw_1_46 : (Cond.fieldLinkNest "ShellSum" 21 "ShellSum$Reckoner" "names" "LShellSum$Names;" "ShellSum") ∈ lw_tbl := zt_1 (i := 46) rfl
theorem zw_1_47 : (Cond.fieldLink "ShellSum$Reckoner" 22 "ShellSum$Reckoner" "waitingSigns" "[I") ∈ zw := zw_m (zt_1 (i := 47) rfl) rfl
theorem zw_1_48 : (Cond.fieldLink "ShellSum$Reckoner" 26 "ShellSum$Reckoner" "waitingFirsts" "[J") ∈ zw := zw_m (zt_1 (i := 48) rfl) rfl
theorem zw_1_49 : (Cond.fieldLink "ShellSum$Reckoner" 30 "ShellSum$Reckoner" "waiting" "I") ∈ zw := zw_m (zt_1 (i := 49) rfl) rfl
theorem zw_1_50 : (Cond.fieldLink "ShellSum$Reckoner" 34 "ShellSum$Reckoner" "length" "I") ∈ zw := zw_m (zt_1 (i := 50) rfl) rfl
theorem zw_1_51 : (Cond.fieldLink "ShellSum$Reckoner" 37 "ShellSum$Reckoner" "place" "I") ∈ zw := zw_m (zt_1 (i := 51) rfl) rfl
theorem zw_1_52 : (Cond.fieldLink "ShellSum$Reckoner" 40 "ShellSum$Reckoner" "unneeded" "I") ∈ zw := zw_m (zt_1 (i := 52) rfl) rfl
theorem zw_1_53 : (Cond.fieldLink "ShellSum$Reckoner" 43 "ShellSum$Reckoner" "result" "J") ∈ zw := zw_m (zt_1 (i := 53) rfl) rfl
theorem zw_1_54 : (Cond.fieldLinkNest "ShellSum" 61 "ShellSum$Reckoner" "result" "J" "ShellSum") ∈ lw_tbl := zt_1 (i := 54) rfl
theorem zw_1_55 : (Cond.laysFinal "ShellSum$Reckoner" "ShellSum$Reckoner" "row" "[C") ∈ zw := zw_m (zt_1 (i := 55) rfl) rfl
theorem zw_1_57 : (Cond.laysFinal "ShellSum$Reckoner" "ShellSum$Reckoner" "names" "LShellSum$Names;") ∈ zw := zw_m (zt_1 (i := 57) rfl) rfl
theorem zw_1_59 : (Cond.laysFinal "ShellSum$Reckoner" "ShellSum$Reckoner" "waitingSigns" "[I") ∈ zw := zw_m (zt_1 (i := 59) rfl) rfl
theorem zw_1_61 : (Cond.laysFinal "ShellSum$Reckoner" "ShellSum$Reckoner" "waitingFirsts" "[J") ∈ zw := zw_m (zt_1 (i := 61) rfl) rfl
theorem zw_1_63 : (Cond.lays "ShellSum$Reckoner" "ShellSum$Reckoner" "waiting" "I") ∈ zw := zw_m (zt_1 (i := 63) rfl) rfl
theorem zw_1_65 : (Cond.lays "ShellSum$Reckoner" "ShellSum$Reckoner" "length" "I") ∈ zw := zw_m (zt_1 (i := 65) rfl) rfl
theorem zw_1_67 : (Cond.lays "ShellSum$Reckoner" "ShellSum$Reckoner" "place" "I") ∈ zw := zw_m (zt_1 (i := 67) rfl) rfl
theorem zw_1_69 : (Cond.lays "ShellSum$Reckoner" "ShellSum$Reckoner" "unneeded" "I") ∈ zw := zw_m (zt_1 (i := 69) rfl) rfl
theorem zw_1_71 : (Cond.lays "ShellSum$Reckoner" "ShellSum$Reckoner" "result" "J") ∈ zw := zw_m (zt_1 (i := 71) rfl) rfl
theorem zw_1_74 : (Cond.arrayClass .int) ∈ zw := zw_m (zt_1 (i := 74) rfl) rfl
theorem zw_1_75 : (Cond.arrayClass .long) ∈ zw := zw_m (zt_1 (i := 75) rfl) rfl
theorem zw_1_76 : (Cond.fieldLink "ShellSum" 12 "ShellSum" "reckoner" "LShellSum$Reckoner;") ∈ zw := zw_m (zt_1 (i := 76) rfl) rfl
theorem zw_1_77 : (Cond.fieldLink "ShellSum" 20 "ShellSum" "row" "[C") ∈ zw := zw_m (zt_1 (i := 77) rfl) rfl
theorem zw_1_78 : (Cond.fieldLink "ShellSum" 25 "ShellSum" "names" "LShellSum$Names;") ∈ zw := zw_m (zt_1 (i := 78) rfl) rfl
theorem zw_1_79 : (Cond.fieldLink "ShellSum" 26 "ShellSum" "length" "I") ∈ zw := zw_m (zt_1 (i := 79) rfl) rfl
theorem zw_1_80 : (Cond.fieldLink "ShellSum" 30 "ShellSum" "hand" "[C") ∈ zw := zw_m (zt_1 (i := 80) rfl) rfl
theorem zw_1_81 : (Cond.fieldLink "ShellSum" 33 "ShellSum" "handLength" "I") ∈ zw := zw_m (zt_1 (i := 81) rfl) rfl
theorem zw_1_82 : (Cond.fieldLink "ShellSum" 36 "ShellSum" "right" "I") ∈ zw := zw_m (zt_1 (i := 82) rfl) rfl
theorem zw_1_83 : (Cond.fieldLink "ShellSum" 39 "ShellSum" "wrong" "I") ∈ zw := zw_m (zt_1 (i := 83) rfl) rfl
theorem zw_1_84 : (Cond.laysFinal "ShellSum" "ShellSum" "reckoner" "LShellSum$Reckoner;") ∈ zw := zw_m (zt_1 (i := 84) rfl) rfl
theorem zw_1_86 : (Cond.laysFinal "ShellSum" "ShellSum" "row" "[C") ∈ zw := zw_m (zt_1 (i := 86) rfl) rfl
theorem zw_1_88 : (Cond.laysFinal "ShellSum" "ShellSum" "names" "LShellSum$Names;") ∈ zw := zw_m (zt_1 (i := 88) rfl) rfl
theorem zw_1_90 : (Cond.lays "ShellSum" "ShellSum" "length" "I") ∈ zw := zw_m (zt_1 (i := 90) rfl) rfl
theorem zw_1_92 : (Cond.laysFinal "ShellSum" "ShellSum" "hand" "[C") ∈ zw := zw_m (zt_1 (i := 92) rfl) rfl
theorem zw_1_94 : (Cond.lays "ShellSum" "ShellSum" "handLength" "I") ∈ zw := zw_m (zt_1 (i := 94) rfl) rfl
theorem zw_1_96 : (Cond.lays "ShellSum" "ShellSum" "right" "I") ∈ zw := zw_m (zt_1 (i := 96) rfl) rfl
theorem zw_1_98 : (Cond.lays "ShellSum" "ShellSum" "wrong" "I") ∈ zw := zw_m (zt_1 (i := 98) rfl) rfl
theorem zw_1_101 : (Cond.methodLink "ShellSumLaw" 21 yA_text) ∈ zw := zw_m (zt_1 (i := 101) rfl) rfl
theorem zw_1_102 : (Cond.instanceMethod yA_text) ∈ zw := zw_m (zt_1 (i := 102) rfl) rfl
theorem zw_1_103 : (Cond.selects "ShellSum" yA_text yA_text) ∈ zw := zw_m (zt_1 (i := 103) rfl) rfl
theorem zw_1_104 : (Cond.code yA_text prog_1_method_2_code 4 (some .int)) ∈ zw := zw_m (zt_1 (i := 104) rfl) rfl
theorem zw_1_105 : (Cond.methodLink "ShellSum" 42 yA_areOfText) ∈ zw := zw_m (zt_1 (i := 105) rfl) rfl
theorem zw_1_106 : (Cond.static yA_areOfText) ∈ zw := zw_m (zt_1 (i := 106) rfl) rfl
theorem zw_1_107 : (Cond.code yA_areOfText prog_1_method_10_code 5 (some .boolean)) ∈ zw := zw_m (zt_1 (i := 107) rfl) rfl
theorem zw_1_108 : (Cond.methodLink "ShellSum" 90 yA_byteAt) ∈ zw := zw_m (zt_1 (i := 108) rfl) rfl
theorem zw_1_109 : (Cond.static yA_byteAt) ∈ zw := zw_m (zt_1 (i := 109) rfl) rfl
theorem zw_1_110 : (Cond.code yA_byteAt prog_1_method_9_code 4 (some .char)) ∈ zw := zw_m (zt_1 (i := 110) rfl) rfl
theorem zw_1_111 : (Cond.constantLong "ShellSum" 88 (255)) ∈ zw := zw_m (zt_1 (i := 111) rfl) rfl
theorem zw_1_112 : (Cond.methodLink "ShellSum" 94 yA_isBlank) ∈ zw := zw_m (zt_1 (i := 112) rfl) rfl
theorem zw_1_113 : (Cond.static yA_isBlank) ∈ zw := zw_m (zt_1 (i := 113) rfl) rfl
theorem zw_1_114 : (Cond.code yA_isBlank prog_1_method_13_code 1 (some .boolean)) ∈ zw := zw_m (zt_1 (i := 114) rfl) rfl
theorem zw_1_115 : (Cond.methodLink "ShellSum" 46 yA_unpack) ∈ zw := zw_m (zt_1 (i := 115) rfl) rfl
theorem zw_1_116 : (Cond.static yA_unpack) ∈ zw := zw_m (zt_1 (i := 116) rfl) rfl
theorem zw_1_117 : (Cond.code yA_unpack prog_1_method_12_code 6 none) ∈ zw := zw_m (zt_1 (i := 117) rfl) rfl
theorem zw_1_118 : (Cond.methodLink "ShellSumLaw" 36 yA_name) ∈ zw := zw_m (zt_1 (i := 118) rfl) rfl
theorem zw_1_119 : (Cond.instanceMethod yA_name) ∈ zw := zw_m (zt_1 (i := 119) rfl) rfl
theorem zw_1_120 : (Cond.selects "ShellSum" yA_name yA_name) ∈ zw := zw_m (zt_1 (i := 120) rfl) rfl
theorem zw_1_121 : (Cond.code yA_name prog_1_method_4_code 4 (some .boolean)) ∈ zw := zw_m (zt_1 (i := 121) rfl) rfl
theorem zw_1_122 : (Cond.methodLink "ShellSum" 65 yA_areName) ∈ zw := zw_m (zt_1 (i := 122) rfl) rfl
theorem zw_1_123 : (Cond.static yA_areName) ∈ zw := zw_m (zt_1 (i := 123) rfl) rfl
theorem zw_1_124 : (Cond.code yA_areName prog_1_method_11_code 4 (some .boolean)) ∈ zw := zw_m (zt_1 (i := 124) rfl) rfl
theorem zw_1_125 : (Cond.methodLink "ShellSum" 98 yA_startsName) ∈ zw := zw_m (zt_1 (i := 125) rfl) rfl
theorem zw_1_126 : (Cond.static yA_startsName) ∈ zw := zw_m (zt_1 (i := 126) rfl) rfl
theorem zw_1_127 : (Cond.code yA_startsName prog_1_method_15_code 1 (some .boolean)) ∈ zw := zw_m (zt_1 (i := 127) rfl) rfl
theorem zw_1_128 : (Cond.methodLink "ShellSum" 101 yA_isOfWord) ∈ zw := zw_m (zt_1 (i := 128) rfl) rfl
theorem zw_1_129 : (Cond.static yA_isOfWord) ∈ zw := zw_m (zt_1 (i := 129) rfl) rfl
theorem zw_1_130 : (Cond.code yA_isOfWord prog_1_method_16_code 1 (some .boolean)) ∈ zw := zw_m (zt_1 (i := 130) rfl) rfl
theorem zw_1_131 : (Cond.methodLink "ShellSum" 104 yA_isDigit) ∈ zw := zw_m (zt_1 (i := 131) rfl) rfl
theorem zw_1_132 : (Cond.static yA_isDigit) ∈ zw := zw_m (zt_1 (i := 132) rfl) rfl
theorem zw_1_133 : (Cond.code yA_isDigit prog_1_method_14_code 1 (some .boolean)) ∈ zw := zw_m (zt_1 (i := 133) rfl) rfl
theorem zw_1_134 : (Cond.methodLink "ShellSumLaw" 41 yA_put) ∈ zw := zw_m (zt_1 (i := 134) rfl) rfl
theorem zw_1_135 : (Cond.instanceMethod yA_put) ∈ zw := zw_m (zt_1 (i := 135) rfl) rfl
theorem zw_1_136 : (Cond.selects "ShellSum" yA_put yA_put) ∈ zw := zw_m (zt_1 (i := 136) rfl) rfl
theorem zw_1_137 : (Cond.code yA_put prog_1_method_5_code 5 (some .boolean)) ∈ zw := zw_m (zt_1 (i := 137) rfl) rfl
theorem zw_1_138 : (Cond.methodLinkNest "ShellSum" 68 yS_findOrAdd "ShellSum") ∈ lw_tbl := zt_1 (i := 138) rfl
theorem zw_1_140 : (Cond.instanceMethod yS_findOrAdd) ∈ zw := zw_m (zt_1 (i := 140) rfl) rfl
theorem zw_1_141 : (Cond.code yS_findOrAdd prog_3_method_3_code 6 (some (.object "ShellSum$Named"))) ∈ zw := zw_m (zt_1 (i := 141) rfl) rfl
theorem zw_1_142 : (Cond.methodLink "ShellSum$Names" 25 yS_find) ∈ zw := zw_m (zt_1 (i := 142) rfl) rfl
theorem zw_1_144 : (Cond.instanceMethod yS_find) ∈ zw := zw_m (zt_1 (i := 144) rfl) rfl
theorem zw_1_145 : (Cond.code yS_find prog_3_method_2_code 6 (some (.object "ShellSum$Named"))) ∈ zw := zw_m (zt_1 (i := 145) rfl) rfl
theorem zw_1_146 : (Cond.methodLinkNest "ShellSum$Names" 21 yN_isCalled "ShellSum") ∈ lw_tbl := zt_1 (i := 146) rfl
theorem zw_1_148 : (Cond.instanceMethod yN_isCalled) ∈ zw := zw_m (zt_1 (i := 148) rfl) rfl
theorem zw_1_149 : (Cond.instantiable "ShellSum$Named" 3) ∈ zw := zw_m (zt_1 (i := 149) rfl) rfl
theorem zw_1_150 : (Cond.code yN_isCalled prog_2_method_2_code 5 (some .boolean)) ∈ zw := zw_m (zt_1 (i := 150) rfl) rfl
theorem zw_1_151 : (Cond.methodLinkNest "ShellSum$Names" 29 yN_init "ShellSum") ∈ lw_tbl := zt_1 (i := 151) rfl
theorem zw_1_152 : (Cond.instanceMethod yN_init) ∈ zw := zw_m (zt_1 (i := 152) rfl) rfl
theorem zw_1_153 : (Cond.code yN_init prog_2_method_1_code 5 none) ∈ zw := zw_m (zt_1 (i := 153) rfl) rfl
theorem zw_1_154 : (Cond.methodLink "ShellSum$Named" 3 (⟨"java/lang/Object", "<init>", "()V"⟩ : MethodName)) ∈ zw := zw_m (zt_1 (i := 154) rfl) rfl
theorem zw_1_155 : (Cond.methodLink "ShellSum$Named" 19 (⟨"java/lang/Math", "max", "(II)I"⟩ : MethodName)) ∈ zw := zw_m (zt_1 (i := 155) rfl) rfl
theorem zw_1_156 : (Cond.static (⟨"java/lang/Math", "max", "(II)I"⟩ : MethodName)) ∈ zw := zw_m (zt_1 (i := 156) rfl) rfl
theorem zw_1_157 : (Cond.code (⟨"java/lang/Math", "max", "(II)I"⟩ : MethodName) prog_10_method_65_code 2 (some .int)) ∈ zw := zw_m (zt_1 (i := 157) rfl) rfl
theorem zw_1_158 : (Cond.fieldLink "ShellSum$Named" 25 "ShellSum$Named" "letters" "[C") ∈ zw := zw_m (zt_1 (i := 158) rfl) rfl
theorem zw_1_159 : (Cond.fieldLink "ShellSum$Named" 9 "ShellSum$Named" "row" "[C") ∈ zw := zw_m (zt_1 (i := 159) rfl) rfl
theorem zw_1_160 : (Cond.fieldLinkNest "ShellSum" 74 "ShellSum$Named" "row" "[C" "ShellSum") ∈ lw_tbl := zt_1 (i := 160) rfl
theorem zw_1_161 : (Cond.fieldLinkNest "ShellSum$Reckoner" 139 "ShellSum$Named" "row" "[C" "ShellSum") ∈ lw_tbl := zt_1 (i := 161) rfl
theorem zw_1_162 : (Cond.fieldLink "ShellSum$Named" 15 "ShellSum$Named" "length" "I") ∈ zw := zw_m (zt_1 (i := 162) rfl) rfl
theorem zw_1_163 : (Cond.fieldLinkNest "ShellSum" 77 "ShellSum$Named" "length" "I" "ShellSum") ∈ lw_tbl := zt_1 (i := 163) rfl
theorem zw_1_164 : (Cond.fieldLinkNest "ShellSum$Reckoner" 136 "ShellSum$Named" "length" "I" "ShellSum") ∈ lw_tbl := zt_1 (i := 164) rfl
theorem zw_1_165 : (Cond.laysFinal "ShellSum$Named" "ShellSum$Named" "letters" "[C") ∈ zw := zw_m (zt_1 (i := 165) rfl) rfl
theorem zw_1_167 : (Cond.laysFinal "ShellSum$Named" "ShellSum$Named" "row" "[C") ∈ zw := zw_m (zt_1 (i := 167) rfl) rfl
theorem zw_1_169 : (Cond.lays "ShellSum$Named" "ShellSum$Named" "length" "I") ∈ zw := zw_m (zt_1 (i := 169) rfl) rfl
theorem zw_1_172 : (Cond.methodLink "ShellSumLaw" 45 yA_drop) ∈ zw := zw_m (zt_1 (i := 172) rfl) rfl
theorem zw_1_173 : (Cond.instanceMethod yA_drop) ∈ zw := zw_m (zt_1 (i := 173) rfl) rfl
theorem zw_1_174 : (Cond.selects "ShellSum" yA_drop yA_drop) ∈ zw := zw_m (zt_1 (i := 174) rfl) rfl
theorem zw_1_175 : (Cond.code yA_drop prog_1_method_6_code 1 (some .boolean)) ∈ zw := zw_m (zt_1 (i := 175) rfl) rfl
theorem zw_1_176 : (Cond.methodLinkNest "ShellSum" 78 yS_remove "ShellSum") ∈ lw_tbl := zt_1 (i := 176) rfl
theorem zw_1_178 : (Cond.instanceMethod yS_remove) ∈ zw := zw_m (zt_1 (i := 178) rfl) rfl
theorem zw_1_179 : (Cond.code yS_remove prog_3_method_4_code 6 (some .boolean)) ∈ zw := zw_m (zt_1 (i := 179) rfl) rfl
theorem zw_1_180 : (Cond.methodLink "ShellSumLaw" 50 yA_letter) ∈ zw := zw_m (zt_1 (i := 180) rfl) rfl
theorem zw_1_181 : (Cond.instanceMethod yA_letter) ∈ zw := zw_m (zt_1 (i := 181) rfl) rfl
theorem zw_1_182 : (Cond.selects "ShellSum" yA_letter yA_letter) ∈ zw := zw_m (zt_1 (i := 182) rfl) rfl
theorem zw_1_183 : (Cond.code yA_letter prog_1_method_7_code 3 (some .int)) ∈ zw := zw_m (zt_1 (i := 183) rfl) rfl
theorem zw_1_184 : (Cond.methodLinkNest "ShellSum" 82 yS_find "ShellSum") ∈ lw_tbl := zt_1 (i := 184) rfl
theorem zw_1_185 : (Cond.methodLink "ShellSumLaw" 55 yA_count) ∈ zw := zw_m (zt_1 (i := 185) rfl) rfl
theorem zw_1_186 : (Cond.instanceMethod yA_count) ∈ zw := zw_m (zt_1 (i := 186) rfl) rfl
theorem zw_1_187 : (Cond.selects "ShellSum" yA_count yA_count) ∈ zw := zw_m (zt_1 (i := 187) rfl) rfl
theorem zw_1_188 : (Cond.code yA_count prog_1_method_8_code 3 (some .int)) ∈ zw := zw_m (zt_1 (i := 188) rfl) rfl
theorem zw_1_189 : (Cond.methodLink "ShellSumLaw" 26 yL_value) ∈ zw := zw_m (zt_1 (i := 189) rfl) rfl
theorem zw_1_190 : (Cond.static yL_value) ∈ zw := zw_m (zt_1 (i := 190) rfl) rfl
theorem zw_1_191 : (Cond.codeWith yL_value method_3_code 3 (some .int) [(0, 7, 10, 13)]) ∈ zw := zw_m (zt_1 (i := 191) rfl) rfl
theorem zw_1_192 : (Cond.classLink "ShellSumLaw" 13 "java/lang/IllegalStateException") ∈ zw := zw_m (zt_1 (i := 192) rfl) rfl
theorem zw_1_193 : (Cond.methodLink "ShellSumLaw" 7 yA_value) ∈ zw := zw_m (zt_1 (i := 193) rfl) rfl
theorem zw_1_194 : (Cond.instanceMethod yA_value) ∈ zw := zw_m (zt_1 (i := 194) rfl) rfl
theorem zw_1_195 : (Cond.selects "ShellSum" yA_value yA_value) ∈ zw := zw_m (zt_1 (i := 195) rfl) rfl
theorem zw_1_196 : (Cond.code yA_value prog_1_method_3_code 2 (some .long)) ∈ zw := zw_m (zt_1 (i := 196) rfl) rfl
theorem zw_1_197 : (Cond.methodLinkNest "ShellSum" 50 yR_manages "ShellSum") ∈ lw_tbl := zt_1 (i := 197) rfl
theorem zw_1_199 : (Cond.instanceMethod yR_manages) ∈ zw := zw_m (zt_1 (i := 199) rfl) rfl
theorem zw_1_200 : (Cond.codeWith yR_manages prog_4_method_2_code 3 (some .boolean) [(42, 51, 54, 54)]) ∈ zw := zw_m (zt_1 (i := 200) rfl) rfl
theorem zw_1_201 : (Cond.classLink "ShellSum$Reckoner" 54 "java/lang/IllegalStateException") ∈ zw := zw_m (zt_1 (i := 201) rfl) rfl
theorem zw_1_202 : (Cond.methodLink "ShellSum$Reckoner" 47 yR_skipBlanks) ∈ zw := zw_m (zt_1 (i := 202) rfl) rfl
theorem zw_1_204 : (Cond.instanceMethod yR_skipBlanks) ∈ zw := zw_m (zt_1 (i := 204) rfl) rfl
theorem zw_1_205 : (Cond.code yR_skipBlanks prog_4_method_18_code 2 none) ∈ zw := zw_m (zt_1 (i := 205) rfl) rfl
theorem zw_1_206 : (Cond.methodLink "ShellSum$Reckoner" 56 yR_charAt) ∈ zw := zw_m (zt_1 (i := 206) rfl) rfl
theorem zw_1_208 : (Cond.instanceMethod yR_charAt) ∈ zw := zw_m (zt_1 (i := 208) rfl) rfl
theorem zw_1_209 : (Cond.code yR_charAt prog_4_method_20_code 2 (some .char)) ∈ zw := zw_m (zt_1 (i := 209) rfl) rfl
theorem zw_1_210 : (Cond.methodLinkNest "ShellSum$Reckoner" 168 yA_isBlank "ShellSum") ∈ lw_tbl := zt_1 (i := 210) rfl
theorem zw_1_211 : (Cond.methodLink "ShellSum$Reckoner" 50 yR_expression) ∈ zw := zw_m (zt_1 (i := 211) rfl) rfl
theorem zw_1_213 : (Cond.instanceMethod yR_expression) ∈ zw := zw_m (zt_1 (i := 213) rfl) rfl
theorem zw_1_214 : (Cond.code yR_expression prog_4_method_3_code 7 (some .long)) ∈ zw := zw_m (zt_1 (i := 214) rfl) rfl
theorem zw_1_215 : (Cond.methodLinkNest "ShellSum$Reckoner" 60 yA_startsName "ShellSum") ∈ lw_tbl := zt_1 (i := 215) rfl
theorem zw_1_216 : (Cond.methodLink "ShellSum$Reckoner" 64 yR_wordEnd) ∈ zw := zw_m (zt_1 (i := 216) rfl) rfl
theorem zw_1_218 : (Cond.instanceMethod yR_wordEnd) ∈ zw := zw_m (zt_1 (i := 218) rfl) rfl
theorem zw_1_219 : (Cond.code yR_wordEnd prog_4_method_19_code 3 (some .int)) ∈ zw := zw_m (zt_1 (i := 219) rfl) rfl
theorem zw_1_220 : (Cond.methodLinkNest "ShellSum$Reckoner" 171 yA_isOfWord "ShellSum") ∈ lw_tbl := zt_1 (i := 220) rfl
theorem zw_1_221 : (Cond.methodLink "ShellSum$Reckoner" 68 yR_assignmentSign) ∈ zw := zw_m (zt_1 (i := 221) rfl) rfl
theorem zw_1_223 : (Cond.instanceMethod yR_assignmentSign) ∈ zw := zw_m (zt_1 (i := 223) rfl) rfl
theorem zw_1_224 : (Cond.code yR_assignmentSign prog_4_method_15_code 4 (some .int)) ∈ zw := zw_m (zt_1 (i := 224) rfl) rfl
theorem zw_1_225 : (Cond.methodLink "ShellSum$Reckoner" 162 yR_isShift) ∈ zw := zw_m (zt_1 (i := 225) rfl) rfl
theorem zw_1_226 : (Cond.static yR_isShift) ∈ zw := zw_m (zt_1 (i := 226) rfl) rfl
theorem zw_1_227 : (Cond.code yR_isShift prog_4_method_16_code 1 (some .boolean)) ∈ zw := zw_m (zt_1 (i := 227) rfl) rfl
theorem zw_1_228 : (Cond.methodLinkNest "ShellSum$Reckoner" 95 yG_rankOf "ShellSum") ∈ lw_tbl := zt_1 (i := 228) rfl
theorem zw_1_229 : (Cond.static yG_rankOf) ∈ zw := zw_m (zt_1 (i := 229) rfl) rfl
theorem zw_1_230 : (Cond.code yG_rankOf prog_5_method_2_code 1 (some .int)) ∈ zw := zw_m (zt_1 (i := 230) rfl) rfl
theorem zw_1_231 : (Cond.methodLink "ShellSum$Reckoner" 71 yR_deeper) ∈ zw := zw_m (zt_1 (i := 231) rfl) rfl
theorem zw_1_232 : (Cond.static yR_deeper) ∈ zw := zw_m (zt_1 (i := 232) rfl) rfl
theorem zw_1_233 : (Cond.code yR_deeper prog_4_method_7_code 1 (some .int)) ∈ zw := zw_m (zt_1 (i := 233) rfl) rfl
theorem zw_1_234 : (Cond.instantiable "java/lang/IllegalStateException" 6) ∈ zw := zw_m (zt_1 (i := 234) rfl) rfl
theorem zw_1_235 : (Cond.castable "java/lang/IllegalStateException" "java/lang/IllegalStateException") ∈ lw_tbl := zt_1 (i := 235) rfl
theorem zw_1_236 : (Cond.declares (⟨"java/lang/RuntimeException", "<init>", "()V"⟩ : MethodName)) ∈ lw_tbl := zt_1 (i := 236) rfl
theorem zw_1_237 : (Cond.declares (⟨"java/lang/RuntimeException", "<init>", "(Ljava/lang/String;)V"⟩ : MethodName)) ∈ lw_tbl := zt_1 (i := 237) rfl
theorem zw_1_238 : (Cond.declares (⟨"java/lang/Exception", "<init>", "()V"⟩ : MethodName)) ∈ lw_tbl := zt_1 (i := 238) rfl
theorem zw_1_239 : (Cond.declares (⟨"java/lang/Exception", "<init>", "(Ljava/lang/String;)V"⟩ : MethodName)) ∈ lw_tbl := zt_1 (i := 239) rfl
theorem zw_2_0 : (Cond.declares (⟨"java/lang/Throwable", "<init>", "()V"⟩ : MethodName)) ∈ lw_tbl := zt_2 (i := 0) rfl
theorem zw_2_1 : (Cond.declares (⟨"java/lang/Throwable", "<init>", "(Ljava/lang/String;)V"⟩ : MethodName)) ∈ lw_tbl := zt_2 (i := 1) rfl
theorem zw_2_2 : (Cond.selects "java/lang/IllegalStateException" (⟨"java/lang/Throwable", "fillInStackTrace", "(I)Ljava/lang/Throwable;"⟩ : MethodName) (⟨"java/lang/Throwable", "fillInStackTrace", "(I)Ljava/lang/Throwable;"⟩ : MethodName)) ∈ zw := zw_m (zt_2 (i := 2) rfl) rfl
theorem zw_2_3 : (Cond.selects "java/lang/IllegalStateException" (⟨"java/lang/Throwable", "fillInStackTrace", "()Ljava/lang/Throwable;"⟩ : MethodName) (⟨"java/lang/Throwable", "fillInStackTrace", "()Ljava/lang/Throwable;"⟩ : MethodName)) ∈ zw := zw_m (zt_2 (i := 3) rfl) rfl
theorem zw_2_4 : (Cond.lays "java/lang/IllegalStateException" "java/lang/Throwable" "cause" "Ljava/lang/Throwable;") ∈ zw := zw_m (zt_2 (i := 4) rfl) rfl
theorem zw_2_5 : (Cond.lays "java/lang/Throwable" "java/lang/Throwable" "cause" "Ljava/lang/Throwable;") ∈ zw := zw_m (zt_2 (i := 5) rfl) rfl
theorem zw_2_6 : (Cond.lays "java/lang/IllegalStateException" "java/lang/Throwable" "stackTrace" "[Ljava/lang/StackTraceElement;") ∈ zw := zw_m (zt_2 (i := 6) rfl) rfl
theorem zw_2_7 : (Cond.lays "java/lang/Throwable" "java/lang/Throwable" "stackTrace" "[Ljava/lang/StackTraceElement;") ∈ zw := zw_m (zt_2 (i := 7) rfl) rfl
theorem zw_2_8 : (Cond.lays "java/lang/IllegalStateException" "java/lang/Throwable" "suppressedExceptions" "Ljava/util/List;") ∈ zw := zw_m (zt_2 (i := 8) rfl) rfl
theorem zw_2_9 : (Cond.lays "java/lang/Throwable" "java/lang/Throwable" "suppressedExceptions" "Ljava/util/List;") ∈ zw := zw_m (zt_2 (i := 9) rfl) rfl
theorem zw_2_10 : (Cond.lays "java/lang/IllegalStateException" "java/lang/Throwable" "detailMessage" "Ljava/lang/String;") ∈ zw := zw_m (zt_2 (i := 10) rfl) rfl
theorem zw_2_11 : (Cond.lays "java/lang/Throwable" "java/lang/Throwable" "detailMessage" "Ljava/lang/String;") ∈ zw := zw_m (zt_2 (i := 11) rfl) rfl
theorem zw_2_12 : (Cond.lays "java/lang/IllegalStateException" "java/lang/Throwable" "backtrace" "Ljava/lang/Object;") ∈ zw := zw_m (zt_2 (i := 12) rfl) rfl
theorem zw_2_13 : (Cond.lays "java/lang/Throwable" "java/lang/Throwable" "backtrace" "Ljava/lang/Object;") ∈ zw := zw_m (zt_2 (i := 13) rfl) rfl
theorem zw_2_14 : (Cond.fieldLink "java/lang/Throwable" 198 "java/lang/Throwable" "backtrace" "Ljava/lang/Object;") ∈ zw := zw_m (zt_2 (i := 14) rfl) rfl
theorem zw_2_16 : (Cond.instanceMethod (⟨"java/lang/Throwable", "<init>", "()V"⟩ : MethodName)) ∈ zw := zw_m (zt_2 (i := 16) rfl) rfl
theorem zw_2_17 : (Cond.code (⟨"java/lang/Throwable", "<init>", "()V"⟩ : MethodName) prog_13_method_1_code 1 none) ∈ zw := zw_m (zt_2 (i := 17) rfl) rfl
theorem zw_2_18 : (Cond.methodLink "java/lang/Throwable" 1 (⟨"java/lang/Object", "<init>", "()V"⟩ : MethodName)) ∈ zw := zw_m (zt_2 (i := 18) rfl) rfl
theorem zw_2_19 : (Cond.fieldLink "java/lang/Throwable" 13 "java/lang/Throwable" "UNASSIGNED_STACK" "[Ljava/lang/StackTraceElement;") ∈ zw := zw_m (zt_2 (i := 19) rfl) rfl
theorem zw_2_20 : (Cond.laysStatic "java/lang/Throwable" "UNASSIGNED_STACK" "[Ljava/lang/StackTraceElement;") ∈ lw_tbl := zt_2 (i := 20) rfl
theorem zw_2_21 : (Cond.fieldLink "java/lang/Throwable" 20 "java/lang/Throwable" "SUPPRESSED_SENTINEL" "Ljava/util/List;") ∈ zw := zw_m (zt_2 (i := 21) rfl) rfl
theorem zw_2_22 : (Cond.laysStatic "java/lang/Throwable" "SUPPRESSED_SENTINEL" "Ljava/util/List;") ∈ lw_tbl := zt_2 (i := 22) rfl
theorem zw_2_23 : (Cond.methodLink "java/lang/Throwable" 27 (⟨"java/lang/Throwable", "fillInStackTrace", "()Ljava/lang/Throwable;"⟩ : MethodName)) ∈ zw := zw_m (zt_2 (i := 23) rfl) rfl
theorem zw_2_24 : (Cond.instanceMethod (⟨"java/lang/Throwable", "fillInStackTrace", "()Ljava/lang/Throwable;"⟩ : MethodName)) ∈ zw := zw_m (zt_2 (i := 24) rfl) rfl
theorem zw_2_25 : (Cond.sameMethod "java/lang/Throwable" "java/lang/Throwable" "fillInStackTrace" "()Ljava/lang/Throwable;") ∈ lw_tbl := zt_2 (i := 25) rfl
theorem zw_2_26 : (Cond.codeSync (⟨"java/lang/Throwable", "fillInStackTrace", "()Ljava/lang/Throwable;"⟩ : MethodName) prog_13_method_18_code 1 (some (.object "java/lang/Throwable"))) ∈ lw_tbl := zt_2 (i := 26) rfl
theorem zw_2_27 : (Cond.methodLink "java/lang/Throwable" 202 (⟨"java/lang/Throwable", "fillInStackTrace", "(I)Ljava/lang/Throwable;"⟩ : MethodName)) ∈ zw := zw_m (zt_2 (i := 27) rfl) rfl
theorem zw_2_29 : (Cond.instanceMethod (⟨"java/lang/Throwable", "fillInStackTrace", "(I)Ljava/lang/Throwable;"⟩ : MethodName)) ∈ zw := zw_m (zt_2 (i := 29) rfl) rfl
theorem zw_2_30 : (Cond.instantiable "java/lang/Throwable" 6) ∈ zw := zw_m (zt_2 (i := 30) rfl) rfl
theorem zw_2_31 : (Cond.native (⟨"java/lang/Throwable", "fillInStackTrace", "(I)Ljava/lang/Throwable;"⟩ : MethodName)) ∈ lw_tbl := zt_2 (i := 31) rfl
theorem zw_2_32 : (Cond.stringRef "ShellSum$Reckoner" 114 "too much stands within one another") ∈ lw_tbl := zt_2 (i := 32) rfl
theorem zw_2_33 : (Cond.methodLink "ShellSum$Reckoner" 116 (⟨"java/lang/IllegalStateException", "<init>", "(Ljava/lang/String;)V"⟩ : MethodName)) ∈ zw := zw_m (zt_2 (i := 33) rfl) rfl
theorem zw_2_34 : (Cond.instanceMethod (⟨"java/lang/IllegalStateException", "<init>", "(Ljava/lang/String;)V"⟩ : MethodName)) ∈ zw := zw_m (zt_2 (i := 34) rfl) rfl
theorem zw_2_35 : (Cond.code (⟨"java/lang/IllegalStateException", "<init>", "(Ljava/lang/String;)V"⟩ : MethodName) prog_9_method_2_code 2 none) ∈ zw := zw_m (zt_2 (i := 35) rfl) rfl
theorem zw_2_36 : (Cond.methodLink "java/lang/IllegalStateException" 7 (⟨"java/lang/RuntimeException", "<init>", "(Ljava/lang/String;)V"⟩ : MethodName)) ∈ zw := zw_m (zt_2 (i := 36) rfl) rfl
theorem zw_2_37 : (Cond.instanceMethod (⟨"java/lang/RuntimeException", "<init>", "(Ljava/lang/String;)V"⟩ : MethodName)) ∈ zw := zw_m (zt_2 (i := 37) rfl) rfl
theorem zw_2_38 : (Cond.code (⟨"java/lang/RuntimeException", "<init>", "(Ljava/lang/String;)V"⟩ : MethodName) prog_11_method_2_code 2 none) ∈ zw := zw_m (zt_2 (i := 38) rfl) rfl
theorem zw_2_39 : (Cond.methodLink "java/lang/RuntimeException" 7 (⟨"java/lang/Exception", "<init>", "(Ljava/lang/String;)V"⟩ : MethodName)) ∈ zw := zw_m (zt_2 (i := 39) rfl) rfl
theorem zw_2_40 : (Cond.instanceMethod (⟨"java/lang/Exception", "<init>", "(Ljava/lang/String;)V"⟩ : MethodName)) ∈ zw := zw_m (zt_2 (i := 40) rfl) rfl
theorem zw_2_41 : (Cond.code (⟨"java/lang/Exception", "<init>", "(Ljava/lang/String;)V"⟩ : MethodName) prog_8_method_2_code 2 none) ∈ zw := zw_m (zt_2 (i := 41) rfl) rfl
theorem zw_2_42 : (Cond.methodLink "java/lang/Exception" 7 (⟨"java/lang/Throwable", "<init>", "(Ljava/lang/String;)V"⟩ : MethodName)) ∈ zw := zw_m (zt_2 (i := 42) rfl) rfl
theorem zw_2_43 : (Cond.instanceMethod (⟨"java/lang/Throwable", "<init>", "(Ljava/lang/String;)V"⟩ : MethodName)) ∈ zw := zw_m (zt_2 (i := 43) rfl) rfl
theorem zw_2_44 : (Cond.code (⟨"java/lang/Throwable", "<init>", "(Ljava/lang/String;)V"⟩ : MethodName) prog_13_method_2_code 2 none) ∈ zw := zw_m (zt_2 (i := 44) rfl) rfl
theorem zw_2_45 : (Cond.fieldLink "java/lang/Throwable" 198 "java/lang/Throwable" "backtrace" "Ljava/lang/Object;") ∈ zw := zw_m (zt_2 (i := 45) rfl) rfl
theorem zw_2_46 : (Cond.fieldLink "java/lang/Throwable" 31 "java/lang/Throwable" "detailMessage" "Ljava/lang/String;") ∈ zw := zw_m (zt_2 (i := 46) rfl) rfl
theorem zw_2_47 : (Cond.fieldLink "java/lang/Throwable" 7 "java/lang/Throwable" "cause" "Ljava/lang/Throwable;") ∈ zw := zw_m (zt_2 (i := 47) rfl) rfl
theorem zw_2_48 : (Cond.fieldLink "java/lang/Throwable" 17 "java/lang/Throwable" "stackTrace" "[Ljava/lang/StackTraceElement;") ∈ zw := zw_m (zt_2 (i := 48) rfl) rfl
theorem zw_2_49 : (Cond.fieldLink "java/lang/Throwable" 24 "java/lang/Throwable" "suppressedExceptions" "Ljava/util/List;") ∈ zw := zw_m (zt_2 (i := 49) rfl) rfl
theorem zw_2_54 : (Cond.lays "java/lang/IllegalStateException" "java/lang/Throwable" "depth" "I") ∈ zw := zw_m (zt_2 (i := 54) rfl) rfl
theorem zw_2_58 : (Cond.arrayClass .byte) ∈ zw := zw_m (zt_2 (i := 58) rfl) rfl
theorem zw_2_59 : (Cond.methodLink "ShellSum$Reckoner" 75 yR_assign) ∈ zw := zw_m (zt_2 (i := 59) rfl) rfl
theorem zw_2_61 : (Cond.instanceMethod yR_assign) ∈ zw := zw_m (zt_2 (i := 61) rfl) rfl
theorem zw_2_62 : (Cond.code yR_assign prog_4_method_10_code 9 (some .long)) ∈ zw := zw_m (zt_2 (i := 62) rfl) rfl
theorem zw_2_63 : (Cond.methodLink "ShellSum$Reckoner" 128 yR_nameValue) ∈ zw := zw_m (zt_2 (i := 63) rfl) rfl
theorem zw_2_65 : (Cond.instanceMethod yR_nameValue) ∈ zw := zw_m (zt_2 (i := 65) rfl) rfl
theorem zw_2_66 : (Cond.code yR_nameValue prog_4_method_9_code 4 (some .long)) ∈ zw := zw_m (zt_2 (i := 66) rfl) rfl
theorem zw_2_67 : (Cond.methodLinkNest "ShellSum$Reckoner" 132 yS_find "ShellSum") ∈ lw_tbl := zt_2 (i := 67) rfl
theorem zw_2_68 : (Cond.methodLinkNest "ShellSum$Reckoner" 122 yA_numberIn "ShellSum") ∈ lw_tbl := zt_2 (i := 68) rfl
theorem zw_2_69 : (Cond.static yA_numberIn) ∈ zw := zw_m (zt_2 (i := 69) rfl) rfl
theorem zw_2_70 : (Cond.code yA_numberIn prog_1_method_17_code 9 (some .long)) ∈ zw := zw_m (zt_2 (i := 70) rfl) rfl
theorem zw_2_71 : (Cond.classLink "ShellSum" 54 "java/lang/IllegalStateException") ∈ zw := zw_m (zt_2 (i := 71) rfl) rfl
theorem zw_2_72 : (Cond.stringRef "ShellSum" 107 "a number has no digit") ∈ lw_tbl := zt_2 (i := 72) rfl
theorem zw_2_73 : (Cond.methodLink "ShellSum" 58 (⟨"java/lang/IllegalStateException", "<init>", "(Ljava/lang/String;)V"⟩ : MethodName)) ∈ zw := zw_m (zt_2 (i := 73) rfl) rfl
theorem zw_2_74 : (Cond.methodLink "ShellSum" 109 yA_baseOf) ∈ zw := zw_m (zt_2 (i := 74) rfl) rfl
theorem zw_2_75 : (Cond.static yA_baseOf) ∈ zw := zw_m (zt_2 (i := 75) rfl) rfl
theorem zw_2_76 : (Cond.code yA_baseOf prog_1_method_18_code 2 (some .int)) ∈ zw := zw_m (zt_2 (i := 76) rfl) rfl
theorem zw_2_77 : (Cond.stringRef "ShellSum" 113 "a number of sixteen has no digit") ∈ lw_tbl := zt_2 (i := 77) rfl
theorem zw_2_78 : (Cond.methodLink "ShellSum" 115 yA_digitOf) ∈ zw := zw_m (zt_2 (i := 78) rfl) rfl
theorem zw_2_79 : (Cond.static yA_digitOf) ∈ zw := zw_m (zt_2 (i := 79) rfl) rfl
theorem zw_2_80 : (Cond.code yA_digitOf prog_1_method_19_code 1 (some .int)) ∈ zw := zw_m (zt_2 (i := 80) rfl) rfl
theorem zw_2_81 : (Cond.stringRef "ShellSum" 119 "a number has a wrong digit") ∈ lw_tbl := zt_2 (i := 81) rfl
theorem zw_2_82 : (Cond.methodLinkNest "ShellSum$Reckoner" 140 yG_apply "ShellSum") ∈ lw_tbl := zt_2 (i := 82) rfl
theorem zw_2_83 : (Cond.static yG_apply) ∈ zw := zw_m (zt_2 (i := 83) rfl) rfl
theorem zw_2_84 : (Cond.code yG_apply prog_5_method_4_code 5 (some .long)) ∈ zw := zw_m (zt_2 (i := 84) rfl) rfl
theorem zw_2_85 : (Cond.constantLong "ShellSum$Signs" 9 (63)) ∈ zw := zw_m (zt_2 (i := 85) rfl) rfl
theorem zw_2_86 : (Cond.methodLink "ShellSum$Signs" 11 yG_divide) ∈ zw := zw_m (zt_2 (i := 86) rfl) rfl
theorem zw_2_87 : (Cond.static yG_divide) ∈ zw := zw_m (zt_2 (i := 87) rfl) rfl
theorem zw_2_88 : (Cond.code yG_divide prog_5_method_5_code 5 (some .long)) ∈ zw := zw_m (zt_2 (i := 88) rfl) rfl
theorem zw_2_89 : (Cond.classLink "ShellSum$Signs" 21 "java/lang/IllegalStateException") ∈ zw := zw_m (zt_2 (i := 89) rfl) rfl
theorem zw_2_90 : (Cond.stringRef "ShellSum$Signs" 23 "something divides by 0") ∈ lw_tbl := zt_2 (i := 90) rfl
theorem zw_2_91 : (Cond.methodLink "ShellSum$Signs" 25 (⟨"java/lang/IllegalStateException", "<init>", "(Ljava/lang/String;)V"⟩ : MethodName)) ∈ zw := zw_m (zt_2 (i := 91) rfl) rfl
theorem zw_2_92 : (Cond.methodLink "ShellSum$Signs" 17 yG_holds) ∈ zw := zw_m (zt_2 (i := 92) rfl) rfl
theorem zw_2_93 : (Cond.static yG_holds) ∈ zw := zw_m (zt_2 (i := 93) rfl) rfl
theorem zw_2_94 : (Cond.code yG_holds prog_5_method_6_code 5 (some .boolean)) ∈ zw := zw_m (zt_2 (i := 94) rfl) rfl
theorem zw_2_95 : (Cond.methodLinkNest "ShellSum$Reckoner" 144 yS_findOrAdd "ShellSum") ∈ lw_tbl := zt_2 (i := 95) rfl
theorem zw_2_96 : (Cond.stringRef "ShellSum$Reckoner" 147 "too many names would have a text") ∈ lw_tbl := zt_2 (i := 96) rfl
theorem zw_2_97 : (Cond.methodLinkNest "ShellSum$Reckoner" 149 yN_writeDecimal "ShellSum") ∈ lw_tbl := zt_2 (i := 97) rfl
theorem zw_2_99 : (Cond.instanceMethod yN_writeDecimal) ∈ zw := zw_m (zt_2 (i := 99) rfl) rfl
theorem zw_2_100 : (Cond.code yN_writeDecimal prog_2_method_3_code 6 none) ∈ zw := zw_m (zt_2 (i := 100) rfl) rfl
theorem zw_2_101 : (Cond.methodLink "ShellSum$Named" 28 yN_decimalLength) ∈ zw := zw_m (zt_2 (i := 101) rfl) rfl
theorem zw_2_102 : (Cond.static yN_decimalLength) ∈ zw := zw_m (zt_2 (i := 102) rfl) rfl
theorem zw_2_103 : (Cond.code yN_decimalLength prog_2_method_4_code 5 (some .int)) ∈ zw := zw_m (zt_2 (i := 103) rfl) rfl
theorem zw_2_104 : (Cond.constantLong "ShellSum$Named" 34 (10)) ∈ zw := zw_m (zt_2 (i := 104) rfl) rfl
theorem zw_2_105 : (Cond.constantLong "ShellSum$Named" 32 (48)) ∈ zw := zw_m (zt_2 (i := 105) rfl) rfl
theorem zw_2_106 : (Cond.methodLink "ShellSum$Named" 36 (⟨"java/lang/Math", "abs", "(J)J"⟩ : MethodName)) ∈ zw := zw_m (zt_2 (i := 106) rfl) rfl
theorem zw_2_107 : (Cond.static (⟨"java/lang/Math", "abs", "(J)J"⟩ : MethodName)) ∈ zw := zw_m (zt_2 (i := 107) rfl) rfl
theorem zw_2_108 : (Cond.code (⟨"java/lang/Math", "abs", "(J)J"⟩ : MethodName) prog_10_method_61_code 2 (some .long)) ∈ zw := zw_m (zt_2 (i := 108) rfl) rfl
theorem zw_2_109 : (Cond.methodLink "ShellSum$Reckoner" 79 yR_choice) ∈ zw := zw_m (zt_2 (i := 109) rfl) rfl
theorem zw_2_111 : (Cond.instanceMethod yR_choice) ∈ zw := zw_m (zt_2 (i := 111) rfl) rfl
theorem zw_2_112 : (Cond.code yR_choice prog_4_method_4_code 11 (some .long)) ∈ zw := zw_m (zt_2 (i := 112) rfl) rfl
theorem zw_2_113 : (Cond.methodLink "ShellSum$Reckoner" 82 yR_binary) ∈ zw := zw_m (zt_2 (i := 113) rfl) rfl
theorem zw_2_115 : (Cond.instanceMethod yR_binary) ∈ zw := zw_m (zt_2 (i := 115) rfl) rfl
theorem zw_2_116 : (Cond.code yR_binary prog_4_method_5_code 9 (some .long)) ∈ zw := zw_m (zt_2 (i := 116) rfl) rfl
theorem zw_2_117 : (Cond.methodLink "ShellSum$Reckoner" 89 yR_unary) ∈ zw := zw_m (zt_2 (i := 117) rfl) rfl
theorem zw_2_119 : (Cond.instanceMethod yR_unary) ∈ zw := zw_m (zt_2 (i := 119) rfl) rfl
theorem zw_2_120 : (Cond.code yR_unary prog_4_method_6_code 5 (some .long)) ∈ zw := zw_m (zt_2 (i := 120) rfl) rfl
theorem zw_2_121 : (Cond.constantLong "ShellSum$Reckoner" 108 (-1)) ∈ zw := zw_m (zt_2 (i := 121) rfl) rfl
theorem zw_2_122 : (Cond.methodLink "ShellSum$Reckoner" 85 yR_expect) ∈ zw := zw_m (zt_2 (i := 122) rfl) rfl
theorem zw_2_124 : (Cond.instanceMethod yR_expect) ∈ zw := zw_m (zt_2 (i := 124) rfl) rfl
theorem zw_2_125 : (Cond.code yR_expect prog_4_method_17_code 2 none) ∈ zw := zw_m (zt_2 (i := 125) rfl) rfl
theorem zw_2_126 : (Cond.stringRef "ShellSum$Reckoner" 166 "a bracket or a choice has no end") ∈ lw_tbl := zt_2 (i := 126) rfl
theorem zw_2_127 : (Cond.methodLink "ShellSum$Reckoner" 110 yR_word) ∈ zw := zw_m (zt_2 (i := 127) rfl) rfl
theorem zw_2_129 : (Cond.instanceMethod yR_word) ∈ zw := zw_m (zt_2 (i := 129) rfl) rfl
theorem zw_2_130 : (Cond.code yR_word prog_4_method_8_code 3 (some .long)) ∈ zw := zw_m (zt_2 (i := 130) rfl) rfl
theorem zw_2_131 : (Cond.methodLinkNest "ShellSum$Reckoner" 119 yA_isDigit "ShellSum") ∈ lw_tbl := zt_2 (i := 131) rfl
theorem zw_2_132 : (Cond.stringRef "ShellSum$Reckoner" 126 "a number, a name or a bracket is missing") ∈ lw_tbl := zt_2 (i := 132) rfl
theorem zw_2_133 : (Cond.methodLink "ShellSum$Reckoner" 92 yR_signOfTwo) ∈ zw := zw_m (zt_2 (i := 133) rfl) rfl
theorem zw_2_135 : (Cond.instanceMethod yR_signOfTwo) ∈ zw := zw_m (zt_2 (i := 135) rfl) rfl
theorem zw_2_136 : (Cond.code yR_signOfTwo prog_4_method_14_code 3 (some .int)) ∈ zw := zw_m (zt_2 (i := 136) rfl) rfl
theorem zw_2_137 : (Cond.methodLink "ShellSum$Reckoner" 100 yR_settle) ∈ zw := zw_m (zt_2 (i := 137) rfl) rfl
theorem zw_2_139 : (Cond.instanceMethod yR_settle) ∈ zw := zw_m (zt_2 (i := 139) rfl) rfl
theorem zw_2_140 : (Cond.code yR_settle prog_4_method_12_code 9 (some .long)) ∈ zw := zw_m (zt_2 (i := 140) rfl) rfl
theorem zw_2_141 : (Cond.methodLink "ShellSum$Reckoner" 159 yR_join) ∈ zw := zw_m (zt_2 (i := 141) rfl) rfl
theorem zw_2_143 : (Cond.instanceMethod yR_join) ∈ zw := zw_m (zt_2 (i := 143) rfl) rfl
theorem zw_2_144 : (Cond.code yR_join prog_4_method_13_code 6 (some .long)) ∈ zw := zw_m (zt_2 (i := 144) rfl) rfl
theorem zw_2_145 : (Cond.methodLinkNest "ShellSum$Reckoner" 155 yG_isSettledBy "ShellSum") ∈ lw_tbl := zt_2 (i := 145) rfl
theorem zw_2_146 : (Cond.static yG_isSettledBy) ∈ zw := zw_m (zt_2 (i := 146) rfl) rfl
theorem zw_2_147 : (Cond.code yG_isSettledBy prog_5_method_3_code 3 (some .boolean)) ∈ zw := zw_m (zt_2 (i := 147) rfl) rfl
theorem zw_2_148 : (Cond.methodLink "ShellSum$Reckoner" 104 yR_await) ∈ zw := zw_m (zt_2 (i := 148) rfl) rfl
theorem zw_2_150 : (Cond.instanceMethod yR_await) ∈ zw := zw_m (zt_2 (i := 150) rfl) rfl
theorem zw_2_151 : (Cond.code yR_await prog_4_method_11_code 4 none) ∈ zw := zw_m (zt_2 (i := 151) rfl) rfl
theorem zw_2_152 : (Cond.stringRef "ShellSum$Reckoner" 153 "too many signs wait") ∈ lw_tbl := zt_2 (i := 152) rfl
theorem zw_2_153 : (Cond.stringRef "ShellSum" 56 "the text has an error") ∈ lw_tbl := zt_2 (i := 153) rfl
theorem zw_2_154 : (Cond.classLink "ShellSumLaw" 16 "ShellSumModel") ∈ zw := zw_m (zt_2 (i := 154) rfl) rfl
theorem zw_2_155 : (Cond.instantiable "ShellSumModel" 26) ∈ zw := zw_m (zt_2 (i := 155) rfl) rfl
theorem zw_2_156 : (Cond.methodLink "ShellSumLaw" 18 yM_init) ∈ zw := zw_m (zt_2 (i := 156) rfl) rfl
theorem zw_2_157 : (Cond.instanceMethod yM_init) ∈ zw := zw_m (zt_2 (i := 157) rfl) rfl
theorem zw_2_158 : (Cond.code yM_init prog_7_method_1_code 1 none) ∈ zw := zw_m (zt_2 (i := 158) rfl) rfl
theorem zw_2_159 : (Cond.methodLink "ShellSumModel" 1 (⟨"java/lang/Object", "<init>", "()V"⟩ : MethodName)) ∈ zw := zw_m (zt_2 (i := 159) rfl) rfl
theorem zw_2_160 : (Cond.fieldLink "ShellSumModel" 55 "ShellSumModel" "code" "I") ∈ zw := zw_m (zt_2 (i := 160) rfl) rfl
theorem zw_2_161 : (Cond.fieldLink "ShellSumModel" 7 "ShellSumModel" "text" "[I") ∈ zw := zw_m (zt_2 (i := 161) rfl) rfl
theorem zw_2_162 : (Cond.fieldLink "ShellSumModel" 13 "ShellSumModel" "sum" "[I") ∈ zw := zw_m (zt_2 (i := 162) rfl) rfl
theorem zw_2_163 : (Cond.fieldLink "ShellSumModel" 72 "ShellSumModel" "size" "I") ∈ zw := zw_m (zt_2 (i := 163) rfl) rfl
theorem zw_2_164 : (Cond.fieldLink "ShellSumModel" 111 "ShellSumModel" "length" "I") ∈ zw := zw_m (zt_2 (i := 164) rfl) rfl
theorem zw_2_165 : (Cond.fieldLink "ShellSumModel" 108 "ShellSumModel" "place" "I") ∈ zw := zw_m (zt_2 (i := 165) rfl) rfl
theorem zw_2_166 : (Cond.fieldLink "ShellSumModel" 124 "ShellSumModel" "nest" "I") ∈ zw := zw_m (zt_2 (i := 166) rfl) rfl
theorem zw_2_167 : (Cond.fieldLink "ShellSumModel" 102 "ShellSumModel" "bad" "Z") ∈ zw := zw_m (zt_2 (i := 167) rfl) rfl
theorem zw_2_168 : (Cond.fieldLink "ShellSumModel" 16 "ShellSumModel" "sort" "[I") ∈ zw := zw_m (zt_2 (i := 168) rfl) rfl
theorem zw_2_169 : (Cond.fieldLink "ShellSumModel" 19 "ShellSumModel" "one" "[I") ∈ zw := zw_m (zt_2 (i := 169) rfl) rfl
theorem zw_2_170 : (Cond.fieldLink "ShellSumModel" 22 "ShellSumModel" "two" "[I") ∈ zw := zw_m (zt_2 (i := 170) rfl) rfl
theorem zw_2_171 : (Cond.fieldLink "ShellSumModel" 25 "ShellSumModel" "live" "[Z") ∈ zw := zw_m (zt_2 (i := 171) rfl) rfl
theorem zw_2_172 : (Cond.fieldLink "ShellSumModel" 29 "ShellSumModel" "kept" "[J") ∈ zw := zw_m (zt_2 (i := 172) rfl) rfl
theorem zw_2_173 : (Cond.fieldLink "ShellSumModel" 33 "ShellSumModel" "values" "[J") ∈ zw := zw_m (zt_2 (i := 173) rfl) rfl
theorem zw_2_174 : (Cond.fieldLink "ShellSumModel" 114 "ShellSumModel" "waits" "I") ∈ zw := zw_m (zt_2 (i := 174) rfl) rfl
theorem zw_2_175 : (Cond.fieldLink "ShellSumModel" 121 "ShellSumModel" "high" "I") ∈ zw := zw_m (zt_2 (i := 175) rfl) rfl
theorem zw_2_176 : (Cond.fieldLink "ShellSumModel" 36 "ShellSumModel" "names" "[I") ∈ zw := zw_m (zt_2 (i := 176) rfl) rfl
theorem zw_2_177 : (Cond.fieldLink "ShellSumModel" 39 "ShellSumModel" "texts" "[I") ∈ zw := zw_m (zt_2 (i := 177) rfl) rfl
theorem zw_2_178 : (Cond.fieldLink "ShellSumModel" 42 "ShellSumModel" "nameSize" "[I") ∈ zw := zw_m (zt_2 (i := 178) rfl) rfl
theorem zw_2_179 : (Cond.fieldLink "ShellSumModel" 45 "ShellSumModel" "textSize" "[I") ∈ zw := zw_m (zt_2 (i := 179) rfl) rfl
theorem zw_2_180 : (Cond.fieldLink "ShellSumModel" 79 "ShellSumModel" "many" "I") ∈ zw := zw_m (zt_2 (i := 180) rfl) rfl
theorem zw_2_181 : (Cond.fieldLink "ShellSumModel" 190 "ShellSumModel" "good" "I") ∈ zw := zw_m (zt_2 (i := 181) rfl) rfl
theorem zw_2_182 : (Cond.fieldLink "ShellSumModel" 193 "ShellSumModel" "wrong" "I") ∈ zw := zw_m (zt_2 (i := 182) rfl) rfl
theorem zw_2_183 : (Cond.fieldLink "ShellSumModel" 48 "ShellSumModel" "hand" "[I") ∈ zw := zw_m (zt_2 (i := 183) rfl) rfl
theorem zw_2_184 : (Cond.fieldLink "ShellSumModel" 51 "ShellSumModel" "handSize" "I") ∈ zw := zw_m (zt_2 (i := 184) rfl) rfl
theorem zw_2_185 : (Cond.fieldLink "ShellSumModel" 91 "ShellSumModel" "number" "J") ∈ zw := zw_m (zt_2 (i := 185) rfl) rfl
theorem zw_2_186 : (Cond.lays "ShellSumModel" "ShellSumModel" "code" "I") ∈ zw := zw_m (zt_2 (i := 186) rfl) rfl
theorem zw_2_188 : (Cond.laysFinal "ShellSumModel" "ShellSumModel" "text" "[I") ∈ zw := zw_m (zt_2 (i := 188) rfl) rfl
theorem zw_2_190 : (Cond.laysFinal "ShellSumModel" "ShellSumModel" "sum" "[I") ∈ zw := zw_m (zt_2 (i := 190) rfl) rfl
theorem zw_2_192 : (Cond.lays "ShellSumModel" "ShellSumModel" "size" "I") ∈ zw := zw_m (zt_2 (i := 192) rfl) rfl
theorem zw_2_194 : (Cond.lays "ShellSumModel" "ShellSumModel" "length" "I") ∈ zw := zw_m (zt_2 (i := 194) rfl) rfl
theorem zw_2_196 : (Cond.lays "ShellSumModel" "ShellSumModel" "place" "I") ∈ zw := zw_m (zt_2 (i := 196) rfl) rfl
theorem zw_2_198 : (Cond.lays "ShellSumModel" "ShellSumModel" "nest" "I") ∈ zw := zw_m (zt_2 (i := 198) rfl) rfl
theorem zw_2_200 : (Cond.lays "ShellSumModel" "ShellSumModel" "bad" "Z") ∈ zw := zw_m (zt_2 (i := 200) rfl) rfl
theorem zw_2_202 : (Cond.laysFinal "ShellSumModel" "ShellSumModel" "sort" "[I") ∈ zw := zw_m (zt_2 (i := 202) rfl) rfl
theorem zw_2_204 : (Cond.laysFinal "ShellSumModel" "ShellSumModel" "one" "[I") ∈ zw := zw_m (zt_2 (i := 204) rfl) rfl
theorem zw_2_206 : (Cond.laysFinal "ShellSumModel" "ShellSumModel" "two" "[I") ∈ zw := zw_m (zt_2 (i := 206) rfl) rfl
theorem zw_2_208 : (Cond.laysFinal "ShellSumModel" "ShellSumModel" "live" "[Z") ∈ zw := zw_m (zt_2 (i := 208) rfl) rfl
theorem zw_2_210 : (Cond.laysFinal "ShellSumModel" "ShellSumModel" "kept" "[J") ∈ zw := zw_m (zt_2 (i := 210) rfl) rfl
theorem zw_2_212 : (Cond.laysFinal "ShellSumModel" "ShellSumModel" "values" "[J") ∈ zw := zw_m (zt_2 (i := 212) rfl) rfl
theorem zw_2_214 : (Cond.lays "ShellSumModel" "ShellSumModel" "waits" "I") ∈ zw := zw_m (zt_2 (i := 214) rfl) rfl
theorem zw_2_216 : (Cond.lays "ShellSumModel" "ShellSumModel" "high" "I") ∈ zw := zw_m (zt_2 (i := 216) rfl) rfl
theorem zw_2_218 : (Cond.laysFinal "ShellSumModel" "ShellSumModel" "names" "[I") ∈ zw := zw_m (zt_2 (i := 218) rfl) rfl
theorem zw_2_220 : (Cond.laysFinal "ShellSumModel" "ShellSumModel" "texts" "[I") ∈ zw := zw_m (zt_2 (i := 220) rfl) rfl
theorem zw_2_222 : (Cond.laysFinal "ShellSumModel" "ShellSumModel" "nameSize" "[I") ∈ zw := zw_m (zt_2 (i := 222) rfl) rfl
theorem zw_2_224 : (Cond.laysFinal "ShellSumModel" "ShellSumModel" "textSize" "[I") ∈ zw := zw_m (zt_2 (i := 224) rfl) rfl
theorem zw_2_226 : (Cond.lays "ShellSumModel" "ShellSumModel" "many" "I") ∈ zw := zw_m (zt_2 (i := 226) rfl) rfl
theorem zw_2_228 : (Cond.lays "ShellSumModel" "ShellSumModel" "good" "I") ∈ zw := zw_m (zt_2 (i := 228) rfl) rfl
theorem zw_2_230 : (Cond.lays "ShellSumModel" "ShellSumModel" "wrong" "I") ∈ zw := zw_m (zt_2 (i := 230) rfl) rfl
theorem zw_2_232 : (Cond.laysFinal "ShellSumModel" "ShellSumModel" "hand" "[I") ∈ zw := zw_m (zt_2 (i := 232) rfl) rfl
theorem zw_2_234 : (Cond.lays "ShellSumModel" "ShellSumModel" "handSize" "I") ∈ zw := zw_m (zt_2 (i := 234) rfl) rfl
theorem zw_2_236 : (Cond.lays "ShellSumModel" "ShellSumModel" "number" "J") ∈ zw := zw_m (zt_2 (i := 236) rfl) rfl
theorem zw_2_239 : (Cond.arrayClass .boolean) ∈ zw := zw_m (zt_2 (i := 239) rfl) rfl
theorem zw_3_0 : (Cond.methodLink "ShellSumLaw" 32 yM_thrown) ∈ zw := zw_m (zt_3 (i := 0) rfl) rfl
theorem zw_3_1 : (Cond.instanceMethod yM_thrown) ∈ zw := zw_m (zt_3 (i := 1) rfl) rfl
theorem zw_3_2 : (Cond.selects "ShellSumModel" yM_thrown yM_thrown) ∈ zw := zw_m (zt_3 (i := 2) rfl) rfl
theorem zw_3_3 : (Cond.code yM_thrown prog_7_method_2_code 1 (some .int)) ∈ zw := zw_m (zt_3 (i := 3) rfl) rfl
theorem zw_3_4 : (Cond.methodLink "ShellSumLaw" 25 yM_text) ∈ zw := zw_m (zt_3 (i := 4) rfl) rfl
theorem zw_3_5 : (Cond.instanceMethod yM_text) ∈ zw := zw_m (zt_3 (i := 5) rfl) rfl
theorem zw_3_6 : (Cond.selects "ShellSumModel" yM_text yM_text) ∈ zw := zw_m (zt_3 (i := 6) rfl) rfl
theorem zw_3_7 : (Cond.code yM_text prog_7_method_8_code 5 (some .int)) ∈ zw := zw_m (zt_3 (i := 7) rfl) rfl
theorem zw_3_8 : (Cond.methodLink "ShellSumModel" 68 yM_areTexts) ∈ zw := zw_m (zt_3 (i := 8) rfl) rfl
theorem zw_3_9 : (Cond.static yM_areTexts) ∈ zw := zw_m (zt_3 (i := 9) rfl) rfl
theorem zw_3_10 : (Cond.code yM_areTexts prog_7_method_7_code 5 (some .boolean)) ∈ zw := zw_m (zt_3 (i := 10) rfl) rfl
theorem zw_3_11 : (Cond.methodLink "ShellSumModel" 60 yM_byteOf) ∈ zw := zw_m (zt_3 (i := 11) rfl) rfl
theorem zw_3_12 : (Cond.static yM_byteOf) ∈ zw := zw_m (zt_3 (i := 12) rfl) rfl
theorem zw_3_13 : (Cond.code yM_byteOf prog_7_method_6_code 4 (some .int)) ∈ zw := zw_m (zt_3 (i := 13) rfl) rfl
theorem zw_3_14 : (Cond.constantLong "ShellSumModel" 58 (255)) ∈ zw := zw_m (zt_3 (i := 14) rfl) rfl
theorem zw_3_15 : (Cond.methodLink "ShellSumModel" 64 yM_isText) ∈ zw := zw_m (zt_3 (i := 15) rfl) rfl
theorem zw_3_16 : (Cond.static yM_isText) ∈ zw := zw_m (zt_3 (i := 16) rfl) rfl
theorem zw_3_17 : (Cond.code yM_isText prog_7_method_5_code 1 (some .boolean)) ∈ zw := zw_m (zt_3 (i := 17) rfl) rfl
theorem zw_3_18 : (Cond.methodLink "ShellSumLaw" 40 yM_name) ∈ zw := zw_m (zt_3 (i := 18) rfl) rfl
theorem zw_3_19 : (Cond.instanceMethod yM_name) ∈ zw := zw_m (zt_3 (i := 19) rfl) rfl
theorem zw_3_20 : (Cond.selects "ShellSumModel" yM_name yM_name) ∈ zw := zw_m (zt_3 (i := 20) rfl) rfl
theorem zw_3_21 : (Cond.code yM_name prog_7_method_11_code 6 (some .boolean)) ∈ zw := zw_m (zt_3 (i := 21) rfl) rfl
theorem zw_3_22 : (Cond.methodLink "ShellSumModel" 82 yM_isLetter) ∈ zw := zw_m (zt_3 (i := 22) rfl) rfl
theorem zw_3_23 : (Cond.static yM_isLetter) ∈ zw := zw_m (zt_3 (i := 23) rfl) rfl
theorem zw_3_24 : (Cond.code yM_isLetter prog_7_method_3_code 1 (some .boolean)) ∈ zw := zw_m (zt_3 (i := 24) rfl) rfl
theorem zw_3_25 : (Cond.methodLink "ShellSumModel" 85 yM_isDigit) ∈ zw := zw_m (zt_3 (i := 25) rfl) rfl
theorem zw_3_26 : (Cond.static yM_isDigit) ∈ zw := zw_m (zt_3 (i := 26) rfl) rfl
theorem zw_3_27 : (Cond.code yM_isDigit prog_7_method_4_code 1 (some .boolean)) ∈ zw := zw_m (zt_3 (i := 27) rfl) rfl
theorem zw_3_28 : (Cond.methodLink "ShellSumLaw" 44 yM_put) ∈ zw := zw_m (zt_3 (i := 28) rfl) rfl
theorem zw_3_29 : (Cond.instanceMethod yM_put) ∈ zw := zw_m (zt_3 (i := 29) rfl) rfl
theorem zw_3_30 : (Cond.selects "ShellSumModel" yM_put yM_put) ∈ zw := zw_m (zt_3 (i := 30) rfl) rfl
theorem zw_3_31 : (Cond.code yM_put prog_7_method_12_code 6 (some .boolean)) ∈ zw := zw_m (zt_3 (i := 31) rfl) rfl
theorem zw_3_32 : (Cond.methodLink "ShellSumModel" 88 yM_placeFor) ∈ zw := zw_m (zt_3 (i := 32) rfl) rfl
theorem zw_3_34 : (Cond.instanceMethod yM_placeFor) ∈ zw := zw_m (zt_3 (i := 34) rfl) rfl
theorem zw_3_35 : (Cond.code yM_placeFor prog_7_method_10_code 6 (some .int)) ∈ zw := zw_m (zt_3 (i := 35) rfl) rfl
theorem zw_3_36 : (Cond.methodLink "ShellSumModel" 75 yM_find) ∈ zw := zw_m (zt_3 (i := 36) rfl) rfl
theorem zw_3_38 : (Cond.instanceMethod yM_find) ∈ zw := zw_m (zt_3 (i := 38) rfl) rfl
theorem zw_3_39 : (Cond.code yM_find prog_7_method_9_code 8 (some .int)) ∈ zw := zw_m (zt_3 (i := 39) rfl) rfl
theorem zw_3_40 : (Cond.methodLink "ShellSumLaw" 49 yM_drop) ∈ zw := zw_m (zt_3 (i := 40) rfl) rfl
theorem zw_3_41 : (Cond.instanceMethod yM_drop) ∈ zw := zw_m (zt_3 (i := 41) rfl) rfl
theorem zw_3_42 : (Cond.selects "ShellSumModel" yM_drop yM_drop) ∈ zw := zw_m (zt_3 (i := 42) rfl) rfl
theorem zw_3_43 : (Cond.code yM_drop prog_7_method_13_code 2 (some .boolean)) ∈ zw := zw_m (zt_3 (i := 43) rfl) rfl
theorem zw_3_44 : (Cond.methodLink "ShellSumLaw" 54 yM_letter) ∈ zw := zw_m (zt_3 (i := 44) rfl) rfl
theorem zw_3_45 : (Cond.instanceMethod yM_letter) ∈ zw := zw_m (zt_3 (i := 45) rfl) rfl
theorem zw_3_46 : (Cond.selects "ShellSumModel" yM_letter yM_letter) ∈ zw := zw_m (zt_3 (i := 46) rfl) rfl
theorem zw_3_47 : (Cond.code yM_letter prog_7_method_14_code 3 (some .int)) ∈ zw := zw_m (zt_3 (i := 47) rfl) rfl
theorem zw_3_48 : (Cond.methodLink "ShellSumLaw" 31 yM_value) ∈ zw := zw_m (zt_3 (i := 48) rfl) rfl
theorem zw_3_49 : (Cond.instanceMethod yM_value) ∈ zw := zw_m (zt_3 (i := 49) rfl) rfl
theorem zw_3_50 : (Cond.selects "ShellSumModel" yM_value yM_value) ∈ zw := zw_m (zt_3 (i := 50) rfl) rfl
theorem zw_3_51 : (Cond.code yM_value prog_7_method_35_code 2 (some .long)) ∈ zw := zw_m (zt_3 (i := 51) rfl) rfl
theorem zw_3_52 : (Cond.methodLink "ShellSumModel" 127 yM_sign) ∈ zw := zw_m (zt_3 (i := 52) rfl) rfl
theorem zw_3_54 : (Cond.instanceMethod yM_sign) ∈ zw := zw_m (zt_3 (i := 54) rfl) rfl
theorem zw_3_55 : (Cond.code yM_sign prog_7_method_19_code 1 (some .int)) ∈ zw := zw_m (zt_3 (i := 55) rfl) rfl
theorem zw_3_56 : (Cond.methodLink "ShellSumModel" 143 yM_plain) ∈ zw := zw_m (zt_3 (i := 56) rfl) rfl
theorem zw_3_58 : (Cond.instanceMethod yM_plain) ∈ zw := zw_m (zt_3 (i := 58) rfl) rfl
theorem zw_3_59 : (Cond.code yM_plain prog_7_method_22_code 3 none) ∈ zw := zw_m (zt_3 (i := 59) rfl) rfl
theorem zw_3_60 : (Cond.methodLink "ShellSumModel" 117 yM_wait) ∈ zw := zw_m (zt_3 (i := 60) rfl) rfl
theorem zw_3_62 : (Cond.instanceMethod yM_wait) ∈ zw := zw_m (zt_3 (i := 62) rfl) rfl
theorem zw_3_63 : (Cond.code yM_wait prog_7_method_21_code 7 none) ∈ zw := zw_m (zt_3 (i := 63) rfl) rfl
theorem zw_3_64 : (Cond.methodLink "ShellSumModel" 187 yM_go) ∈ zw := zw_m (zt_3 (i := 64) rfl) rfl
theorem zw_3_66 : (Cond.instanceMethod yM_go) ∈ zw := zw_m (zt_3 (i := 66) rfl) rfl
theorem zw_3_67 : (Cond.code yM_go prog_7_method_34_code 12 none) ∈ zw := zw_m (zt_3 (i := 67) rfl) rfl
theorem zw_3_68 : (Cond.methodLink "ShellSumModel" 170 yM_aSum) ∈ zw := zw_m (zt_3 (i := 68) rfl) rfl
theorem zw_3_70 : (Cond.instanceMethod yM_aSum) ∈ zw := zw_m (zt_3 (i := 70) rfl) rfl
theorem zw_3_71 : (Cond.code yM_aSum prog_7_method_28_code 7 none) ∈ zw := zw_m (zt_3 (i := 71) rfl) rfl
theorem zw_3_72 : (Cond.methodLink "ShellSumModel" 134 yM_nameEnd) ∈ zw := zw_m (zt_3 (i := 72) rfl) rfl
theorem zw_3_74 : (Cond.instanceMethod yM_nameEnd) ∈ zw := zw_m (zt_3 (i := 74) rfl) rfl
theorem zw_3_75 : (Cond.code yM_nameEnd prog_7_method_27_code 2 (some .int)) ∈ zw := zw_m (zt_3 (i := 75) rfl) rfl
theorem zw_3_76 : (Cond.methodLink "ShellSumModel" 137 yM_gives) ∈ zw := zw_m (zt_3 (i := 76) rfl) rfl
theorem zw_3_78 : (Cond.instanceMethod yM_gives) ∈ zw := zw_m (zt_3 (i := 78) rfl) rfl
theorem zw_3_79 : (Cond.code yM_gives prog_7_method_26_code 3 (some .int)) ∈ zw := zw_m (zt_3 (i := 79) rfl) rfl
theorem zw_3_80 : (Cond.methodLink "ShellSumModel" 131 yM_at) ∈ zw := zw_m (zt_3 (i := 80) rfl) rfl
theorem zw_3_82 : (Cond.instanceMethod yM_at) ∈ zw := zw_m (zt_3 (i := 82) rfl) rfl
theorem zw_3_83 : (Cond.code yM_at prog_7_method_20_code 2 (some .int)) ∈ zw := zw_m (zt_3 (i := 83) rfl) rfl
theorem zw_3_84 : (Cond.methodLink "ShellSumModel" 140 yM_inner) ∈ zw := zw_m (zt_3 (i := 84) rfl) rfl
theorem zw_3_86 : (Cond.instanceMethod yM_inner) ∈ zw := zw_m (zt_3 (i := 86) rfl) rfl
theorem zw_3_87 : (Cond.code yM_inner prog_7_method_25_code 1 none) ∈ zw := zw_m (zt_3 (i := 87) rfl) rfl
theorem zw_3_88 : (Cond.methodLink "ShellSumModel" 147 yM_taken) ∈ zw := zw_m (zt_3 (i := 88) rfl) rfl
theorem zw_3_90 : (Cond.instanceMethod yM_taken) ∈ zw := zw_m (zt_3 (i := 90) rfl) rfl
theorem zw_3_91 : (Cond.code yM_taken prog_7_method_24_code 1 (some .long)) ∈ zw := zw_m (zt_3 (i := 91) rfl) rfl
theorem zw_3_92 : (Cond.methodLink "ShellSumModel" 163 yM_keep) ∈ zw := zw_m (zt_3 (i := 92) rfl) rfl
theorem zw_3_94 : (Cond.instanceMethod yM_keep) ∈ zw := zw_m (zt_3 (i := 94) rfl) rfl
theorem zw_3_95 : (Cond.code yM_keep prog_7_method_23_code 3 none) ∈ zw := zw_m (zt_3 (i := 95) rfl) rfl
theorem zw_3_96 : (Cond.methodLink "ShellSumModel" 174 yM_more) ∈ zw := zw_m (zt_3 (i := 96) rfl) rfl
theorem zw_3_98 : (Cond.instanceMethod yM_more) ∈ zw := zw_m (zt_3 (i := 98) rfl) rfl
theorem zw_3_99 : (Cond.code yM_more prog_7_method_31_code 9 none) ∈ zw := zw_m (zt_3 (i := 99) rfl) rfl
theorem zw_3_100 : (Cond.methodLink "ShellSumModel" 167 yM_rank) ∈ zw := zw_m (zt_3 (i := 100) rfl) rfl
theorem zw_3_102 : (Cond.instanceMethod yM_rank) ∈ zw := zw_m (zt_3 (i := 102) rfl) rfl
theorem zw_3_103 : (Cond.code yM_rank prog_7_method_30_code 3 (some .int)) ∈ zw := zw_m (zt_3 (i := 103) rfl) rfl
theorem zw_3_104 : (Cond.methodLink "ShellSumModel" 155 yM_joined) ∈ zw := zw_m (zt_3 (i := 104) rfl) rfl
theorem zw_3_106 : (Cond.instanceMethod yM_joined) ∈ zw := zw_m (zt_3 (i := 106) rfl) rfl
theorem zw_3_107 : (Cond.code yM_joined prog_7_method_32_code 9 (some .long)) ∈ zw := zw_m (zt_3 (i := 107) rfl) rfl
theorem zw_3_108 : (Cond.methodLink "ShellSumModel" 178 yM_term) ∈ zw := zw_m (zt_3 (i := 108) rfl) rfl
theorem zw_3_110 : (Cond.instanceMethod yM_term) ∈ zw := zw_m (zt_3 (i := 110) rfl) rfl
theorem zw_3_111 : (Cond.code yM_term prog_7_method_33_code 4 none) ∈ zw := zw_m (zt_3 (i := 111) rfl) rfl
theorem zw_3_112 : (Cond.methodLink "ShellSumModel" 151 yM_named) ∈ zw := zw_m (zt_3 (i := 112) rfl) rfl
theorem zw_3_114 : (Cond.instanceMethod yM_named) ∈ zw := zw_m (zt_3 (i := 114) rfl) rfl
theorem zw_3_115 : (Cond.code yM_named prog_7_method_17_code 7 (some .long)) ∈ zw := zw_m (zt_3 (i := 115) rfl) rfl
theorem zw_3_116 : (Cond.methodLink "ShellSumModel" 99 yM_numberEnd) ∈ zw := zw_m (zt_3 (i := 116) rfl) rfl
theorem zw_3_118 : (Cond.instanceMethod yM_numberEnd) ∈ zw := zw_m (zt_3 (i := 118) rfl) rfl
theorem zw_3_119 : (Cond.code yM_numberEnd prog_7_method_16_code 10 (some .int)) ∈ zw := zw_m (zt_3 (i := 119) rfl) rfl
theorem zw_3_120 : (Cond.methodLink "ShellSumModel" 95 yM_digitOf) ∈ zw := zw_m (zt_3 (i := 120) rfl) rfl
theorem zw_3_121 : (Cond.static yM_digitOf) ∈ zw := zw_m (zt_3 (i := 121) rfl) rfl
theorem zw_3_122 : (Cond.code yM_digitOf prog_7_method_15_code 1 (some .int)) ∈ zw := zw_m (zt_3 (i := 122) rfl) rfl
theorem zw_3_123 : (Cond.constantLong "ShellSumModel" 181 (-1)) ∈ zw := zw_m (zt_3 (i := 123) rfl) rfl
theorem zw_3_124 : (Cond.methodLink "ShellSumModel" 183 yM_given) ∈ zw := zw_m (zt_3 (i := 124) rfl) rfl
theorem zw_3_126 : (Cond.instanceMethod yM_given) ∈ zw := zw_m (zt_3 (i := 126) rfl) rfl
theorem zw_3_127 : (Cond.code yM_given prog_7_method_29_code 7 none) ∈ zw := zw_m (zt_3 (i := 127) rfl) rfl
theorem zw_3_128 : (Cond.methodLink "ShellSumModel" 159 yM_give) ∈ zw := zw_m (zt_3 (i := 128) rfl) rfl
theorem zw_3_130 : (Cond.instanceMethod yM_give) ∈ zw := zw_m (zt_3 (i := 130) rfl) rfl
theorem zw_3_131 : (Cond.code yM_give prog_7_method_18_code 11 none) ∈ zw := zw_m (zt_3 (i := 131) rfl) rfl
theorem zw_3_132 : (Cond.constantLong "ShellSumModel" 106 (10)) ∈ zw := zw_m (zt_3 (i := 132) rfl) rfl
theorem zw_3_133 : (Cond.methodLink "ShellSumLaw" 58 yM_count) ∈ zw := zw_m (zt_3 (i := 133) rfl) rfl
theorem zw_3_134 : (Cond.instanceMethod yM_count) ∈ zw := zw_m (zt_3 (i := 134) rfl) rfl
theorem zw_3_135 : (Cond.selects "ShellSumModel" yM_count yM_count) ∈ zw := zw_m (zt_3 (i := 135) rfl) rfl
theorem zw_3_136 : (Cond.code yM_count prog_7_method_36_code 3 (some .int)) ∈ zw := zw_m (zt_3 (i := 136) rfl) rfl
theorem zw_3_137 : (Cond.constantLong "ShellSumLaw" 19 (4294967295)) ∈ zw := zw_m (zt_3 (i := 137) rfl) rfl
theorem zw_3_138 : (Cond.sameMethod "java/lang/Throwable" "java/lang/Throwable" "fillInStackTrace" "(I)Ljava/lang/Throwable;") ∈ lw_tbl := zt_3 (i := 138) rfl
theorem zs_S_findOrAdd : Cond.selects "ShellSum$Names" yS_findOrAdd yS_findOrAdd ∈ zw := zw_m (zt_s (i := 0) rfl) rfl
theorem zs_S_find : Cond.selects "ShellSum$Names" yS_find yS_find ∈ zw := zw_m (zt_s (i := 1) rfl) rfl
theorem zs_N_isCalled : Cond.selects "ShellSum$Named" yN_isCalled yN_isCalled ∈ zw := zw_m (zt_s (i := 2) rfl) rfl
theorem zs_S_remove : Cond.selects "ShellSum$Names" yS_remove yS_remove ∈ zw := zw_m (zt_s (i := 3) rfl) rfl
theorem zs_R_manages : Cond.selects "ShellSum$Reckoner" yR_manages yR_manages ∈ zw := zw_m (zt_s (i := 4) rfl) rfl
theorem zs_R_skipBlanks : Cond.selects "ShellSum$Reckoner" yR_skipBlanks yR_skipBlanks ∈ zw := zw_m (zt_s (i := 5) rfl) rfl
theorem zs_R_charAt : Cond.selects "ShellSum$Reckoner" yR_charAt yR_charAt ∈ zw := zw_m (zt_s (i := 6) rfl) rfl
theorem zs_R_expression : Cond.selects "ShellSum$Reckoner" yR_expression yR_expression ∈ zw := zw_m (zt_s (i := 7) rfl) rfl
theorem zs_R_wordEnd : Cond.selects "ShellSum$Reckoner" yR_wordEnd yR_wordEnd ∈ zw := zw_m (zt_s (i := 8) rfl) rfl
theorem zs_R_assignmentSign : Cond.selects "ShellSum$Reckoner" yR_assignmentSign yR_assignmentSign ∈ zw := zw_m (zt_s (i := 9) rfl) rfl
theorem zs_R_assign : Cond.selects "ShellSum$Reckoner" yR_assign yR_assign ∈ zw := zw_m (zt_s (i := 11) rfl) rfl
theorem zs_R_nameValue : Cond.selects "ShellSum$Reckoner" yR_nameValue yR_nameValue ∈ zw := zw_m (zt_s (i := 12) rfl) rfl
theorem zs_N_writeDecimal : Cond.selects "ShellSum$Named" yN_writeDecimal yN_writeDecimal ∈ zw := zw_m (zt_s (i := 13) rfl) rfl
theorem zs_R_choice : Cond.selects "ShellSum$Reckoner" yR_choice yR_choice ∈ zw := zw_m (zt_s (i := 14) rfl) rfl
theorem zs_R_binary : Cond.selects "ShellSum$Reckoner" yR_binary yR_binary ∈ zw := zw_m (zt_s (i := 15) rfl) rfl
theorem zs_R_unary : Cond.selects "ShellSum$Reckoner" yR_unary yR_unary ∈ zw := zw_m (zt_s (i := 16) rfl) rfl
theorem zs_R_expect : Cond.selects "ShellSum$Reckoner" yR_expect yR_expect ∈ zw := zw_m (zt_s (i := 17) rfl) rfl
theorem zs_R_word : Cond.selects "ShellSum$Reckoner" yR_word yR_word ∈ zw := zw_m (zt_s (i := 18) rfl) rfl
theorem zs_R_signOfTwo : Cond.selects "ShellSum$Reckoner" yR_signOfTwo yR_signOfTwo ∈ zw := zw_m (zt_s (i := 19) rfl) rfl
theorem zs_R_settle : Cond.selects "ShellSum$Reckoner" yR_settle yR_settle ∈ zw := zw_m (zt_s (i := 20) rfl) rfl
theorem zs_R_join : Cond.selects "ShellSum$Reckoner" yR_join yR_join ∈ zw := zw_m (zt_s (i := 21) rfl) rfl
theorem zs_R_await : Cond.selects "ShellSum$Reckoner" yR_await yR_await ∈ zw := zw_m (zt_s (i := 22) rfl) rfl
theorem zs_M_placeFor : Cond.selects "ShellSumModel" yM_placeFor yM_placeFor ∈ zw := zw_m (zt_s (i := 23) rfl) rfl
theorem zs_M_find : Cond.selects "ShellSumModel" yM_find yM_find ∈ zw := zw_m (zt_s (i := 24) rfl) rfl
theorem zs_M_sign : Cond.selects "ShellSumModel" yM_sign yM_sign ∈ zw := zw_m (zt_s (i := 25) rfl) rfl
theorem zs_M_plain : Cond.selects "ShellSumModel" yM_plain yM_plain ∈ zw := zw_m (zt_s (i := 26) rfl) rfl
theorem zs_M_wait : Cond.selects "ShellSumModel" yM_wait yM_wait ∈ zw := zw_m (zt_s (i := 27) rfl) rfl
theorem zs_M_go : Cond.selects "ShellSumModel" yM_go yM_go ∈ zw := zw_m (zt_s (i := 28) rfl) rfl
theorem zs_M_aSum : Cond.selects "ShellSumModel" yM_aSum yM_aSum ∈ zw := zw_m (zt_s (i := 29) rfl) rfl
theorem zs_M_nameEnd : Cond.selects "ShellSumModel" yM_nameEnd yM_nameEnd ∈ zw := zw_m (zt_s (i := 30) rfl) rfl
theorem zs_M_gives : Cond.selects "ShellSumModel" yM_gives yM_gives ∈ zw := zw_m (zt_s (i := 31) rfl) rfl
theorem zs_M_at : Cond.selects "ShellSumModel" yM_at yM_at ∈ zw := zw_m (zt_s (i := 32) rfl) rfl
theorem zs_M_inner : Cond.selects "ShellSumModel" yM_inner yM_inner ∈ zw := zw_m (zt_s (i := 33) rfl) rfl
theorem zs_M_taken : Cond.selects "ShellSumModel" yM_taken yM_taken ∈ zw := zw_m (zt_s (i := 34) rfl) rfl
theorem zs_M_keep : Cond.selects "ShellSumModel" yM_keep yM_keep ∈ zw := zw_m (zt_s (i := 35) rfl) rfl
theorem zs_M_more : Cond.selects "ShellSumModel" yM_more yM_more ∈ zw := zw_m (zt_s (i := 36) rfl) rfl
theorem zs_M_rank : Cond.selects "ShellSumModel" yM_rank yM_rank ∈ zw := zw_m (zt_s (i := 37) rfl) rfl
theorem zs_M_joined : Cond.selects "ShellSumModel" yM_joined yM_joined ∈ zw := zw_m (zt_s (i := 38) rfl) rfl
theorem zs_M_term : Cond.selects "ShellSumModel" yM_term yM_term ∈ zw := zw_m (zt_s (i := 39) rfl) rfl
theorem zs_M_named : Cond.selects "ShellSumModel" yM_named yM_named ∈ zw := zw_m (zt_s (i := 40) rfl) rfl
theorem zs_M_numberEnd : Cond.selects "ShellSumModel" yM_numberEnd yM_numberEnd ∈ zw := zw_m (zt_s (i := 41) rfl) rfl
theorem zs_M_given : Cond.selects "ShellSumModel" yM_given yM_given ∈ zw := zw_m (zt_s (i := 42) rfl) rfl
theorem zs_M_give : Cond.selects "ShellSumModel" yM_give yM_give ∈ zw := zw_m (zt_s (i := 43) rfl) rfl
def zn : List Cond := [(Cond.methodLinkNest "ShellSum" 11 yR_init "ShellSum"), (Cond.methodLinkNest "ShellSum$Reckoner" 17 yS_init "ShellSum"), (Cond.fieldLinkNest "ShellSum" 85 "ShellSum$Names" "size" "I" "ShellSum"), (Cond.fieldLinkNest "ShellSum" 16 "ShellSum$Reckoner" "row" "[C" "ShellSum"), (Cond.fieldLinkNest "ShellSum" 21 "ShellSum$Reckoner" "names" "LShellSum$Names;" "ShellSum"), (Cond.fieldLinkNest "ShellSum" 61 "ShellSum$Reckoner" "result" "J" "ShellSum"), (Cond.methodLinkNest "ShellSum" 68 yS_findOrAdd "ShellSum"), (Cond.methodLinkNest "ShellSum$Names" 21 yN_isCalled "ShellSum"), (Cond.methodLinkNest "ShellSum$Names" 29 yN_init "ShellSum"), (Cond.fieldLinkNest "ShellSum" 74 "ShellSum$Named" "row" "[C" "ShellSum"), (Cond.fieldLinkNest "ShellSum$Reckoner" 139 "ShellSum$Named" "row" "[C" "ShellSum"), (Cond.fieldLinkNest "ShellSum" 77 "ShellSum$Named" "length" "I" "ShellSum"), (Cond.fieldLinkNest "ShellSum$Reckoner" 136 "ShellSum$Named" "length" "I" "ShellSum"), (Cond.methodLinkNest "ShellSum" 78 yS_remove "ShellSum"), (Cond.methodLinkNest "ShellSum" 82 yS_find "ShellSum"), (Cond.methodLinkNest "ShellSum" 50 yR_manages "ShellSum"), (Cond.methodLinkNest "ShellSum$Reckoner" 168 yA_isBlank "ShellSum"), (Cond.methodLinkNest "ShellSum$Reckoner" 60 yA_startsName "ShellSum"), (Cond.methodLinkNest "ShellSum$Reckoner" 171 yA_isOfWord "ShellSum"), (Cond.methodLinkNest "ShellSum$Reckoner" 95 yG_rankOf "ShellSum"), (Cond.castable "java/lang/IllegalStateException" "java/lang/IllegalStateException"), (Cond.declares (⟨"java/lang/RuntimeException", "<init>", "()V"⟩ : MethodName)), (Cond.declares (⟨"java/lang/RuntimeException", "<init>", "(Ljava/lang/String;)V"⟩ : MethodName)), (Cond.declares (⟨"java/lang/Exception", "<init>", "()V"⟩ : MethodName)), (Cond.declares (⟨"java/lang/Exception", "<init>", "(Ljava/lang/String;)V"⟩ : MethodName)), (Cond.declares (⟨"java/lang/Throwable", "<init>", "()V"⟩ : MethodName)), (Cond.declares (⟨"java/lang/Throwable", "<init>", "(Ljava/lang/String;)V"⟩ : MethodName)), (Cond.methodLinkNest "ShellSum$Reckoner" 132 yS_find "ShellSum"), (Cond.methodLinkNest "ShellSum$Reckoner" 122 yA_numberIn "ShellSum"), (Cond.methodLinkNest "ShellSum$Reckoner" 140 yG_apply "ShellSum"), (Cond.methodLinkNest "ShellSum$Reckoner" 144 yS_findOrAdd "ShellSum"), (Cond.methodLinkNest "ShellSum$Reckoner" 149 yN_writeDecimal "ShellSum"), (Cond.methodLinkNest "ShellSum$Reckoner" 119 yA_isDigit "ShellSum"), (Cond.methodLinkNest "ShellSum$Reckoner" 155 yG_isSettledBy "ShellSum")]
theorem zn_1_22 : (Cond.methodLinkNest "ShellSum" 11 yR_init "ShellSum") ∈ zn := List.mem_of_getElem? (i := 0) rfl
theorem zn_1_28 : (Cond.methodLinkNest "ShellSum$Reckoner" 17 yS_init "ShellSum") ∈ zn := List.mem_of_getElem? (i := 1) rfl
theorem zn_1_36 : (Cond.fieldLinkNest "ShellSum" 85 "ShellSum$Names" "size" "I" "ShellSum") ∈ zn := List.mem_of_getElem? (i := 2) rfl
theorem zn_1_44 : (Cond.fieldLinkNest "ShellSum" 16 "ShellSum$Reckoner" "row" "[C" "ShellSum") ∈ zn := List.mem_of_getElem? (i := 3) rfl
theorem zn_1_46 : (Cond.fieldLinkNest "ShellSum" 21 "ShellSum$Reckoner" "names" "LShellSum$Names;" "ShellSum") ∈ zn := List.mem_of_getElem? (i := 4) rfl
theorem zn_1_54 : (Cond.fieldLinkNest "ShellSum" 61 "ShellSum$Reckoner" "result" "J" "ShellSum") ∈ zn := List.mem_of_getElem? (i := 5) rfl
theorem zn_1_138 : (Cond.methodLinkNest "ShellSum" 68 yS_findOrAdd "ShellSum") ∈ zn := List.mem_of_getElem? (i := 6) rfl
theorem zn_1_146 : (Cond.methodLinkNest "ShellSum$Names" 21 yN_isCalled "ShellSum") ∈ zn := List.mem_of_getElem? (i := 7) rfl
theorem zn_1_151 : (Cond.methodLinkNest "ShellSum$Names" 29 yN_init "ShellSum") ∈ zn := List.mem_of_getElem? (i := 8) rfl
theorem zn_1_160 : (Cond.fieldLinkNest "ShellSum" 74 "ShellSum$Named" "row" "[C" "ShellSum") ∈ zn := List.mem_of_getElem? (i := 9) rfl
theorem zn_1_161 : (Cond.fieldLinkNest "ShellSum$Reckoner" 139 "ShellSum$Named" "row" "[C" "ShellSum") ∈ zn := List.mem_of_getElem? (i := 10) rfl
theorem zn_1_163 : (Cond.fieldLinkNest "ShellSum" 77 "ShellSum$Named" "length" "I" "ShellSum") ∈ zn := List.mem_of_getElem? (i := 11) rfl
theorem zn_1_164 : (Cond.fieldLinkNest "ShellSum$Reckoner" 136 "ShellSum$Named" "length" "I" "ShellSum") ∈ zn := List.mem_of_getElem? (i := 12) rfl
theorem zn_1_176 : (Cond.methodLinkNest "ShellSum" 78 yS_remove "ShellSum") ∈ zn := List.mem_of_getElem? (i := 13) rfl
theorem zn_1_184 : (Cond.methodLinkNest "ShellSum" 82 yS_find "ShellSum") ∈ zn := List.mem_of_getElem? (i := 14) rfl
theorem zn_1_197 : (Cond.methodLinkNest "ShellSum" 50 yR_manages "ShellSum") ∈ zn := List.mem_of_getElem? (i := 15) rfl
theorem zn_1_210 : (Cond.methodLinkNest "ShellSum$Reckoner" 168 yA_isBlank "ShellSum") ∈ zn := List.mem_of_getElem? (i := 16) rfl
theorem zn_1_215 : (Cond.methodLinkNest "ShellSum$Reckoner" 60 yA_startsName "ShellSum") ∈ zn := List.mem_of_getElem? (i := 17) rfl
theorem zn_1_220 : (Cond.methodLinkNest "ShellSum$Reckoner" 171 yA_isOfWord "ShellSum") ∈ zn := List.mem_of_getElem? (i := 18) rfl
theorem zn_1_228 : (Cond.methodLinkNest "ShellSum$Reckoner" 95 yG_rankOf "ShellSum") ∈ zn := List.mem_of_getElem? (i := 19) rfl
theorem zn_1_235 : (Cond.castable "java/lang/IllegalStateException" "java/lang/IllegalStateException") ∈ zn := List.mem_of_getElem? (i := 20) rfl
theorem zn_1_236 : (Cond.declares (⟨"java/lang/RuntimeException", "<init>", "()V"⟩ : MethodName)) ∈ zn := List.mem_of_getElem? (i := 21) rfl
theorem zn_1_237 : (Cond.declares (⟨"java/lang/RuntimeException", "<init>", "(Ljava/lang/String;)V"⟩ : MethodName)) ∈ zn := List.mem_of_getElem? (i := 22) rfl
theorem zn_1_238 : (Cond.declares (⟨"java/lang/Exception", "<init>", "()V"⟩ : MethodName)) ∈ zn := List.mem_of_getElem? (i := 23) rfl
theorem zn_1_239 : (Cond.declares (⟨"java/lang/Exception", "<init>", "(Ljava/lang/String;)V"⟩ : MethodName)) ∈ zn := List.mem_of_getElem? (i := 24) rfl
theorem zn_2_0 : (Cond.declares (⟨"java/lang/Throwable", "<init>", "()V"⟩ : MethodName)) ∈ zn := List.mem_of_getElem? (i := 25) rfl
theorem zn_2_1 : (Cond.declares (⟨"java/lang/Throwable", "<init>", "(Ljava/lang/String;)V"⟩ : MethodName)) ∈ zn := List.mem_of_getElem? (i := 26) rfl
theorem zn_2_67 : (Cond.methodLinkNest "ShellSum$Reckoner" 132 yS_find "ShellSum") ∈ zn := List.mem_of_getElem? (i := 27) rfl
theorem zn_2_68 : (Cond.methodLinkNest "ShellSum$Reckoner" 122 yA_numberIn "ShellSum") ∈ zn := List.mem_of_getElem? (i := 28) rfl
theorem zn_2_82 : (Cond.methodLinkNest "ShellSum$Reckoner" 140 yG_apply "ShellSum") ∈ zn := List.mem_of_getElem? (i := 29) rfl
theorem zn_2_95 : (Cond.methodLinkNest "ShellSum$Reckoner" 144 yS_findOrAdd "ShellSum") ∈ zn := List.mem_of_getElem? (i := 30) rfl
theorem zn_2_97 : (Cond.methodLinkNest "ShellSum$Reckoner" 149 yN_writeDecimal "ShellSum") ∈ zn := List.mem_of_getElem? (i := 31) rfl
theorem zn_2_131 : (Cond.methodLinkNest "ShellSum$Reckoner" 119 yA_isDigit "ShellSum") ∈ zn := List.mem_of_getElem? (i := 32) rfl
theorem zn_2_145 : (Cond.methodLinkNest "ShellSum$Reckoner" 155 yG_isSettledBy "ShellSum") ∈ zn := List.mem_of_getElem? (i := 33) rfl
theorem zn_t : ∀ w ∈ zn, w ∈ lw_tbl := List.forall_mem_cons.mpr ⟨zw_1_22, List.forall_mem_cons.mpr ⟨zw_1_28, List.forall_mem_cons.mpr ⟨zw_1_36, List.forall_mem_cons.mpr ⟨zw_1_44, List.forall_mem_cons.mpr ⟨zw_1_46, List.forall_mem_cons.mpr ⟨zw_1_54, List.forall_mem_cons.mpr ⟨zw_1_138, List.forall_mem_cons.mpr ⟨zw_1_146, List.forall_mem_cons.mpr ⟨zw_1_151, List.forall_mem_cons.mpr ⟨zw_1_160, List.forall_mem_cons.mpr ⟨zw_1_161, List.forall_mem_cons.mpr ⟨zw_1_163, List.forall_mem_cons.mpr ⟨zw_1_164, List.forall_mem_cons.mpr ⟨zw_1_176, List.forall_mem_cons.mpr ⟨zw_1_184, List.forall_mem_cons.mpr ⟨zw_1_197, List.forall_mem_cons.mpr ⟨zw_1_210, List.forall_mem_cons.mpr ⟨zw_1_215, List.forall_mem_cons.mpr ⟨zw_1_220, List.forall_mem_cons.mpr ⟨zw_1_228, List.forall_mem_cons.mpr ⟨zw_1_235, List.forall_mem_cons.mpr ⟨zw_1_236, List.forall_mem_cons.mpr ⟨zw_1_237, List.forall_mem_cons.mpr ⟨zw_1_238, List.forall_mem_cons.mpr ⟨zw_1_239, List.forall_mem_cons.mpr ⟨zw_2_0, List.forall_mem_cons.mpr ⟨zw_2_1, List.forall_mem_cons.mpr ⟨zw_2_67, List.forall_mem_cons.mpr ⟨zw_2_68, List.forall_mem_cons.mpr ⟨zw_2_82, List.forall_mem_cons.mpr ⟨zw_2_95, List.forall_mem_cons.mpr ⟨zw_2_97, List.forall_mem_cons.mpr ⟨zw_2_131, List.forall_mem_cons.mpr ⟨zw_2_145, fun _ h => absurd h List.not_mem_nil⟩⟩⟩⟩⟩⟩⟩⟩⟩⟩⟩⟩⟩⟩⟩⟩⟩⟩⟩⟩⟩⟩⟩⟩⟩⟩⟩⟩⟩⟩⟩⟩⟩⟩
theorem zn_on : ∀ w ∈ zn, w.onTables = true := List.forall_mem_cons.mpr ⟨rfl, List.forall_mem_cons.mpr ⟨rfl, List.forall_mem_cons.mpr ⟨rfl, List.forall_mem_cons.mpr ⟨rfl, List.forall_mem_cons.mpr ⟨rfl, List.forall_mem_cons.mpr ⟨rfl, List.forall_mem_cons.mpr ⟨rfl, List.forall_mem_cons.mpr ⟨rfl, List.forall_mem_cons.mpr ⟨rfl, List.forall_mem_cons.mpr ⟨rfl, List.forall_mem_cons.mpr ⟨rfl, List.forall_mem_cons.mpr ⟨rfl, List.forall_mem_cons.mpr ⟨rfl, List.forall_mem_cons.mpr ⟨rfl, List.forall_mem_cons.mpr ⟨rfl, List.forall_mem_cons.mpr ⟨rfl, List.forall_mem_cons.mpr ⟨rfl, List.forall_mem_cons.mpr ⟨rfl, List.forall_mem_cons.mpr ⟨rfl, List.forall_mem_cons.mpr ⟨rfl, List.forall_mem_cons.mpr ⟨rfl, List.forall_mem_cons.mpr ⟨rfl, List.forall_mem_cons.mpr ⟨rfl, List.forall_mem_cons.mpr ⟨rfl, List.forall_mem_cons.mpr ⟨rfl, List.forall_mem_cons.mpr ⟨rfl, List.forall_mem_cons.mpr ⟨rfl, List.forall_mem_cons.mpr ⟨rfl, List.forall_mem_cons.mpr ⟨rfl, List.forall_mem_cons.mpr ⟨rfl, List.forall_mem_cons.mpr ⟨rfl, List.forall_mem_cons.mpr ⟨rfl, List.forall_mem_cons.mpr ⟨rfl, List.forall_mem_cons.mpr ⟨rfl, fun _ h => absurd h List.not_mem_nil⟩⟩⟩⟩⟩⟩⟩⟩⟩⟩⟩⟩⟩⟩⟩⟩⟩⟩⟩⟩⟩⟩⟩⟩⟩⟩⟩⟩⟩⟩⟩⟩⟩⟩
/-- the words of zn hold at U -/
def zN (U : State) : Prop := ∀ w ∈ zn, va_Nw w U
theorem zN.warm {s U : State} (hW : s.WarmedH U.vm) (h : zN s) : zN U := fun w hw => (show ∀ w ∈ zn, va_Nw w s → va_Nw w U from List.forall_mem_cons.mpr ⟨va_Nw.warmM hW, List.forall_mem_cons.mpr ⟨va_Nw.warmM hW, List.forall_mem_cons.mpr ⟨va_Nw.warmF hW, List.forall_mem_cons.mpr ⟨va_Nw.warmF hW, List.forall_mem_cons.mpr ⟨va_Nw.warmF hW, List.forall_mem_cons.mpr ⟨va_Nw.warmF hW, List.forall_mem_cons.mpr ⟨va_Nw.warmM hW, List.forall_mem_cons.mpr ⟨va_Nw.warmM hW, List.forall_mem_cons.mpr ⟨va_Nw.warmM hW, List.forall_mem_cons.mpr ⟨va_Nw.warmF hW, List.forall_mem_cons.mpr ⟨va_Nw.warmF hW, List.forall_mem_cons.mpr ⟨va_Nw.warmF hW, List.forall_mem_cons.mpr ⟨va_Nw.warmF hW, List.forall_mem_cons.mpr ⟨va_Nw.warmM hW, List.forall_mem_cons.mpr ⟨va_Nw.warmM hW, List.forall_mem_cons.mpr ⟨va_Nw.warmM hW, List.forall_mem_cons.mpr ⟨va_Nw.warmM hW, List.forall_mem_cons.mpr ⟨va_Nw.warmM hW, List.forall_mem_cons.mpr ⟨va_Nw.warmM hW, List.forall_mem_cons.mpr ⟨va_Nw.warmM hW, List.forall_mem_cons.mpr ⟨va_Nw.warmC hW, List.forall_mem_cons.mpr ⟨va_Nw.warmD hW, List.forall_mem_cons.mpr ⟨va_Nw.warmD hW, List.forall_mem_cons.mpr ⟨va_Nw.warmD hW, List.forall_mem_cons.mpr ⟨va_Nw.warmD hW, List.forall_mem_cons.mpr ⟨va_Nw.warmD hW, List.forall_mem_cons.mpr ⟨va_Nw.warmD hW, List.forall_mem_cons.mpr ⟨va_Nw.warmM hW, List.forall_mem_cons.mpr ⟨va_Nw.warmM hW, List.forall_mem_cons.mpr ⟨va_Nw.warmM hW, List.forall_mem_cons.mpr ⟨va_Nw.warmM hW, List.forall_mem_cons.mpr ⟨va_Nw.warmM hW, List.forall_mem_cons.mpr ⟨va_Nw.warmM hW, List.forall_mem_cons.mpr ⟨va_Nw.warmM hW, fun _ h => absurd h List.not_mem_nil⟩⟩⟩⟩⟩⟩⟩⟩⟩⟩⟩⟩⟩⟩⟩⟩⟩⟩⟩⟩⟩⟩⟩⟩⟩⟩⟩⟩⟩⟩⟩⟩⟩⟩) w hw (h w hw)
theorem zu_A : ∀ w ∈ u_ws "ShellSum" TA 8, w ∈ zw := by
  show ∀ w ∈ [u_lay "ShellSum" TA 0, u_lay "ShellSum" TA 1, u_lay "ShellSum" TA 2, u_lay "ShellSum" TA 3, u_lay "ShellSum" TA 4, u_lay "ShellSum" TA 5, u_lay "ShellSum" TA 6, u_lay "ShellSum" TA 7], w ∈ zw
  exact List.forall_mem_cons.mpr ⟨zw_1_84, List.forall_mem_cons.mpr ⟨zw_1_86, List.forall_mem_cons.mpr ⟨zw_1_88, List.forall_mem_cons.mpr ⟨zw_1_90, List.forall_mem_cons.mpr ⟨zw_1_92, List.forall_mem_cons.mpr ⟨zw_1_94, List.forall_mem_cons.mpr ⟨zw_1_96, List.forall_mem_cons.mpr ⟨zw_1_98, fun _ h => absurd h List.not_mem_nil⟩⟩⟩⟩⟩⟩⟩⟩
theorem zu_N : ∀ w ∈ u_ws "ShellSum$Named" TN 3, w ∈ zw := by
  show ∀ w ∈ [u_lay "ShellSum$Named" TN 0, u_lay "ShellSum$Named" TN 1, u_lay "ShellSum$Named" TN 2], w ∈ zw
  exact List.forall_mem_cons.mpr ⟨zw_1_165, List.forall_mem_cons.mpr ⟨zw_1_167, List.forall_mem_cons.mpr ⟨zw_1_169, fun _ h => absurd h List.not_mem_nil⟩⟩⟩
theorem zu_S : ∀ w ∈ u_ws "ShellSum$Names" TS 2, w ∈ zw := by
  show ∀ w ∈ [u_lay "ShellSum$Names" TS 0, u_lay "ShellSum$Names" TS 1], w ∈ zw
  exact List.forall_mem_cons.mpr ⟨zw_1_37, List.forall_mem_cons.mpr ⟨zw_1_39, fun _ h => absurd h List.not_mem_nil⟩⟩
theorem zu_R : ∀ w ∈ u_ws "ShellSum$Reckoner" TR 9, w ∈ zw := by
  show ∀ w ∈ [u_lay "ShellSum$Reckoner" TR 0, u_lay "ShellSum$Reckoner" TR 1, u_lay "ShellSum$Reckoner" TR 2, u_lay "ShellSum$Reckoner" TR 3, u_lay "ShellSum$Reckoner" TR 4, u_lay "ShellSum$Reckoner" TR 5, u_lay "ShellSum$Reckoner" TR 6, u_lay "ShellSum$Reckoner" TR 7, u_lay "ShellSum$Reckoner" TR 8], w ∈ zw
  exact List.forall_mem_cons.mpr ⟨zw_1_55, List.forall_mem_cons.mpr ⟨zw_1_57, List.forall_mem_cons.mpr ⟨zw_1_59, List.forall_mem_cons.mpr ⟨zw_1_61, List.forall_mem_cons.mpr ⟨zw_1_63, List.forall_mem_cons.mpr ⟨zw_1_65, List.forall_mem_cons.mpr ⟨zw_1_67, List.forall_mem_cons.mpr ⟨zw_1_69, List.forall_mem_cons.mpr ⟨zw_1_71, fun _ h => absurd h List.not_mem_nil⟩⟩⟩⟩⟩⟩⟩⟩⟩
theorem zu_M : ∀ w ∈ u_ws "ShellSumModel" TM 26, w ∈ zw := by
  show ∀ w ∈ [u_lay "ShellSumModel" TM 0, u_lay "ShellSumModel" TM 1, u_lay "ShellSumModel" TM 2, u_lay "ShellSumModel" TM 3, u_lay "ShellSumModel" TM 4, u_lay "ShellSumModel" TM 5, u_lay "ShellSumModel" TM 6, u_lay "ShellSumModel" TM 7, u_lay "ShellSumModel" TM 8, u_lay "ShellSumModel" TM 9, u_lay "ShellSumModel" TM 10, u_lay "ShellSumModel" TM 11, u_lay "ShellSumModel" TM 12, u_lay "ShellSumModel" TM 13, u_lay "ShellSumModel" TM 14, u_lay "ShellSumModel" TM 15, u_lay "ShellSumModel" TM 16, u_lay "ShellSumModel" TM 17, u_lay "ShellSumModel" TM 18, u_lay "ShellSumModel" TM 19, u_lay "ShellSumModel" TM 20, u_lay "ShellSumModel" TM 21, u_lay "ShellSumModel" TM 22, u_lay "ShellSumModel" TM 23, u_lay "ShellSumModel" TM 24, u_lay "ShellSumModel" TM 25], w ∈ zw
  exact List.forall_mem_cons.mpr ⟨zw_2_186, List.forall_mem_cons.mpr ⟨zw_2_188, List.forall_mem_cons.mpr ⟨zw_2_190, List.forall_mem_cons.mpr ⟨zw_2_192, List.forall_mem_cons.mpr ⟨zw_2_194, List.forall_mem_cons.mpr ⟨zw_2_196, List.forall_mem_cons.mpr ⟨zw_2_198, List.forall_mem_cons.mpr ⟨zw_2_200, List.forall_mem_cons.mpr ⟨zw_2_202, List.forall_mem_cons.mpr ⟨zw_2_204, List.forall_mem_cons.mpr ⟨zw_2_206, List.forall_mem_cons.mpr ⟨zw_2_208, List.forall_mem_cons.mpr ⟨zw_2_210, List.forall_mem_cons.mpr ⟨zw_2_212, List.forall_mem_cons.mpr ⟨zw_2_214, List.forall_mem_cons.mpr ⟨zw_2_216, List.forall_mem_cons.mpr ⟨zw_2_218, List.forall_mem_cons.mpr ⟨zw_2_220, List.forall_mem_cons.mpr ⟨zw_2_222, List.forall_mem_cons.mpr ⟨zw_2_224, List.forall_mem_cons.mpr ⟨zw_2_226, List.forall_mem_cons.mpr ⟨zw_2_228, List.forall_mem_cons.mpr ⟨zw_2_230, List.forall_mem_cons.mpr ⟨zw_2_232, List.forall_mem_cons.mpr ⟨zw_2_234, List.forall_mem_cons.mpr ⟨zw_2_236, fun _ h => absurd h List.not_mem_nil⟩⟩⟩⟩⟩⟩⟩⟩⟩⟩⟩⟩⟩⟩⟩⟩⟩⟩⟩⟩⟩⟩⟩⟩⟩⟩
theorem zg_c {y : Cond} (hy : y ∈ zw) : GoodIn zw (y :: zw) := fun w h => (List.mem_cons.mp h).elim (fun e => e ▸ ⟨hy, good_of_word (zw_g hy)⟩) (fun h => ⟨h, good_of_word (zw_g h)⟩)
theorem zg_a {us ws : List Cond} (hu : ∀ w ∈ us, w ∈ zw) (hw : GoodIn zw ws) : GoodIn zw (us ++ ws) := fun w h => (List.mem_append.mp h).elim (fun h => ⟨hu w h, good_of_word (zw_g (hu w h))⟩) (hw w)
theorem zg_V {a b c d y : Cond} (ha : a ∈ zw) (hb : b ∈ zw) (hc : c ∈ zw) (hd : d ∈ zw) (hy : y ∈ zw) : GoodIn zw ([a, b, c, d] ++ (y :: zw)) := zg_a (List.forall_mem_cons.mpr ⟨ha, List.forall_mem_cons.mpr ⟨hb, List.forall_mem_cons.mpr ⟨hc, List.forall_mem_cons.mpr ⟨hd, fun _ h => absurd h List.not_mem_nil⟩⟩⟩⟩) (zg_c hy)
theorem zg_S {a b c y : Cond} (ha : a ∈ zw) (hb : b ∈ zw) (hc : c ∈ zw) (hy : y ∈ zw) : GoodIn zw ([a, b, c] ++ (y :: zw)) := zg_a (List.forall_mem_cons.mpr ⟨ha, List.forall_mem_cons.mpr ⟨hb, List.forall_mem_cons.mpr ⟨hc, fun _ h => absurd h List.not_mem_nil⟩⟩⟩) (zg_c hy)
abbrev wsA_init : List Cond := .code yA_init cA_init 1 none :: zw
abbrev wsR_init : List Cond := .code yR_init cR_init 1 none :: zw
abbrev wsS_init : List Cond := .code yS_init cS_init 1 none :: zw
abbrev wsA_text : List Cond := .code yA_text cA_text 4 (some .int) :: zw
abbrev wsA_areOfText : List Cond := .code yA_areOfText cA_areOfText 5 (some .boolean) :: zw
abbrev wsA_byteAt : List Cond := .code yA_byteAt cA_byteAt 4 (some .char) :: zw
abbrev wsA_isBlank : List Cond := .code yA_isBlank cA_isBlank 1 (some .boolean) :: zw
abbrev wsA_unpack : List Cond := .code yA_unpack cA_unpack 6 none :: zw
abbrev wsA_name : List Cond := .code yA_name cA_name 4 (some .boolean) :: zw
abbrev wsA_areName : List Cond := .code yA_areName cA_areName 4 (some .boolean) :: zw
abbrev wsA_startsName : List Cond := .code yA_startsName cA_startsName 1 (some .boolean) :: zw
abbrev wsA_isOfWord : List Cond := .code yA_isOfWord cA_isOfWord 1 (some .boolean) :: zw
abbrev wsA_isDigit : List Cond := .code yA_isDigit cA_isDigit 1 (some .boolean) :: zw
abbrev wsA_put : List Cond := .code yA_put cA_put 5 (some .boolean) :: zw
abbrev wsS_findOrAdd : List Cond := .code yS_findOrAdd cS_findOrAdd 6 (some (.object "ShellSum$Named")) :: zw
abbrev wsS_find : List Cond := .code yS_find cS_find 6 (some (.object "ShellSum$Named")) :: zw
abbrev wsN_isCalled : List Cond := .code yN_isCalled cN_isCalled 5 (some .boolean) :: zw
abbrev wsN_init : List Cond := .code yN_init cN_init 5 none :: zw
abbrev wsA_drop : List Cond := .code yA_drop cA_drop 1 (some .boolean) :: zw
abbrev wsS_remove : List Cond := .code yS_remove cS_remove 6 (some .boolean) :: zw
abbrev wsA_letter : List Cond := .code yA_letter cA_letter 3 (some .int) :: zw
abbrev wsA_count : List Cond := .code yA_count cA_count 3 (some .int) :: zw
abbrev wsL_value : List Cond := .codeWith yL_value cL_value 3 (some .int) [(0, 7, 10, 13)] :: zw
abbrev wsA_value : List Cond := .code yA_value cA_value 2 (some .long) :: zw
abbrev wsR_manages : List Cond := .codeWith yR_manages cR_manages 3 (some .boolean) [(42, 51, 54, 54)] :: zw
abbrev wsR_skipBlanks : List Cond := .code yR_skipBlanks cR_skipBlanks 2 none :: zw
abbrev wsR_charAt : List Cond := .code yR_charAt cR_charAt 2 (some .char) :: zw
abbrev wsR_expression : List Cond := .code yR_expression cR_expression 7 (some .long) :: zw
abbrev wsR_wordEnd : List Cond := .code yR_wordEnd cR_wordEnd 3 (some .int) :: zw
abbrev wsR_assignmentSign : List Cond := .code yR_assignmentSign cR_assignmentSign 4 (some .int) :: zw
abbrev wsR_isShift : List Cond := .code yR_isShift cR_isShift 1 (some .boolean) :: zw
abbrev wsG_rankOf : List Cond := .code yG_rankOf cG_rankOf 1 (some .int) :: zw
abbrev wsR_deeper : List Cond := .code yR_deeper cR_deeper 1 (some .int) :: zw
abbrev wsR_assign : List Cond := .code yR_assign cR_assign 9 (some .long) :: zw
abbrev wsR_nameValue : List Cond := .code yR_nameValue cR_nameValue 4 (some .long) :: zw
abbrev wsA_numberIn : List Cond := .code yA_numberIn cA_numberIn 9 (some .long) :: zw
abbrev wsA_baseOf : List Cond := .code yA_baseOf cA_baseOf 2 (some .int) :: zw
abbrev wsA_digitOf : List Cond := .code yA_digitOf cA_digitOf 1 (some .int) :: zw
abbrev wsG_apply : List Cond := .code yG_apply cG_apply 5 (some .long) :: zw
abbrev wsG_divide : List Cond := .code yG_divide cG_divide 5 (some .long) :: zw
abbrev wsG_holds : List Cond := .code yG_holds cG_holds 5 (some .boolean) :: zw
abbrev wsN_writeDecimal : List Cond := .code yN_writeDecimal cN_writeDecimal 6 none :: zw
abbrev wsN_decimalLength : List Cond := .code yN_decimalLength cN_decimalLength 5 (some .int) :: zw
abbrev wsR_choice : List Cond := .code yR_choice cR_choice 11 (some .long) :: zw
abbrev wsR_binary : List Cond := .code yR_binary cR_binary 9 (some .long) :: zw
abbrev wsR_unary : List Cond := .code yR_unary cR_unary 5 (some .long) :: zw
abbrev wsR_expect : List Cond := .code yR_expect cR_expect 2 none :: zw
abbrev wsR_word : List Cond := .code yR_word cR_word 3 (some .long) :: zw
abbrev wsR_signOfTwo : List Cond := .code yR_signOfTwo cR_signOfTwo 3 (some .int) :: zw
abbrev wsR_settle : List Cond := .code yR_settle cR_settle 9 (some .long) :: zw
abbrev wsR_join : List Cond := .code yR_join cR_join 6 (some .long) :: zw
abbrev wsG_isSettledBy : List Cond := .code yG_isSettledBy cG_isSettledBy 3 (some .boolean) :: zw
abbrev wsR_await : List Cond := .code yR_await cR_await 4 none :: zw
abbrev wsM_init : List Cond := .code yM_init cM_init 1 none :: zw
abbrev wsM_thrown : List Cond := .code yM_thrown cM_thrown 1 (some .int) :: zw
abbrev wsM_text : List Cond := .code yM_text cM_text 5 (some .int) :: zw
abbrev wsM_areTexts : List Cond := .code yM_areTexts cM_areTexts 5 (some .boolean) :: zw
abbrev wsM_byteOf : List Cond := .code yM_byteOf cM_byteOf 4 (some .int) :: zw
abbrev wsM_isText : List Cond := .code yM_isText cM_isText 1 (some .boolean) :: zw
abbrev wsM_name : List Cond := .code yM_name cM_name 6 (some .boolean) :: zw
abbrev wsM_isLetter : List Cond := .code yM_isLetter cM_isLetter 1 (some .boolean) :: zw
abbrev wsM_isDigit : List Cond := .code yM_isDigit cM_isDigit 1 (some .boolean) :: zw
abbrev wsM_put : List Cond := .code yM_put cM_put 6 (some .boolean) :: zw
abbrev wsM_placeFor : List Cond := .code yM_placeFor cM_placeFor 6 (some .int) :: zw
abbrev wsM_find : List Cond := .code yM_find cM_find 8 (some .int) :: zw
abbrev wsM_drop : List Cond := .code yM_drop cM_drop 2 (some .boolean) :: zw
abbrev wsM_letter : List Cond := .code yM_letter cM_letter 3 (some .int) :: zw
abbrev wsM_value : List Cond := .code yM_value cM_value 2 (some .long) :: zw
abbrev wsM_sign : List Cond := .code yM_sign cM_sign 1 (some .int) :: zw
abbrev wsM_plain : List Cond := .code yM_plain cM_plain 3 none :: zw
abbrev wsM_wait : List Cond := .code yM_wait cM_wait 7 none :: zw
abbrev wsM_go : List Cond := .code yM_go cM_go 12 none :: zw
abbrev wsM_aSum : List Cond := .code yM_aSum cM_aSum 7 none :: zw
abbrev wsM_nameEnd : List Cond := .code yM_nameEnd cM_nameEnd 2 (some .int) :: zw
abbrev wsM_gives : List Cond := .code yM_gives cM_gives 3 (some .int) :: zw
abbrev wsM_at : List Cond := .code yM_at cM_at 2 (some .int) :: zw
abbrev wsM_inner : List Cond := .code yM_inner cM_inner 1 none :: zw
abbrev wsM_taken : List Cond := .code yM_taken cM_taken 1 (some .long) :: zw
abbrev wsM_keep : List Cond := .code yM_keep cM_keep 3 none :: zw
abbrev wsM_more : List Cond := .code yM_more cM_more 9 none :: zw
abbrev wsM_rank : List Cond := .code yM_rank cM_rank 3 (some .int) :: zw
abbrev wsM_joined : List Cond := .code yM_joined cM_joined 9 (some .long) :: zw
abbrev wsM_term : List Cond := .code yM_term cM_term 4 none :: zw
abbrev wsM_named : List Cond := .code yM_named cM_named 7 (some .long) :: zw
abbrev wsM_numberEnd : List Cond := .code yM_numberEnd cM_numberEnd 10 (some .int) :: zw
abbrev wsM_digitOf : List Cond := .code yM_digitOf cM_digitOf 1 (some .int) :: zw
abbrev wsM_given : List Cond := .code yM_given cM_given 7 none :: zw
abbrev wsM_give : List Cond := .code yM_give cM_give 11 none :: zw
abbrev wsM_count : List Cond := .code yM_count cM_count 3 (some .int) :: zw
end
section
theorem dA_init_0 : decode cA_init 0 = .ok (.aload_n 0, 1) := by decide +kernel
theorem dA_init_1 : decode cA_init 1 = .ok (.invokespecial 3, 3) := by decide +kernel
theorem dA_init_4 : decode cA_init 4 = .ok (.aload_n 0, 1) := by decide +kernel
theorem dA_init_5 : decode cA_init 5 = .ok (.new 9, 3) := by decide +kernel
theorem dA_init_8 : decode cA_init 8 = .ok (.dup, 1) := by decide +kernel
theorem dA_init_9 : decode cA_init 9 = .ok (.invokespecial 11, 3) := by decide +kernel
theorem dA_init_12 : decode cA_init 12 = .ok (.putfield 12, 3) := by decide +kernel
theorem dA_init_15 : decode cA_init 15 = .ok (.aload_n 0, 1) := by decide +kernel
theorem dA_init_16 : decode cA_init 16 = .ok (.aload_n 0, 1) := by decide +kernel
theorem dA_init_17 : decode cA_init 17 = .ok (.getfield 12, 3) := by decide +kernel
theorem dA_init_20 : decode cA_init 20 = .ok (.getfield 16, 3) := by decide +kernel
theorem dA_init_23 : decode cA_init 23 = .ok (.putfield 20, 3) := by decide +kernel
theorem dA_init_26 : decode cA_init 26 = .ok (.aload_n 0, 1) := by decide +kernel
theorem dA_init_27 : decode cA_init 27 = .ok (.aload_n 0, 1) := by decide +kernel
theorem dA_init_28 : decode cA_init 28 = .ok (.getfield 12, 3) := by decide +kernel
theorem dA_init_31 : decode cA_init 31 = .ok (.getfield 21, 3) := by decide +kernel
theorem dA_init_34 : decode cA_init 34 = .ok (.putfield 25, 3) := by decide +kernel
theorem dA_init_37 : decode cA_init 37 = .ok (.aload_n 0, 1) := by decide +kernel
theorem dA_init_38 : decode cA_init 38 = .ok (.iconst 0, 1) := by decide +kernel
theorem dA_init_39 : decode cA_init 39 = .ok (.putfield 26, 3) := by decide +kernel
theorem dA_init_42 : decode cA_init 42 = .ok (.aload_n 0, 1) := by decide +kernel
theorem dA_init_43 : decode cA_init 43 = .ok (.bipush 8, 2) := by decide +kernel
theorem dA_init_45 : decode cA_init 45 = .ok (.newarray .char, 2) := by decide +kernel
theorem dA_init_47 : decode cA_init 47 = .ok (.putfield 30, 3) := by decide +kernel
theorem dA_init_50 : decode cA_init 50 = .ok (.aload_n 0, 1) := by decide +kernel
theorem dA_init_51 : decode cA_init 51 = .ok (.iconst 1, 1) := by decide +kernel
theorem dA_init_52 : decode cA_init 52 = .ok (.putfield 33, 3) := by decide +kernel
theorem dA_init_55 : decode cA_init 55 = .ok (.aload_n 0, 1) := by decide +kernel
theorem dA_init_56 : decode cA_init 56 = .ok (.iconst 0, 1) := by decide +kernel
theorem dA_init_57 : decode cA_init 57 = .ok (.putfield 36, 3) := by decide +kernel
theorem dA_init_60 : decode cA_init 60 = .ok (.aload_n 0, 1) := by decide +kernel
theorem dA_init_61 : decode cA_init 61 = .ok (.iconst 0, 1) := by decide +kernel
theorem dA_init_62 : decode cA_init 62 = .ok (.putfield 39, 3) := by decide +kernel
theorem dA_init_65 : decode cA_init 65 = .ok (.aload_n 0, 1) := by decide +kernel
theorem dA_init_66 : decode cA_init 66 = .ok (.getfield 30, 3) := by decide +kernel
theorem dA_init_69 : decode cA_init 69 = .ok (.iconst 0, 1) := by decide +kernel
theorem dA_init_70 : decode cA_init 70 = .ok (.bipush 97, 2) := by decide +kernel
theorem dA_init_72 : decode cA_init 72 = .ok (.castore, 1) := by decide +kernel
theorem dA_init_73 : decode cA_init 73 = .ok (.return_, 1) := by decide +kernel
theorem dS_init_0 : decode cS_init 0 = .ok (.aload_n 0, 1) := by decide +kernel
theorem dS_init_1 : decode cS_init 1 = .ok (.invokespecial 3, 3) := by decide +kernel
theorem dS_init_4 : decode cS_init 4 = .ok (.aload_n 0, 1) := by decide +kernel
theorem dS_init_5 : decode cS_init 5 = .ok (.bipush 64, 2) := by decide +kernel
theorem dS_init_7 : decode cS_init 7 = .ok (.anewarray 9, 3) := by decide +kernel
theorem dS_init_10 : decode cS_init 10 = .ok (.putfield 11, 3) := by decide +kernel
theorem dS_init_13 : decode cS_init 13 = .ok (.aload_n 0, 1) := by decide +kernel
theorem dS_init_14 : decode cS_init 14 = .ok (.iconst 0, 1) := by decide +kernel
theorem dS_init_15 : decode cS_init 15 = .ok (.putfield 17, 3) := by decide +kernel
theorem dS_init_18 : decode cS_init 18 = .ok (.return_, 1) := by decide +kernel
theorem dA_text_0 : decode cA_text 0 = .ok (.lload_n 1, 1) := by decide +kernel
theorem dA_text_1 : decode cA_text 1 = .ok (.iload_n 3, 1) := by decide +kernel
theorem dA_text_2 : decode cA_text 2 = .ok (.invokestatic 42, 3) := by decide +kernel
theorem dA_text_5 : decode cA_text 5 = .ok (.ifCond .eq 15, 3) := by decide +kernel
theorem dA_text_8 : decode cA_text 8 = .ok (.aload_n 0, 1) := by decide +kernel
theorem dA_text_9 : decode cA_text 9 = .ok (.getfield 26, 3) := by decide +kernel
theorem dA_text_12 : decode cA_text 12 = .ok (.iload_n 3, 1) := by decide +kernel
theorem dA_text_13 : decode cA_text 13 = .ok (.iadd, 1) := by decide +kernel
theorem dA_text_14 : decode cA_text 14 = .ok (.sipush 300, 3) := by decide +kernel
theorem dA_text_17 : decode cA_text 17 = .ok (.if_icmp .le 5, 3) := by decide +kernel
theorem dA_text_20 : decode cA_text 20 = .ok (.iconst (-1), 1) := by decide +kernel
theorem dA_text_21 : decode cA_text 21 = .ok (.ireturn, 1) := by decide +kernel
theorem dA_text_22 : decode cA_text 22 = .ok (.lload_n 1, 1) := by decide +kernel
theorem dA_text_23 : decode cA_text 23 = .ok (.iload_n 3, 1) := by decide +kernel
theorem dA_text_24 : decode cA_text 24 = .ok (.aload_n 0, 1) := by decide +kernel
theorem dA_text_25 : decode cA_text 25 = .ok (.getfield 20, 3) := by decide +kernel
theorem dA_text_28 : decode cA_text 28 = .ok (.aload_n 0, 1) := by decide +kernel
theorem dA_text_29 : decode cA_text 29 = .ok (.getfield 26, 3) := by decide +kernel
theorem dA_text_32 : decode cA_text 32 = .ok (.invokestatic 46, 3) := by decide +kernel
theorem dA_text_35 : decode cA_text 35 = .ok (.aload_n 0, 1) := by decide +kernel
theorem dA_text_36 : decode cA_text 36 = .ok (.dup, 1) := by decide +kernel
theorem dA_text_37 : decode cA_text 37 = .ok (.getfield 26, 3) := by decide +kernel
theorem dA_text_40 : decode cA_text 40 = .ok (.iload_n 3, 1) := by decide +kernel
theorem dA_text_41 : decode cA_text 41 = .ok (.iadd, 1) := by decide +kernel
theorem dA_text_42 : decode cA_text 42 = .ok (.putfield 26, 3) := by decide +kernel
theorem dA_text_45 : decode cA_text 45 = .ok (.aload_n 0, 1) := by decide +kernel
theorem dA_text_46 : decode cA_text 46 = .ok (.getfield 26, 3) := by decide +kernel
theorem dA_text_49 : decode cA_text 49 = .ok (.ireturn, 1) := by decide +kernel
theorem dA_areOfText_0 : decode cA_areOfText 0 = .ok (.iload_n 2, 1) := by decide +kernel
theorem dA_areOfText_1 : decode cA_areOfText 1 = .ok (.ifCond .lt 9, 3) := by decide +kernel
theorem dA_areOfText_4 : decode cA_areOfText 4 = .ok (.iload_n 2, 1) := by decide +kernel
theorem dA_areOfText_5 : decode cA_areOfText 5 = .ok (.bipush 8, 2) := by decide +kernel
theorem dA_areOfText_7 : decode cA_areOfText 7 = .ok (.if_icmp .le 5, 3) := by decide +kernel
theorem dA_areOfText_10 : decode cA_areOfText 10 = .ok (.iconst 0, 1) := by decide +kernel
theorem dA_areOfText_11 : decode cA_areOfText 11 = .ok (.ireturn, 1) := by decide +kernel
theorem dA_areOfText_12 : decode cA_areOfText 12 = .ok (.iconst 0, 1) := by decide +kernel
theorem dA_areOfText_13 : decode cA_areOfText 13 = .ok (.istore_n 3, 1) := by decide +kernel
theorem dA_areOfText_14 : decode cA_areOfText 14 = .ok (.iload_n 3, 1) := by decide +kernel
theorem dA_areOfText_15 : decode cA_areOfText 15 = .ok (.iload_n 2, 1) := by decide +kernel
theorem dA_areOfText_16 : decode cA_areOfText 16 = .ok (.if_icmp .ge 41, 3) := by decide +kernel
theorem dA_areOfText_19 : decode cA_areOfText 19 = .ok (.lload_n 0, 1) := by decide +kernel
theorem dA_areOfText_20 : decode cA_areOfText 20 = .ok (.iload_n 2, 1) := by decide +kernel
theorem dA_areOfText_21 : decode cA_areOfText 21 = .ok (.iload_n 3, 1) := by decide +kernel
theorem dA_areOfText_22 : decode cA_areOfText 22 = .ok (.invokestatic 90, 3) := by decide +kernel
theorem dA_areOfText_25 : decode cA_areOfText 25 = .ok (.istore 4, 2) := by decide +kernel
theorem dA_areOfText_27 : decode cA_areOfText 27 = .ok (.iload 4, 2) := by decide +kernel
theorem dA_areOfText_29 : decode cA_areOfText 29 = .ok (.invokestatic 94, 3) := by decide +kernel
theorem dA_areOfText_32 : decode cA_areOfText 32 = .ok (.ifCond .ne 19, 3) := by decide +kernel
theorem dA_areOfText_35 : decode cA_areOfText 35 = .ok (.iload 4, 2) := by decide +kernel
theorem dA_areOfText_37 : decode cA_areOfText 37 = .ok (.bipush 32, 2) := by decide +kernel
theorem dA_areOfText_39 : decode cA_areOfText 39 = .ok (.if_icmp .lt 10, 3) := by decide +kernel
theorem dA_areOfText_42 : decode cA_areOfText 42 = .ok (.iload 4, 2) := by decide +kernel
theorem dA_areOfText_44 : decode cA_areOfText 44 = .ok (.bipush 126, 2) := by decide +kernel
theorem dA_areOfText_46 : decode cA_areOfText 46 = .ok (.if_icmp .le 5, 3) := by decide +kernel
theorem dA_areOfText_49 : decode cA_areOfText 49 = .ok (.iconst 0, 1) := by decide +kernel
theorem dA_areOfText_50 : decode cA_areOfText 50 = .ok (.ireturn, 1) := by decide +kernel
theorem dA_areOfText_51 : decode cA_areOfText 51 = .ok (.iinc 3 1, 3) := by decide +kernel
theorem dA_areOfText_54 : decode cA_areOfText 54 = .ok (.goto (-40), 3) := by decide +kernel
theorem dA_areOfText_57 : decode cA_areOfText 57 = .ok (.iconst 1, 1) := by decide +kernel
theorem dA_areOfText_58 : decode cA_areOfText 58 = .ok (.ireturn, 1) := by decide +kernel
theorem dA_byteAt_0 : decode cA_byteAt 0 = .ok (.lload_n 0, 1) := by decide +kernel
theorem dA_byteAt_1 : decode cA_byteAt 1 = .ok (.bipush 8, 2) := by decide +kernel
theorem dA_byteAt_3 : decode cA_byteAt 3 = .ok (.iload_n 2, 1) := by decide +kernel
theorem dA_byteAt_4 : decode cA_byteAt 4 = .ok (.iconst 1, 1) := by decide +kernel
theorem dA_byteAt_5 : decode cA_byteAt 5 = .ok (.isub, 1) := by decide +kernel
theorem dA_byteAt_6 : decode cA_byteAt 6 = .ok (.iload_n 3, 1) := by decide +kernel
theorem dA_byteAt_7 : decode cA_byteAt 7 = .ok (.isub, 1) := by decide +kernel
theorem dA_byteAt_8 : decode cA_byteAt 8 = .ok (.imul, 1) := by decide +kernel
theorem dA_byteAt_9 : decode cA_byteAt 9 = .ok (.lushr, 1) := by decide +kernel
theorem dA_byteAt_10 : decode cA_byteAt 10 = .ok (.ldc2_w 88, 3) := by decide +kernel
theorem dA_byteAt_13 : decode cA_byteAt 13 = .ok (.land, 1) := by decide +kernel
theorem dA_byteAt_14 : decode cA_byteAt 14 = .ok (.l2i, 1) := by decide +kernel
theorem dA_byteAt_15 : decode cA_byteAt 15 = .ok (.i2c, 1) := by decide +kernel
theorem dA_byteAt_16 : decode cA_byteAt 16 = .ok (.ireturn, 1) := by decide +kernel
theorem dA_isBlank_0 : decode cA_isBlank 0 = .ok (.iload_n 0, 1) := by decide +kernel
theorem dA_isBlank_1 : decode cA_isBlank 1 = .ok (.bipush 9, 2) := by decide +kernel
theorem dA_isBlank_3 : decode cA_isBlank 3 = .ok (.if_icmp .eq 15, 3) := by decide +kernel
theorem dA_isBlank_6 : decode cA_isBlank 6 = .ok (.iload_n 0, 1) := by decide +kernel
theorem dA_isBlank_7 : decode cA_isBlank 7 = .ok (.bipush 10, 2) := by decide +kernel
theorem dA_isBlank_9 : decode cA_isBlank 9 = .ok (.if_icmp .eq 9, 3) := by decide +kernel
theorem dA_isBlank_12 : decode cA_isBlank 12 = .ok (.iload_n 0, 1) := by decide +kernel
theorem dA_isBlank_13 : decode cA_isBlank 13 = .ok (.bipush 32, 2) := by decide +kernel
theorem dA_isBlank_15 : decode cA_isBlank 15 = .ok (.if_icmp .ne 7, 3) := by decide +kernel
theorem dA_isBlank_18 : decode cA_isBlank 18 = .ok (.iconst 1, 1) := by decide +kernel
theorem dA_isBlank_19 : decode cA_isBlank 19 = .ok (.goto 4, 3) := by decide +kernel
theorem dA_isBlank_22 : decode cA_isBlank 22 = .ok (.iconst 0, 1) := by decide +kernel
theorem dA_isBlank_23 : decode cA_isBlank 23 = .ok (.ireturn, 1) := by decide +kernel
theorem dA_unpack_0 : decode cA_unpack 0 = .ok (.iconst 0, 1) := by decide +kernel
theorem dA_unpack_1 : decode cA_unpack 1 = .ok (.istore 5, 2) := by decide +kernel
theorem dA_unpack_3 : decode cA_unpack 3 = .ok (.iload 5, 2) := by decide +kernel
theorem dA_unpack_5 : decode cA_unpack 5 = .ok (.iload_n 2, 1) := by decide +kernel
theorem dA_unpack_6 : decode cA_unpack 6 = .ok (.if_icmp .ge 33, 3) := by decide +kernel
theorem dA_unpack_9 : decode cA_unpack 9 = .ok (.iload 4, 2) := by decide +kernel
theorem dA_unpack_11 : decode cA_unpack 11 = .ok (.iload 5, 2) := by decide +kernel
theorem dA_unpack_13 : decode cA_unpack 13 = .ok (.iadd, 1) := by decide +kernel
theorem dA_unpack_14 : decode cA_unpack 14 = .ok (.aload_n 3, 1) := by decide +kernel
theorem dA_unpack_15 : decode cA_unpack 15 = .ok (.arraylength, 1) := by decide +kernel
theorem dA_unpack_16 : decode cA_unpack 16 = .ok (.if_icmp .ge 23, 3) := by decide +kernel
theorem dA_unpack_19 : decode cA_unpack 19 = .ok (.aload_n 3, 1) := by decide +kernel
theorem dA_unpack_20 : decode cA_unpack 20 = .ok (.iload 4, 2) := by decide +kernel
theorem dA_unpack_22 : decode cA_unpack 22 = .ok (.iload 5, 2) := by decide +kernel
theorem dA_unpack_24 : decode cA_unpack 24 = .ok (.iadd, 1) := by decide +kernel
theorem dA_unpack_25 : decode cA_unpack 25 = .ok (.lload_n 0, 1) := by decide +kernel
theorem dA_unpack_26 : decode cA_unpack 26 = .ok (.iload_n 2, 1) := by decide +kernel
theorem dA_unpack_27 : decode cA_unpack 27 = .ok (.iload 5, 2) := by decide +kernel
theorem dA_unpack_29 : decode cA_unpack 29 = .ok (.invokestatic 90, 3) := by decide +kernel
theorem dA_unpack_32 : decode cA_unpack 32 = .ok (.castore, 1) := by decide +kernel
theorem dA_unpack_33 : decode cA_unpack 33 = .ok (.iinc 5 1, 3) := by decide +kernel
theorem dA_unpack_36 : decode cA_unpack 36 = .ok (.goto (-33), 3) := by decide +kernel
theorem dA_unpack_39 : decode cA_unpack 39 = .ok (.return_, 1) := by decide +kernel
theorem dA_name_0 : decode cA_name 0 = .ok (.lload_n 1, 1) := by decide +kernel
theorem dA_name_1 : decode cA_name 1 = .ok (.iload_n 3, 1) := by decide +kernel
theorem dA_name_2 : decode cA_name 2 = .ok (.invokestatic 65, 3) := by decide +kernel
theorem dA_name_5 : decode cA_name 5 = .ok (.ifCond .ne 5, 3) := by decide +kernel
theorem dA_name_8 : decode cA_name 8 = .ok (.iconst 0, 1) := by decide +kernel
theorem dA_name_9 : decode cA_name 9 = .ok (.ireturn, 1) := by decide +kernel
theorem dA_name_10 : decode cA_name 10 = .ok (.lload_n 1, 1) := by decide +kernel
theorem dA_name_11 : decode cA_name 11 = .ok (.iload_n 3, 1) := by decide +kernel
theorem dA_name_12 : decode cA_name 12 = .ok (.aload_n 0, 1) := by decide +kernel
theorem dA_name_13 : decode cA_name 13 = .ok (.getfield 30, 3) := by decide +kernel
theorem dA_name_16 : decode cA_name 16 = .ok (.iconst 0, 1) := by decide +kernel
theorem dA_name_17 : decode cA_name 17 = .ok (.invokestatic 46, 3) := by decide +kernel
theorem dA_name_20 : decode cA_name 20 = .ok (.aload_n 0, 1) := by decide +kernel
theorem dA_name_21 : decode cA_name 21 = .ok (.iload_n 3, 1) := by decide +kernel
theorem dA_name_22 : decode cA_name 22 = .ok (.putfield 33, 3) := by decide +kernel
theorem dA_name_25 : decode cA_name 25 = .ok (.iconst 1, 1) := by decide +kernel
theorem dA_name_26 : decode cA_name 26 = .ok (.ireturn, 1) := by decide +kernel
theorem dA_areName_0 : decode cA_areName 0 = .ok (.iload_n 2, 1) := by decide +kernel
theorem dA_areName_1 : decode cA_areName 1 = .ok (.iconst 1, 1) := by decide +kernel
theorem dA_areName_2 : decode cA_areName 2 = .ok (.if_icmp .lt 21, 3) := by decide +kernel
theorem dA_areName_5 : decode cA_areName 5 = .ok (.iload_n 2, 1) := by decide +kernel
theorem dA_areName_6 : decode cA_areName 6 = .ok (.bipush 8, 2) := by decide +kernel
theorem dA_areName_8 : decode cA_areName 8 = .ok (.if_icmp .gt 15, 3) := by decide +kernel
theorem dA_areName_11 : decode cA_areName 11 = .ok (.lload_n 0, 1) := by decide +kernel
theorem dA_areName_12 : decode cA_areName 12 = .ok (.iload_n 2, 1) := by decide +kernel
theorem dA_areName_13 : decode cA_areName 13 = .ok (.iconst 0, 1) := by decide +kernel
theorem dA_areName_14 : decode cA_areName 14 = .ok (.invokestatic 90, 3) := by decide +kernel
theorem dA_areName_17 : decode cA_areName 17 = .ok (.invokestatic 98, 3) := by decide +kernel
theorem dA_areName_20 : decode cA_areName 20 = .ok (.ifCond .ne 5, 3) := by decide +kernel
theorem dA_areName_23 : decode cA_areName 23 = .ok (.iconst 0, 1) := by decide +kernel
theorem dA_areName_24 : decode cA_areName 24 = .ok (.ireturn, 1) := by decide +kernel
theorem dA_areName_25 : decode cA_areName 25 = .ok (.iconst 1, 1) := by decide +kernel
theorem dA_areName_26 : decode cA_areName 26 = .ok (.istore_n 3, 1) := by decide +kernel
theorem dA_areName_27 : decode cA_areName 27 = .ok (.iload_n 3, 1) := by decide +kernel
theorem dA_areName_28 : decode cA_areName 28 = .ok (.iload_n 2, 1) := by decide +kernel
theorem dA_areName_29 : decode cA_areName 29 = .ok (.if_icmp .ge 23, 3) := by decide +kernel
theorem dA_areName_32 : decode cA_areName 32 = .ok (.lload_n 0, 1) := by decide +kernel
theorem dA_areName_33 : decode cA_areName 33 = .ok (.iload_n 2, 1) := by decide +kernel
theorem dA_areName_34 : decode cA_areName 34 = .ok (.iload_n 3, 1) := by decide +kernel
theorem dA_areName_35 : decode cA_areName 35 = .ok (.invokestatic 90, 3) := by decide +kernel
theorem dA_areName_38 : decode cA_areName 38 = .ok (.invokestatic 101, 3) := by decide +kernel
theorem dA_areName_41 : decode cA_areName 41 = .ok (.ifCond .ne 5, 3) := by decide +kernel
theorem dA_areName_44 : decode cA_areName 44 = .ok (.iconst 0, 1) := by decide +kernel
theorem dA_areName_45 : decode cA_areName 45 = .ok (.ireturn, 1) := by decide +kernel
theorem dA_areName_46 : decode cA_areName 46 = .ok (.iinc 3 1, 3) := by decide +kernel
theorem dA_areName_49 : decode cA_areName 49 = .ok (.goto (-22), 3) := by decide +kernel
theorem dA_areName_52 : decode cA_areName 52 = .ok (.iconst 1, 1) := by decide +kernel
theorem dA_areName_53 : decode cA_areName 53 = .ok (.ireturn, 1) := by decide +kernel
theorem dA_startsName_0 : decode cA_startsName 0 = .ok (.iload_n 0, 1) := by decide +kernel
theorem dA_startsName_1 : decode cA_startsName 1 = .ok (.bipush 97, 2) := by decide +kernel
theorem dA_startsName_3 : decode cA_startsName 3 = .ok (.if_icmp .lt 9, 3) := by decide +kernel
theorem dA_startsName_6 : decode cA_startsName 6 = .ok (.iload_n 0, 1) := by decide +kernel
theorem dA_startsName_7 : decode cA_startsName 7 = .ok (.bipush 122, 2) := by decide +kernel
theorem dA_startsName_9 : decode cA_startsName 9 = .ok (.if_icmp .le 21, 3) := by decide +kernel
theorem dA_startsName_12 : decode cA_startsName 12 = .ok (.iload_n 0, 1) := by decide +kernel
theorem dA_startsName_13 : decode cA_startsName 13 = .ok (.bipush 65, 2) := by decide +kernel
theorem dA_startsName_15 : decode cA_startsName 15 = .ok (.if_icmp .lt 9, 3) := by decide +kernel
theorem dA_startsName_18 : decode cA_startsName 18 = .ok (.iload_n 0, 1) := by decide +kernel
theorem dA_startsName_19 : decode cA_startsName 19 = .ok (.bipush 90, 2) := by decide +kernel
theorem dA_startsName_21 : decode cA_startsName 21 = .ok (.if_icmp .le 9, 3) := by decide +kernel
theorem dA_startsName_24 : decode cA_startsName 24 = .ok (.iload_n 0, 1) := by decide +kernel
theorem dA_startsName_25 : decode cA_startsName 25 = .ok (.bipush 95, 2) := by decide +kernel
theorem dA_startsName_27 : decode cA_startsName 27 = .ok (.if_icmp .ne 7, 3) := by decide +kernel
theorem dA_startsName_30 : decode cA_startsName 30 = .ok (.iconst 1, 1) := by decide +kernel
theorem dA_startsName_31 : decode cA_startsName 31 = .ok (.goto 4, 3) := by decide +kernel
theorem dA_startsName_34 : decode cA_startsName 34 = .ok (.iconst 0, 1) := by decide +kernel
theorem dA_startsName_35 : decode cA_startsName 35 = .ok (.ireturn, 1) := by decide +kernel
theorem dA_isOfWord_0 : decode cA_isOfWord 0 = .ok (.iload_n 0, 1) := by decide +kernel
theorem dA_isOfWord_1 : decode cA_isOfWord 1 = .ok (.invokestatic 98, 3) := by decide +kernel
theorem dA_isOfWord_4 : decode cA_isOfWord 4 = .ok (.ifCond .ne 10, 3) := by decide +kernel
theorem dA_isOfWord_7 : decode cA_isOfWord 7 = .ok (.iload_n 0, 1) := by decide +kernel
theorem dA_isOfWord_8 : decode cA_isOfWord 8 = .ok (.invokestatic 104, 3) := by decide +kernel
theorem dA_isOfWord_11 : decode cA_isOfWord 11 = .ok (.ifCond .eq 7, 3) := by decide +kernel
theorem dA_isOfWord_14 : decode cA_isOfWord 14 = .ok (.iconst 1, 1) := by decide +kernel
theorem dA_isOfWord_15 : decode cA_isOfWord 15 = .ok (.goto 4, 3) := by decide +kernel
theorem dA_isOfWord_18 : decode cA_isOfWord 18 = .ok (.iconst 0, 1) := by decide +kernel
theorem dA_isOfWord_19 : decode cA_isOfWord 19 = .ok (.ireturn, 1) := by decide +kernel
theorem dA_isDigit_0 : decode cA_isDigit 0 = .ok (.iload_n 0, 1) := by decide +kernel
theorem dA_isDigit_1 : decode cA_isDigit 1 = .ok (.bipush 48, 2) := by decide +kernel
theorem dA_isDigit_3 : decode cA_isDigit 3 = .ok (.if_icmp .lt 13, 3) := by decide +kernel
theorem dA_isDigit_6 : decode cA_isDigit 6 = .ok (.iload_n 0, 1) := by decide +kernel
theorem dA_isDigit_7 : decode cA_isDigit 7 = .ok (.bipush 57, 2) := by decide +kernel
theorem dA_isDigit_9 : decode cA_isDigit 9 = .ok (.if_icmp .gt 7, 3) := by decide +kernel
theorem dA_isDigit_12 : decode cA_isDigit 12 = .ok (.iconst 1, 1) := by decide +kernel
theorem dA_isDigit_13 : decode cA_isDigit 13 = .ok (.goto 4, 3) := by decide +kernel
theorem dA_isDigit_16 : decode cA_isDigit 16 = .ok (.iconst 0, 1) := by decide +kernel
theorem dA_isDigit_17 : decode cA_isDigit 17 = .ok (.ireturn, 1) := by decide +kernel
theorem dA_put_0 : decode cA_put 0 = .ok (.lload_n 1, 1) := by decide +kernel
theorem dA_put_1 : decode cA_put 1 = .ok (.iload_n 3, 1) := by decide +kernel
theorem dA_put_2 : decode cA_put 2 = .ok (.invokestatic 42, 3) := by decide +kernel
theorem dA_put_5 : decode cA_put 5 = .ok (.ifCond .ne 5, 3) := by decide +kernel
theorem dA_put_8 : decode cA_put 8 = .ok (.iconst 0, 1) := by decide +kernel
theorem dA_put_9 : decode cA_put 9 = .ok (.ireturn, 1) := by decide +kernel
theorem dA_put_10 : decode cA_put 10 = .ok (.aload_n 0, 1) := by decide +kernel
theorem dA_put_11 : decode cA_put 11 = .ok (.getfield 25, 3) := by decide +kernel
theorem dA_put_14 : decode cA_put 14 = .ok (.aload_n 0, 1) := by decide +kernel
theorem dA_put_15 : decode cA_put 15 = .ok (.getfield 30, 3) := by decide +kernel
theorem dA_put_18 : decode cA_put 18 = .ok (.iconst 0, 1) := by decide +kernel
theorem dA_put_19 : decode cA_put 19 = .ok (.aload_n 0, 1) := by decide +kernel
theorem dA_put_20 : decode cA_put 20 = .ok (.getfield 33, 3) := by decide +kernel
theorem dA_put_23 : decode cA_put 23 = .ok (.invokevirtual 68, 3) := by decide +kernel
theorem dA_put_26 : decode cA_put 26 = .ok (.astore 4, 2) := by decide +kernel
theorem dA_put_28 : decode cA_put 28 = .ok (.aload 4, 2) := by decide +kernel
theorem dA_put_30 : decode cA_put 30 = .ok (.ifnonnull 5, 3) := by decide +kernel
theorem dA_put_33 : decode cA_put 33 = .ok (.iconst 0, 1) := by decide +kernel
theorem dA_put_34 : decode cA_put 34 = .ok (.ireturn, 1) := by decide +kernel
theorem dA_put_35 : decode cA_put 35 = .ok (.lload_n 1, 1) := by decide +kernel
theorem dA_put_36 : decode cA_put 36 = .ok (.iload_n 3, 1) := by decide +kernel
theorem dA_put_37 : decode cA_put 37 = .ok (.aload 4, 2) := by decide +kernel
theorem dA_put_39 : decode cA_put 39 = .ok (.getfield 74, 3) := by decide +kernel
theorem dA_put_42 : decode cA_put 42 = .ok (.iconst 0, 1) := by decide +kernel
theorem dA_put_43 : decode cA_put 43 = .ok (.invokestatic 46, 3) := by decide +kernel
theorem dA_put_46 : decode cA_put 46 = .ok (.aload 4, 2) := by decide +kernel
theorem dA_put_48 : decode cA_put 48 = .ok (.iload_n 3, 1) := by decide +kernel
theorem dA_put_49 : decode cA_put 49 = .ok (.putfield 77, 3) := by decide +kernel
theorem dA_put_52 : decode cA_put 52 = .ok (.iconst 1, 1) := by decide +kernel
theorem dA_put_53 : decode cA_put 53 = .ok (.ireturn, 1) := by decide +kernel
theorem dS_findOrAdd_0 : decode cS_findOrAdd 0 = .ok (.aload_n 0, 1) := by decide +kernel
theorem dS_findOrAdd_1 : decode cS_findOrAdd 1 = .ok (.aload_n 1, 1) := by decide +kernel
theorem dS_findOrAdd_2 : decode cS_findOrAdd 2 = .ok (.iload_n 2, 1) := by decide +kernel
theorem dS_findOrAdd_3 : decode cS_findOrAdd 3 = .ok (.iload_n 3, 1) := by decide +kernel
theorem dS_findOrAdd_4 : decode cS_findOrAdd 4 = .ok (.invokevirtual 25, 3) := by decide +kernel
theorem dS_findOrAdd_7 : decode cS_findOrAdd 7 = .ok (.astore 4, 2) := by decide +kernel
theorem dS_findOrAdd_9 : decode cS_findOrAdd 9 = .ok (.aload 4, 2) := by decide +kernel
theorem dS_findOrAdd_11 : decode cS_findOrAdd 11 = .ok (.ifnonnull 15, 3) := by decide +kernel
theorem dS_findOrAdd_14 : decode cS_findOrAdd 14 = .ok (.aload_n 0, 1) := by decide +kernel
theorem dS_findOrAdd_15 : decode cS_findOrAdd 15 = .ok (.getfield 17, 3) := by decide +kernel
theorem dS_findOrAdd_18 : decode cS_findOrAdd 18 = .ok (.aload_n 0, 1) := by decide +kernel
theorem dS_findOrAdd_19 : decode cS_findOrAdd 19 = .ok (.getfield 11, 3) := by decide +kernel
theorem dS_findOrAdd_22 : decode cS_findOrAdd 22 = .ok (.arraylength, 1) := by decide +kernel
theorem dS_findOrAdd_23 : decode cS_findOrAdd 23 = .ok (.if_icmp .lt 6, 3) := by decide +kernel
theorem dS_findOrAdd_26 : decode cS_findOrAdd 26 = .ok (.aload 4, 2) := by decide +kernel
theorem dS_findOrAdd_28 : decode cS_findOrAdd 28 = .ok (.areturn, 1) := by decide +kernel
theorem dS_findOrAdd_29 : decode cS_findOrAdd 29 = .ok (.new 9, 3) := by decide +kernel
theorem dS_findOrAdd_32 : decode cS_findOrAdd 32 = .ok (.dup, 1) := by decide +kernel
theorem dS_findOrAdd_33 : decode cS_findOrAdd 33 = .ok (.aload_n 1, 1) := by decide +kernel
theorem dS_findOrAdd_34 : decode cS_findOrAdd 34 = .ok (.iload_n 2, 1) := by decide +kernel
theorem dS_findOrAdd_35 : decode cS_findOrAdd 35 = .ok (.iload_n 3, 1) := by decide +kernel
theorem dS_findOrAdd_36 : decode cS_findOrAdd 36 = .ok (.invokespecial 29, 3) := by decide +kernel
theorem dS_findOrAdd_39 : decode cS_findOrAdd 39 = .ok (.astore 5, 2) := by decide +kernel
theorem dS_findOrAdd_41 : decode cS_findOrAdd 41 = .ok (.aload_n 0, 1) := by decide +kernel
theorem dS_findOrAdd_42 : decode cS_findOrAdd 42 = .ok (.getfield 11, 3) := by decide +kernel
theorem dS_findOrAdd_45 : decode cS_findOrAdd 45 = .ok (.aload_n 0, 1) := by decide +kernel
theorem dS_findOrAdd_46 : decode cS_findOrAdd 46 = .ok (.getfield 17, 3) := by decide +kernel
theorem dS_findOrAdd_49 : decode cS_findOrAdd 49 = .ok (.aload 5, 2) := by decide +kernel
theorem dS_findOrAdd_51 : decode cS_findOrAdd 51 = .ok (.aastore, 1) := by decide +kernel
theorem dS_findOrAdd_52 : decode cS_findOrAdd 52 = .ok (.aload_n 0, 1) := by decide +kernel
theorem dS_findOrAdd_53 : decode cS_findOrAdd 53 = .ok (.dup, 1) := by decide +kernel
theorem dS_findOrAdd_54 : decode cS_findOrAdd 54 = .ok (.getfield 17, 3) := by decide +kernel
theorem dS_findOrAdd_57 : decode cS_findOrAdd 57 = .ok (.iconst 1, 1) := by decide +kernel
theorem dS_findOrAdd_58 : decode cS_findOrAdd 58 = .ok (.iadd, 1) := by decide +kernel
theorem dS_findOrAdd_59 : decode cS_findOrAdd 59 = .ok (.putfield 17, 3) := by decide +kernel
theorem dS_findOrAdd_62 : decode cS_findOrAdd 62 = .ok (.aload 5, 2) := by decide +kernel
theorem dS_findOrAdd_64 : decode cS_findOrAdd 64 = .ok (.areturn, 1) := by decide +kernel
theorem dS_find_0 : decode cS_find 0 = .ok (.iconst 0, 1) := by decide +kernel
theorem dS_find_1 : decode cS_find 1 = .ok (.istore 4, 2) := by decide +kernel
theorem dS_find_3 : decode cS_find 3 = .ok (.iload 4, 2) := by decide +kernel
theorem dS_find_5 : decode cS_find 5 = .ok (.aload_n 0, 1) := by decide +kernel
theorem dS_find_6 : decode cS_find 6 = .ok (.getfield 17, 3) := by decide +kernel
theorem dS_find_9 : decode cS_find 9 = .ok (.if_icmp .ge 47, 3) := by decide +kernel
theorem dS_find_12 : decode cS_find 12 = .ok (.iload 4, 2) := by decide +kernel
theorem dS_find_14 : decode cS_find 14 = .ok (.aload_n 0, 1) := by decide +kernel
theorem dS_find_15 : decode cS_find 15 = .ok (.getfield 11, 3) := by decide +kernel
theorem dS_find_18 : decode cS_find 18 = .ok (.arraylength, 1) := by decide +kernel
theorem dS_find_19 : decode cS_find 19 = .ok (.if_icmp .ge 37, 3) := by decide +kernel
theorem dS_find_22 : decode cS_find 22 = .ok (.aload_n 0, 1) := by decide +kernel
theorem dS_find_23 : decode cS_find 23 = .ok (.getfield 11, 3) := by decide +kernel
theorem dS_find_26 : decode cS_find 26 = .ok (.iload 4, 2) := by decide +kernel
theorem dS_find_28 : decode cS_find 28 = .ok (.aaload, 1) := by decide +kernel
theorem dS_find_29 : decode cS_find 29 = .ok (.astore 5, 2) := by decide +kernel
theorem dS_find_31 : decode cS_find 31 = .ok (.aload 5, 2) := by decide +kernel
theorem dS_find_33 : decode cS_find 33 = .ok (.ifnull 17, 3) := by decide +kernel
theorem dS_find_36 : decode cS_find 36 = .ok (.aload 5, 2) := by decide +kernel
theorem dS_find_38 : decode cS_find 38 = .ok (.aload_n 1, 1) := by decide +kernel
theorem dS_find_39 : decode cS_find 39 = .ok (.iload_n 2, 1) := by decide +kernel
theorem dS_find_40 : decode cS_find 40 = .ok (.iload_n 3, 1) := by decide +kernel
theorem dS_find_41 : decode cS_find 41 = .ok (.invokevirtual 21, 3) := by decide +kernel
theorem dS_find_44 : decode cS_find 44 = .ok (.ifCond .eq 6, 3) := by decide +kernel
theorem dS_find_47 : decode cS_find 47 = .ok (.aload 5, 2) := by decide +kernel
theorem dS_find_49 : decode cS_find 49 = .ok (.areturn, 1) := by decide +kernel
theorem dS_find_50 : decode cS_find 50 = .ok (.iinc 4 1, 3) := by decide +kernel
theorem dS_find_53 : decode cS_find 53 = .ok (.goto (-50), 3) := by decide +kernel
theorem dS_find_56 : decode cS_find 56 = .ok (.aconst_null, 1) := by decide +kernel
theorem dS_find_57 : decode cS_find 57 = .ok (.areturn, 1) := by decide +kernel
theorem dN_isCalled_0 : decode cN_isCalled 0 = .ok (.iload_n 2, 1) := by decide +kernel
theorem dN_isCalled_1 : decode cN_isCalled 1 = .ok (.ifCond .lt 20, 3) := by decide +kernel
theorem dN_isCalled_4 : decode cN_isCalled 4 = .ok (.iload_n 3, 1) := by decide +kernel
theorem dN_isCalled_5 : decode cN_isCalled 5 = .ok (.aload_n 1, 1) := by decide +kernel
theorem dN_isCalled_6 : decode cN_isCalled 6 = .ok (.arraylength, 1) := by decide +kernel
theorem dN_isCalled_7 : decode cN_isCalled 7 = .ok (.if_icmp .gt 14, 3) := by decide +kernel
theorem dN_isCalled_10 : decode cN_isCalled 10 = .ok (.iload_n 3, 1) := by decide +kernel
theorem dN_isCalled_11 : decode cN_isCalled 11 = .ok (.iload_n 2, 1) := by decide +kernel
theorem dN_isCalled_12 : decode cN_isCalled 12 = .ok (.isub, 1) := by decide +kernel
theorem dN_isCalled_13 : decode cN_isCalled 13 = .ok (.aload_n 0, 1) := by decide +kernel
theorem dN_isCalled_14 : decode cN_isCalled 14 = .ok (.getfield 25, 3) := by decide +kernel
theorem dN_isCalled_17 : decode cN_isCalled 17 = .ok (.arraylength, 1) := by decide +kernel
theorem dN_isCalled_18 : decode cN_isCalled 18 = .ok (.if_icmp .eq 5, 3) := by decide +kernel
theorem dN_isCalled_21 : decode cN_isCalled 21 = .ok (.iconst 0, 1) := by decide +kernel
theorem dN_isCalled_22 : decode cN_isCalled 22 = .ok (.ireturn, 1) := by decide +kernel
theorem dN_isCalled_23 : decode cN_isCalled 23 = .ok (.iconst 0, 1) := by decide +kernel
theorem dN_isCalled_24 : decode cN_isCalled 24 = .ok (.istore 4, 2) := by decide +kernel
theorem dN_isCalled_26 : decode cN_isCalled 26 = .ok (.iload 4, 2) := by decide +kernel
theorem dN_isCalled_28 : decode cN_isCalled 28 = .ok (.aload_n 0, 1) := by decide +kernel
theorem dN_isCalled_29 : decode cN_isCalled 29 = .ok (.getfield 25, 3) := by decide +kernel
theorem dN_isCalled_32 : decode cN_isCalled 32 = .ok (.arraylength, 1) := by decide +kernel
theorem dN_isCalled_33 : decode cN_isCalled 33 = .ok (.if_icmp .ge 27, 3) := by decide +kernel
theorem dN_isCalled_36 : decode cN_isCalled 36 = .ok (.aload_n 0, 1) := by decide +kernel
theorem dN_isCalled_37 : decode cN_isCalled 37 = .ok (.getfield 25, 3) := by decide +kernel
theorem dN_isCalled_40 : decode cN_isCalled 40 = .ok (.iload 4, 2) := by decide +kernel
theorem dN_isCalled_42 : decode cN_isCalled 42 = .ok (.caload, 1) := by decide +kernel
theorem dN_isCalled_43 : decode cN_isCalled 43 = .ok (.aload_n 1, 1) := by decide +kernel
theorem dN_isCalled_44 : decode cN_isCalled 44 = .ok (.iload_n 2, 1) := by decide +kernel
theorem dN_isCalled_45 : decode cN_isCalled 45 = .ok (.iload 4, 2) := by decide +kernel
theorem dN_isCalled_47 : decode cN_isCalled 47 = .ok (.iadd, 1) := by decide +kernel
theorem dN_isCalled_48 : decode cN_isCalled 48 = .ok (.caload, 1) := by decide +kernel
theorem dN_isCalled_49 : decode cN_isCalled 49 = .ok (.if_icmp .eq 5, 3) := by decide +kernel
theorem dN_isCalled_52 : decode cN_isCalled 52 = .ok (.iconst 0, 1) := by decide +kernel
theorem dN_isCalled_53 : decode cN_isCalled 53 = .ok (.ireturn, 1) := by decide +kernel
theorem dN_isCalled_54 : decode cN_isCalled 54 = .ok (.iinc 4 1, 3) := by decide +kernel
theorem dN_isCalled_57 : decode cN_isCalled 57 = .ok (.goto (-31), 3) := by decide +kernel
theorem dN_isCalled_60 : decode cN_isCalled 60 = .ok (.iconst 1, 1) := by decide +kernel
theorem dN_isCalled_61 : decode cN_isCalled 61 = .ok (.ireturn, 1) := by decide +kernel
theorem dN_init_0 : decode cN_init 0 = .ok (.aload_n 0, 1) := by decide +kernel
theorem dN_init_1 : decode cN_init 1 = .ok (.invokespecial 3, 3) := by decide +kernel
theorem dN_init_4 : decode cN_init 4 = .ok (.aload_n 0, 1) := by decide +kernel
theorem dN_init_5 : decode cN_init 5 = .ok (.bipush 20, 2) := by decide +kernel
theorem dN_init_7 : decode cN_init 7 = .ok (.newarray .char, 2) := by decide +kernel
theorem dN_init_9 : decode cN_init 9 = .ok (.putfield 9, 3) := by decide +kernel
theorem dN_init_12 : decode cN_init 12 = .ok (.aload_n 0, 1) := by decide +kernel
theorem dN_init_13 : decode cN_init 13 = .ok (.iconst 0, 1) := by decide +kernel
theorem dN_init_14 : decode cN_init 14 = .ok (.putfield 15, 3) := by decide +kernel
theorem dN_init_17 : decode cN_init 17 = .ok (.aload_n 0, 1) := by decide +kernel
theorem dN_init_18 : decode cN_init 18 = .ok (.iload_n 3, 1) := by decide +kernel
theorem dN_init_19 : decode cN_init 19 = .ok (.iload_n 2, 1) := by decide +kernel
theorem dN_init_20 : decode cN_init 20 = .ok (.isub, 1) := by decide +kernel
theorem dN_init_21 : decode cN_init 21 = .ok (.iconst 0, 1) := by decide +kernel
theorem dN_init_22 : decode cN_init 22 = .ok (.invokestatic 19, 3) := by decide +kernel
theorem dN_init_25 : decode cN_init 25 = .ok (.newarray .char, 2) := by decide +kernel
theorem dN_init_27 : decode cN_init 27 = .ok (.putfield 25, 3) := by decide +kernel
theorem dN_init_30 : decode cN_init 30 = .ok (.iconst 0, 1) := by decide +kernel
theorem dN_init_31 : decode cN_init 31 = .ok (.istore 4, 2) := by decide +kernel
theorem dN_init_33 : decode cN_init 33 = .ok (.iload 4, 2) := by decide +kernel
theorem dN_init_35 : decode cN_init 35 = .ok (.aload_n 0, 1) := by decide +kernel
theorem dN_init_36 : decode cN_init 36 = .ok (.getfield 25, 3) := by decide +kernel
theorem dN_init_39 : decode cN_init 39 = .ok (.arraylength, 1) := by decide +kernel
theorem dN_init_40 : decode cN_init 40 = .ok (.if_icmp .ge 31, 3) := by decide +kernel
theorem dN_init_43 : decode cN_init 43 = .ok (.iload_n 2, 1) := by decide +kernel
theorem dN_init_44 : decode cN_init 44 = .ok (.iload 4, 2) := by decide +kernel
theorem dN_init_46 : decode cN_init 46 = .ok (.iadd, 1) := by decide +kernel
theorem dN_init_47 : decode cN_init 47 = .ok (.aload_n 1, 1) := by decide +kernel
theorem dN_init_48 : decode cN_init 48 = .ok (.arraylength, 1) := by decide +kernel
theorem dN_init_49 : decode cN_init 49 = .ok (.if_icmp .ge 22, 3) := by decide +kernel
theorem dN_init_52 : decode cN_init 52 = .ok (.aload_n 0, 1) := by decide +kernel
theorem dN_init_53 : decode cN_init 53 = .ok (.getfield 25, 3) := by decide +kernel
theorem dN_init_56 : decode cN_init 56 = .ok (.iload 4, 2) := by decide +kernel
theorem dN_init_58 : decode cN_init 58 = .ok (.aload_n 1, 1) := by decide +kernel
theorem dN_init_59 : decode cN_init 59 = .ok (.iload_n 2, 1) := by decide +kernel
theorem dN_init_60 : decode cN_init 60 = .ok (.iload 4, 2) := by decide +kernel
theorem dN_init_62 : decode cN_init 62 = .ok (.iadd, 1) := by decide +kernel
theorem dN_init_63 : decode cN_init 63 = .ok (.caload, 1) := by decide +kernel
theorem dN_init_64 : decode cN_init 64 = .ok (.castore, 1) := by decide +kernel
theorem dN_init_65 : decode cN_init 65 = .ok (.iinc 4 1, 3) := by decide +kernel
theorem dN_init_68 : decode cN_init 68 = .ok (.goto (-35), 3) := by decide +kernel
theorem dN_init_71 : decode cN_init 71 = .ok (.return_, 1) := by decide +kernel
theorem dA_drop_0 : decode cA_drop 0 = .ok (.aload_n 0, 1) := by decide +kernel
theorem dA_drop_1 : decode cA_drop 1 = .ok (.getfield 25, 3) := by decide +kernel
theorem dA_drop_4 : decode cA_drop 4 = .ok (.aload_n 0, 1) := by decide +kernel
theorem dA_drop_5 : decode cA_drop 5 = .ok (.getfield 30, 3) := by decide +kernel
theorem dA_drop_8 : decode cA_drop 8 = .ok (.iconst 0, 1) := by decide +kernel
theorem dA_drop_9 : decode cA_drop 9 = .ok (.aload_n 0, 1) := by decide +kernel
theorem dA_drop_10 : decode cA_drop 10 = .ok (.getfield 33, 3) := by decide +kernel
theorem dA_drop_13 : decode cA_drop 13 = .ok (.invokevirtual 78, 3) := by decide +kernel
theorem dA_drop_16 : decode cA_drop 16 = .ok (.ireturn, 1) := by decide +kernel
theorem dS_remove_0 : decode cS_remove 0 = .ok (.aload_n 0, 1) := by decide +kernel
theorem dS_remove_1 : decode cS_remove 1 = .ok (.aload_n 1, 1) := by decide +kernel
theorem dS_remove_2 : decode cS_remove 2 = .ok (.iload_n 2, 1) := by decide +kernel
theorem dS_remove_3 : decode cS_remove 3 = .ok (.iload_n 3, 1) := by decide +kernel
theorem dS_remove_4 : decode cS_remove 4 = .ok (.invokevirtual 25, 3) := by decide +kernel
theorem dS_remove_7 : decode cS_remove 7 = .ok (.astore 4, 2) := by decide +kernel
theorem dS_remove_9 : decode cS_remove 9 = .ok (.aload 4, 2) := by decide +kernel
theorem dS_remove_11 : decode cS_remove 11 = .ok (.ifnonnull 5, 3) := by decide +kernel
theorem dS_remove_14 : decode cS_remove 14 = .ok (.iconst 0, 1) := by decide +kernel
theorem dS_remove_15 : decode cS_remove 15 = .ok (.ireturn, 1) := by decide +kernel
theorem dS_remove_16 : decode cS_remove 16 = .ok (.aload_n 0, 1) := by decide +kernel
theorem dS_remove_17 : decode cS_remove 17 = .ok (.dup, 1) := by decide +kernel
theorem dS_remove_18 : decode cS_remove 18 = .ok (.getfield 17, 3) := by decide +kernel
theorem dS_remove_21 : decode cS_remove 21 = .ok (.iconst 1, 1) := by decide +kernel
theorem dS_remove_22 : decode cS_remove 22 = .ok (.isub, 1) := by decide +kernel
theorem dS_remove_23 : decode cS_remove 23 = .ok (.putfield 17, 3) := by decide +kernel
theorem dS_remove_26 : decode cS_remove 26 = .ok (.iconst 0, 1) := by decide +kernel
theorem dS_remove_27 : decode cS_remove 27 = .ok (.istore 5, 2) := by decide +kernel
theorem dS_remove_29 : decode cS_remove 29 = .ok (.iload 5, 2) := by decide +kernel
theorem dS_remove_31 : decode cS_remove 31 = .ok (.aload_n 0, 1) := by decide +kernel
theorem dS_remove_32 : decode cS_remove 32 = .ok (.getfield 17, 3) := by decide +kernel
theorem dS_remove_35 : decode cS_remove 35 = .ok (.if_icmp .ge 49, 3) := by decide +kernel
theorem dS_remove_38 : decode cS_remove 38 = .ok (.aload_n 0, 1) := by decide +kernel
theorem dS_remove_39 : decode cS_remove 39 = .ok (.getfield 17, 3) := by decide +kernel
theorem dS_remove_42 : decode cS_remove 42 = .ok (.aload_n 0, 1) := by decide +kernel
theorem dS_remove_43 : decode cS_remove 43 = .ok (.getfield 11, 3) := by decide +kernel
theorem dS_remove_46 : decode cS_remove 46 = .ok (.arraylength, 1) := by decide +kernel
theorem dS_remove_47 : decode cS_remove 47 = .ok (.if_icmp .ge 37, 3) := by decide +kernel
theorem dS_remove_50 : decode cS_remove 50 = .ok (.aload_n 0, 1) := by decide +kernel
theorem dS_remove_51 : decode cS_remove 51 = .ok (.getfield 11, 3) := by decide +kernel
theorem dS_remove_54 : decode cS_remove 54 = .ok (.iload 5, 2) := by decide +kernel
theorem dS_remove_56 : decode cS_remove 56 = .ok (.aaload, 1) := by decide +kernel
theorem dS_remove_57 : decode cS_remove 57 = .ok (.aload 4, 2) := by decide +kernel
theorem dS_remove_59 : decode cS_remove 59 = .ok (.if_acmp .ne 19, 3) := by decide +kernel
theorem dS_remove_62 : decode cS_remove 62 = .ok (.aload_n 0, 1) := by decide +kernel
theorem dS_remove_63 : decode cS_remove 63 = .ok (.getfield 11, 3) := by decide +kernel
theorem dS_remove_66 : decode cS_remove 66 = .ok (.iload 5, 2) := by decide +kernel
theorem dS_remove_68 : decode cS_remove 68 = .ok (.aload_n 0, 1) := by decide +kernel
theorem dS_remove_69 : decode cS_remove 69 = .ok (.getfield 11, 3) := by decide +kernel
theorem dS_remove_72 : decode cS_remove 72 = .ok (.aload_n 0, 1) := by decide +kernel
theorem dS_remove_73 : decode cS_remove 73 = .ok (.getfield 17, 3) := by decide +kernel
theorem dS_remove_76 : decode cS_remove 76 = .ok (.aaload, 1) := by decide +kernel
theorem dS_remove_77 : decode cS_remove 77 = .ok (.aastore, 1) := by decide +kernel
theorem dS_remove_78 : decode cS_remove 78 = .ok (.iinc 5 1, 3) := by decide +kernel
theorem dS_remove_81 : decode cS_remove 81 = .ok (.goto (-52), 3) := by decide +kernel
theorem dS_remove_84 : decode cS_remove 84 = .ok (.iconst 1, 1) := by decide +kernel
theorem dS_remove_85 : decode cS_remove 85 = .ok (.ireturn, 1) := by decide +kernel
theorem dA_letter_0 : decode cA_letter 0 = .ok (.aload_n 0, 1) := by decide +kernel
theorem dA_letter_1 : decode cA_letter 1 = .ok (.getfield 25, 3) := by decide +kernel
theorem dA_letter_4 : decode cA_letter 4 = .ok (.aload_n 0, 1) := by decide +kernel
theorem dA_letter_5 : decode cA_letter 5 = .ok (.getfield 30, 3) := by decide +kernel
theorem dA_letter_8 : decode cA_letter 8 = .ok (.iconst 0, 1) := by decide +kernel
theorem dA_letter_9 : decode cA_letter 9 = .ok (.aload_n 0, 1) := by decide +kernel
theorem dA_letter_10 : decode cA_letter 10 = .ok (.getfield 33, 3) := by decide +kernel
theorem dA_letter_13 : decode cA_letter 13 = .ok (.invokevirtual 82, 3) := by decide +kernel
theorem dA_letter_16 : decode cA_letter 16 = .ok (.astore_n 2, 1) := by decide +kernel
theorem dA_letter_17 : decode cA_letter 17 = .ok (.aload_n 2, 1) := by decide +kernel
theorem dA_letter_18 : decode cA_letter 18 = .ok (.ifnull 24, 3) := by decide +kernel
theorem dA_letter_21 : decode cA_letter 21 = .ok (.iload_n 1, 1) := by decide +kernel
theorem dA_letter_22 : decode cA_letter 22 = .ok (.ifCond .lt 20, 3) := by decide +kernel
theorem dA_letter_25 : decode cA_letter 25 = .ok (.iload_n 1, 1) := by decide +kernel
theorem dA_letter_26 : decode cA_letter 26 = .ok (.aload_n 2, 1) := by decide +kernel
theorem dA_letter_27 : decode cA_letter 27 = .ok (.getfield 77, 3) := by decide +kernel
theorem dA_letter_30 : decode cA_letter 30 = .ok (.if_icmp .ge 12, 3) := by decide +kernel
theorem dA_letter_33 : decode cA_letter 33 = .ok (.iload_n 1, 1) := by decide +kernel
theorem dA_letter_34 : decode cA_letter 34 = .ok (.aload_n 2, 1) := by decide +kernel
theorem dA_letter_35 : decode cA_letter 35 = .ok (.getfield 74, 3) := by decide +kernel
theorem dA_letter_38 : decode cA_letter 38 = .ok (.arraylength, 1) := by decide +kernel
theorem dA_letter_39 : decode cA_letter 39 = .ok (.if_icmp .lt 5, 3) := by decide +kernel
theorem dA_letter_42 : decode cA_letter 42 = .ok (.iconst (-1), 1) := by decide +kernel
theorem dA_letter_43 : decode cA_letter 43 = .ok (.ireturn, 1) := by decide +kernel
theorem dA_letter_44 : decode cA_letter 44 = .ok (.aload_n 2, 1) := by decide +kernel
theorem dA_letter_45 : decode cA_letter 45 = .ok (.getfield 74, 3) := by decide +kernel
theorem dA_letter_48 : decode cA_letter 48 = .ok (.iload_n 1, 1) := by decide +kernel
theorem dA_letter_49 : decode cA_letter 49 = .ok (.caload, 1) := by decide +kernel
theorem dA_letter_50 : decode cA_letter 50 = .ok (.ireturn, 1) := by decide +kernel
theorem dA_count_0 : decode cA_count 0 = .ok (.iload_n 1, 1) := by decide +kernel
theorem dA_count_1 : decode cA_count 1 = .ok (.tableswitch 88 0 4 #[35, 40, 48, 78, 83], 35) := by decide +kernel
theorem dA_count_36 : decode cA_count 36 = .ok (.aload_n 0, 1) := by decide +kernel
theorem dA_count_37 : decode cA_count 37 = .ok (.getfield 26, 3) := by decide +kernel
theorem dA_count_40 : decode cA_count 40 = .ok (.ireturn, 1) := by decide +kernel
theorem dA_count_41 : decode cA_count 41 = .ok (.aload_n 0, 1) := by decide +kernel
theorem dA_count_42 : decode cA_count 42 = .ok (.getfield 25, 3) := by decide +kernel
theorem dA_count_45 : decode cA_count 45 = .ok (.getfield 85, 3) := by decide +kernel
theorem dA_count_48 : decode cA_count 48 = .ok (.ireturn, 1) := by decide +kernel
theorem dA_count_49 : decode cA_count 49 = .ok (.aload_n 0, 1) := by decide +kernel
theorem dA_count_50 : decode cA_count 50 = .ok (.getfield 25, 3) := by decide +kernel
theorem dA_count_53 : decode cA_count 53 = .ok (.aload_n 0, 1) := by decide +kernel
theorem dA_count_54 : decode cA_count 54 = .ok (.getfield 30, 3) := by decide +kernel
theorem dA_count_57 : decode cA_count 57 = .ok (.iconst 0, 1) := by decide +kernel
theorem dA_count_58 : decode cA_count 58 = .ok (.aload_n 0, 1) := by decide +kernel
theorem dA_count_59 : decode cA_count 59 = .ok (.getfield 33, 3) := by decide +kernel
theorem dA_count_62 : decode cA_count 62 = .ok (.invokevirtual 82, 3) := by decide +kernel
theorem dA_count_65 : decode cA_count 65 = .ok (.astore_n 2, 1) := by decide +kernel
theorem dA_count_66 : decode cA_count 66 = .ok (.aload_n 2, 1) := by decide +kernel
theorem dA_count_67 : decode cA_count 67 = .ok (.ifnonnull 7, 3) := by decide +kernel
theorem dA_count_70 : decode cA_count 70 = .ok (.iconst (-1), 1) := by decide +kernel
theorem dA_count_71 : decode cA_count 71 = .ok (.goto 7, 3) := by decide +kernel
theorem dA_count_74 : decode cA_count 74 = .ok (.aload_n 2, 1) := by decide +kernel
theorem dA_count_75 : decode cA_count 75 = .ok (.getfield 77, 3) := by decide +kernel
theorem dA_count_78 : decode cA_count 78 = .ok (.ireturn, 1) := by decide +kernel
theorem dA_count_79 : decode cA_count 79 = .ok (.aload_n 0, 1) := by decide +kernel
theorem dA_count_80 : decode cA_count 80 = .ok (.getfield 36, 3) := by decide +kernel
theorem dA_count_83 : decode cA_count 83 = .ok (.ireturn, 1) := by decide +kernel
theorem dA_count_84 : decode cA_count 84 = .ok (.aload_n 0, 1) := by decide +kernel
theorem dA_count_85 : decode cA_count 85 = .ok (.getfield 39, 3) := by decide +kernel
theorem dA_count_88 : decode cA_count 88 = .ok (.ireturn, 1) := by decide +kernel
theorem dA_count_89 : decode cA_count 89 = .ok (.iconst (-1), 1) := by decide +kernel
theorem dA_count_90 : decode cA_count 90 = .ok (.ireturn, 1) := by decide +kernel
theorem dA_value_0 : decode cA_value 0 = .ok (.aload_n 0, 1) := by decide +kernel
theorem dA_value_1 : decode cA_value 1 = .ok (.getfield 12, 3) := by decide +kernel
theorem dA_value_4 : decode cA_value 4 = .ok (.aload_n 0, 1) := by decide +kernel
theorem dA_value_5 : decode cA_value 5 = .ok (.getfield 26, 3) := by decide +kernel
theorem dA_value_8 : decode cA_value 8 = .ok (.invokevirtual 50, 3) := by decide +kernel
theorem dA_value_11 : decode cA_value 11 = .ok (.istore_n 1, 1) := by decide +kernel
theorem dA_value_12 : decode cA_value 12 = .ok (.aload_n 0, 1) := by decide +kernel
theorem dA_value_13 : decode cA_value 13 = .ok (.iconst 0, 1) := by decide +kernel
theorem dA_value_14 : decode cA_value 14 = .ok (.putfield 26, 3) := by decide +kernel
theorem dA_value_17 : decode cA_value 17 = .ok (.iload_n 1, 1) := by decide +kernel
theorem dA_value_18 : decode cA_value 18 = .ok (.ifCond .ne 23, 3) := by decide +kernel
theorem dA_value_21 : decode cA_value 21 = .ok (.aload_n 0, 1) := by decide +kernel
theorem dA_value_22 : decode cA_value 22 = .ok (.dup, 1) := by decide +kernel
theorem dA_value_23 : decode cA_value 23 = .ok (.getfield 39, 3) := by decide +kernel
theorem dA_value_26 : decode cA_value 26 = .ok (.iconst 1, 1) := by decide +kernel
theorem dA_value_27 : decode cA_value 27 = .ok (.iadd, 1) := by decide +kernel
theorem dA_value_28 : decode cA_value 28 = .ok (.putfield 39, 3) := by decide +kernel
theorem dA_value_31 : decode cA_value 31 = .ok (.new 54, 3) := by decide +kernel
theorem dA_value_34 : decode cA_value 34 = .ok (.dup, 1) := by decide +kernel
theorem dA_value_35 : decode cA_value 35 = .ok (.ldc 56, 2) := by decide +kernel
theorem dA_value_37 : decode cA_value 37 = .ok (.invokespecial 58, 3) := by decide +kernel
theorem dA_value_40 : decode cA_value 40 = .ok (.athrow, 1) := by decide +kernel
theorem dA_value_41 : decode cA_value 41 = .ok (.aload_n 0, 1) := by decide +kernel
theorem dA_value_42 : decode cA_value 42 = .ok (.dup, 1) := by decide +kernel
theorem dA_value_43 : decode cA_value 43 = .ok (.getfield 36, 3) := by decide +kernel
theorem dA_value_46 : decode cA_value 46 = .ok (.iconst 1, 1) := by decide +kernel
theorem dA_value_47 : decode cA_value 47 = .ok (.iadd, 1) := by decide +kernel
theorem dA_value_48 : decode cA_value 48 = .ok (.putfield 36, 3) := by decide +kernel
theorem dA_value_51 : decode cA_value 51 = .ok (.aload_n 0, 1) := by decide +kernel
theorem dA_value_52 : decode cA_value 52 = .ok (.getfield 12, 3) := by decide +kernel
theorem dA_value_55 : decode cA_value 55 = .ok (.getfield 61, 3) := by decide +kernel
theorem dA_value_58 : decode cA_value 58 = .ok (.lreturn, 1) := by decide +kernel
theorem dG_rankOf_0 : decode cG_rankOf 0 = .ok (.iload_n 0, 1) := by decide +kernel
theorem dG_rankOf_1 : decode cG_rankOf 1 = .ok (.lookupswitch 180 #[(37, 177), (38, 163), (42, 177), (43, 174), (45, 174), (47, 177), (60, 168), (62, 168), (94, 161), (124, 159), (8509, 165), (9766, 157), (15420, 171), (15421, 168), (15677, 165), (15933, 168), (15934, 171), (31868, 155)], 155) := by decide +kernel
theorem dG_rankOf_156 : decode cG_rankOf 156 = .ok (.iconst 1, 1) := by decide +kernel
theorem dG_rankOf_157 : decode cG_rankOf 157 = .ok (.ireturn, 1) := by decide +kernel
theorem dG_rankOf_158 : decode cG_rankOf 158 = .ok (.iconst 2, 1) := by decide +kernel
theorem dG_rankOf_159 : decode cG_rankOf 159 = .ok (.ireturn, 1) := by decide +kernel
theorem dG_rankOf_160 : decode cG_rankOf 160 = .ok (.iconst 3, 1) := by decide +kernel
theorem dG_rankOf_161 : decode cG_rankOf 161 = .ok (.ireturn, 1) := by decide +kernel
theorem dG_rankOf_162 : decode cG_rankOf 162 = .ok (.iconst 4, 1) := by decide +kernel
theorem dG_rankOf_163 : decode cG_rankOf 163 = .ok (.ireturn, 1) := by decide +kernel
theorem dG_rankOf_164 : decode cG_rankOf 164 = .ok (.iconst 5, 1) := by decide +kernel
theorem dG_rankOf_165 : decode cG_rankOf 165 = .ok (.ireturn, 1) := by decide +kernel
theorem dG_rankOf_166 : decode cG_rankOf 166 = .ok (.bipush 6, 2) := by decide +kernel
theorem dG_rankOf_168 : decode cG_rankOf 168 = .ok (.ireturn, 1) := by decide +kernel
theorem dG_rankOf_169 : decode cG_rankOf 169 = .ok (.bipush 7, 2) := by decide +kernel
theorem dG_rankOf_171 : decode cG_rankOf 171 = .ok (.ireturn, 1) := by decide +kernel
theorem dG_rankOf_172 : decode cG_rankOf 172 = .ok (.bipush 8, 2) := by decide +kernel
theorem dG_rankOf_174 : decode cG_rankOf 174 = .ok (.ireturn, 1) := by decide +kernel
theorem dG_rankOf_175 : decode cG_rankOf 175 = .ok (.bipush 9, 2) := by decide +kernel
theorem dG_rankOf_177 : decode cG_rankOf 177 = .ok (.ireturn, 1) := by decide +kernel
theorem dG_rankOf_178 : decode cG_rankOf 178 = .ok (.bipush 10, 2) := by decide +kernel
theorem dG_rankOf_180 : decode cG_rankOf 180 = .ok (.ireturn, 1) := by decide +kernel
theorem dG_rankOf_181 : decode cG_rankOf 181 = .ok (.iconst 0, 1) := by decide +kernel
theorem dG_rankOf_182 : decode cG_rankOf 182 = .ok (.ireturn, 1) := by decide +kernel
theorem dA_numberIn_0 : decode cA_numberIn 0 = .ok (.iload_n 1, 1) := by decide +kernel
theorem dA_numberIn_1 : decode cA_numberIn 1 = .ok (.ifCond .lt 14, 3) := by decide +kernel
theorem dA_numberIn_4 : decode cA_numberIn 4 = .ok (.iload_n 1, 1) := by decide +kernel
theorem dA_numberIn_5 : decode cA_numberIn 5 = .ok (.iload_n 2, 1) := by decide +kernel
theorem dA_numberIn_6 : decode cA_numberIn 6 = .ok (.if_icmp .ge 9, 3) := by decide +kernel
theorem dA_numberIn_9 : decode cA_numberIn 9 = .ok (.iload_n 2, 1) := by decide +kernel
theorem dA_numberIn_10 : decode cA_numberIn 10 = .ok (.aload_n 0, 1) := by decide +kernel
theorem dA_numberIn_11 : decode cA_numberIn 11 = .ok (.arraylength, 1) := by decide +kernel
theorem dA_numberIn_12 : decode cA_numberIn 12 = .ok (.if_icmp .le 13, 3) := by decide +kernel
theorem dA_numberIn_15 : decode cA_numberIn 15 = .ok (.new 54, 3) := by decide +kernel
theorem dA_numberIn_18 : decode cA_numberIn 18 = .ok (.dup, 1) := by decide +kernel
theorem dA_numberIn_19 : decode cA_numberIn 19 = .ok (.ldc 107, 2) := by decide +kernel
theorem dA_numberIn_21 : decode cA_numberIn 21 = .ok (.invokespecial 58, 3) := by decide +kernel
theorem dA_numberIn_24 : decode cA_numberIn 24 = .ok (.athrow, 1) := by decide +kernel
theorem dA_numberIn_25 : decode cA_numberIn 25 = .ok (.aload_n 0, 1) := by decide +kernel
theorem dA_numberIn_26 : decode cA_numberIn 26 = .ok (.iload_n 1, 1) := by decide +kernel
theorem dA_numberIn_27 : decode cA_numberIn 27 = .ok (.caload, 1) := by decide +kernel
theorem dA_numberIn_28 : decode cA_numberIn 28 = .ok (.iload_n 1, 1) := by decide +kernel
theorem dA_numberIn_29 : decode cA_numberIn 29 = .ok (.iconst 1, 1) := by decide +kernel
theorem dA_numberIn_30 : decode cA_numberIn 30 = .ok (.iadd, 1) := by decide +kernel
theorem dA_numberIn_31 : decode cA_numberIn 31 = .ok (.iload_n 2, 1) := by decide +kernel
theorem dA_numberIn_32 : decode cA_numberIn 32 = .ok (.if_icmp .ge 11, 3) := by decide +kernel
theorem dA_numberIn_35 : decode cA_numberIn 35 = .ok (.aload_n 0, 1) := by decide +kernel
theorem dA_numberIn_36 : decode cA_numberIn 36 = .ok (.iload_n 1, 1) := by decide +kernel
theorem dA_numberIn_37 : decode cA_numberIn 37 = .ok (.iconst 1, 1) := by decide +kernel
theorem dA_numberIn_38 : decode cA_numberIn 38 = .ok (.iadd, 1) := by decide +kernel
theorem dA_numberIn_39 : decode cA_numberIn 39 = .ok (.caload, 1) := by decide +kernel
theorem dA_numberIn_40 : decode cA_numberIn 40 = .ok (.goto 5, 3) := by decide +kernel
theorem dA_numberIn_43 : decode cA_numberIn 43 = .ok (.bipush 48, 2) := by decide +kernel
theorem dA_numberIn_45 : decode cA_numberIn 45 = .ok (.invokestatic 109, 3) := by decide +kernel
theorem dA_numberIn_48 : decode cA_numberIn 48 = .ok (.istore_n 3, 1) := by decide +kernel
theorem dA_numberIn_49 : decode cA_numberIn 49 = .ok (.iload_n 3, 1) := by decide +kernel
theorem dA_numberIn_50 : decode cA_numberIn 50 = .ok (.bipush 16, 2) := by decide +kernel
theorem dA_numberIn_52 : decode cA_numberIn 52 = .ok (.if_icmp .ne 9, 3) := by decide +kernel
theorem dA_numberIn_55 : decode cA_numberIn 55 = .ok (.iload_n 1, 1) := by decide +kernel
theorem dA_numberIn_56 : decode cA_numberIn 56 = .ok (.iconst 2, 1) := by decide +kernel
theorem dA_numberIn_57 : decode cA_numberIn 57 = .ok (.iadd, 1) := by decide +kernel
theorem dA_numberIn_58 : decode cA_numberIn 58 = .ok (.goto 4, 3) := by decide +kernel
theorem dA_numberIn_61 : decode cA_numberIn 61 = .ok (.iload_n 1, 1) := by decide +kernel
theorem dA_numberIn_62 : decode cA_numberIn 62 = .ok (.istore 4, 2) := by decide +kernel
theorem dA_numberIn_64 : decode cA_numberIn 64 = .ok (.iload 4, 2) := by decide +kernel
theorem dA_numberIn_66 : decode cA_numberIn 66 = .ok (.iload_n 2, 1) := by decide +kernel
theorem dA_numberIn_67 : decode cA_numberIn 67 = .ok (.if_icmp .lt 13, 3) := by decide +kernel
theorem dA_numberIn_70 : decode cA_numberIn 70 = .ok (.new 54, 3) := by decide +kernel
theorem dA_numberIn_73 : decode cA_numberIn 73 = .ok (.dup, 1) := by decide +kernel
theorem dA_numberIn_74 : decode cA_numberIn 74 = .ok (.ldc 113, 2) := by decide +kernel
theorem dA_numberIn_76 : decode cA_numberIn 76 = .ok (.invokespecial 58, 3) := by decide +kernel
theorem dA_numberIn_79 : decode cA_numberIn 79 = .ok (.athrow, 1) := by decide +kernel
theorem dA_numberIn_80 : decode cA_numberIn 80 = .ok (.lconst 0, 1) := by decide +kernel
theorem dA_numberIn_81 : decode cA_numberIn 81 = .ok (.lstore 5, 2) := by decide +kernel
theorem dA_numberIn_83 : decode cA_numberIn 83 = .ok (.iload 4, 2) := by decide +kernel
theorem dA_numberIn_85 : decode cA_numberIn 85 = .ok (.istore 7, 2) := by decide +kernel
theorem dA_numberIn_87 : decode cA_numberIn 87 = .ok (.iload 7, 2) := by decide +kernel
theorem dA_numberIn_89 : decode cA_numberIn 89 = .ok (.iload_n 2, 1) := by decide +kernel
theorem dA_numberIn_90 : decode cA_numberIn 90 = .ok (.if_icmp .ge 50, 3) := by decide +kernel
theorem dA_numberIn_93 : decode cA_numberIn 93 = .ok (.aload_n 0, 1) := by decide +kernel
theorem dA_numberIn_94 : decode cA_numberIn 94 = .ok (.iload 7, 2) := by decide +kernel
theorem dA_numberIn_96 : decode cA_numberIn 96 = .ok (.caload, 1) := by decide +kernel
theorem dA_numberIn_97 : decode cA_numberIn 97 = .ok (.invokestatic 115, 3) := by decide +kernel
theorem dA_numberIn_100 : decode cA_numberIn 100 = .ok (.istore 8, 2) := by decide +kernel
theorem dA_numberIn_102 : decode cA_numberIn 102 = .ok (.iload 8, 2) := by decide +kernel
theorem dA_numberIn_104 : decode cA_numberIn 104 = .ok (.ifCond .lt 9, 3) := by decide +kernel
theorem dA_numberIn_107 : decode cA_numberIn 107 = .ok (.iload 8, 2) := by decide +kernel
theorem dA_numberIn_109 : decode cA_numberIn 109 = .ok (.iload_n 3, 1) := by decide +kernel
theorem dA_numberIn_110 : decode cA_numberIn 110 = .ok (.if_icmp .lt 13, 3) := by decide +kernel
theorem dA_numberIn_113 : decode cA_numberIn 113 = .ok (.new 54, 3) := by decide +kernel
theorem dA_numberIn_116 : decode cA_numberIn 116 = .ok (.dup, 1) := by decide +kernel
theorem dA_numberIn_117 : decode cA_numberIn 117 = .ok (.ldc 119, 2) := by decide +kernel
theorem dA_numberIn_119 : decode cA_numberIn 119 = .ok (.invokespecial 58, 3) := by decide +kernel
theorem dA_numberIn_122 : decode cA_numberIn 122 = .ok (.athrow, 1) := by decide +kernel
theorem dA_numberIn_123 : decode cA_numberIn 123 = .ok (.lload 5, 2) := by decide +kernel
theorem dA_numberIn_125 : decode cA_numberIn 125 = .ok (.iload_n 3, 1) := by decide +kernel
theorem dA_numberIn_126 : decode cA_numberIn 126 = .ok (.i2l, 1) := by decide +kernel
theorem dA_numberIn_127 : decode cA_numberIn 127 = .ok (.lmul, 1) := by decide +kernel
theorem dA_numberIn_128 : decode cA_numberIn 128 = .ok (.iload 8, 2) := by decide +kernel
theorem dA_numberIn_130 : decode cA_numberIn 130 = .ok (.i2l, 1) := by decide +kernel
theorem dA_numberIn_131 : decode cA_numberIn 131 = .ok (.ladd, 1) := by decide +kernel
theorem dA_numberIn_132 : decode cA_numberIn 132 = .ok (.lstore 5, 2) := by decide +kernel
theorem dA_numberIn_134 : decode cA_numberIn 134 = .ok (.iinc 7 1, 3) := by decide +kernel
theorem dA_numberIn_137 : decode cA_numberIn 137 = .ok (.goto (-50), 3) := by decide +kernel
theorem dA_numberIn_140 : decode cA_numberIn 140 = .ok (.lload 5, 2) := by decide +kernel
theorem dA_numberIn_142 : decode cA_numberIn 142 = .ok (.lreturn, 1) := by decide +kernel
theorem dA_baseOf_0 : decode cA_baseOf 0 = .ok (.iload_n 0, 1) := by decide +kernel
theorem dA_baseOf_1 : decode cA_baseOf 1 = .ok (.bipush 48, 2) := by decide +kernel
theorem dA_baseOf_3 : decode cA_baseOf 3 = .ok (.if_icmp .eq 6, 3) := by decide +kernel
theorem dA_baseOf_6 : decode cA_baseOf 6 = .ok (.bipush 10, 2) := by decide +kernel
theorem dA_baseOf_8 : decode cA_baseOf 8 = .ok (.ireturn, 1) := by decide +kernel
theorem dA_baseOf_9 : decode cA_baseOf 9 = .ok (.iload_n 1, 1) := by decide +kernel
theorem dA_baseOf_10 : decode cA_baseOf 10 = .ok (.bipush 120, 2) := by decide +kernel
theorem dA_baseOf_12 : decode cA_baseOf 12 = .ok (.if_icmp .eq 9, 3) := by decide +kernel
theorem dA_baseOf_15 : decode cA_baseOf 15 = .ok (.iload_n 1, 1) := by decide +kernel
theorem dA_baseOf_16 : decode cA_baseOf 16 = .ok (.bipush 88, 2) := by decide +kernel
theorem dA_baseOf_18 : decode cA_baseOf 18 = .ok (.if_icmp .ne 8, 3) := by decide +kernel
theorem dA_baseOf_21 : decode cA_baseOf 21 = .ok (.bipush 16, 2) := by decide +kernel
theorem dA_baseOf_23 : decode cA_baseOf 23 = .ok (.goto 5, 3) := by decide +kernel
theorem dA_baseOf_26 : decode cA_baseOf 26 = .ok (.bipush 8, 2) := by decide +kernel
theorem dA_baseOf_28 : decode cA_baseOf 28 = .ok (.ireturn, 1) := by decide +kernel
theorem dA_digitOf_0 : decode cA_digitOf 0 = .ok (.iload_n 0, 1) := by decide +kernel
theorem dA_digitOf_1 : decode cA_digitOf 1 = .ok (.bipush 48, 2) := by decide +kernel
theorem dA_digitOf_3 : decode cA_digitOf 3 = .ok (.if_icmp .lt 14, 3) := by decide +kernel
theorem dA_digitOf_6 : decode cA_digitOf 6 = .ok (.iload_n 0, 1) := by decide +kernel
theorem dA_digitOf_7 : decode cA_digitOf 7 = .ok (.bipush 57, 2) := by decide +kernel
theorem dA_digitOf_9 : decode cA_digitOf 9 = .ok (.if_icmp .gt 8, 3) := by decide +kernel
theorem dA_digitOf_12 : decode cA_digitOf 12 = .ok (.iload_n 0, 1) := by decide +kernel
theorem dA_digitOf_13 : decode cA_digitOf 13 = .ok (.bipush 48, 2) := by decide +kernel
theorem dA_digitOf_15 : decode cA_digitOf 15 = .ok (.isub, 1) := by decide +kernel
theorem dA_digitOf_16 : decode cA_digitOf 16 = .ok (.ireturn, 1) := by decide +kernel
theorem dA_digitOf_17 : decode cA_digitOf 17 = .ok (.iload_n 0, 1) := by decide +kernel
theorem dA_digitOf_18 : decode cA_digitOf 18 = .ok (.bipush 97, 2) := by decide +kernel
theorem dA_digitOf_20 : decode cA_digitOf 20 = .ok (.if_icmp .lt 17, 3) := by decide +kernel
theorem dA_digitOf_23 : decode cA_digitOf 23 = .ok (.iload_n 0, 1) := by decide +kernel
theorem dA_digitOf_24 : decode cA_digitOf 24 = .ok (.bipush 102, 2) := by decide +kernel
theorem dA_digitOf_26 : decode cA_digitOf 26 = .ok (.if_icmp .gt 11, 3) := by decide +kernel
theorem dA_digitOf_29 : decode cA_digitOf 29 = .ok (.iload_n 0, 1) := by decide +kernel
theorem dA_digitOf_30 : decode cA_digitOf 30 = .ok (.bipush 97, 2) := by decide +kernel
theorem dA_digitOf_32 : decode cA_digitOf 32 = .ok (.isub, 1) := by decide +kernel
theorem dA_digitOf_33 : decode cA_digitOf 33 = .ok (.bipush 10, 2) := by decide +kernel
theorem dA_digitOf_35 : decode cA_digitOf 35 = .ok (.iadd, 1) := by decide +kernel
theorem dA_digitOf_36 : decode cA_digitOf 36 = .ok (.ireturn, 1) := by decide +kernel
theorem dA_digitOf_37 : decode cA_digitOf 37 = .ok (.iload_n 0, 1) := by decide +kernel
theorem dA_digitOf_38 : decode cA_digitOf 38 = .ok (.bipush 65, 2) := by decide +kernel
theorem dA_digitOf_40 : decode cA_digitOf 40 = .ok (.if_icmp .lt 19, 3) := by decide +kernel
theorem dA_digitOf_43 : decode cA_digitOf 43 = .ok (.iload_n 0, 1) := by decide +kernel
theorem dA_digitOf_44 : decode cA_digitOf 44 = .ok (.bipush 70, 2) := by decide +kernel
theorem dA_digitOf_46 : decode cA_digitOf 46 = .ok (.if_icmp .gt 13, 3) := by decide +kernel
theorem dA_digitOf_49 : decode cA_digitOf 49 = .ok (.iload_n 0, 1) := by decide +kernel
theorem dA_digitOf_50 : decode cA_digitOf 50 = .ok (.bipush 65, 2) := by decide +kernel
theorem dA_digitOf_52 : decode cA_digitOf 52 = .ok (.isub, 1) := by decide +kernel
theorem dA_digitOf_53 : decode cA_digitOf 53 = .ok (.bipush 10, 2) := by decide +kernel
theorem dA_digitOf_55 : decode cA_digitOf 55 = .ok (.iadd, 1) := by decide +kernel
theorem dA_digitOf_56 : decode cA_digitOf 56 = .ok (.goto 4, 3) := by decide +kernel
theorem dA_digitOf_59 : decode cA_digitOf 59 = .ok (.iconst (-1), 1) := by decide +kernel
theorem dA_digitOf_60 : decode cA_digitOf 60 = .ok (.ireturn, 1) := by decide +kernel
theorem dG_apply_0 : decode cG_apply 0 = .ok (.iload_n 0, 1) := by decide +kernel
theorem dG_apply_1 : decode cG_apply 1 = .ok (.lookupswitch 140 #[(37, 133), (38, 99), (42, 129), (43, 121), (45, 125), (47, 133), (94, 95), (124, 91), (15420, 103), (15934, 112)], 91) := by decide +kernel
theorem dG_apply_92 : decode cG_apply 92 = .ok (.lload_n 1, 1) := by decide +kernel
theorem dG_apply_93 : decode cG_apply 93 = .ok (.lload_n 3, 1) := by decide +kernel
theorem dG_apply_94 : decode cG_apply 94 = .ok (.lor, 1) := by decide +kernel
theorem dG_apply_95 : decode cG_apply 95 = .ok (.lreturn, 1) := by decide +kernel
theorem dG_apply_96 : decode cG_apply 96 = .ok (.lload_n 1, 1) := by decide +kernel
theorem dG_apply_97 : decode cG_apply 97 = .ok (.lload_n 3, 1) := by decide +kernel
theorem dG_apply_98 : decode cG_apply 98 = .ok (.lxor, 1) := by decide +kernel
theorem dG_apply_99 : decode cG_apply 99 = .ok (.lreturn, 1) := by decide +kernel
theorem dG_apply_100 : decode cG_apply 100 = .ok (.lload_n 1, 1) := by decide +kernel
theorem dG_apply_101 : decode cG_apply 101 = .ok (.lload_n 3, 1) := by decide +kernel
theorem dG_apply_102 : decode cG_apply 102 = .ok (.land, 1) := by decide +kernel
theorem dG_apply_103 : decode cG_apply 103 = .ok (.lreturn, 1) := by decide +kernel
theorem dG_apply_104 : decode cG_apply 104 = .ok (.lload_n 1, 1) := by decide +kernel
theorem dG_apply_105 : decode cG_apply 105 = .ok (.lload_n 3, 1) := by decide +kernel
theorem dG_apply_106 : decode cG_apply 106 = .ok (.ldc2_w 9, 3) := by decide +kernel
theorem dG_apply_109 : decode cG_apply 109 = .ok (.land, 1) := by decide +kernel
theorem dG_apply_110 : decode cG_apply 110 = .ok (.l2i, 1) := by decide +kernel
theorem dG_apply_111 : decode cG_apply 111 = .ok (.lshl, 1) := by decide +kernel
theorem dG_apply_112 : decode cG_apply 112 = .ok (.lreturn, 1) := by decide +kernel
theorem dG_apply_113 : decode cG_apply 113 = .ok (.lload_n 1, 1) := by decide +kernel
theorem dG_apply_114 : decode cG_apply 114 = .ok (.lload_n 3, 1) := by decide +kernel
theorem dG_apply_115 : decode cG_apply 115 = .ok (.ldc2_w 9, 3) := by decide +kernel
theorem dG_apply_118 : decode cG_apply 118 = .ok (.land, 1) := by decide +kernel
theorem dG_apply_119 : decode cG_apply 119 = .ok (.l2i, 1) := by decide +kernel
theorem dG_apply_120 : decode cG_apply 120 = .ok (.lshr, 1) := by decide +kernel
theorem dG_apply_121 : decode cG_apply 121 = .ok (.lreturn, 1) := by decide +kernel
theorem dG_apply_122 : decode cG_apply 122 = .ok (.lload_n 1, 1) := by decide +kernel
theorem dG_apply_123 : decode cG_apply 123 = .ok (.lload_n 3, 1) := by decide +kernel
theorem dG_apply_124 : decode cG_apply 124 = .ok (.ladd, 1) := by decide +kernel
theorem dG_apply_125 : decode cG_apply 125 = .ok (.lreturn, 1) := by decide +kernel
theorem dG_apply_126 : decode cG_apply 126 = .ok (.lload_n 1, 1) := by decide +kernel
theorem dG_apply_127 : decode cG_apply 127 = .ok (.lload_n 3, 1) := by decide +kernel
theorem dG_apply_128 : decode cG_apply 128 = .ok (.lsub, 1) := by decide +kernel
theorem dG_apply_129 : decode cG_apply 129 = .ok (.lreturn, 1) := by decide +kernel
theorem dG_apply_130 : decode cG_apply 130 = .ok (.lload_n 1, 1) := by decide +kernel
theorem dG_apply_131 : decode cG_apply 131 = .ok (.lload_n 3, 1) := by decide +kernel
theorem dG_apply_132 : decode cG_apply 132 = .ok (.lmul, 1) := by decide +kernel
theorem dG_apply_133 : decode cG_apply 133 = .ok (.lreturn, 1) := by decide +kernel
theorem dG_apply_134 : decode cG_apply 134 = .ok (.iload_n 0, 1) := by decide +kernel
theorem dG_apply_135 : decode cG_apply 135 = .ok (.lload_n 1, 1) := by decide +kernel
theorem dG_apply_136 : decode cG_apply 136 = .ok (.lload_n 3, 1) := by decide +kernel
theorem dG_apply_137 : decode cG_apply 137 = .ok (.invokestatic 11, 3) := by decide +kernel
theorem dG_apply_140 : decode cG_apply 140 = .ok (.lreturn, 1) := by decide +kernel
theorem dG_apply_141 : decode cG_apply 141 = .ok (.iload_n 0, 1) := by decide +kernel
theorem dG_apply_142 : decode cG_apply 142 = .ok (.lload_n 1, 1) := by decide +kernel
theorem dG_apply_143 : decode cG_apply 143 = .ok (.lload_n 3, 1) := by decide +kernel
theorem dG_apply_144 : decode cG_apply 144 = .ok (.invokestatic 17, 3) := by decide +kernel
theorem dG_apply_147 : decode cG_apply 147 = .ok (.ifCond .eq 7, 3) := by decide +kernel
theorem dG_apply_150 : decode cG_apply 150 = .ok (.lconst 1, 1) := by decide +kernel
theorem dG_apply_151 : decode cG_apply 151 = .ok (.goto 4, 3) := by decide +kernel
theorem dG_apply_154 : decode cG_apply 154 = .ok (.lconst 0, 1) := by decide +kernel
theorem dG_apply_155 : decode cG_apply 155 = .ok (.lreturn, 1) := by decide +kernel
theorem dG_divide_0 : decode cG_divide 0 = .ok (.lload_n 3, 1) := by decide +kernel
theorem dG_divide_1 : decode cG_divide 1 = .ok (.lconst 0, 1) := by decide +kernel
theorem dG_divide_2 : decode cG_divide 2 = .ok (.lcmp, 1) := by decide +kernel
theorem dG_divide_3 : decode cG_divide 3 = .ok (.ifCond .ne 13, 3) := by decide +kernel
theorem dG_divide_6 : decode cG_divide 6 = .ok (.new 21, 3) := by decide +kernel
theorem dG_divide_9 : decode cG_divide 9 = .ok (.dup, 1) := by decide +kernel
theorem dG_divide_10 : decode cG_divide 10 = .ok (.ldc 23, 2) := by decide +kernel
theorem dG_divide_12 : decode cG_divide 12 = .ok (.invokespecial 25, 3) := by decide +kernel
theorem dG_divide_15 : decode cG_divide 15 = .ok (.athrow, 1) := by decide +kernel
theorem dG_divide_16 : decode cG_divide 16 = .ok (.iload_n 0, 1) := by decide +kernel
theorem dG_divide_17 : decode cG_divide 17 = .ok (.bipush 47, 2) := by decide +kernel
theorem dG_divide_19 : decode cG_divide 19 = .ok (.if_icmp .ne 9, 3) := by decide +kernel
theorem dG_divide_22 : decode cG_divide 22 = .ok (.lload_n 1, 1) := by decide +kernel
theorem dG_divide_23 : decode cG_divide 23 = .ok (.lload_n 3, 1) := by decide +kernel
theorem dG_divide_24 : decode cG_divide 24 = .ok (.ldiv, 1) := by decide +kernel
theorem dG_divide_25 : decode cG_divide 25 = .ok (.goto 6, 3) := by decide +kernel
theorem dG_divide_28 : decode cG_divide 28 = .ok (.lload_n 1, 1) := by decide +kernel
theorem dG_divide_29 : decode cG_divide 29 = .ok (.lload_n 3, 1) := by decide +kernel
theorem dG_divide_30 : decode cG_divide 30 = .ok (.lrem, 1) := by decide +kernel
theorem dG_divide_31 : decode cG_divide 31 = .ok (.lreturn, 1) := by decide +kernel
theorem dG_holds_0 : decode cG_holds 0 = .ok (.iload_n 0, 1) := by decide +kernel
theorem dG_holds_1 : decode cG_holds 1 = .ok (.lookupswitch 183 #[(60, 135), (62, 147), (8509, 123), (9766, 93), (15421, 159), (15677, 111), (15933, 171), (31868, 75)], 75) := by decide +kernel
theorem dG_holds_76 : decode cG_holds 76 = .ok (.lload_n 1, 1) := by decide +kernel
theorem dG_holds_77 : decode cG_holds 77 = .ok (.lconst 0, 1) := by decide +kernel
theorem dG_holds_78 : decode cG_holds 78 = .ok (.lcmp, 1) := by decide +kernel
theorem dG_holds_79 : decode cG_holds 79 = .ok (.ifCond .ne 9, 3) := by decide +kernel
theorem dG_holds_82 : decode cG_holds 82 = .ok (.lload_n 3, 1) := by decide +kernel
theorem dG_holds_83 : decode cG_holds 83 = .ok (.lconst 0, 1) := by decide +kernel
theorem dG_holds_84 : decode cG_holds 84 = .ok (.lcmp, 1) := by decide +kernel
theorem dG_holds_85 : decode cG_holds 85 = .ok (.ifCond .eq 7, 3) := by decide +kernel
theorem dG_holds_88 : decode cG_holds 88 = .ok (.iconst 1, 1) := by decide +kernel
theorem dG_holds_89 : decode cG_holds 89 = .ok (.goto 4, 3) := by decide +kernel
theorem dG_holds_92 : decode cG_holds 92 = .ok (.iconst 0, 1) := by decide +kernel
theorem dG_holds_93 : decode cG_holds 93 = .ok (.ireturn, 1) := by decide +kernel
theorem dG_holds_94 : decode cG_holds 94 = .ok (.lload_n 1, 1) := by decide +kernel
theorem dG_holds_95 : decode cG_holds 95 = .ok (.lconst 0, 1) := by decide +kernel
theorem dG_holds_96 : decode cG_holds 96 = .ok (.lcmp, 1) := by decide +kernel
theorem dG_holds_97 : decode cG_holds 97 = .ok (.ifCond .eq 13, 3) := by decide +kernel
theorem dG_holds_100 : decode cG_holds 100 = .ok (.lload_n 3, 1) := by decide +kernel
theorem dG_holds_101 : decode cG_holds 101 = .ok (.lconst 0, 1) := by decide +kernel
theorem dG_holds_102 : decode cG_holds 102 = .ok (.lcmp, 1) := by decide +kernel
theorem dG_holds_103 : decode cG_holds 103 = .ok (.ifCond .eq 7, 3) := by decide +kernel
theorem dG_holds_106 : decode cG_holds 106 = .ok (.iconst 1, 1) := by decide +kernel
theorem dG_holds_107 : decode cG_holds 107 = .ok (.goto 4, 3) := by decide +kernel
theorem dG_holds_110 : decode cG_holds 110 = .ok (.iconst 0, 1) := by decide +kernel
theorem dG_holds_111 : decode cG_holds 111 = .ok (.ireturn, 1) := by decide +kernel
theorem dG_holds_112 : decode cG_holds 112 = .ok (.lload_n 1, 1) := by decide +kernel
theorem dG_holds_113 : decode cG_holds 113 = .ok (.lload_n 3, 1) := by decide +kernel
theorem dG_holds_114 : decode cG_holds 114 = .ok (.lcmp, 1) := by decide +kernel
theorem dG_holds_115 : decode cG_holds 115 = .ok (.ifCond .ne 7, 3) := by decide +kernel
theorem dG_holds_118 : decode cG_holds 118 = .ok (.iconst 1, 1) := by decide +kernel
theorem dG_holds_119 : decode cG_holds 119 = .ok (.goto 4, 3) := by decide +kernel
theorem dG_holds_122 : decode cG_holds 122 = .ok (.iconst 0, 1) := by decide +kernel
theorem dG_holds_123 : decode cG_holds 123 = .ok (.ireturn, 1) := by decide +kernel
theorem dG_holds_124 : decode cG_holds 124 = .ok (.lload_n 1, 1) := by decide +kernel
theorem dG_holds_125 : decode cG_holds 125 = .ok (.lload_n 3, 1) := by decide +kernel
theorem dG_holds_126 : decode cG_holds 126 = .ok (.lcmp, 1) := by decide +kernel
theorem dG_holds_127 : decode cG_holds 127 = .ok (.ifCond .eq 7, 3) := by decide +kernel
theorem dG_holds_130 : decode cG_holds 130 = .ok (.iconst 1, 1) := by decide +kernel
theorem dG_holds_131 : decode cG_holds 131 = .ok (.goto 4, 3) := by decide +kernel
theorem dG_holds_134 : decode cG_holds 134 = .ok (.iconst 0, 1) := by decide +kernel
theorem dG_holds_135 : decode cG_holds 135 = .ok (.ireturn, 1) := by decide +kernel
theorem dG_holds_136 : decode cG_holds 136 = .ok (.lload_n 1, 1) := by decide +kernel
theorem dG_holds_137 : decode cG_holds 137 = .ok (.lload_n 3, 1) := by decide +kernel
theorem dG_holds_138 : decode cG_holds 138 = .ok (.lcmp, 1) := by decide +kernel
theorem dG_holds_139 : decode cG_holds 139 = .ok (.ifCond .ge 7, 3) := by decide +kernel
theorem dG_holds_142 : decode cG_holds 142 = .ok (.iconst 1, 1) := by decide +kernel
theorem dG_holds_143 : decode cG_holds 143 = .ok (.goto 4, 3) := by decide +kernel
theorem dG_holds_146 : decode cG_holds 146 = .ok (.iconst 0, 1) := by decide +kernel
theorem dG_holds_147 : decode cG_holds 147 = .ok (.ireturn, 1) := by decide +kernel
theorem dG_holds_148 : decode cG_holds 148 = .ok (.lload_n 1, 1) := by decide +kernel
theorem dG_holds_149 : decode cG_holds 149 = .ok (.lload_n 3, 1) := by decide +kernel
theorem dG_holds_150 : decode cG_holds 150 = .ok (.lcmp, 1) := by decide +kernel
theorem dG_holds_151 : decode cG_holds 151 = .ok (.ifCond .le 7, 3) := by decide +kernel
theorem dG_holds_154 : decode cG_holds 154 = .ok (.iconst 1, 1) := by decide +kernel
theorem dG_holds_155 : decode cG_holds 155 = .ok (.goto 4, 3) := by decide +kernel
theorem dG_holds_158 : decode cG_holds 158 = .ok (.iconst 0, 1) := by decide +kernel
theorem dG_holds_159 : decode cG_holds 159 = .ok (.ireturn, 1) := by decide +kernel
theorem dG_holds_160 : decode cG_holds 160 = .ok (.lload_n 1, 1) := by decide +kernel
theorem dG_holds_161 : decode cG_holds 161 = .ok (.lload_n 3, 1) := by decide +kernel
theorem dG_holds_162 : decode cG_holds 162 = .ok (.lcmp, 1) := by decide +kernel
theorem dG_holds_163 : decode cG_holds 163 = .ok (.ifCond .gt 7, 3) := by decide +kernel
theorem dG_holds_166 : decode cG_holds 166 = .ok (.iconst 1, 1) := by decide +kernel
theorem dG_holds_167 : decode cG_holds 167 = .ok (.goto 4, 3) := by decide +kernel
theorem dG_holds_170 : decode cG_holds 170 = .ok (.iconst 0, 1) := by decide +kernel
theorem dG_holds_171 : decode cG_holds 171 = .ok (.ireturn, 1) := by decide +kernel
theorem dG_holds_172 : decode cG_holds 172 = .ok (.lload_n 1, 1) := by decide +kernel
theorem dG_holds_173 : decode cG_holds 173 = .ok (.lload_n 3, 1) := by decide +kernel
theorem dG_holds_174 : decode cG_holds 174 = .ok (.lcmp, 1) := by decide +kernel
theorem dG_holds_175 : decode cG_holds 175 = .ok (.ifCond .lt 7, 3) := by decide +kernel
theorem dG_holds_178 : decode cG_holds 178 = .ok (.iconst 1, 1) := by decide +kernel
theorem dG_holds_179 : decode cG_holds 179 = .ok (.goto 4, 3) := by decide +kernel
theorem dG_holds_182 : decode cG_holds 182 = .ok (.iconst 0, 1) := by decide +kernel
theorem dG_holds_183 : decode cG_holds 183 = .ok (.ireturn, 1) := by decide +kernel
theorem dG_holds_184 : decode cG_holds 184 = .ok (.iconst 0, 1) := by decide +kernel
theorem dG_holds_185 : decode cG_holds 185 = .ok (.ireturn, 1) := by decide +kernel
theorem dN_writeDecimal_0 : decode cN_writeDecimal 0 = .ok (.aload_n 0, 1) := by decide +kernel
theorem dN_writeDecimal_1 : decode cN_writeDecimal 1 = .ok (.lload_n 1, 1) := by decide +kernel
theorem dN_writeDecimal_2 : decode cN_writeDecimal 2 = .ok (.invokestatic 28, 3) := by decide +kernel
theorem dN_writeDecimal_5 : decode cN_writeDecimal 5 = .ok (.putfield 15, 3) := by decide +kernel
theorem dN_writeDecimal_8 : decode cN_writeDecimal 8 = .ok (.lload_n 1, 1) := by decide +kernel
theorem dN_writeDecimal_9 : decode cN_writeDecimal 9 = .ok (.lstore_n 3, 1) := by decide +kernel
theorem dN_writeDecimal_10 : decode cN_writeDecimal 10 = .ok (.aload_n 0, 1) := by decide +kernel
theorem dN_writeDecimal_11 : decode cN_writeDecimal 11 = .ok (.getfield 15, 3) := by decide +kernel
theorem dN_writeDecimal_14 : decode cN_writeDecimal 14 = .ok (.iconst 1, 1) := by decide +kernel
theorem dN_writeDecimal_15 : decode cN_writeDecimal 15 = .ok (.isub, 1) := by decide +kernel
theorem dN_writeDecimal_16 : decode cN_writeDecimal 16 = .ok (.istore 5, 2) := by decide +kernel
theorem dN_writeDecimal_18 : decode cN_writeDecimal 18 = .ok (.iload 5, 2) := by decide +kernel
theorem dN_writeDecimal_20 : decode cN_writeDecimal 20 = .ok (.ifCond .lt 46, 3) := by decide +kernel
theorem dN_writeDecimal_23 : decode cN_writeDecimal 23 = .ok (.iload 5, 2) := by decide +kernel
theorem dN_writeDecimal_25 : decode cN_writeDecimal 25 = .ok (.aload_n 0, 1) := by decide +kernel
theorem dN_writeDecimal_26 : decode cN_writeDecimal 26 = .ok (.getfield 9, 3) := by decide +kernel
theorem dN_writeDecimal_29 : decode cN_writeDecimal 29 = .ok (.arraylength, 1) := by decide +kernel
theorem dN_writeDecimal_30 : decode cN_writeDecimal 30 = .ok (.if_icmp .ge 36, 3) := by decide +kernel
theorem dN_writeDecimal_33 : decode cN_writeDecimal 33 = .ok (.aload_n 0, 1) := by decide +kernel
theorem dN_writeDecimal_34 : decode cN_writeDecimal 34 = .ok (.getfield 9, 3) := by decide +kernel
theorem dN_writeDecimal_37 : decode cN_writeDecimal 37 = .ok (.iload 5, 2) := by decide +kernel
theorem dN_writeDecimal_39 : decode cN_writeDecimal 39 = .ok (.ldc2_w 32, 3) := by decide +kernel
theorem dN_writeDecimal_42 : decode cN_writeDecimal 42 = .ok (.lload_n 3, 1) := by decide +kernel
theorem dN_writeDecimal_43 : decode cN_writeDecimal 43 = .ok (.ldc2_w 34, 3) := by decide +kernel
theorem dN_writeDecimal_46 : decode cN_writeDecimal 46 = .ok (.lrem, 1) := by decide +kernel
theorem dN_writeDecimal_47 : decode cN_writeDecimal 47 = .ok (.invokestatic 36, 3) := by decide +kernel
theorem dN_writeDecimal_50 : decode cN_writeDecimal 50 = .ok (.ladd, 1) := by decide +kernel
theorem dN_writeDecimal_51 : decode cN_writeDecimal 51 = .ok (.l2i, 1) := by decide +kernel
theorem dN_writeDecimal_52 : decode cN_writeDecimal 52 = .ok (.i2c, 1) := by decide +kernel
theorem dN_writeDecimal_53 : decode cN_writeDecimal 53 = .ok (.castore, 1) := by decide +kernel
theorem dN_writeDecimal_54 : decode cN_writeDecimal 54 = .ok (.lload_n 3, 1) := by decide +kernel
theorem dN_writeDecimal_55 : decode cN_writeDecimal 55 = .ok (.ldc2_w 34, 3) := by decide +kernel
theorem dN_writeDecimal_58 : decode cN_writeDecimal 58 = .ok (.ldiv, 1) := by decide +kernel
theorem dN_writeDecimal_59 : decode cN_writeDecimal 59 = .ok (.lstore_n 3, 1) := by decide +kernel
theorem dN_writeDecimal_60 : decode cN_writeDecimal 60 = .ok (.iinc 5 (-1), 3) := by decide +kernel
theorem dN_writeDecimal_63 : decode cN_writeDecimal 63 = .ok (.goto (-45), 3) := by decide +kernel
theorem dN_writeDecimal_66 : decode cN_writeDecimal 66 = .ok (.lload_n 1, 1) := by decide +kernel
theorem dN_writeDecimal_67 : decode cN_writeDecimal 67 = .ok (.lconst 0, 1) := by decide +kernel
theorem dN_writeDecimal_68 : decode cN_writeDecimal 68 = .ok (.lcmp, 1) := by decide +kernel
theorem dN_writeDecimal_69 : decode cN_writeDecimal 69 = .ok (.ifCond .ge 11, 3) := by decide +kernel
theorem dN_writeDecimal_72 : decode cN_writeDecimal 72 = .ok (.aload_n 0, 1) := by decide +kernel
theorem dN_writeDecimal_73 : decode cN_writeDecimal 73 = .ok (.getfield 9, 3) := by decide +kernel
theorem dN_writeDecimal_76 : decode cN_writeDecimal 76 = .ok (.iconst 0, 1) := by decide +kernel
theorem dN_writeDecimal_77 : decode cN_writeDecimal 77 = .ok (.bipush 45, 2) := by decide +kernel
theorem dN_writeDecimal_79 : decode cN_writeDecimal 79 = .ok (.castore, 1) := by decide +kernel
theorem dN_writeDecimal_80 : decode cN_writeDecimal 80 = .ok (.return_, 1) := by decide +kernel
theorem dN_decimalLength_0 : decode cN_decimalLength 0 = .ok (.iconst 1, 1) := by decide +kernel
theorem dN_decimalLength_1 : decode cN_decimalLength 1 = .ok (.istore_n 2, 1) := by decide +kernel
theorem dN_decimalLength_2 : decode cN_decimalLength 2 = .ok (.lload_n 0, 1) := by decide +kernel
theorem dN_decimalLength_3 : decode cN_decimalLength 3 = .ok (.ldc2_w 34, 3) := by decide +kernel
theorem dN_decimalLength_6 : decode cN_decimalLength 6 = .ok (.ldiv, 1) := by decide +kernel
theorem dN_decimalLength_7 : decode cN_decimalLength 7 = .ok (.lstore_n 3, 1) := by decide +kernel
theorem dN_decimalLength_8 : decode cN_decimalLength 8 = .ok (.lload_n 3, 1) := by decide +kernel
theorem dN_decimalLength_9 : decode cN_decimalLength 9 = .ok (.lconst 0, 1) := by decide +kernel
theorem dN_decimalLength_10 : decode cN_decimalLength 10 = .ok (.lcmp, 1) := by decide +kernel
theorem dN_decimalLength_11 : decode cN_decimalLength 11 = .ok (.ifCond .eq 21, 3) := by decide +kernel
theorem dN_decimalLength_14 : decode cN_decimalLength 14 = .ok (.iload_n 2, 1) := by decide +kernel
theorem dN_decimalLength_15 : decode cN_decimalLength 15 = .ok (.bipush 20, 2) := by decide +kernel
theorem dN_decimalLength_17 : decode cN_decimalLength 17 = .ok (.if_icmp .ge 15, 3) := by decide +kernel
theorem dN_decimalLength_20 : decode cN_decimalLength 20 = .ok (.iinc 2 1, 3) := by decide +kernel
theorem dN_decimalLength_23 : decode cN_decimalLength 23 = .ok (.lload_n 3, 1) := by decide +kernel
theorem dN_decimalLength_24 : decode cN_decimalLength 24 = .ok (.ldc2_w 34, 3) := by decide +kernel
theorem dN_decimalLength_27 : decode cN_decimalLength 27 = .ok (.ldiv, 1) := by decide +kernel
theorem dN_decimalLength_28 : decode cN_decimalLength 28 = .ok (.lstore_n 3, 1) := by decide +kernel
theorem dN_decimalLength_29 : decode cN_decimalLength 29 = .ok (.goto (-21), 3) := by decide +kernel
theorem dN_decimalLength_32 : decode cN_decimalLength 32 = .ok (.lload_n 0, 1) := by decide +kernel
theorem dN_decimalLength_33 : decode cN_decimalLength 33 = .ok (.lconst 0, 1) := by decide +kernel
theorem dN_decimalLength_34 : decode cN_decimalLength 34 = .ok (.lcmp, 1) := by decide +kernel
theorem dN_decimalLength_35 : decode cN_decimalLength 35 = .ok (.ifCond .ge 9, 3) := by decide +kernel
theorem dN_decimalLength_38 : decode cN_decimalLength 38 = .ok (.iload_n 2, 1) := by decide +kernel
theorem dN_decimalLength_39 : decode cN_decimalLength 39 = .ok (.iconst 1, 1) := by decide +kernel
theorem dN_decimalLength_40 : decode cN_decimalLength 40 = .ok (.iadd, 1) := by decide +kernel
theorem dN_decimalLength_41 : decode cN_decimalLength 41 = .ok (.goto 4, 3) := by decide +kernel
theorem dN_decimalLength_44 : decode cN_decimalLength 44 = .ok (.iload_n 2, 1) := by decide +kernel
theorem dN_decimalLength_45 : decode cN_decimalLength 45 = .ok (.ireturn, 1) := by decide +kernel
theorem dG_isSettledBy_0 : decode cG_isSettledBy 0 = .ok (.iload_n 0, 1) := by decide +kernel
theorem dG_isSettledBy_1 : decode cG_isSettledBy 1 = .ok (.sipush 31868, 3) := by decide +kernel
theorem dG_isSettledBy_4 : decode cG_isSettledBy 4 = .ok (.if_icmp .ne 9, 3) := by decide +kernel
theorem dG_isSettledBy_7 : decode cG_isSettledBy 7 = .ok (.lload_n 1, 1) := by decide +kernel
theorem dG_isSettledBy_8 : decode cG_isSettledBy 8 = .ok (.lconst 0, 1) := by decide +kernel
theorem dG_isSettledBy_9 : decode cG_isSettledBy 9 = .ok (.lcmp, 1) := by decide +kernel
theorem dG_isSettledBy_10 : decode cG_isSettledBy 10 = .ok (.ifCond .ne 16, 3) := by decide +kernel
theorem dG_isSettledBy_13 : decode cG_isSettledBy 13 = .ok (.iload_n 0, 1) := by decide +kernel
theorem dG_isSettledBy_14 : decode cG_isSettledBy 14 = .ok (.sipush 9766, 3) := by decide +kernel
theorem dG_isSettledBy_17 : decode cG_isSettledBy 17 = .ok (.if_icmp .ne 13, 3) := by decide +kernel
theorem dG_isSettledBy_20 : decode cG_isSettledBy 20 = .ok (.lload_n 1, 1) := by decide +kernel
theorem dG_isSettledBy_21 : decode cG_isSettledBy 21 = .ok (.lconst 0, 1) := by decide +kernel
theorem dG_isSettledBy_22 : decode cG_isSettledBy 22 = .ok (.lcmp, 1) := by decide +kernel
theorem dG_isSettledBy_23 : decode cG_isSettledBy 23 = .ok (.ifCond .ne 7, 3) := by decide +kernel
theorem dG_isSettledBy_26 : decode cG_isSettledBy 26 = .ok (.iconst 1, 1) := by decide +kernel
theorem dG_isSettledBy_27 : decode cG_isSettledBy 27 = .ok (.goto 4, 3) := by decide +kernel
theorem dG_isSettledBy_30 : decode cG_isSettledBy 30 = .ok (.iconst 0, 1) := by decide +kernel
theorem dG_isSettledBy_31 : decode cG_isSettledBy 31 = .ok (.ireturn, 1) := by decide +kernel
end
section
theorem dR_init_0 : decode cR_init 0 = .ok (.aload_n 0, 1) := by decide +kernel
theorem dR_init_1 : decode cR_init 1 = .ok (.invokespecial 3, 3) := by decide +kernel
theorem dR_init_4 : decode cR_init 4 = .ok (.aload_n 0, 1) := by decide +kernel
theorem dR_init_5 : decode cR_init 5 = .ok (.sipush 300, 3) := by decide +kernel
theorem dR_init_8 : decode cR_init 8 = .ok (.newarray .char, 2) := by decide +kernel
theorem dR_init_10 : decode cR_init 10 = .ok (.putfield 9, 3) := by decide +kernel
theorem dR_init_13 : decode cR_init 13 = .ok (.aload_n 0, 1) := by decide +kernel
theorem dR_init_14 : decode cR_init 14 = .ok (.new 15, 3) := by decide +kernel
theorem dR_init_17 : decode cR_init 17 = .ok (.dup, 1) := by decide +kernel
theorem dR_init_18 : decode cR_init 18 = .ok (.invokespecial 17, 3) := by decide +kernel
theorem dR_init_21 : decode cR_init 21 = .ok (.putfield 18, 3) := by decide +kernel
theorem dR_init_24 : decode cR_init 24 = .ok (.aload_n 0, 1) := by decide +kernel
theorem dR_init_25 : decode cR_init 25 = .ok (.sipush 150, 3) := by decide +kernel
theorem dR_init_28 : decode cR_init 28 = .ok (.newarray .int, 2) := by decide +kernel
theorem dR_init_30 : decode cR_init 30 = .ok (.putfield 22, 3) := by decide +kernel
theorem dR_init_33 : decode cR_init 33 = .ok (.aload_n 0, 1) := by decide +kernel
theorem dR_init_34 : decode cR_init 34 = .ok (.sipush 150, 3) := by decide +kernel
theorem dR_init_37 : decode cR_init 37 = .ok (.newarray .long, 2) := by decide +kernel
theorem dR_init_39 : decode cR_init 39 = .ok (.putfield 26, 3) := by decide +kernel
theorem dR_init_42 : decode cR_init 42 = .ok (.aload_n 0, 1) := by decide +kernel
theorem dR_init_43 : decode cR_init 43 = .ok (.iconst 0, 1) := by decide +kernel
theorem dR_init_44 : decode cR_init 44 = .ok (.putfield 30, 3) := by decide +kernel
theorem dR_init_47 : decode cR_init 47 = .ok (.aload_n 0, 1) := by decide +kernel
theorem dR_init_48 : decode cR_init 48 = .ok (.iconst 0, 1) := by decide +kernel
theorem dR_init_49 : decode cR_init 49 = .ok (.putfield 34, 3) := by decide +kernel
theorem dR_init_52 : decode cR_init 52 = .ok (.aload_n 0, 1) := by decide +kernel
theorem dR_init_53 : decode cR_init 53 = .ok (.iconst 0, 1) := by decide +kernel
theorem dR_init_54 : decode cR_init 54 = .ok (.putfield 37, 3) := by decide +kernel
theorem dR_init_57 : decode cR_init 57 = .ok (.aload_n 0, 1) := by decide +kernel
theorem dR_init_58 : decode cR_init 58 = .ok (.iconst 0, 1) := by decide +kernel
theorem dR_init_59 : decode cR_init 59 = .ok (.putfield 40, 3) := by decide +kernel
theorem dR_init_62 : decode cR_init 62 = .ok (.aload_n 0, 1) := by decide +kernel
theorem dR_init_63 : decode cR_init 63 = .ok (.lconst 0, 1) := by decide +kernel
theorem dR_init_64 : decode cR_init 64 = .ok (.putfield 43, 3) := by decide +kernel
theorem dR_init_67 : decode cR_init 67 = .ok (.return_, 1) := by decide +kernel
theorem dR_manages_0 : decode cR_manages 0 = .ok (.aload_n 0, 1) := by decide +kernel
theorem dR_manages_1 : decode cR_manages 1 = .ok (.iload_n 1, 1) := by decide +kernel
theorem dR_manages_2 : decode cR_manages 2 = .ok (.putfield 34, 3) := by decide +kernel
theorem dR_manages_5 : decode cR_manages 5 = .ok (.aload_n 0, 1) := by decide +kernel
theorem dR_manages_6 : decode cR_manages 6 = .ok (.iconst 0, 1) := by decide +kernel
theorem dR_manages_7 : decode cR_manages 7 = .ok (.putfield 37, 3) := by decide +kernel
theorem dR_manages_10 : decode cR_manages 10 = .ok (.aload_n 0, 1) := by decide +kernel
theorem dR_manages_11 : decode cR_manages 11 = .ok (.iconst 0, 1) := by decide +kernel
theorem dR_manages_12 : decode cR_manages 12 = .ok (.putfield 30, 3) := by decide +kernel
theorem dR_manages_15 : decode cR_manages 15 = .ok (.aload_n 0, 1) := by decide +kernel
theorem dR_manages_16 : decode cR_manages 16 = .ok (.iconst 0, 1) := by decide +kernel
theorem dR_manages_17 : decode cR_manages 17 = .ok (.putfield 40, 3) := by decide +kernel
theorem dR_manages_20 : decode cR_manages 20 = .ok (.aload_n 0, 1) := by decide +kernel
theorem dR_manages_21 : decode cR_manages 21 = .ok (.invokevirtual 47, 3) := by decide +kernel
theorem dR_manages_24 : decode cR_manages 24 = .ok (.aload_n 0, 1) := by decide +kernel
theorem dR_manages_25 : decode cR_manages 25 = .ok (.getfield 37, 3) := by decide +kernel
theorem dR_manages_28 : decode cR_manages 28 = .ok (.aload_n 0, 1) := by decide +kernel
theorem dR_manages_29 : decode cR_manages 29 = .ok (.getfield 34, 3) := by decide +kernel
theorem dR_manages_32 : decode cR_manages 32 = .ok (.if_icmp .lt 10, 3) := by decide +kernel
theorem dR_manages_35 : decode cR_manages 35 = .ok (.aload_n 0, 1) := by decide +kernel
theorem dR_manages_36 : decode cR_manages 36 = .ok (.lconst 0, 1) := by decide +kernel
theorem dR_manages_37 : decode cR_manages 37 = .ok (.putfield 43, 3) := by decide +kernel
theorem dR_manages_40 : decode cR_manages 40 = .ok (.iconst 1, 1) := by decide +kernel
theorem dR_manages_41 : decode cR_manages 41 = .ok (.ireturn, 1) := by decide +kernel
theorem dR_manages_42 : decode cR_manages 42 = .ok (.aload_n 0, 1) := by decide +kernel
theorem dR_manages_43 : decode cR_manages 43 = .ok (.aload_n 0, 1) := by decide +kernel
theorem dR_manages_44 : decode cR_manages 44 = .ok (.iconst 0, 1) := by decide +kernel
theorem dR_manages_45 : decode cR_manages 45 = .ok (.invokevirtual 50, 3) := by decide +kernel
theorem dR_manages_48 : decode cR_manages 48 = .ok (.putfield 43, 3) := by decide +kernel
theorem dR_manages_51 : decode cR_manages 51 = .ok (.goto 6, 3) := by decide +kernel
theorem dR_manages_54 : decode cR_manages 54 = .ok (.astore_n 2, 1) := by decide +kernel
theorem dR_manages_55 : decode cR_manages 55 = .ok (.iconst 0, 1) := by decide +kernel
theorem dR_manages_56 : decode cR_manages 56 = .ok (.ireturn, 1) := by decide +kernel
theorem dR_manages_57 : decode cR_manages 57 = .ok (.aload_n 0, 1) := by decide +kernel
theorem dR_manages_58 : decode cR_manages 58 = .ok (.invokevirtual 47, 3) := by decide +kernel
theorem dR_manages_61 : decode cR_manages 61 = .ok (.aload_n 0, 1) := by decide +kernel
theorem dR_manages_62 : decode cR_manages 62 = .ok (.getfield 37, 3) := by decide +kernel
theorem dR_manages_65 : decode cR_manages 65 = .ok (.aload_n 0, 1) := by decide +kernel
theorem dR_manages_66 : decode cR_manages 66 = .ok (.getfield 34, 3) := by decide +kernel
theorem dR_manages_69 : decode cR_manages 69 = .ok (.if_icmp .lt 7, 3) := by decide +kernel
theorem dR_manages_72 : decode cR_manages 72 = .ok (.iconst 1, 1) := by decide +kernel
theorem dR_manages_73 : decode cR_manages 73 = .ok (.goto 4, 3) := by decide +kernel
theorem dR_manages_76 : decode cR_manages 76 = .ok (.iconst 0, 1) := by decide +kernel
theorem dR_manages_77 : decode cR_manages 77 = .ok (.ireturn, 1) := by decide +kernel
theorem dR_skipBlanks_0 : decode cR_skipBlanks 0 = .ok (.aload_n 0, 1) := by decide +kernel
theorem dR_skipBlanks_1 : decode cR_skipBlanks 1 = .ok (.getfield 37, 3) := by decide +kernel
theorem dR_skipBlanks_4 : decode cR_skipBlanks 4 = .ok (.istore_n 1, 1) := by decide +kernel
theorem dR_skipBlanks_5 : decode cR_skipBlanks 5 = .ok (.iload_n 1, 1) := by decide +kernel
theorem dR_skipBlanks_6 : decode cR_skipBlanks 6 = .ok (.aload_n 0, 1) := by decide +kernel
theorem dR_skipBlanks_7 : decode cR_skipBlanks 7 = .ok (.getfield 34, 3) := by decide +kernel
theorem dR_skipBlanks_10 : decode cR_skipBlanks 10 = .ok (.if_icmp .ge 27, 3) := by decide +kernel
theorem dR_skipBlanks_13 : decode cR_skipBlanks 13 = .ok (.aload_n 0, 1) := by decide +kernel
theorem dR_skipBlanks_14 : decode cR_skipBlanks 14 = .ok (.iload_n 1, 1) := by decide +kernel
theorem dR_skipBlanks_15 : decode cR_skipBlanks 15 = .ok (.invokevirtual 56, 3) := by decide +kernel
theorem dR_skipBlanks_18 : decode cR_skipBlanks 18 = .ok (.invokestatic 168, 3) := by decide +kernel
theorem dR_skipBlanks_21 : decode cR_skipBlanks 21 = .ok (.ifCond .eq 16, 3) := by decide +kernel
theorem dR_skipBlanks_24 : decode cR_skipBlanks 24 = .ok (.aload_n 0, 1) := by decide +kernel
theorem dR_skipBlanks_25 : decode cR_skipBlanks 25 = .ok (.iload_n 1, 1) := by decide +kernel
theorem dR_skipBlanks_26 : decode cR_skipBlanks 26 = .ok (.iconst 1, 1) := by decide +kernel
theorem dR_skipBlanks_27 : decode cR_skipBlanks 27 = .ok (.iadd, 1) := by decide +kernel
theorem dR_skipBlanks_28 : decode cR_skipBlanks 28 = .ok (.putfield 37, 3) := by decide +kernel
theorem dR_skipBlanks_31 : decode cR_skipBlanks 31 = .ok (.iinc 1 1, 3) := by decide +kernel
theorem dR_skipBlanks_34 : decode cR_skipBlanks 34 = .ok (.goto (-29), 3) := by decide +kernel
theorem dR_skipBlanks_37 : decode cR_skipBlanks 37 = .ok (.return_, 1) := by decide +kernel
theorem dR_charAt_0 : decode cR_charAt 0 = .ok (.iload_n 1, 1) := by decide +kernel
theorem dR_charAt_1 : decode cR_charAt 1 = .ok (.ifCond .lt 20, 3) := by decide +kernel
theorem dR_charAt_4 : decode cR_charAt 4 = .ok (.iload_n 1, 1) := by decide +kernel
theorem dR_charAt_5 : decode cR_charAt 5 = .ok (.aload_n 0, 1) := by decide +kernel
theorem dR_charAt_6 : decode cR_charAt 6 = .ok (.getfield 34, 3) := by decide +kernel
theorem dR_charAt_9 : decode cR_charAt 9 = .ok (.if_icmp .ge 12, 3) := by decide +kernel
theorem dR_charAt_12 : decode cR_charAt 12 = .ok (.iload_n 1, 1) := by decide +kernel
theorem dR_charAt_13 : decode cR_charAt 13 = .ok (.aload_n 0, 1) := by decide +kernel
theorem dR_charAt_14 : decode cR_charAt 14 = .ok (.getfield 9, 3) := by decide +kernel
theorem dR_charAt_17 : decode cR_charAt 17 = .ok (.arraylength, 1) := by decide +kernel
theorem dR_charAt_18 : decode cR_charAt 18 = .ok (.if_icmp .lt 7, 3) := by decide +kernel
theorem dR_charAt_21 : decode cR_charAt 21 = .ok (.iconst 0, 1) := by decide +kernel
theorem dR_charAt_22 : decode cR_charAt 22 = .ok (.goto 9, 3) := by decide +kernel
theorem dR_charAt_25 : decode cR_charAt 25 = .ok (.aload_n 0, 1) := by decide +kernel
theorem dR_charAt_26 : decode cR_charAt 26 = .ok (.getfield 9, 3) := by decide +kernel
theorem dR_charAt_29 : decode cR_charAt 29 = .ok (.iload_n 1, 1) := by decide +kernel
theorem dR_charAt_30 : decode cR_charAt 30 = .ok (.caload, 1) := by decide +kernel
theorem dR_charAt_31 : decode cR_charAt 31 = .ok (.ireturn, 1) := by decide +kernel
theorem dR_expression_0 : decode cR_expression 0 = .ok (.aload_n 0, 1) := by decide +kernel
theorem dR_expression_1 : decode cR_expression 1 = .ok (.invokevirtual 47, 3) := by decide +kernel
theorem dR_expression_4 : decode cR_expression 4 = .ok (.aload_n 0, 1) := by decide +kernel
theorem dR_expression_5 : decode cR_expression 5 = .ok (.aload_n 0, 1) := by decide +kernel
theorem dR_expression_6 : decode cR_expression 6 = .ok (.getfield 37, 3) := by decide +kernel
theorem dR_expression_9 : decode cR_expression 9 = .ok (.invokevirtual 56, 3) := by decide +kernel
theorem dR_expression_12 : decode cR_expression 12 = .ok (.invokestatic 60, 3) := by decide +kernel
theorem dR_expression_15 : decode cR_expression 15 = .ok (.ifCond .eq 66, 3) := by decide +kernel
theorem dR_expression_18 : decode cR_expression 18 = .ok (.aload_n 0, 1) := by decide +kernel
theorem dR_expression_19 : decode cR_expression 19 = .ok (.getfield 37, 3) := by decide +kernel
theorem dR_expression_22 : decode cR_expression 22 = .ok (.istore_n 2, 1) := by decide +kernel
theorem dR_expression_23 : decode cR_expression 23 = .ok (.aload_n 0, 1) := by decide +kernel
theorem dR_expression_24 : decode cR_expression 24 = .ok (.invokevirtual 64, 3) := by decide +kernel
theorem dR_expression_27 : decode cR_expression 27 = .ok (.istore_n 3, 1) := by decide +kernel
theorem dR_expression_28 : decode cR_expression 28 = .ok (.aload_n 0, 1) := by decide +kernel
theorem dR_expression_29 : decode cR_expression 29 = .ok (.iload_n 3, 1) := by decide +kernel
theorem dR_expression_30 : decode cR_expression 30 = .ok (.putfield 37, 3) := by decide +kernel
theorem dR_expression_33 : decode cR_expression 33 = .ok (.aload_n 0, 1) := by decide +kernel
theorem dR_expression_34 : decode cR_expression 34 = .ok (.invokevirtual 68, 3) := by decide +kernel
theorem dR_expression_37 : decode cR_expression 37 = .ok (.istore 4, 2) := by decide +kernel
theorem dR_expression_39 : decode cR_expression 39 = .ok (.iload 4, 2) := by decide +kernel
theorem dR_expression_41 : decode cR_expression 41 = .ok (.ifCond .eq 35, 3) := by decide +kernel
theorem dR_expression_44 : decode cR_expression 44 = .ok (.aload_n 0, 1) := by decide +kernel
theorem dR_expression_45 : decode cR_expression 45 = .ok (.iload_n 1, 1) := by decide +kernel
theorem dR_expression_46 : decode cR_expression 46 = .ok (.invokestatic 71, 3) := by decide +kernel
theorem dR_expression_49 : decode cR_expression 49 = .ok (.invokevirtual 50, 3) := by decide +kernel
theorem dR_expression_52 : decode cR_expression 52 = .ok (.lstore 5, 2) := by decide +kernel
theorem dR_expression_54 : decode cR_expression 54 = .ok (.aload_n 0, 1) := by decide +kernel
theorem dR_expression_55 : decode cR_expression 55 = .ok (.getfield 40, 3) := by decide +kernel
theorem dR_expression_58 : decode cR_expression 58 = .ok (.ifCond .le 7, 3) := by decide +kernel
theorem dR_expression_61 : decode cR_expression 61 = .ok (.lconst 0, 1) := by decide +kernel
theorem dR_expression_62 : decode cR_expression 62 = .ok (.goto 13, 3) := by decide +kernel
theorem dR_expression_65 : decode cR_expression 65 = .ok (.aload_n 0, 1) := by decide +kernel
theorem dR_expression_66 : decode cR_expression 66 = .ok (.iload_n 2, 1) := by decide +kernel
theorem dR_expression_67 : decode cR_expression 67 = .ok (.iload_n 3, 1) := by decide +kernel
theorem dR_expression_68 : decode cR_expression 68 = .ok (.iload 4, 2) := by decide +kernel
theorem dR_expression_70 : decode cR_expression 70 = .ok (.lload 5, 2) := by decide +kernel
theorem dR_expression_72 : decode cR_expression 72 = .ok (.invokevirtual 75, 3) := by decide +kernel
theorem dR_expression_75 : decode cR_expression 75 = .ok (.lreturn, 1) := by decide +kernel
theorem dR_expression_76 : decode cR_expression 76 = .ok (.aload_n 0, 1) := by decide +kernel
theorem dR_expression_77 : decode cR_expression 77 = .ok (.iload_n 2, 1) := by decide +kernel
theorem dR_expression_78 : decode cR_expression 78 = .ok (.putfield 37, 3) := by decide +kernel
theorem dR_expression_81 : decode cR_expression 81 = .ok (.aload_n 0, 1) := by decide +kernel
theorem dR_expression_82 : decode cR_expression 82 = .ok (.iload_n 1, 1) := by decide +kernel
theorem dR_expression_83 : decode cR_expression 83 = .ok (.invokevirtual 79, 3) := by decide +kernel
theorem dR_expression_86 : decode cR_expression 86 = .ok (.lreturn, 1) := by decide +kernel
theorem dR_wordEnd_0 : decode cR_wordEnd 0 = .ok (.aload_n 0, 1) := by decide +kernel
theorem dR_wordEnd_1 : decode cR_wordEnd 1 = .ok (.getfield 37, 3) := by decide +kernel
theorem dR_wordEnd_4 : decode cR_wordEnd 4 = .ok (.istore_n 1, 1) := by decide +kernel
theorem dR_wordEnd_5 : decode cR_wordEnd 5 = .ok (.aload_n 0, 1) := by decide +kernel
theorem dR_wordEnd_6 : decode cR_wordEnd 6 = .ok (.getfield 37, 3) := by decide +kernel
theorem dR_wordEnd_9 : decode cR_wordEnd 9 = .ok (.istore_n 2, 1) := by decide +kernel
theorem dR_wordEnd_10 : decode cR_wordEnd 10 = .ok (.iload_n 2, 1) := by decide +kernel
theorem dR_wordEnd_11 : decode cR_wordEnd 11 = .ok (.aload_n 0, 1) := by decide +kernel
theorem dR_wordEnd_12 : decode cR_wordEnd 12 = .ok (.getfield 34, 3) := by decide +kernel
theorem dR_wordEnd_15 : decode cR_wordEnd 15 = .ok (.if_icmp .ge 24, 3) := by decide +kernel
theorem dR_wordEnd_18 : decode cR_wordEnd 18 = .ok (.aload_n 0, 1) := by decide +kernel
theorem dR_wordEnd_19 : decode cR_wordEnd 19 = .ok (.iload_n 2, 1) := by decide +kernel
theorem dR_wordEnd_20 : decode cR_wordEnd 20 = .ok (.invokevirtual 56, 3) := by decide +kernel
theorem dR_wordEnd_23 : decode cR_wordEnd 23 = .ok (.invokestatic 171, 3) := by decide +kernel
theorem dR_wordEnd_26 : decode cR_wordEnd 26 = .ok (.ifCond .eq 13, 3) := by decide +kernel
theorem dR_wordEnd_29 : decode cR_wordEnd 29 = .ok (.iload_n 2, 1) := by decide +kernel
theorem dR_wordEnd_30 : decode cR_wordEnd 30 = .ok (.iconst 1, 1) := by decide +kernel
theorem dR_wordEnd_31 : decode cR_wordEnd 31 = .ok (.iadd, 1) := by decide +kernel
theorem dR_wordEnd_32 : decode cR_wordEnd 32 = .ok (.istore_n 1, 1) := by decide +kernel
theorem dR_wordEnd_33 : decode cR_wordEnd 33 = .ok (.iinc 2 1, 3) := by decide +kernel
theorem dR_wordEnd_36 : decode cR_wordEnd 36 = .ok (.goto (-26), 3) := by decide +kernel
theorem dR_wordEnd_39 : decode cR_wordEnd 39 = .ok (.iload_n 1, 1) := by decide +kernel
theorem dR_wordEnd_40 : decode cR_wordEnd 40 = .ok (.ireturn, 1) := by decide +kernel
theorem dR_assignmentSign_0 : decode cR_assignmentSign 0 = .ok (.aload_n 0, 1) := by decide +kernel
theorem dR_assignmentSign_1 : decode cR_assignmentSign 1 = .ok (.invokevirtual 47, 3) := by decide +kernel
theorem dR_assignmentSign_4 : decode cR_assignmentSign 4 = .ok (.aload_n 0, 1) := by decide +kernel
theorem dR_assignmentSign_5 : decode cR_assignmentSign 5 = .ok (.aload_n 0, 1) := by decide +kernel
theorem dR_assignmentSign_6 : decode cR_assignmentSign 6 = .ok (.getfield 37, 3) := by decide +kernel
theorem dR_assignmentSign_9 : decode cR_assignmentSign 9 = .ok (.invokevirtual 56, 3) := by decide +kernel
theorem dR_assignmentSign_12 : decode cR_assignmentSign 12 = .ok (.istore_n 1, 1) := by decide +kernel
theorem dR_assignmentSign_13 : decode cR_assignmentSign 13 = .ok (.aload_n 0, 1) := by decide +kernel
theorem dR_assignmentSign_14 : decode cR_assignmentSign 14 = .ok (.aload_n 0, 1) := by decide +kernel
theorem dR_assignmentSign_15 : decode cR_assignmentSign 15 = .ok (.getfield 37, 3) := by decide +kernel
theorem dR_assignmentSign_18 : decode cR_assignmentSign 18 = .ok (.iconst 1, 1) := by decide +kernel
theorem dR_assignmentSign_19 : decode cR_assignmentSign 19 = .ok (.iadd, 1) := by decide +kernel
theorem dR_assignmentSign_20 : decode cR_assignmentSign 20 = .ok (.invokevirtual 56, 3) := by decide +kernel
theorem dR_assignmentSign_23 : decode cR_assignmentSign 23 = .ok (.istore_n 2, 1) := by decide +kernel
theorem dR_assignmentSign_24 : decode cR_assignmentSign 24 = .ok (.iload_n 1, 1) := by decide +kernel
theorem dR_assignmentSign_25 : decode cR_assignmentSign 25 = .ok (.bipush 8, 2) := by decide +kernel
theorem dR_assignmentSign_27 : decode cR_assignmentSign 27 = .ok (.ishl, 1) := by decide +kernel
theorem dR_assignmentSign_28 : decode cR_assignmentSign 28 = .ok (.iload_n 2, 1) := by decide +kernel
theorem dR_assignmentSign_29 : decode cR_assignmentSign 29 = .ok (.ior, 1) := by decide +kernel
theorem dR_assignmentSign_30 : decode cR_assignmentSign 30 = .ok (.istore_n 3, 1) := by decide +kernel
theorem dR_assignmentSign_31 : decode cR_assignmentSign 31 = .ok (.iload_n 1, 1) := by decide +kernel
theorem dR_assignmentSign_32 : decode cR_assignmentSign 32 = .ok (.bipush 61, 2) := by decide +kernel
theorem dR_assignmentSign_34 : decode cR_assignmentSign 34 = .ok (.if_icmp .ne 21, 3) := by decide +kernel
theorem dR_assignmentSign_37 : decode cR_assignmentSign 37 = .ok (.iload_n 2, 1) := by decide +kernel
theorem dR_assignmentSign_38 : decode cR_assignmentSign 38 = .ok (.bipush 61, 2) := by decide +kernel
theorem dR_assignmentSign_40 : decode cR_assignmentSign 40 = .ok (.if_icmp .eq 15, 3) := by decide +kernel
theorem dR_assignmentSign_43 : decode cR_assignmentSign 43 = .ok (.aload_n 0, 1) := by decide +kernel
theorem dR_assignmentSign_44 : decode cR_assignmentSign 44 = .ok (.dup, 1) := by decide +kernel
theorem dR_assignmentSign_45 : decode cR_assignmentSign 45 = .ok (.getfield 37, 3) := by decide +kernel
theorem dR_assignmentSign_48 : decode cR_assignmentSign 48 = .ok (.iconst 1, 1) := by decide +kernel
theorem dR_assignmentSign_49 : decode cR_assignmentSign 49 = .ok (.iadd, 1) := by decide +kernel
theorem dR_assignmentSign_50 : decode cR_assignmentSign 50 = .ok (.putfield 37, 3) := by decide +kernel
theorem dR_assignmentSign_53 : decode cR_assignmentSign 53 = .ok (.iload_n 1, 1) := by decide +kernel
theorem dR_assignmentSign_54 : decode cR_assignmentSign 54 = .ok (.ireturn, 1) := by decide +kernel
theorem dR_assignmentSign_55 : decode cR_assignmentSign 55 = .ok (.iload_n 3, 1) := by decide +kernel
theorem dR_assignmentSign_56 : decode cR_assignmentSign 56 = .ok (.invokestatic 162, 3) := by decide +kernel
theorem dR_assignmentSign_59 : decode cR_assignmentSign 59 = .ok (.ifCond .eq 30, 3) := by decide +kernel
theorem dR_assignmentSign_62 : decode cR_assignmentSign 62 = .ok (.aload_n 0, 1) := by decide +kernel
theorem dR_assignmentSign_63 : decode cR_assignmentSign 63 = .ok (.aload_n 0, 1) := by decide +kernel
theorem dR_assignmentSign_64 : decode cR_assignmentSign 64 = .ok (.getfield 37, 3) := by decide +kernel
theorem dR_assignmentSign_67 : decode cR_assignmentSign 67 = .ok (.iconst 2, 1) := by decide +kernel
theorem dR_assignmentSign_68 : decode cR_assignmentSign 68 = .ok (.iadd, 1) := by decide +kernel
theorem dR_assignmentSign_69 : decode cR_assignmentSign 69 = .ok (.invokevirtual 56, 3) := by decide +kernel
theorem dR_assignmentSign_72 : decode cR_assignmentSign 72 = .ok (.bipush 61, 2) := by decide +kernel
theorem dR_assignmentSign_74 : decode cR_assignmentSign 74 = .ok (.if_icmp .ne 15, 3) := by decide +kernel
theorem dR_assignmentSign_77 : decode cR_assignmentSign 77 = .ok (.aload_n 0, 1) := by decide +kernel
theorem dR_assignmentSign_78 : decode cR_assignmentSign 78 = .ok (.dup, 1) := by decide +kernel
theorem dR_assignmentSign_79 : decode cR_assignmentSign 79 = .ok (.getfield 37, 3) := by decide +kernel
theorem dR_assignmentSign_82 : decode cR_assignmentSign 82 = .ok (.iconst 3, 1) := by decide +kernel
theorem dR_assignmentSign_83 : decode cR_assignmentSign 83 = .ok (.iadd, 1) := by decide +kernel
theorem dR_assignmentSign_84 : decode cR_assignmentSign 84 = .ok (.putfield 37, 3) := by decide +kernel
theorem dR_assignmentSign_87 : decode cR_assignmentSign 87 = .ok (.iload_n 3, 1) := by decide +kernel
theorem dR_assignmentSign_88 : decode cR_assignmentSign 88 = .ok (.ireturn, 1) := by decide +kernel
theorem dR_assignmentSign_89 : decode cR_assignmentSign 89 = .ok (.iload_n 2, 1) := by decide +kernel
theorem dR_assignmentSign_90 : decode cR_assignmentSign 90 = .ok (.bipush 61, 2) := by decide +kernel
theorem dR_assignmentSign_92 : decode cR_assignmentSign 92 = .ok (.if_icmp .ne 34, 3) := by decide +kernel
theorem dR_assignmentSign_95 : decode cR_assignmentSign 95 = .ok (.iload_n 1, 1) := by decide +kernel
theorem dR_assignmentSign_96 : decode cR_assignmentSign 96 = .ok (.bipush 60, 2) := by decide +kernel
theorem dR_assignmentSign_98 : decode cR_assignmentSign 98 = .ok (.if_icmp .eq 28, 3) := by decide +kernel
theorem dR_assignmentSign_101 : decode cR_assignmentSign 101 = .ok (.iload_n 1, 1) := by decide +kernel
theorem dR_assignmentSign_102 : decode cR_assignmentSign 102 = .ok (.bipush 62, 2) := by decide +kernel
theorem dR_assignmentSign_104 : decode cR_assignmentSign 104 = .ok (.if_icmp .eq 22, 3) := by decide +kernel
theorem dR_assignmentSign_107 : decode cR_assignmentSign 107 = .ok (.iload_n 1, 1) := by decide +kernel
theorem dR_assignmentSign_108 : decode cR_assignmentSign 108 = .ok (.invokestatic 95, 3) := by decide +kernel
theorem dR_assignmentSign_111 : decode cR_assignmentSign 111 = .ok (.ifCond .le 15, 3) := by decide +kernel
theorem dR_assignmentSign_114 : decode cR_assignmentSign 114 = .ok (.aload_n 0, 1) := by decide +kernel
theorem dR_assignmentSign_115 : decode cR_assignmentSign 115 = .ok (.dup, 1) := by decide +kernel
theorem dR_assignmentSign_116 : decode cR_assignmentSign 116 = .ok (.getfield 37, 3) := by decide +kernel
theorem dR_assignmentSign_119 : decode cR_assignmentSign 119 = .ok (.iconst 2, 1) := by decide +kernel
theorem dR_assignmentSign_120 : decode cR_assignmentSign 120 = .ok (.iadd, 1) := by decide +kernel
theorem dR_assignmentSign_121 : decode cR_assignmentSign 121 = .ok (.putfield 37, 3) := by decide +kernel
theorem dR_assignmentSign_124 : decode cR_assignmentSign 124 = .ok (.iload_n 1, 1) := by decide +kernel
theorem dR_assignmentSign_125 : decode cR_assignmentSign 125 = .ok (.ireturn, 1) := by decide +kernel
theorem dR_assignmentSign_126 : decode cR_assignmentSign 126 = .ok (.iconst 0, 1) := by decide +kernel
theorem dR_assignmentSign_127 : decode cR_assignmentSign 127 = .ok (.ireturn, 1) := by decide +kernel
theorem dR_isShift_0 : decode cR_isShift 0 = .ok (.iload_n 0, 1) := by decide +kernel
theorem dR_isShift_1 : decode cR_isShift 1 = .ok (.sipush 15420, 3) := by decide +kernel
theorem dR_isShift_4 : decode cR_isShift 4 = .ok (.if_icmp .eq 10, 3) := by decide +kernel
theorem dR_isShift_7 : decode cR_isShift 7 = .ok (.iload_n 0, 1) := by decide +kernel
theorem dR_isShift_8 : decode cR_isShift 8 = .ok (.sipush 15934, 3) := by decide +kernel
theorem dR_isShift_11 : decode cR_isShift 11 = .ok (.if_icmp .ne 7, 3) := by decide +kernel
theorem dR_isShift_14 : decode cR_isShift 14 = .ok (.iconst 1, 1) := by decide +kernel
theorem dR_isShift_15 : decode cR_isShift 15 = .ok (.goto 4, 3) := by decide +kernel
theorem dR_isShift_18 : decode cR_isShift 18 = .ok (.iconst 0, 1) := by decide +kernel
theorem dR_isShift_19 : decode cR_isShift 19 = .ok (.ireturn, 1) := by decide +kernel
theorem dR_deeper_0 : decode cR_deeper 0 = .ok (.iload_n 0, 1) := by decide +kernel
theorem dR_deeper_1 : decode cR_deeper 1 = .ok (.bipush 40, 2) := by decide +kernel
theorem dR_deeper_3 : decode cR_deeper 3 = .ok (.if_icmp .lt 13, 3) := by decide +kernel
theorem dR_deeper_6 : decode cR_deeper 6 = .ok (.new 54, 3) := by decide +kernel
theorem dR_deeper_9 : decode cR_deeper 9 = .ok (.dup, 1) := by decide +kernel
theorem dR_deeper_10 : decode cR_deeper 10 = .ok (.ldc 114, 2) := by decide +kernel
theorem dR_deeper_12 : decode cR_deeper 12 = .ok (.invokespecial 116, 3) := by decide +kernel
theorem dR_deeper_15 : decode cR_deeper 15 = .ok (.athrow, 1) := by decide +kernel
theorem dR_deeper_16 : decode cR_deeper 16 = .ok (.iload_n 0, 1) := by decide +kernel
theorem dR_deeper_17 : decode cR_deeper 17 = .ok (.iconst 1, 1) := by decide +kernel
theorem dR_deeper_18 : decode cR_deeper 18 = .ok (.iadd, 1) := by decide +kernel
theorem dR_deeper_19 : decode cR_deeper 19 = .ok (.ireturn, 1) := by decide +kernel
theorem dR_assign_0 : decode cR_assign 0 = .ok (.iload_n 3, 1) := by decide +kernel
theorem dR_assign_1 : decode cR_assign 1 = .ok (.bipush 61, 2) := by decide +kernel
theorem dR_assign_3 : decode cR_assign 3 = .ok (.if_icmp .ne 8, 3) := by decide +kernel
theorem dR_assign_6 : decode cR_assign 6 = .ok (.lload 4, 2) := by decide +kernel
theorem dR_assign_8 : decode cR_assign 8 = .ok (.goto 15, 3) := by decide +kernel
theorem dR_assign_11 : decode cR_assign 11 = .ok (.iload_n 3, 1) := by decide +kernel
theorem dR_assign_12 : decode cR_assign 12 = .ok (.aload_n 0, 1) := by decide +kernel
theorem dR_assign_13 : decode cR_assign 13 = .ok (.iload_n 1, 1) := by decide +kernel
theorem dR_assign_14 : decode cR_assign 14 = .ok (.iload_n 2, 1) := by decide +kernel
theorem dR_assign_15 : decode cR_assign 15 = .ok (.invokevirtual 128, 3) := by decide +kernel
theorem dR_assign_18 : decode cR_assign 18 = .ok (.lload 4, 2) := by decide +kernel
theorem dR_assign_20 : decode cR_assign 20 = .ok (.invokestatic 140, 3) := by decide +kernel
theorem dR_assign_23 : decode cR_assign 23 = .ok (.lstore 6, 2) := by decide +kernel
theorem dR_assign_25 : decode cR_assign 25 = .ok (.aload_n 0, 1) := by decide +kernel
theorem dR_assign_26 : decode cR_assign 26 = .ok (.getfield 18, 3) := by decide +kernel
theorem dR_assign_29 : decode cR_assign 29 = .ok (.aload_n 0, 1) := by decide +kernel
theorem dR_assign_30 : decode cR_assign 30 = .ok (.getfield 9, 3) := by decide +kernel
theorem dR_assign_33 : decode cR_assign 33 = .ok (.iload_n 1, 1) := by decide +kernel
theorem dR_assign_34 : decode cR_assign 34 = .ok (.iload_n 2, 1) := by decide +kernel
theorem dR_assign_35 : decode cR_assign 35 = .ok (.invokevirtual 144, 3) := by decide +kernel
theorem dR_assign_38 : decode cR_assign 38 = .ok (.astore 8, 2) := by decide +kernel
theorem dR_assign_40 : decode cR_assign 40 = .ok (.aload 8, 2) := by decide +kernel
theorem dR_assign_42 : decode cR_assign 42 = .ok (.ifnonnull 13, 3) := by decide +kernel
theorem dR_assign_45 : decode cR_assign 45 = .ok (.new 54, 3) := by decide +kernel
theorem dR_assign_48 : decode cR_assign 48 = .ok (.dup, 1) := by decide +kernel
theorem dR_assign_49 : decode cR_assign 49 = .ok (.ldc 147, 2) := by decide +kernel
theorem dR_assign_51 : decode cR_assign 51 = .ok (.invokespecial 116, 3) := by decide +kernel
theorem dR_assign_54 : decode cR_assign 54 = .ok (.athrow, 1) := by decide +kernel
theorem dR_assign_55 : decode cR_assign 55 = .ok (.aload 8, 2) := by decide +kernel
theorem dR_assign_57 : decode cR_assign 57 = .ok (.lload 6, 2) := by decide +kernel
theorem dR_assign_59 : decode cR_assign 59 = .ok (.invokevirtual 149, 3) := by decide +kernel
theorem dR_assign_62 : decode cR_assign 62 = .ok (.lload 6, 2) := by decide +kernel
theorem dR_assign_64 : decode cR_assign 64 = .ok (.lreturn, 1) := by decide +kernel
theorem dR_nameValue_0 : decode cR_nameValue 0 = .ok (.aload_n 0, 1) := by decide +kernel
theorem dR_nameValue_1 : decode cR_nameValue 1 = .ok (.getfield 18, 3) := by decide +kernel
theorem dR_nameValue_4 : decode cR_nameValue 4 = .ok (.aload_n 0, 1) := by decide +kernel
theorem dR_nameValue_5 : decode cR_nameValue 5 = .ok (.getfield 9, 3) := by decide +kernel
theorem dR_nameValue_8 : decode cR_nameValue 8 = .ok (.iload_n 1, 1) := by decide +kernel
theorem dR_nameValue_9 : decode cR_nameValue 9 = .ok (.iload_n 2, 1) := by decide +kernel
theorem dR_nameValue_10 : decode cR_nameValue 10 = .ok (.invokevirtual 132, 3) := by decide +kernel
theorem dR_nameValue_13 : decode cR_nameValue 13 = .ok (.astore_n 3, 1) := by decide +kernel
theorem dR_nameValue_14 : decode cR_nameValue 14 = .ok (.aload_n 3, 1) := by decide +kernel
theorem dR_nameValue_15 : decode cR_nameValue 15 = .ok (.ifnull 10, 3) := by decide +kernel
theorem dR_nameValue_18 : decode cR_nameValue 18 = .ok (.aload_n 3, 1) := by decide +kernel
theorem dR_nameValue_19 : decode cR_nameValue 19 = .ok (.getfield 136, 3) := by decide +kernel
theorem dR_nameValue_22 : decode cR_nameValue 22 = .ok (.ifCond .ne 5, 3) := by decide +kernel
theorem dR_nameValue_25 : decode cR_nameValue 25 = .ok (.lconst 0, 1) := by decide +kernel
theorem dR_nameValue_26 : decode cR_nameValue 26 = .ok (.lreturn, 1) := by decide +kernel
theorem dR_nameValue_27 : decode cR_nameValue 27 = .ok (.aload_n 3, 1) := by decide +kernel
theorem dR_nameValue_28 : decode cR_nameValue 28 = .ok (.getfield 139, 3) := by decide +kernel
theorem dR_nameValue_31 : decode cR_nameValue 31 = .ok (.iconst 0, 1) := by decide +kernel
theorem dR_nameValue_32 : decode cR_nameValue 32 = .ok (.caload, 1) := by decide +kernel
theorem dR_nameValue_33 : decode cR_nameValue 33 = .ok (.bipush 45, 2) := by decide +kernel
theorem dR_nameValue_35 : decode cR_nameValue 35 = .ok (.if_icmp .ne 17, 3) := by decide +kernel
theorem dR_nameValue_38 : decode cR_nameValue 38 = .ok (.aload_n 3, 1) := by decide +kernel
theorem dR_nameValue_39 : decode cR_nameValue 39 = .ok (.getfield 139, 3) := by decide +kernel
theorem dR_nameValue_42 : decode cR_nameValue 42 = .ok (.iconst 1, 1) := by decide +kernel
theorem dR_nameValue_43 : decode cR_nameValue 43 = .ok (.aload_n 3, 1) := by decide +kernel
theorem dR_nameValue_44 : decode cR_nameValue 44 = .ok (.getfield 136, 3) := by decide +kernel
theorem dR_nameValue_47 : decode cR_nameValue 47 = .ok (.invokestatic 122, 3) := by decide +kernel
theorem dR_nameValue_50 : decode cR_nameValue 50 = .ok (.lneg, 1) := by decide +kernel
theorem dR_nameValue_51 : decode cR_nameValue 51 = .ok (.lreturn, 1) := by decide +kernel
theorem dR_nameValue_52 : decode cR_nameValue 52 = .ok (.aload_n 3, 1) := by decide +kernel
theorem dR_nameValue_53 : decode cR_nameValue 53 = .ok (.getfield 139, 3) := by decide +kernel
theorem dR_nameValue_56 : decode cR_nameValue 56 = .ok (.iconst 0, 1) := by decide +kernel
theorem dR_nameValue_57 : decode cR_nameValue 57 = .ok (.aload_n 3, 1) := by decide +kernel
theorem dR_nameValue_58 : decode cR_nameValue 58 = .ok (.getfield 136, 3) := by decide +kernel
theorem dR_nameValue_61 : decode cR_nameValue 61 = .ok (.invokestatic 122, 3) := by decide +kernel
theorem dR_nameValue_64 : decode cR_nameValue 64 = .ok (.lreturn, 1) := by decide +kernel
theorem dR_choice_0 : decode cR_choice 0 = .ok (.aload_n 0, 1) := by decide +kernel
theorem dR_choice_1 : decode cR_choice 1 = .ok (.iload_n 1, 1) := by decide +kernel
theorem dR_choice_2 : decode cR_choice 2 = .ok (.invokevirtual 82, 3) := by decide +kernel
theorem dR_choice_5 : decode cR_choice 5 = .ok (.lstore_n 2, 1) := by decide +kernel
theorem dR_choice_6 : decode cR_choice 6 = .ok (.aload_n 0, 1) := by decide +kernel
theorem dR_choice_7 : decode cR_choice 7 = .ok (.invokevirtual 47, 3) := by decide +kernel
theorem dR_choice_10 : decode cR_choice 10 = .ok (.aload_n 0, 1) := by decide +kernel
theorem dR_choice_11 : decode cR_choice 11 = .ok (.aload_n 0, 1) := by decide +kernel
theorem dR_choice_12 : decode cR_choice 12 = .ok (.getfield 37, 3) := by decide +kernel
theorem dR_choice_15 : decode cR_choice 15 = .ok (.invokevirtual 56, 3) := by decide +kernel
theorem dR_choice_18 : decode cR_choice 18 = .ok (.bipush 63, 2) := by decide +kernel
theorem dR_choice_20 : decode cR_choice 20 = .ok (.if_icmp .eq 5, 3) := by decide +kernel
theorem dR_choice_23 : decode cR_choice 23 = .ok (.lload_n 2, 1) := by decide +kernel
theorem dR_choice_24 : decode cR_choice 24 = .ok (.lreturn, 1) := by decide +kernel
theorem dR_choice_25 : decode cR_choice 25 = .ok (.aload_n 0, 1) := by decide +kernel
theorem dR_choice_26 : decode cR_choice 26 = .ok (.dup, 1) := by decide +kernel
theorem dR_choice_27 : decode cR_choice 27 = .ok (.getfield 37, 3) := by decide +kernel
theorem dR_choice_30 : decode cR_choice 30 = .ok (.iconst 1, 1) := by decide +kernel
theorem dR_choice_31 : decode cR_choice 31 = .ok (.iadd, 1) := by decide +kernel
theorem dR_choice_32 : decode cR_choice 32 = .ok (.putfield 37, 3) := by decide +kernel
theorem dR_choice_35 : decode cR_choice 35 = .ok (.iload_n 1, 1) := by decide +kernel
theorem dR_choice_36 : decode cR_choice 36 = .ok (.invokestatic 71, 3) := by decide +kernel
theorem dR_choice_39 : decode cR_choice 39 = .ok (.istore 4, 2) := by decide +kernel
theorem dR_choice_41 : decode cR_choice 41 = .ok (.lload_n 2, 1) := by decide +kernel
theorem dR_choice_42 : decode cR_choice 42 = .ok (.lconst 0, 1) := by decide +kernel
theorem dR_choice_43 : decode cR_choice 43 = .ok (.lcmp, 1) := by decide +kernel
theorem dR_choice_44 : decode cR_choice 44 = .ok (.ifCond .ne 7, 3) := by decide +kernel
theorem dR_choice_47 : decode cR_choice 47 = .ok (.iconst 1, 1) := by decide +kernel
theorem dR_choice_48 : decode cR_choice 48 = .ok (.goto 4, 3) := by decide +kernel
theorem dR_choice_51 : decode cR_choice 51 = .ok (.iconst 0, 1) := by decide +kernel
theorem dR_choice_52 : decode cR_choice 52 = .ok (.istore 5, 2) := by decide +kernel
theorem dR_choice_54 : decode cR_choice 54 = .ok (.iconst 1, 1) := by decide +kernel
theorem dR_choice_55 : decode cR_choice 55 = .ok (.iload 5, 2) := by decide +kernel
theorem dR_choice_57 : decode cR_choice 57 = .ok (.isub, 1) := by decide +kernel
theorem dR_choice_58 : decode cR_choice 58 = .ok (.istore 6, 2) := by decide +kernel
theorem dR_choice_60 : decode cR_choice 60 = .ok (.aload_n 0, 1) := by decide +kernel
theorem dR_choice_61 : decode cR_choice 61 = .ok (.dup, 1) := by decide +kernel
theorem dR_choice_62 : decode cR_choice 62 = .ok (.getfield 40, 3) := by decide +kernel
theorem dR_choice_65 : decode cR_choice 65 = .ok (.iload 5, 2) := by decide +kernel
theorem dR_choice_67 : decode cR_choice 67 = .ok (.iadd, 1) := by decide +kernel
theorem dR_choice_68 : decode cR_choice 68 = .ok (.putfield 40, 3) := by decide +kernel
theorem dR_choice_71 : decode cR_choice 71 = .ok (.aload_n 0, 1) := by decide +kernel
theorem dR_choice_72 : decode cR_choice 72 = .ok (.iload 4, 2) := by decide +kernel
theorem dR_choice_74 : decode cR_choice 74 = .ok (.invokevirtual 50, 3) := by decide +kernel
theorem dR_choice_77 : decode cR_choice 77 = .ok (.lstore 7, 2) := by decide +kernel
theorem dR_choice_79 : decode cR_choice 79 = .ok (.aload_n 0, 1) := by decide +kernel
theorem dR_choice_80 : decode cR_choice 80 = .ok (.dup, 1) := by decide +kernel
theorem dR_choice_81 : decode cR_choice 81 = .ok (.getfield 40, 3) := by decide +kernel
theorem dR_choice_84 : decode cR_choice 84 = .ok (.iload 5, 2) := by decide +kernel
theorem dR_choice_86 : decode cR_choice 86 = .ok (.isub, 1) := by decide +kernel
theorem dR_choice_87 : decode cR_choice 87 = .ok (.putfield 40, 3) := by decide +kernel
theorem dR_choice_90 : decode cR_choice 90 = .ok (.aload_n 0, 1) := by decide +kernel
theorem dR_choice_91 : decode cR_choice 91 = .ok (.bipush 58, 2) := by decide +kernel
theorem dR_choice_93 : decode cR_choice 93 = .ok (.invokevirtual 85, 3) := by decide +kernel
theorem dR_choice_96 : decode cR_choice 96 = .ok (.aload_n 0, 1) := by decide +kernel
theorem dR_choice_97 : decode cR_choice 97 = .ok (.dup, 1) := by decide +kernel
theorem dR_choice_98 : decode cR_choice 98 = .ok (.getfield 40, 3) := by decide +kernel
theorem dR_choice_101 : decode cR_choice 101 = .ok (.iload 6, 2) := by decide +kernel
theorem dR_choice_103 : decode cR_choice 103 = .ok (.iadd, 1) := by decide +kernel
theorem dR_choice_104 : decode cR_choice 104 = .ok (.putfield 40, 3) := by decide +kernel
theorem dR_choice_107 : decode cR_choice 107 = .ok (.aload_n 0, 1) := by decide +kernel
theorem dR_choice_108 : decode cR_choice 108 = .ok (.iload 4, 2) := by decide +kernel
theorem dR_choice_110 : decode cR_choice 110 = .ok (.invokevirtual 79, 3) := by decide +kernel
theorem dR_choice_113 : decode cR_choice 113 = .ok (.lstore 9, 2) := by decide +kernel
theorem dR_choice_115 : decode cR_choice 115 = .ok (.aload_n 0, 1) := by decide +kernel
theorem dR_choice_116 : decode cR_choice 116 = .ok (.dup, 1) := by decide +kernel
theorem dR_choice_117 : decode cR_choice 117 = .ok (.getfield 40, 3) := by decide +kernel
theorem dR_choice_120 : decode cR_choice 120 = .ok (.iload 6, 2) := by decide +kernel
theorem dR_choice_122 : decode cR_choice 122 = .ok (.isub, 1) := by decide +kernel
theorem dR_choice_123 : decode cR_choice 123 = .ok (.putfield 40, 3) := by decide +kernel
theorem dR_choice_126 : decode cR_choice 126 = .ok (.lload_n 2, 1) := by decide +kernel
theorem dR_choice_127 : decode cR_choice 127 = .ok (.lconst 0, 1) := by decide +kernel
theorem dR_choice_128 : decode cR_choice 128 = .ok (.lcmp, 1) := by decide +kernel
theorem dR_choice_129 : decode cR_choice 129 = .ok (.ifCond .ne 8, 3) := by decide +kernel
theorem dR_choice_132 : decode cR_choice 132 = .ok (.lload 9, 2) := by decide +kernel
theorem dR_choice_134 : decode cR_choice 134 = .ok (.goto 5, 3) := by decide +kernel
theorem dR_choice_137 : decode cR_choice 137 = .ok (.lload 7, 2) := by decide +kernel
theorem dR_choice_139 : decode cR_choice 139 = .ok (.lreturn, 1) := by decide +kernel
theorem dR_binary_0 : decode cR_binary 0 = .ok (.aload_n 0, 1) := by decide +kernel
theorem dR_binary_1 : decode cR_binary 1 = .ok (.getfield 30, 3) := by decide +kernel
theorem dR_binary_4 : decode cR_binary 4 = .ok (.istore_n 2, 1) := by decide +kernel
theorem dR_binary_5 : decode cR_binary 5 = .ok (.aload_n 0, 1) := by decide +kernel
theorem dR_binary_6 : decode cR_binary 6 = .ok (.iload_n 1, 1) := by decide +kernel
theorem dR_binary_7 : decode cR_binary 7 = .ok (.invokevirtual 89, 3) := by decide +kernel
theorem dR_binary_10 : decode cR_binary 10 = .ok (.lstore_n 3, 1) := by decide +kernel
theorem dR_binary_11 : decode cR_binary 11 = .ok (.aload_n 0, 1) := by decide +kernel
theorem dR_binary_12 : decode cR_binary 12 = .ok (.invokevirtual 92, 3) := by decide +kernel
theorem dR_binary_15 : decode cR_binary 15 = .ok (.istore 5, 2) := by decide +kernel
theorem dR_binary_17 : decode cR_binary 17 = .ok (.iconst 0, 1) := by decide +kernel
theorem dR_binary_18 : decode cR_binary 18 = .ok (.istore 6, 2) := by decide +kernel
theorem dR_binary_20 : decode cR_binary 20 = .ok (.iload 6, 2) := by decide +kernel
theorem dR_binary_22 : decode cR_binary 22 = .ok (.sipush 300, 3) := by decide +kernel
theorem dR_binary_25 : decode cR_binary 25 = .ok (.if_icmp .ge 47, 3) := by decide +kernel
theorem dR_binary_28 : decode cR_binary 28 = .ok (.iload 5, 2) := by decide +kernel
theorem dR_binary_30 : decode cR_binary 30 = .ok (.ifCond .eq 42, 3) := by decide +kernel
theorem dR_binary_33 : decode cR_binary 33 = .ok (.aload_n 0, 1) := by decide +kernel
theorem dR_binary_34 : decode cR_binary 34 = .ok (.iload_n 2, 1) := by decide +kernel
theorem dR_binary_35 : decode cR_binary 35 = .ok (.iload 5, 2) := by decide +kernel
theorem dR_binary_37 : decode cR_binary 37 = .ok (.invokestatic 95, 3) := by decide +kernel
theorem dR_binary_40 : decode cR_binary 40 = .ok (.lload_n 3, 1) := by decide +kernel
theorem dR_binary_41 : decode cR_binary 41 = .ok (.invokevirtual 100, 3) := by decide +kernel
theorem dR_binary_44 : decode cR_binary 44 = .ok (.lstore 7, 2) := by decide +kernel
theorem dR_binary_46 : decode cR_binary 46 = .ok (.aload_n 0, 1) := by decide +kernel
theorem dR_binary_47 : decode cR_binary 47 = .ok (.iload 5, 2) := by decide +kernel
theorem dR_binary_49 : decode cR_binary 49 = .ok (.lload 7, 2) := by decide +kernel
theorem dR_binary_51 : decode cR_binary 51 = .ok (.invokevirtual 104, 3) := by decide +kernel
theorem dR_binary_54 : decode cR_binary 54 = .ok (.aload_n 0, 1) := by decide +kernel
theorem dR_binary_55 : decode cR_binary 55 = .ok (.iload_n 1, 1) := by decide +kernel
theorem dR_binary_56 : decode cR_binary 56 = .ok (.invokevirtual 89, 3) := by decide +kernel
theorem dR_binary_59 : decode cR_binary 59 = .ok (.lstore_n 3, 1) := by decide +kernel
theorem dR_binary_60 : decode cR_binary 60 = .ok (.aload_n 0, 1) := by decide +kernel
theorem dR_binary_61 : decode cR_binary 61 = .ok (.invokevirtual 92, 3) := by decide +kernel
theorem dR_binary_64 : decode cR_binary 64 = .ok (.istore 5, 2) := by decide +kernel
theorem dR_binary_66 : decode cR_binary 66 = .ok (.iinc 6 1, 3) := by decide +kernel
theorem dR_binary_69 : decode cR_binary 69 = .ok (.goto (-49), 3) := by decide +kernel
theorem dR_binary_72 : decode cR_binary 72 = .ok (.aload_n 0, 1) := by decide +kernel
theorem dR_binary_73 : decode cR_binary 73 = .ok (.iload_n 2, 1) := by decide +kernel
theorem dR_binary_74 : decode cR_binary 74 = .ok (.iconst 0, 1) := by decide +kernel
theorem dR_binary_75 : decode cR_binary 75 = .ok (.lload_n 3, 1) := by decide +kernel
theorem dR_binary_76 : decode cR_binary 76 = .ok (.invokevirtual 100, 3) := by decide +kernel
theorem dR_binary_79 : decode cR_binary 79 = .ok (.lreturn, 1) := by decide +kernel
theorem dR_unary_0 : decode cR_unary 0 = .ok (.aload_n 0, 1) := by decide +kernel
theorem dR_unary_1 : decode cR_unary 1 = .ok (.invokevirtual 47, 3) := by decide +kernel
theorem dR_unary_4 : decode cR_unary 4 = .ok (.aload_n 0, 1) := by decide +kernel
theorem dR_unary_5 : decode cR_unary 5 = .ok (.aload_n 0, 1) := by decide +kernel
theorem dR_unary_6 : decode cR_unary 6 = .ok (.getfield 37, 3) := by decide +kernel
theorem dR_unary_9 : decode cR_unary 9 = .ok (.invokevirtual 56, 3) := by decide +kernel
theorem dR_unary_12 : decode cR_unary 12 = .ok (.istore_n 2, 1) := by decide +kernel
theorem dR_unary_13 : decode cR_unary 13 = .ok (.iload_n 2, 1) := by decide +kernel
theorem dR_unary_14 : decode cR_unary 14 = .ok (.lookupswitch 168 #[(33, 89), (40, 141), (43, 50), (45, 69), (126, 118)], 50) := by decide +kernel
theorem dR_unary_64 : decode cR_unary 64 = .ok (.aload_n 0, 1) := by decide +kernel
theorem dR_unary_65 : decode cR_unary 65 = .ok (.dup, 1) := by decide +kernel
theorem dR_unary_66 : decode cR_unary 66 = .ok (.getfield 37, 3) := by decide +kernel
theorem dR_unary_69 : decode cR_unary 69 = .ok (.iconst 1, 1) := by decide +kernel
theorem dR_unary_70 : decode cR_unary 70 = .ok (.iadd, 1) := by decide +kernel
theorem dR_unary_71 : decode cR_unary 71 = .ok (.putfield 37, 3) := by decide +kernel
theorem dR_unary_74 : decode cR_unary 74 = .ok (.aload_n 0, 1) := by decide +kernel
theorem dR_unary_75 : decode cR_unary 75 = .ok (.iload_n 1, 1) := by decide +kernel
theorem dR_unary_76 : decode cR_unary 76 = .ok (.invokestatic 71, 3) := by decide +kernel
theorem dR_unary_79 : decode cR_unary 79 = .ok (.invokevirtual 89, 3) := by decide +kernel
theorem dR_unary_82 : decode cR_unary 82 = .ok (.lreturn, 1) := by decide +kernel
theorem dR_unary_83 : decode cR_unary 83 = .ok (.aload_n 0, 1) := by decide +kernel
theorem dR_unary_84 : decode cR_unary 84 = .ok (.dup, 1) := by decide +kernel
theorem dR_unary_85 : decode cR_unary 85 = .ok (.getfield 37, 3) := by decide +kernel
theorem dR_unary_88 : decode cR_unary 88 = .ok (.iconst 1, 1) := by decide +kernel
theorem dR_unary_89 : decode cR_unary 89 = .ok (.iadd, 1) := by decide +kernel
theorem dR_unary_90 : decode cR_unary 90 = .ok (.putfield 37, 3) := by decide +kernel
theorem dR_unary_93 : decode cR_unary 93 = .ok (.aload_n 0, 1) := by decide +kernel
theorem dR_unary_94 : decode cR_unary 94 = .ok (.iload_n 1, 1) := by decide +kernel
theorem dR_unary_95 : decode cR_unary 95 = .ok (.invokestatic 71, 3) := by decide +kernel
theorem dR_unary_98 : decode cR_unary 98 = .ok (.invokevirtual 89, 3) := by decide +kernel
theorem dR_unary_101 : decode cR_unary 101 = .ok (.lneg, 1) := by decide +kernel
theorem dR_unary_102 : decode cR_unary 102 = .ok (.lreturn, 1) := by decide +kernel
theorem dR_unary_103 : decode cR_unary 103 = .ok (.aload_n 0, 1) := by decide +kernel
theorem dR_unary_104 : decode cR_unary 104 = .ok (.dup, 1) := by decide +kernel
theorem dR_unary_105 : decode cR_unary 105 = .ok (.getfield 37, 3) := by decide +kernel
theorem dR_unary_108 : decode cR_unary 108 = .ok (.iconst 1, 1) := by decide +kernel
theorem dR_unary_109 : decode cR_unary 109 = .ok (.iadd, 1) := by decide +kernel
theorem dR_unary_110 : decode cR_unary 110 = .ok (.putfield 37, 3) := by decide +kernel
theorem dR_unary_113 : decode cR_unary 113 = .ok (.aload_n 0, 1) := by decide +kernel
theorem dR_unary_114 : decode cR_unary 114 = .ok (.iload_n 1, 1) := by decide +kernel
theorem dR_unary_115 : decode cR_unary 115 = .ok (.invokestatic 71, 3) := by decide +kernel
theorem dR_unary_118 : decode cR_unary 118 = .ok (.invokevirtual 89, 3) := by decide +kernel
theorem dR_unary_121 : decode cR_unary 121 = .ok (.lconst 0, 1) := by decide +kernel
theorem dR_unary_122 : decode cR_unary 122 = .ok (.lcmp, 1) := by decide +kernel
theorem dR_unary_123 : decode cR_unary 123 = .ok (.ifCond .ne 7, 3) := by decide +kernel
theorem dR_unary_126 : decode cR_unary 126 = .ok (.lconst 1, 1) := by decide +kernel
theorem dR_unary_127 : decode cR_unary 127 = .ok (.goto 4, 3) := by decide +kernel
theorem dR_unary_130 : decode cR_unary 130 = .ok (.lconst 0, 1) := by decide +kernel
theorem dR_unary_131 : decode cR_unary 131 = .ok (.lreturn, 1) := by decide +kernel
theorem dR_unary_132 : decode cR_unary 132 = .ok (.aload_n 0, 1) := by decide +kernel
theorem dR_unary_133 : decode cR_unary 133 = .ok (.dup, 1) := by decide +kernel
theorem dR_unary_134 : decode cR_unary 134 = .ok (.getfield 37, 3) := by decide +kernel
theorem dR_unary_137 : decode cR_unary 137 = .ok (.iconst 1, 1) := by decide +kernel
theorem dR_unary_138 : decode cR_unary 138 = .ok (.iadd, 1) := by decide +kernel
theorem dR_unary_139 : decode cR_unary 139 = .ok (.putfield 37, 3) := by decide +kernel
theorem dR_unary_142 : decode cR_unary 142 = .ok (.aload_n 0, 1) := by decide +kernel
theorem dR_unary_143 : decode cR_unary 143 = .ok (.iload_n 1, 1) := by decide +kernel
theorem dR_unary_144 : decode cR_unary 144 = .ok (.invokestatic 71, 3) := by decide +kernel
theorem dR_unary_147 : decode cR_unary 147 = .ok (.invokevirtual 89, 3) := by decide +kernel
theorem dR_unary_150 : decode cR_unary 150 = .ok (.ldc2_w 108, 3) := by decide +kernel
theorem dR_unary_153 : decode cR_unary 153 = .ok (.lxor, 1) := by decide +kernel
theorem dR_unary_154 : decode cR_unary 154 = .ok (.lreturn, 1) := by decide +kernel
theorem dR_unary_155 : decode cR_unary 155 = .ok (.aload_n 0, 1) := by decide +kernel
theorem dR_unary_156 : decode cR_unary 156 = .ok (.dup, 1) := by decide +kernel
theorem dR_unary_157 : decode cR_unary 157 = .ok (.getfield 37, 3) := by decide +kernel
theorem dR_unary_160 : decode cR_unary 160 = .ok (.iconst 1, 1) := by decide +kernel
theorem dR_unary_161 : decode cR_unary 161 = .ok (.iadd, 1) := by decide +kernel
theorem dR_unary_162 : decode cR_unary 162 = .ok (.putfield 37, 3) := by decide +kernel
theorem dR_unary_165 : decode cR_unary 165 = .ok (.aload_n 0, 1) := by decide +kernel
theorem dR_unary_166 : decode cR_unary 166 = .ok (.iload_n 1, 1) := by decide +kernel
theorem dR_unary_167 : decode cR_unary 167 = .ok (.invokestatic 71, 3) := by decide +kernel
theorem dR_unary_170 : decode cR_unary 170 = .ok (.invokevirtual 50, 3) := by decide +kernel
theorem dR_unary_173 : decode cR_unary 173 = .ok (.lstore_n 3, 1) := by decide +kernel
theorem dR_unary_174 : decode cR_unary 174 = .ok (.aload_n 0, 1) := by decide +kernel
theorem dR_unary_175 : decode cR_unary 175 = .ok (.bipush 41, 2) := by decide +kernel
theorem dR_unary_177 : decode cR_unary 177 = .ok (.invokevirtual 85, 3) := by decide +kernel
theorem dR_unary_180 : decode cR_unary 180 = .ok (.lload_n 3, 1) := by decide +kernel
theorem dR_unary_181 : decode cR_unary 181 = .ok (.lreturn, 1) := by decide +kernel
theorem dR_unary_182 : decode cR_unary 182 = .ok (.aload_n 0, 1) := by decide +kernel
theorem dR_unary_183 : decode cR_unary 183 = .ok (.invokevirtual 110, 3) := by decide +kernel
theorem dR_unary_186 : decode cR_unary 186 = .ok (.lreturn, 1) := by decide +kernel
theorem dR_expect_0 : decode cR_expect 0 = .ok (.aload_n 0, 1) := by decide +kernel
theorem dR_expect_1 : decode cR_expect 1 = .ok (.invokevirtual 47, 3) := by decide +kernel
theorem dR_expect_4 : decode cR_expect 4 = .ok (.aload_n 0, 1) := by decide +kernel
theorem dR_expect_5 : decode cR_expect 5 = .ok (.aload_n 0, 1) := by decide +kernel
theorem dR_expect_6 : decode cR_expect 6 = .ok (.getfield 37, 3) := by decide +kernel
theorem dR_expect_9 : decode cR_expect 9 = .ok (.invokevirtual 56, 3) := by decide +kernel
theorem dR_expect_12 : decode cR_expect 12 = .ok (.iload_n 1, 1) := by decide +kernel
theorem dR_expect_13 : decode cR_expect 13 = .ok (.if_icmp .eq 13, 3) := by decide +kernel
theorem dR_expect_16 : decode cR_expect 16 = .ok (.new 54, 3) := by decide +kernel
theorem dR_expect_19 : decode cR_expect 19 = .ok (.dup, 1) := by decide +kernel
theorem dR_expect_20 : decode cR_expect 20 = .ok (.ldc 166, 2) := by decide +kernel
theorem dR_expect_22 : decode cR_expect 22 = .ok (.invokespecial 116, 3) := by decide +kernel
theorem dR_expect_25 : decode cR_expect 25 = .ok (.athrow, 1) := by decide +kernel
theorem dR_expect_26 : decode cR_expect 26 = .ok (.aload_n 0, 1) := by decide +kernel
theorem dR_expect_27 : decode cR_expect 27 = .ok (.dup, 1) := by decide +kernel
theorem dR_expect_28 : decode cR_expect 28 = .ok (.getfield 37, 3) := by decide +kernel
theorem dR_expect_31 : decode cR_expect 31 = .ok (.iconst 1, 1) := by decide +kernel
theorem dR_expect_32 : decode cR_expect 32 = .ok (.iadd, 1) := by decide +kernel
theorem dR_expect_33 : decode cR_expect 33 = .ok (.putfield 37, 3) := by decide +kernel
theorem dR_expect_36 : decode cR_expect 36 = .ok (.return_, 1) := by decide +kernel
theorem dR_word_0 : decode cR_word 0 = .ok (.aload_n 0, 1) := by decide +kernel
theorem dR_word_1 : decode cR_word 1 = .ok (.getfield 37, 3) := by decide +kernel
theorem dR_word_4 : decode cR_word 4 = .ok (.istore_n 1, 1) := by decide +kernel
theorem dR_word_5 : decode cR_word 5 = .ok (.aload_n 0, 1) := by decide +kernel
theorem dR_word_6 : decode cR_word 6 = .ok (.invokevirtual 64, 3) := by decide +kernel
theorem dR_word_9 : decode cR_word 9 = .ok (.istore_n 2, 1) := by decide +kernel
theorem dR_word_10 : decode cR_word 10 = .ok (.aload_n 0, 1) := by decide +kernel
theorem dR_word_11 : decode cR_word 11 = .ok (.iload_n 2, 1) := by decide +kernel
theorem dR_word_12 : decode cR_word 12 = .ok (.putfield 37, 3) := by decide +kernel
theorem dR_word_15 : decode cR_word 15 = .ok (.aload_n 0, 1) := by decide +kernel
theorem dR_word_16 : decode cR_word 16 = .ok (.iload_n 1, 1) := by decide +kernel
theorem dR_word_17 : decode cR_word 17 = .ok (.invokevirtual 56, 3) := by decide +kernel
theorem dR_word_20 : decode cR_word 20 = .ok (.invokestatic 119, 3) := by decide +kernel
theorem dR_word_23 : decode cR_word 23 = .ok (.ifCond .eq 13, 3) := by decide +kernel
theorem dR_word_26 : decode cR_word 26 = .ok (.aload_n 0, 1) := by decide +kernel
theorem dR_word_27 : decode cR_word 27 = .ok (.getfield 9, 3) := by decide +kernel
theorem dR_word_30 : decode cR_word 30 = .ok (.iload_n 1, 1) := by decide +kernel
theorem dR_word_31 : decode cR_word 31 = .ok (.iload_n 2, 1) := by decide +kernel
theorem dR_word_32 : decode cR_word 32 = .ok (.invokestatic 122, 3) := by decide +kernel
theorem dR_word_35 : decode cR_word 35 = .ok (.lreturn, 1) := by decide +kernel
theorem dR_word_36 : decode cR_word 36 = .ok (.aload_n 0, 1) := by decide +kernel
theorem dR_word_37 : decode cR_word 37 = .ok (.iload_n 1, 1) := by decide +kernel
theorem dR_word_38 : decode cR_word 38 = .ok (.invokevirtual 56, 3) := by decide +kernel
theorem dR_word_41 : decode cR_word 41 = .ok (.invokestatic 60, 3) := by decide +kernel
theorem dR_word_44 : decode cR_word 44 = .ok (.ifCond .ne 13, 3) := by decide +kernel
theorem dR_word_47 : decode cR_word 47 = .ok (.new 54, 3) := by decide +kernel
theorem dR_word_50 : decode cR_word 50 = .ok (.dup, 1) := by decide +kernel
theorem dR_word_51 : decode cR_word 51 = .ok (.ldc 126, 2) := by decide +kernel
theorem dR_word_53 : decode cR_word 53 = .ok (.invokespecial 116, 3) := by decide +kernel
theorem dR_word_56 : decode cR_word 56 = .ok (.athrow, 1) := by decide +kernel
theorem dR_word_57 : decode cR_word 57 = .ok (.aload_n 0, 1) := by decide +kernel
theorem dR_word_58 : decode cR_word 58 = .ok (.getfield 40, 3) := by decide +kernel
theorem dR_word_61 : decode cR_word 61 = .ok (.ifCond .le 7, 3) := by decide +kernel
theorem dR_word_64 : decode cR_word 64 = .ok (.lconst 0, 1) := by decide +kernel
theorem dR_word_65 : decode cR_word 65 = .ok (.goto 9, 3) := by decide +kernel
theorem dR_word_68 : decode cR_word 68 = .ok (.aload_n 0, 1) := by decide +kernel
theorem dR_word_69 : decode cR_word 69 = .ok (.iload_n 1, 1) := by decide +kernel
theorem dR_word_70 : decode cR_word 70 = .ok (.iload_n 2, 1) := by decide +kernel
theorem dR_word_71 : decode cR_word 71 = .ok (.invokevirtual 128, 3) := by decide +kernel
theorem dR_word_74 : decode cR_word 74 = .ok (.lreturn, 1) := by decide +kernel
theorem dR_signOfTwo_0 : decode cR_signOfTwo 0 = .ok (.aload_n 0, 1) := by decide +kernel
theorem dR_signOfTwo_1 : decode cR_signOfTwo 1 = .ok (.invokevirtual 47, 3) := by decide +kernel
theorem dR_signOfTwo_4 : decode cR_signOfTwo 4 = .ok (.aload_n 0, 1) := by decide +kernel
theorem dR_signOfTwo_5 : decode cR_signOfTwo 5 = .ok (.aload_n 0, 1) := by decide +kernel
theorem dR_signOfTwo_6 : decode cR_signOfTwo 6 = .ok (.getfield 37, 3) := by decide +kernel
theorem dR_signOfTwo_9 : decode cR_signOfTwo 9 = .ok (.invokevirtual 56, 3) := by decide +kernel
theorem dR_signOfTwo_12 : decode cR_signOfTwo 12 = .ok (.istore_n 1, 1) := by decide +kernel
theorem dR_signOfTwo_13 : decode cR_signOfTwo 13 = .ok (.iload_n 1, 1) := by decide +kernel
theorem dR_signOfTwo_14 : decode cR_signOfTwo 14 = .ok (.bipush 8, 2) := by decide +kernel
theorem dR_signOfTwo_16 : decode cR_signOfTwo 16 = .ok (.ishl, 1) := by decide +kernel
theorem dR_signOfTwo_17 : decode cR_signOfTwo 17 = .ok (.aload_n 0, 1) := by decide +kernel
theorem dR_signOfTwo_18 : decode cR_signOfTwo 18 = .ok (.aload_n 0, 1) := by decide +kernel
theorem dR_signOfTwo_19 : decode cR_signOfTwo 19 = .ok (.getfield 37, 3) := by decide +kernel
theorem dR_signOfTwo_22 : decode cR_signOfTwo 22 = .ok (.iconst 1, 1) := by decide +kernel
theorem dR_signOfTwo_23 : decode cR_signOfTwo 23 = .ok (.iadd, 1) := by decide +kernel
theorem dR_signOfTwo_24 : decode cR_signOfTwo 24 = .ok (.invokevirtual 56, 3) := by decide +kernel
theorem dR_signOfTwo_27 : decode cR_signOfTwo 27 = .ok (.ior, 1) := by decide +kernel
theorem dR_signOfTwo_28 : decode cR_signOfTwo 28 = .ok (.istore_n 2, 1) := by decide +kernel
theorem dR_signOfTwo_29 : decode cR_signOfTwo 29 = .ok (.iload_n 2, 1) := by decide +kernel
theorem dR_signOfTwo_30 : decode cR_signOfTwo 30 = .ok (.invokestatic 95, 3) := by decide +kernel
theorem dR_signOfTwo_33 : decode cR_signOfTwo 33 = .ok (.ifCond .le 39, 3) := by decide +kernel
theorem dR_signOfTwo_36 : decode cR_signOfTwo 36 = .ok (.iload_n 2, 1) := by decide +kernel
theorem dR_signOfTwo_37 : decode cR_signOfTwo 37 = .ok (.invokestatic 162, 3) := by decide +kernel
theorem dR_signOfTwo_40 : decode cR_signOfTwo 40 = .ok (.ifCond .eq 20, 3) := by decide +kernel
theorem dR_signOfTwo_43 : decode cR_signOfTwo 43 = .ok (.aload_n 0, 1) := by decide +kernel
theorem dR_signOfTwo_44 : decode cR_signOfTwo 44 = .ok (.aload_n 0, 1) := by decide +kernel
theorem dR_signOfTwo_45 : decode cR_signOfTwo 45 = .ok (.getfield 37, 3) := by decide +kernel
theorem dR_signOfTwo_48 : decode cR_signOfTwo 48 = .ok (.iconst 2, 1) := by decide +kernel
theorem dR_signOfTwo_49 : decode cR_signOfTwo 49 = .ok (.iadd, 1) := by decide +kernel
theorem dR_signOfTwo_50 : decode cR_signOfTwo 50 = .ok (.invokevirtual 56, 3) := by decide +kernel
theorem dR_signOfTwo_53 : decode cR_signOfTwo 53 = .ok (.bipush 61, 2) := by decide +kernel
theorem dR_signOfTwo_55 : decode cR_signOfTwo 55 = .ok (.if_icmp .ne 5, 3) := by decide +kernel
theorem dR_signOfTwo_58 : decode cR_signOfTwo 58 = .ok (.iconst 0, 1) := by decide +kernel
theorem dR_signOfTwo_59 : decode cR_signOfTwo 59 = .ok (.ireturn, 1) := by decide +kernel
theorem dR_signOfTwo_60 : decode cR_signOfTwo 60 = .ok (.aload_n 0, 1) := by decide +kernel
theorem dR_signOfTwo_61 : decode cR_signOfTwo 61 = .ok (.dup, 1) := by decide +kernel
theorem dR_signOfTwo_62 : decode cR_signOfTwo 62 = .ok (.getfield 37, 3) := by decide +kernel
theorem dR_signOfTwo_65 : decode cR_signOfTwo 65 = .ok (.iconst 2, 1) := by decide +kernel
theorem dR_signOfTwo_66 : decode cR_signOfTwo 66 = .ok (.iadd, 1) := by decide +kernel
theorem dR_signOfTwo_67 : decode cR_signOfTwo 67 = .ok (.putfield 37, 3) := by decide +kernel
theorem dR_signOfTwo_70 : decode cR_signOfTwo 70 = .ok (.iload_n 2, 1) := by decide +kernel
theorem dR_signOfTwo_71 : decode cR_signOfTwo 71 = .ok (.ireturn, 1) := by decide +kernel
theorem dR_signOfTwo_72 : decode cR_signOfTwo 72 = .ok (.iload_n 1, 1) := by decide +kernel
theorem dR_signOfTwo_73 : decode cR_signOfTwo 73 = .ok (.invokestatic 95, 3) := by decide +kernel
theorem dR_signOfTwo_76 : decode cR_signOfTwo 76 = .ok (.ifCond .eq 18, 3) := by decide +kernel
theorem dR_signOfTwo_79 : decode cR_signOfTwo 79 = .ok (.aload_n 0, 1) := by decide +kernel
theorem dR_signOfTwo_80 : decode cR_signOfTwo 80 = .ok (.aload_n 0, 1) := by decide +kernel
theorem dR_signOfTwo_81 : decode cR_signOfTwo 81 = .ok (.getfield 37, 3) := by decide +kernel
theorem dR_signOfTwo_84 : decode cR_signOfTwo 84 = .ok (.iconst 1, 1) := by decide +kernel
theorem dR_signOfTwo_85 : decode cR_signOfTwo 85 = .ok (.iadd, 1) := by decide +kernel
theorem dR_signOfTwo_86 : decode cR_signOfTwo 86 = .ok (.invokevirtual 56, 3) := by decide +kernel
theorem dR_signOfTwo_89 : decode cR_signOfTwo 89 = .ok (.bipush 61, 2) := by decide +kernel
theorem dR_signOfTwo_91 : decode cR_signOfTwo 91 = .ok (.if_icmp .ne 5, 3) := by decide +kernel
theorem dR_signOfTwo_94 : decode cR_signOfTwo 94 = .ok (.iconst 0, 1) := by decide +kernel
theorem dR_signOfTwo_95 : decode cR_signOfTwo 95 = .ok (.ireturn, 1) := by decide +kernel
theorem dR_signOfTwo_96 : decode cR_signOfTwo 96 = .ok (.aload_n 0, 1) := by decide +kernel
theorem dR_signOfTwo_97 : decode cR_signOfTwo 97 = .ok (.dup, 1) := by decide +kernel
theorem dR_signOfTwo_98 : decode cR_signOfTwo 98 = .ok (.getfield 37, 3) := by decide +kernel
theorem dR_signOfTwo_101 : decode cR_signOfTwo 101 = .ok (.iconst 1, 1) := by decide +kernel
theorem dR_signOfTwo_102 : decode cR_signOfTwo 102 = .ok (.iadd, 1) := by decide +kernel
theorem dR_signOfTwo_103 : decode cR_signOfTwo 103 = .ok (.putfield 37, 3) := by decide +kernel
theorem dR_signOfTwo_106 : decode cR_signOfTwo 106 = .ok (.iload_n 1, 1) := by decide +kernel
theorem dR_signOfTwo_107 : decode cR_signOfTwo 107 = .ok (.ireturn, 1) := by decide +kernel
theorem dR_settle_0 : decode cR_settle 0 = .ok (.lload_n 3, 1) := by decide +kernel
theorem dR_settle_1 : decode cR_settle 1 = .ok (.lstore 5, 2) := by decide +kernel
theorem dR_settle_3 : decode cR_settle 3 = .ok (.aload_n 0, 1) := by decide +kernel
theorem dR_settle_4 : decode cR_settle 4 = .ok (.getfield 30, 3) := by decide +kernel
theorem dR_settle_7 : decode cR_settle 7 = .ok (.iconst 1, 1) := by decide +kernel
theorem dR_settle_8 : decode cR_settle 8 = .ok (.isub, 1) := by decide +kernel
theorem dR_settle_9 : decode cR_settle 9 = .ok (.istore 7, 2) := by decide +kernel
theorem dR_settle_11 : decode cR_settle 11 = .ok (.iload 7, 2) := by decide +kernel
theorem dR_settle_13 : decode cR_settle 13 = .ok (.iload_n 1, 1) := by decide +kernel
theorem dR_settle_14 : decode cR_settle 14 = .ok (.if_icmp .lt 66, 3) := by decide +kernel
theorem dR_settle_17 : decode cR_settle 17 = .ok (.iload 7, 2) := by decide +kernel
theorem dR_settle_19 : decode cR_settle 19 = .ok (.ifCond .lt 61, 3) := by decide +kernel
theorem dR_settle_22 : decode cR_settle 22 = .ok (.iload 7, 2) := by decide +kernel
theorem dR_settle_24 : decode cR_settle 24 = .ok (.sipush 150, 3) := by decide +kernel
theorem dR_settle_27 : decode cR_settle 27 = .ok (.if_icmp .ge 53, 3) := by decide +kernel
theorem dR_settle_30 : decode cR_settle 30 = .ok (.aload_n 0, 1) := by decide +kernel
theorem dR_settle_31 : decode cR_settle 31 = .ok (.getfield 22, 3) := by decide +kernel
theorem dR_settle_34 : decode cR_settle 34 = .ok (.iload 7, 2) := by decide +kernel
theorem dR_settle_36 : decode cR_settle 36 = .ok (.iaload, 1) := by decide +kernel
theorem dR_settle_37 : decode cR_settle 37 = .ok (.istore 8, 2) := by decide +kernel
theorem dR_settle_39 : decode cR_settle 39 = .ok (.iload 8, 2) := by decide +kernel
theorem dR_settle_41 : decode cR_settle 41 = .ok (.invokestatic 95, 3) := by decide +kernel
theorem dR_settle_44 : decode cR_settle 44 = .ok (.iload_n 2, 1) := by decide +kernel
theorem dR_settle_45 : decode cR_settle 45 = .ok (.if_icmp .ge 6, 3) := by decide +kernel
theorem dR_settle_48 : decode cR_settle 48 = .ok (.goto 32, 3) := by decide +kernel
theorem dR_settle_51 : decode cR_settle 51 = .ok (.aload_n 0, 1) := by decide +kernel
theorem dR_settle_52 : decode cR_settle 52 = .ok (.iload 7, 2) := by decide +kernel
theorem dR_settle_54 : decode cR_settle 54 = .ok (.putfield 30, 3) := by decide +kernel
theorem dR_settle_57 : decode cR_settle 57 = .ok (.aload_n 0, 1) := by decide +kernel
theorem dR_settle_58 : decode cR_settle 58 = .ok (.iload 8, 2) := by decide +kernel
theorem dR_settle_60 : decode cR_settle 60 = .ok (.aload_n 0, 1) := by decide +kernel
theorem dR_settle_61 : decode cR_settle 61 = .ok (.getfield 26, 3) := by decide +kernel
theorem dR_settle_64 : decode cR_settle 64 = .ok (.iload 7, 2) := by decide +kernel
theorem dR_settle_66 : decode cR_settle 66 = .ok (.laload, 1) := by decide +kernel
theorem dR_settle_67 : decode cR_settle 67 = .ok (.lload 5, 2) := by decide +kernel
theorem dR_settle_69 : decode cR_settle 69 = .ok (.invokevirtual 159, 3) := by decide +kernel
theorem dR_settle_72 : decode cR_settle 72 = .ok (.lstore 5, 2) := by decide +kernel
theorem dR_settle_74 : decode cR_settle 74 = .ok (.iinc 7 (-1), 3) := by decide +kernel
theorem dR_settle_77 : decode cR_settle 77 = .ok (.goto (-66), 3) := by decide +kernel
theorem dR_settle_80 : decode cR_settle 80 = .ok (.lload 5, 2) := by decide +kernel
theorem dR_settle_82 : decode cR_settle 82 = .ok (.lreturn, 1) := by decide +kernel
theorem dR_join_0 : decode cR_join 0 = .ok (.iload_n 1, 1) := by decide +kernel
theorem dR_join_1 : decode cR_join 1 = .ok (.lload_n 2, 1) := by decide +kernel
theorem dR_join_2 : decode cR_join 2 = .ok (.invokestatic 155, 3) := by decide +kernel
theorem dR_join_5 : decode cR_join 5 = .ok (.ifCond .eq 26, 3) := by decide +kernel
theorem dR_join_8 : decode cR_join 8 = .ok (.aload_n 0, 1) := by decide +kernel
theorem dR_join_9 : decode cR_join 9 = .ok (.dup, 1) := by decide +kernel
theorem dR_join_10 : decode cR_join 10 = .ok (.getfield 40, 3) := by decide +kernel
theorem dR_join_13 : decode cR_join 13 = .ok (.iconst 1, 1) := by decide +kernel
theorem dR_join_14 : decode cR_join 14 = .ok (.isub, 1) := by decide +kernel
theorem dR_join_15 : decode cR_join 15 = .ok (.putfield 40, 3) := by decide +kernel
theorem dR_join_18 : decode cR_join 18 = .ok (.iload_n 1, 1) := by decide +kernel
theorem dR_join_19 : decode cR_join 19 = .ok (.sipush 31868, 3) := by decide +kernel
theorem dR_join_22 : decode cR_join 22 = .ok (.if_icmp .ne 7, 3) := by decide +kernel
theorem dR_join_25 : decode cR_join 25 = .ok (.lconst 1, 1) := by decide +kernel
theorem dR_join_26 : decode cR_join 26 = .ok (.goto 4, 3) := by decide +kernel
theorem dR_join_29 : decode cR_join 29 = .ok (.lconst 0, 1) := by decide +kernel
theorem dR_join_30 : decode cR_join 30 = .ok (.lreturn, 1) := by decide +kernel
theorem dR_join_31 : decode cR_join 31 = .ok (.aload_n 0, 1) := by decide +kernel
theorem dR_join_32 : decode cR_join 32 = .ok (.getfield 40, 3) := by decide +kernel
theorem dR_join_35 : decode cR_join 35 = .ok (.ifCond .le 7, 3) := by decide +kernel
theorem dR_join_38 : decode cR_join 38 = .ok (.lconst 0, 1) := by decide +kernel
theorem dR_join_39 : decode cR_join 39 = .ok (.goto 10, 3) := by decide +kernel
theorem dR_join_42 : decode cR_join 42 = .ok (.iload_n 1, 1) := by decide +kernel
theorem dR_join_43 : decode cR_join 43 = .ok (.lload_n 2, 1) := by decide +kernel
theorem dR_join_44 : decode cR_join 44 = .ok (.lload 4, 2) := by decide +kernel
theorem dR_join_46 : decode cR_join 46 = .ok (.invokestatic 140, 3) := by decide +kernel
theorem dR_join_49 : decode cR_join 49 = .ok (.lreturn, 1) := by decide +kernel
theorem dR_await_0 : decode cR_await 0 = .ok (.aload_n 0, 1) := by decide +kernel
theorem dR_await_1 : decode cR_await 1 = .ok (.getfield 30, 3) := by decide +kernel
theorem dR_await_4 : decode cR_await 4 = .ok (.ifCond .lt 13, 3) := by decide +kernel
theorem dR_await_7 : decode cR_await 7 = .ok (.aload_n 0, 1) := by decide +kernel
theorem dR_await_8 : decode cR_await 8 = .ok (.getfield 30, 3) := by decide +kernel
theorem dR_await_11 : decode cR_await 11 = .ok (.sipush 150, 3) := by decide +kernel
theorem dR_await_14 : decode cR_await 14 = .ok (.if_icmp .lt 13, 3) := by decide +kernel
theorem dR_await_17 : decode cR_await 17 = .ok (.new 54, 3) := by decide +kernel
theorem dR_await_20 : decode cR_await 20 = .ok (.dup, 1) := by decide +kernel
theorem dR_await_21 : decode cR_await 21 = .ok (.ldc 153, 2) := by decide +kernel
theorem dR_await_23 : decode cR_await 23 = .ok (.invokespecial 116, 3) := by decide +kernel
theorem dR_await_26 : decode cR_await 26 = .ok (.athrow, 1) := by decide +kernel
theorem dR_await_27 : decode cR_await 27 = .ok (.aload_n 0, 1) := by decide +kernel
theorem dR_await_28 : decode cR_await 28 = .ok (.getfield 22, 3) := by decide +kernel
theorem dR_await_31 : decode cR_await 31 = .ok (.aload_n 0, 1) := by decide +kernel
theorem dR_await_32 : decode cR_await 32 = .ok (.getfield 30, 3) := by decide +kernel
theorem dR_await_35 : decode cR_await 35 = .ok (.iload_n 1, 1) := by decide +kernel
theorem dR_await_36 : decode cR_await 36 = .ok (.iastore, 1) := by decide +kernel
theorem dR_await_37 : decode cR_await 37 = .ok (.aload_n 0, 1) := by decide +kernel
theorem dR_await_38 : decode cR_await 38 = .ok (.getfield 26, 3) := by decide +kernel
theorem dR_await_41 : decode cR_await 41 = .ok (.aload_n 0, 1) := by decide +kernel
theorem dR_await_42 : decode cR_await 42 = .ok (.getfield 30, 3) := by decide +kernel
theorem dR_await_45 : decode cR_await 45 = .ok (.lload_n 2, 1) := by decide +kernel
theorem dR_await_46 : decode cR_await 46 = .ok (.lastore, 1) := by decide +kernel
theorem dR_await_47 : decode cR_await 47 = .ok (.aload_n 0, 1) := by decide +kernel
theorem dR_await_48 : decode cR_await 48 = .ok (.dup, 1) := by decide +kernel
theorem dR_await_49 : decode cR_await 49 = .ok (.getfield 30, 3) := by decide +kernel
theorem dR_await_52 : decode cR_await 52 = .ok (.iconst 1, 1) := by decide +kernel
theorem dR_await_53 : decode cR_await 53 = .ok (.iadd, 1) := by decide +kernel
theorem dR_await_54 : decode cR_await 54 = .ok (.putfield 30, 3) := by decide +kernel
theorem dR_await_57 : decode cR_await 57 = .ok (.iload_n 1, 1) := by decide +kernel
theorem dR_await_58 : decode cR_await 58 = .ok (.lload_n 2, 1) := by decide +kernel
theorem dR_await_59 : decode cR_await 59 = .ok (.invokestatic 155, 3) := by decide +kernel
theorem dR_await_62 : decode cR_await 62 = .ok (.ifCond .eq 13, 3) := by decide +kernel
theorem dR_await_65 : decode cR_await 65 = .ok (.aload_n 0, 1) := by decide +kernel
theorem dR_await_66 : decode cR_await 66 = .ok (.dup, 1) := by decide +kernel
theorem dR_await_67 : decode cR_await 67 = .ok (.getfield 40, 3) := by decide +kernel
theorem dR_await_70 : decode cR_await 70 = .ok (.iconst 1, 1) := by decide +kernel
theorem dR_await_71 : decode cR_await 71 = .ok (.iadd, 1) := by decide +kernel
theorem dR_await_72 : decode cR_await 72 = .ok (.putfield 40, 3) := by decide +kernel
theorem dR_await_75 : decode cR_await 75 = .ok (.return_, 1) := by decide +kernel
end
section
theorem dL_value_0 : decode cL_value 0 = .ok (.aload_n 1, 1) := by decide +kernel
theorem dL_value_1 : decode cL_value 1 = .ok (.iconst 0, 1) := by decide +kernel
theorem dL_value_2 : decode cL_value 2 = .ok (.aload_n 0, 1) := by decide +kernel
theorem dL_value_3 : decode cL_value 3 = .ok (.invokevirtual 7, 3) := by decide +kernel
theorem dL_value_6 : decode cL_value 6 = .ok (.lastore, 1) := by decide +kernel
theorem dL_value_7 : decode cL_value 7 = .ok (.goto 6, 3) := by decide +kernel
theorem dL_value_10 : decode cL_value 10 = .ok (.astore_n 2, 1) := by decide +kernel
theorem dL_value_11 : decode cL_value 11 = .ok (.iconst 1, 1) := by decide +kernel
theorem dL_value_12 : decode cL_value 12 = .ok (.ireturn, 1) := by decide +kernel
theorem dL_value_13 : decode cL_value 13 = .ok (.iconst 0, 1) := by decide +kernel
theorem dL_value_14 : decode cL_value 14 = .ok (.ireturn, 1) := by decide +kernel
theorem dL_law_0 : decode cL_law 0 = .ok (.new 8, 3) := by decide +kernel
theorem dL_law_3 : decode cL_law 3 = .ok (.dup, 1) := by decide +kernel
theorem dL_law_4 : decode cL_law 4 = .ok (.invokespecial 15, 3) := by decide +kernel
theorem dL_law_7 : decode cL_law 7 = .ok (.astore_n 1, 1) := by decide +kernel
theorem dL_law_8 : decode cL_law 8 = .ok (.new 16, 3) := by decide +kernel
theorem dL_law_11 : decode cL_law 11 = .ok (.dup, 1) := by decide +kernel
theorem dL_law_12 : decode cL_law 12 = .ok (.invokespecial 18, 3) := by decide +kernel
theorem dL_law_15 : decode cL_law 15 = .ok (.astore_n 2, 1) := by decide +kernel
theorem dL_law_16 : decode cL_law 16 = .ok (.iconst 1, 1) := by decide +kernel
theorem dL_law_17 : decode cL_law 17 = .ok (.newarray .long, 2) := by decide +kernel
theorem dL_law_19 : decode cL_law 19 = .ok (.astore_n 3, 1) := by decide +kernel
theorem dL_law_20 : decode cL_law 20 = .ok (.iconst 0, 1) := by decide +kernel
theorem dL_law_21 : decode cL_law 21 = .ok (.istore 4, 2) := by decide +kernel
theorem dL_law_23 : decode cL_law 23 = .ok (.iload 4, 2) := by decide +kernel
theorem dL_law_25 : decode cL_law 25 = .ok (.aload_n 0, 1) := by decide +kernel
theorem dL_law_26 : decode cL_law 26 = .ok (.arraylength, 1) := by decide +kernel
theorem dL_law_27 : decode cL_law 27 = .ok (.iconst 4, 1) := by decide +kernel
theorem dL_law_28 : decode cL_law 28 = .ok (.isub, 1) := by decide +kernel
theorem dL_law_29 : decode cL_law 29 = .ok (.if_icmp .gt 370, 3) := by decide +kernel
theorem dL_law_32 : decode cL_law 32 = .ok (.aload_n 0, 1) := by decide +kernel
theorem dL_law_33 : decode cL_law 33 = .ok (.iload 4, 2) := by decide +kernel
theorem dL_law_35 : decode cL_law 35 = .ok (.iaload, 1) := by decide +kernel
theorem dL_law_36 : decode cL_law 36 = .ok (.bipush 7, 2) := by decide +kernel
theorem dL_law_38 : decode cL_law 38 = .ok (.iand, 1) := by decide +kernel
theorem dL_law_39 : decode cL_law 39 = .ok (.tableswitch 354 0 6 #[41, 110, 153, 222, 291, 304, 329], 41) := by decide +kernel
theorem dL_law_80 : decode cL_law 80 = .ok (.aload_n 1, 1) := by decide +kernel
theorem dL_law_81 : decode cL_law 81 = .ok (.aload_n 0, 1) := by decide +kernel
theorem dL_law_82 : decode cL_law 82 = .ok (.iload 4, 2) := by decide +kernel
theorem dL_law_84 : decode cL_law 84 = .ok (.iconst 1, 1) := by decide +kernel
theorem dL_law_85 : decode cL_law 85 = .ok (.iadd, 1) := by decide +kernel
theorem dL_law_86 : decode cL_law 86 = .ok (.iaload, 1) := by decide +kernel
theorem dL_law_87 : decode cL_law 87 = .ok (.i2l, 1) := by decide +kernel
theorem dL_law_88 : decode cL_law 88 = .ok (.bipush 32, 2) := by decide +kernel
theorem dL_law_90 : decode cL_law 90 = .ok (.lshl, 1) := by decide +kernel
theorem dL_law_91 : decode cL_law 91 = .ok (.aload_n 0, 1) := by decide +kernel
theorem dL_law_92 : decode cL_law 92 = .ok (.iload 4, 2) := by decide +kernel
theorem dL_law_94 : decode cL_law 94 = .ok (.iconst 2, 1) := by decide +kernel
theorem dL_law_95 : decode cL_law 95 = .ok (.iadd, 1) := by decide +kernel
theorem dL_law_96 : decode cL_law 96 = .ok (.iaload, 1) := by decide +kernel
theorem dL_law_97 : decode cL_law 97 = .ok (.i2l, 1) := by decide +kernel
theorem dL_law_98 : decode cL_law 98 = .ok (.ldc2_w 19, 3) := by decide +kernel
theorem dL_law_101 : decode cL_law 101 = .ok (.land, 1) := by decide +kernel
theorem dL_law_102 : decode cL_law 102 = .ok (.lor, 1) := by decide +kernel
theorem dL_law_103 : decode cL_law 103 = .ok (.aload_n 0, 1) := by decide +kernel
theorem dL_law_104 : decode cL_law 104 = .ok (.iload 4, 2) := by decide +kernel
theorem dL_law_106 : decode cL_law 106 = .ok (.iconst 3, 1) := by decide +kernel
theorem dL_law_107 : decode cL_law 107 = .ok (.iadd, 1) := by decide +kernel
theorem dL_law_108 : decode cL_law 108 = .ok (.iaload, 1) := by decide +kernel
theorem dL_law_109 : decode cL_law 109 = .ok (.invokevirtual 21, 3) := by decide +kernel
theorem dL_law_112 : decode cL_law 112 = .ok (.aload_n 2, 1) := by decide +kernel
theorem dL_law_113 : decode cL_law 113 = .ok (.aload_n 0, 1) := by decide +kernel
theorem dL_law_114 : decode cL_law 114 = .ok (.iload 4, 2) := by decide +kernel
theorem dL_law_116 : decode cL_law 116 = .ok (.iconst 1, 1) := by decide +kernel
theorem dL_law_117 : decode cL_law 117 = .ok (.iadd, 1) := by decide +kernel
theorem dL_law_118 : decode cL_law 118 = .ok (.iaload, 1) := by decide +kernel
theorem dL_law_119 : decode cL_law 119 = .ok (.i2l, 1) := by decide +kernel
theorem dL_law_120 : decode cL_law 120 = .ok (.bipush 32, 2) := by decide +kernel
theorem dL_law_122 : decode cL_law 122 = .ok (.lshl, 1) := by decide +kernel
theorem dL_law_123 : decode cL_law 123 = .ok (.aload_n 0, 1) := by decide +kernel
theorem dL_law_124 : decode cL_law 124 = .ok (.iload 4, 2) := by decide +kernel
theorem dL_law_126 : decode cL_law 126 = .ok (.iconst 2, 1) := by decide +kernel
theorem dL_law_127 : decode cL_law 127 = .ok (.iadd, 1) := by decide +kernel
theorem dL_law_128 : decode cL_law 128 = .ok (.iaload, 1) := by decide +kernel
theorem dL_law_129 : decode cL_law 129 = .ok (.i2l, 1) := by decide +kernel
theorem dL_law_130 : decode cL_law 130 = .ok (.ldc2_w 19, 3) := by decide +kernel
theorem dL_law_133 : decode cL_law 133 = .ok (.land, 1) := by decide +kernel
theorem dL_law_134 : decode cL_law 134 = .ok (.lor, 1) := by decide +kernel
theorem dL_law_135 : decode cL_law 135 = .ok (.aload_n 0, 1) := by decide +kernel
theorem dL_law_136 : decode cL_law 136 = .ok (.iload 4, 2) := by decide +kernel
theorem dL_law_138 : decode cL_law 138 = .ok (.iconst 3, 1) := by decide +kernel
theorem dL_law_139 : decode cL_law 139 = .ok (.iadd, 1) := by decide +kernel
theorem dL_law_140 : decode cL_law 140 = .ok (.iaload, 1) := by decide +kernel
theorem dL_law_141 : decode cL_law 141 = .ok (.invokevirtual 25, 3) := by decide +kernel
theorem dL_law_144 : decode cL_law 144 = .ok (.if_icmp .eq 249, 3) := by decide +kernel
theorem dL_law_147 : decode cL_law 147 = .ok (.iconst 0, 1) := by decide +kernel
theorem dL_law_148 : decode cL_law 148 = .ok (.ireturn, 1) := by decide +kernel
theorem dL_law_149 : decode cL_law 149 = .ok (.aload_n 1, 1) := by decide +kernel
theorem dL_law_150 : decode cL_law 150 = .ok (.aload_n 3, 1) := by decide +kernel
theorem dL_law_151 : decode cL_law 151 = .ok (.invokestatic 26, 3) := by decide +kernel
theorem dL_law_154 : decode cL_law 154 = .ok (.istore 5, 2) := by decide +kernel
theorem dL_law_156 : decode cL_law 156 = .ok (.aload_n 2, 1) := by decide +kernel
theorem dL_law_157 : decode cL_law 157 = .ok (.invokevirtual 31, 3) := by decide +kernel
theorem dL_law_160 : decode cL_law 160 = .ok (.lstore 6, 2) := by decide +kernel
theorem dL_law_162 : decode cL_law 162 = .ok (.aload_n 2, 1) := by decide +kernel
theorem dL_law_163 : decode cL_law 163 = .ok (.invokevirtual 32, 3) := by decide +kernel
theorem dL_law_166 : decode cL_law 166 = .ok (.iload 5, 2) := by decide +kernel
theorem dL_law_168 : decode cL_law 168 = .ok (.if_icmp .eq 5, 3) := by decide +kernel
theorem dL_law_171 : decode cL_law 171 = .ok (.iconst 0, 1) := by decide +kernel
theorem dL_law_172 : decode cL_law 172 = .ok (.ireturn, 1) := by decide +kernel
theorem dL_law_173 : decode cL_law 173 = .ok (.iload 5, 2) := by decide +kernel
theorem dL_law_175 : decode cL_law 175 = .ok (.ifCond .ne 14, 3) := by decide +kernel
theorem dL_law_178 : decode cL_law 178 = .ok (.aload_n 3, 1) := by decide +kernel
theorem dL_law_179 : decode cL_law 179 = .ok (.iconst 0, 1) := by decide +kernel
theorem dL_law_180 : decode cL_law 180 = .ok (.laload, 1) := by decide +kernel
theorem dL_law_181 : decode cL_law 181 = .ok (.lload 6, 2) := by decide +kernel
theorem dL_law_183 : decode cL_law 183 = .ok (.lcmp, 1) := by decide +kernel
theorem dL_law_184 : decode cL_law 184 = .ok (.ifCond .eq 5, 3) := by decide +kernel
theorem dL_law_187 : decode cL_law 187 = .ok (.iconst 0, 1) := by decide +kernel
theorem dL_law_188 : decode cL_law 188 = .ok (.ireturn, 1) := by decide +kernel
theorem dL_law_189 : decode cL_law 189 = .ok (.goto 204, 3) := by decide +kernel
theorem dL_law_192 : decode cL_law 192 = .ok (.aload_n 1, 1) := by decide +kernel
theorem dL_law_193 : decode cL_law 193 = .ok (.aload_n 0, 1) := by decide +kernel
theorem dL_law_194 : decode cL_law 194 = .ok (.iload 4, 2) := by decide +kernel
theorem dL_law_196 : decode cL_law 196 = .ok (.iconst 1, 1) := by decide +kernel
theorem dL_law_197 : decode cL_law 197 = .ok (.iadd, 1) := by decide +kernel
theorem dL_law_198 : decode cL_law 198 = .ok (.iaload, 1) := by decide +kernel
theorem dL_law_199 : decode cL_law 199 = .ok (.i2l, 1) := by decide +kernel
theorem dL_law_200 : decode cL_law 200 = .ok (.bipush 32, 2) := by decide +kernel
theorem dL_law_202 : decode cL_law 202 = .ok (.lshl, 1) := by decide +kernel
theorem dL_law_203 : decode cL_law 203 = .ok (.aload_n 0, 1) := by decide +kernel
theorem dL_law_204 : decode cL_law 204 = .ok (.iload 4, 2) := by decide +kernel
theorem dL_law_206 : decode cL_law 206 = .ok (.iconst 2, 1) := by decide +kernel
theorem dL_law_207 : decode cL_law 207 = .ok (.iadd, 1) := by decide +kernel
theorem dL_law_208 : decode cL_law 208 = .ok (.iaload, 1) := by decide +kernel
theorem dL_law_209 : decode cL_law 209 = .ok (.i2l, 1) := by decide +kernel
theorem dL_law_210 : decode cL_law 210 = .ok (.ldc2_w 19, 3) := by decide +kernel
theorem dL_law_213 : decode cL_law 213 = .ok (.land, 1) := by decide +kernel
theorem dL_law_214 : decode cL_law 214 = .ok (.lor, 1) := by decide +kernel
theorem dL_law_215 : decode cL_law 215 = .ok (.aload_n 0, 1) := by decide +kernel
theorem dL_law_216 : decode cL_law 216 = .ok (.iload 4, 2) := by decide +kernel
theorem dL_law_218 : decode cL_law 218 = .ok (.iconst 3, 1) := by decide +kernel
theorem dL_law_219 : decode cL_law 219 = .ok (.iadd, 1) := by decide +kernel
theorem dL_law_220 : decode cL_law 220 = .ok (.iaload, 1) := by decide +kernel
theorem dL_law_221 : decode cL_law 221 = .ok (.invokevirtual 36, 3) := by decide +kernel
theorem dL_law_224 : decode cL_law 224 = .ok (.aload_n 2, 1) := by decide +kernel
theorem dL_law_225 : decode cL_law 225 = .ok (.aload_n 0, 1) := by decide +kernel
theorem dL_law_226 : decode cL_law 226 = .ok (.iload 4, 2) := by decide +kernel
theorem dL_law_228 : decode cL_law 228 = .ok (.iconst 1, 1) := by decide +kernel
theorem dL_law_229 : decode cL_law 229 = .ok (.iadd, 1) := by decide +kernel
theorem dL_law_230 : decode cL_law 230 = .ok (.iaload, 1) := by decide +kernel
theorem dL_law_231 : decode cL_law 231 = .ok (.i2l, 1) := by decide +kernel
theorem dL_law_232 : decode cL_law 232 = .ok (.bipush 32, 2) := by decide +kernel
theorem dL_law_234 : decode cL_law 234 = .ok (.lshl, 1) := by decide +kernel
theorem dL_law_235 : decode cL_law 235 = .ok (.aload_n 0, 1) := by decide +kernel
theorem dL_law_236 : decode cL_law 236 = .ok (.iload 4, 2) := by decide +kernel
theorem dL_law_238 : decode cL_law 238 = .ok (.iconst 2, 1) := by decide +kernel
theorem dL_law_239 : decode cL_law 239 = .ok (.iadd, 1) := by decide +kernel
theorem dL_law_240 : decode cL_law 240 = .ok (.iaload, 1) := by decide +kernel
theorem dL_law_241 : decode cL_law 241 = .ok (.i2l, 1) := by decide +kernel
theorem dL_law_242 : decode cL_law 242 = .ok (.ldc2_w 19, 3) := by decide +kernel
theorem dL_law_245 : decode cL_law 245 = .ok (.land, 1) := by decide +kernel
theorem dL_law_246 : decode cL_law 246 = .ok (.lor, 1) := by decide +kernel
theorem dL_law_247 : decode cL_law 247 = .ok (.aload_n 0, 1) := by decide +kernel
theorem dL_law_248 : decode cL_law 248 = .ok (.iload 4, 2) := by decide +kernel
theorem dL_law_250 : decode cL_law 250 = .ok (.iconst 3, 1) := by decide +kernel
theorem dL_law_251 : decode cL_law 251 = .ok (.iadd, 1) := by decide +kernel
theorem dL_law_252 : decode cL_law 252 = .ok (.iaload, 1) := by decide +kernel
theorem dL_law_253 : decode cL_law 253 = .ok (.invokevirtual 40, 3) := by decide +kernel
theorem dL_law_256 : decode cL_law 256 = .ok (.if_icmp .eq 137, 3) := by decide +kernel
theorem dL_law_259 : decode cL_law 259 = .ok (.iconst 0, 1) := by decide +kernel
theorem dL_law_260 : decode cL_law 260 = .ok (.ireturn, 1) := by decide +kernel
theorem dL_law_261 : decode cL_law 261 = .ok (.aload_n 1, 1) := by decide +kernel
theorem dL_law_262 : decode cL_law 262 = .ok (.aload_n 0, 1) := by decide +kernel
theorem dL_law_263 : decode cL_law 263 = .ok (.iload 4, 2) := by decide +kernel
theorem dL_law_265 : decode cL_law 265 = .ok (.iconst 1, 1) := by decide +kernel
theorem dL_law_266 : decode cL_law 266 = .ok (.iadd, 1) := by decide +kernel
theorem dL_law_267 : decode cL_law 267 = .ok (.iaload, 1) := by decide +kernel
theorem dL_law_268 : decode cL_law 268 = .ok (.i2l, 1) := by decide +kernel
theorem dL_law_269 : decode cL_law 269 = .ok (.bipush 32, 2) := by decide +kernel
theorem dL_law_271 : decode cL_law 271 = .ok (.lshl, 1) := by decide +kernel
theorem dL_law_272 : decode cL_law 272 = .ok (.aload_n 0, 1) := by decide +kernel
theorem dL_law_273 : decode cL_law 273 = .ok (.iload 4, 2) := by decide +kernel
theorem dL_law_275 : decode cL_law 275 = .ok (.iconst 2, 1) := by decide +kernel
theorem dL_law_276 : decode cL_law 276 = .ok (.iadd, 1) := by decide +kernel
theorem dL_law_277 : decode cL_law 277 = .ok (.iaload, 1) := by decide +kernel
theorem dL_law_278 : decode cL_law 278 = .ok (.i2l, 1) := by decide +kernel
theorem dL_law_279 : decode cL_law 279 = .ok (.ldc2_w 19, 3) := by decide +kernel
theorem dL_law_282 : decode cL_law 282 = .ok (.land, 1) := by decide +kernel
theorem dL_law_283 : decode cL_law 283 = .ok (.lor, 1) := by decide +kernel
theorem dL_law_284 : decode cL_law 284 = .ok (.aload_n 0, 1) := by decide +kernel
theorem dL_law_285 : decode cL_law 285 = .ok (.iload 4, 2) := by decide +kernel
theorem dL_law_287 : decode cL_law 287 = .ok (.iconst 3, 1) := by decide +kernel
theorem dL_law_288 : decode cL_law 288 = .ok (.iadd, 1) := by decide +kernel
theorem dL_law_289 : decode cL_law 289 = .ok (.iaload, 1) := by decide +kernel
theorem dL_law_290 : decode cL_law 290 = .ok (.invokevirtual 41, 3) := by decide +kernel
theorem dL_law_293 : decode cL_law 293 = .ok (.aload_n 2, 1) := by decide +kernel
theorem dL_law_294 : decode cL_law 294 = .ok (.aload_n 0, 1) := by decide +kernel
theorem dL_law_295 : decode cL_law 295 = .ok (.iload 4, 2) := by decide +kernel
theorem dL_law_297 : decode cL_law 297 = .ok (.iconst 1, 1) := by decide +kernel
theorem dL_law_298 : decode cL_law 298 = .ok (.iadd, 1) := by decide +kernel
theorem dL_law_299 : decode cL_law 299 = .ok (.iaload, 1) := by decide +kernel
theorem dL_law_300 : decode cL_law 300 = .ok (.i2l, 1) := by decide +kernel
theorem dL_law_301 : decode cL_law 301 = .ok (.bipush 32, 2) := by decide +kernel
theorem dL_law_303 : decode cL_law 303 = .ok (.lshl, 1) := by decide +kernel
theorem dL_law_304 : decode cL_law 304 = .ok (.aload_n 0, 1) := by decide +kernel
theorem dL_law_305 : decode cL_law 305 = .ok (.iload 4, 2) := by decide +kernel
theorem dL_law_307 : decode cL_law 307 = .ok (.iconst 2, 1) := by decide +kernel
theorem dL_law_308 : decode cL_law 308 = .ok (.iadd, 1) := by decide +kernel
theorem dL_law_309 : decode cL_law 309 = .ok (.iaload, 1) := by decide +kernel
theorem dL_law_310 : decode cL_law 310 = .ok (.i2l, 1) := by decide +kernel
theorem dL_law_311 : decode cL_law 311 = .ok (.ldc2_w 19, 3) := by decide +kernel
theorem dL_law_314 : decode cL_law 314 = .ok (.land, 1) := by decide +kernel
theorem dL_law_315 : decode cL_law 315 = .ok (.lor, 1) := by decide +kernel
theorem dL_law_316 : decode cL_law 316 = .ok (.aload_n 0, 1) := by decide +kernel
theorem dL_law_317 : decode cL_law 317 = .ok (.iload 4, 2) := by decide +kernel
theorem dL_law_319 : decode cL_law 319 = .ok (.iconst 3, 1) := by decide +kernel
theorem dL_law_320 : decode cL_law 320 = .ok (.iadd, 1) := by decide +kernel
theorem dL_law_321 : decode cL_law 321 = .ok (.iaload, 1) := by decide +kernel
theorem dL_law_322 : decode cL_law 322 = .ok (.invokevirtual 44, 3) := by decide +kernel
theorem dL_law_325 : decode cL_law 325 = .ok (.if_icmp .eq 68, 3) := by decide +kernel
theorem dL_law_328 : decode cL_law 328 = .ok (.iconst 0, 1) := by decide +kernel
theorem dL_law_329 : decode cL_law 329 = .ok (.ireturn, 1) := by decide +kernel
theorem dL_law_330 : decode cL_law 330 = .ok (.aload_n 1, 1) := by decide +kernel
theorem dL_law_331 : decode cL_law 331 = .ok (.invokevirtual 45, 3) := by decide +kernel
theorem dL_law_334 : decode cL_law 334 = .ok (.aload_n 2, 1) := by decide +kernel
theorem dL_law_335 : decode cL_law 335 = .ok (.invokevirtual 49, 3) := by decide +kernel
theorem dL_law_338 : decode cL_law 338 = .ok (.if_icmp .eq 55, 3) := by decide +kernel
theorem dL_law_341 : decode cL_law 341 = .ok (.iconst 0, 1) := by decide +kernel
theorem dL_law_342 : decode cL_law 342 = .ok (.ireturn, 1) := by decide +kernel
theorem dL_law_343 : decode cL_law 343 = .ok (.aload_n 1, 1) := by decide +kernel
theorem dL_law_344 : decode cL_law 344 = .ok (.aload_n 0, 1) := by decide +kernel
theorem dL_law_345 : decode cL_law 345 = .ok (.iload 4, 2) := by decide +kernel
theorem dL_law_347 : decode cL_law 347 = .ok (.iconst 1, 1) := by decide +kernel
theorem dL_law_348 : decode cL_law 348 = .ok (.iadd, 1) := by decide +kernel
theorem dL_law_349 : decode cL_law 349 = .ok (.iaload, 1) := by decide +kernel
theorem dL_law_350 : decode cL_law 350 = .ok (.invokevirtual 50, 3) := by decide +kernel
theorem dL_law_353 : decode cL_law 353 = .ok (.aload_n 2, 1) := by decide +kernel
theorem dL_law_354 : decode cL_law 354 = .ok (.aload_n 0, 1) := by decide +kernel
theorem dL_law_355 : decode cL_law 355 = .ok (.iload 4, 2) := by decide +kernel
theorem dL_law_357 : decode cL_law 357 = .ok (.iconst 1, 1) := by decide +kernel
theorem dL_law_358 : decode cL_law 358 = .ok (.iadd, 1) := by decide +kernel
theorem dL_law_359 : decode cL_law 359 = .ok (.iaload, 1) := by decide +kernel
theorem dL_law_360 : decode cL_law 360 = .ok (.invokevirtual 54, 3) := by decide +kernel
theorem dL_law_363 : decode cL_law 363 = .ok (.if_icmp .eq 30, 3) := by decide +kernel
theorem dL_law_366 : decode cL_law 366 = .ok (.iconst 0, 1) := by decide +kernel
theorem dL_law_367 : decode cL_law 367 = .ok (.ireturn, 1) := by decide +kernel
theorem dL_law_368 : decode cL_law 368 = .ok (.aload_n 1, 1) := by decide +kernel
theorem dL_law_369 : decode cL_law 369 = .ok (.aload_n 0, 1) := by decide +kernel
theorem dL_law_370 : decode cL_law 370 = .ok (.iload 4, 2) := by decide +kernel
theorem dL_law_372 : decode cL_law 372 = .ok (.iconst 1, 1) := by decide +kernel
theorem dL_law_373 : decode cL_law 373 = .ok (.iadd, 1) := by decide +kernel
theorem dL_law_374 : decode cL_law 374 = .ok (.iaload, 1) := by decide +kernel
theorem dL_law_375 : decode cL_law 375 = .ok (.invokevirtual 55, 3) := by decide +kernel
theorem dL_law_378 : decode cL_law 378 = .ok (.aload_n 2, 1) := by decide +kernel
theorem dL_law_379 : decode cL_law 379 = .ok (.aload_n 0, 1) := by decide +kernel
theorem dL_law_380 : decode cL_law 380 = .ok (.iload 4, 2) := by decide +kernel
theorem dL_law_382 : decode cL_law 382 = .ok (.iconst 1, 1) := by decide +kernel
theorem dL_law_383 : decode cL_law 383 = .ok (.iadd, 1) := by decide +kernel
theorem dL_law_384 : decode cL_law 384 = .ok (.iaload, 1) := by decide +kernel
theorem dL_law_385 : decode cL_law 385 = .ok (.invokevirtual 58, 3) := by decide +kernel
theorem dL_law_388 : decode cL_law 388 = .ok (.if_icmp .eq 5, 3) := by decide +kernel
theorem dL_law_391 : decode cL_law 391 = .ok (.iconst 0, 1) := by decide +kernel
theorem dL_law_392 : decode cL_law 392 = .ok (.ireturn, 1) := by decide +kernel
theorem dL_law_393 : decode cL_law 393 = .ok (.iinc 4 4, 3) := by decide +kernel
theorem dL_law_396 : decode cL_law 396 = .ok (.goto (-373), 3) := by decide +kernel
theorem dL_law_399 : decode cL_law 399 = .ok (.iconst 1, 1) := by decide +kernel
theorem dL_law_400 : decode cL_law 400 = .ok (.ireturn, 1) := by decide +kernel
end
section
theorem dM_init_0 : decode cM_init 0 = .ok (.aload_n 0, 1) := by decide +kernel
theorem dM_init_1 : decode cM_init 1 = .ok (.invokespecial 1, 3) := by decide +kernel
theorem dM_init_4 : decode cM_init 4 = .ok (.aload_n 0, 1) := by decide +kernel
theorem dM_init_5 : decode cM_init 5 = .ok (.sipush 300, 3) := by decide +kernel
theorem dM_init_8 : decode cM_init 8 = .ok (.newarray .int, 2) := by decide +kernel
theorem dM_init_10 : decode cM_init 10 = .ok (.putfield 7, 3) := by decide +kernel
theorem dM_init_13 : decode cM_init 13 = .ok (.aload_n 0, 1) := by decide +kernel
theorem dM_init_14 : decode cM_init 14 = .ok (.sipush 300, 3) := by decide +kernel
theorem dM_init_17 : decode cM_init 17 = .ok (.newarray .int, 2) := by decide +kernel
theorem dM_init_19 : decode cM_init 19 = .ok (.putfield 13, 3) := by decide +kernel
theorem dM_init_22 : decode cM_init 22 = .ok (.aload_n 0, 1) := by decide +kernel
theorem dM_init_23 : decode cM_init 23 = .ok (.sipush 2000, 3) := by decide +kernel
theorem dM_init_26 : decode cM_init 26 = .ok (.newarray .int, 2) := by decide +kernel
theorem dM_init_28 : decode cM_init 28 = .ok (.putfield 16, 3) := by decide +kernel
theorem dM_init_31 : decode cM_init 31 = .ok (.aload_n 0, 1) := by decide +kernel
theorem dM_init_32 : decode cM_init 32 = .ok (.sipush 2000, 3) := by decide +kernel
theorem dM_init_35 : decode cM_init 35 = .ok (.newarray .int, 2) := by decide +kernel
theorem dM_init_37 : decode cM_init 37 = .ok (.putfield 19, 3) := by decide +kernel
theorem dM_init_40 : decode cM_init 40 = .ok (.aload_n 0, 1) := by decide +kernel
theorem dM_init_41 : decode cM_init 41 = .ok (.sipush 2000, 3) := by decide +kernel
theorem dM_init_44 : decode cM_init 44 = .ok (.newarray .int, 2) := by decide +kernel
theorem dM_init_46 : decode cM_init 46 = .ok (.putfield 22, 3) := by decide +kernel
theorem dM_init_49 : decode cM_init 49 = .ok (.aload_n 0, 1) := by decide +kernel
theorem dM_init_50 : decode cM_init 50 = .ok (.sipush 2000, 3) := by decide +kernel
theorem dM_init_53 : decode cM_init 53 = .ok (.newarray .boolean, 2) := by decide +kernel
theorem dM_init_55 : decode cM_init 55 = .ok (.putfield 25, 3) := by decide +kernel
theorem dM_init_58 : decode cM_init 58 = .ok (.aload_n 0, 1) := by decide +kernel
theorem dM_init_59 : decode cM_init 59 = .ok (.sipush 2000, 3) := by decide +kernel
theorem dM_init_62 : decode cM_init 62 = .ok (.newarray .long, 2) := by decide +kernel
theorem dM_init_64 : decode cM_init 64 = .ok (.putfield 29, 3) := by decide +kernel
theorem dM_init_67 : decode cM_init 67 = .ok (.aload_n 0, 1) := by decide +kernel
theorem dM_init_68 : decode cM_init 68 = .ok (.sipush 400, 3) := by decide +kernel
theorem dM_init_71 : decode cM_init 71 = .ok (.newarray .long, 2) := by decide +kernel
theorem dM_init_73 : decode cM_init 73 = .ok (.putfield 33, 3) := by decide +kernel
theorem dM_init_76 : decode cM_init 76 = .ok (.aload_n 0, 1) := by decide +kernel
theorem dM_init_77 : decode cM_init 77 = .ok (.sipush 19200, 3) := by decide +kernel
theorem dM_init_80 : decode cM_init 80 = .ok (.newarray .int, 2) := by decide +kernel
theorem dM_init_82 : decode cM_init 82 = .ok (.putfield 36, 3) := by decide +kernel
theorem dM_init_85 : decode cM_init 85 = .ok (.aload_n 0, 1) := by decide +kernel
theorem dM_init_86 : decode cM_init 86 = .ok (.sipush 1536, 3) := by decide +kernel
theorem dM_init_89 : decode cM_init 89 = .ok (.newarray .int, 2) := by decide +kernel
theorem dM_init_91 : decode cM_init 91 = .ok (.putfield 39, 3) := by decide +kernel
theorem dM_init_94 : decode cM_init 94 = .ok (.aload_n 0, 1) := by decide +kernel
theorem dM_init_95 : decode cM_init 95 = .ok (.bipush 64, 2) := by decide +kernel
theorem dM_init_97 : decode cM_init 97 = .ok (.newarray .int, 2) := by decide +kernel
theorem dM_init_99 : decode cM_init 99 = .ok (.putfield 42, 3) := by decide +kernel
theorem dM_init_102 : decode cM_init 102 = .ok (.aload_n 0, 1) := by decide +kernel
theorem dM_init_103 : decode cM_init 103 = .ok (.bipush 64, 2) := by decide +kernel
theorem dM_init_105 : decode cM_init 105 = .ok (.newarray .int, 2) := by decide +kernel
theorem dM_init_107 : decode cM_init 107 = .ok (.putfield 45, 3) := by decide +kernel
theorem dM_init_110 : decode cM_init 110 = .ok (.aload_n 0, 1) := by decide +kernel
theorem dM_init_111 : decode cM_init 111 = .ok (.bipush 8, 2) := by decide +kernel
theorem dM_init_113 : decode cM_init 113 = .ok (.newarray .int, 2) := by decide +kernel
theorem dM_init_115 : decode cM_init 115 = .ok (.putfield 48, 3) := by decide +kernel
theorem dM_init_118 : decode cM_init 118 = .ok (.aload_n 0, 1) := by decide +kernel
theorem dM_init_119 : decode cM_init 119 = .ok (.iconst 1, 1) := by decide +kernel
theorem dM_init_120 : decode cM_init 120 = .ok (.putfield 51, 3) := by decide +kernel
theorem dM_init_123 : decode cM_init 123 = .ok (.aload_n 0, 1) := by decide +kernel
theorem dM_init_124 : decode cM_init 124 = .ok (.getfield 48, 3) := by decide +kernel
theorem dM_init_127 : decode cM_init 127 = .ok (.iconst 0, 1) := by decide +kernel
theorem dM_init_128 : decode cM_init 128 = .ok (.bipush 97, 2) := by decide +kernel
theorem dM_init_130 : decode cM_init 130 = .ok (.iastore, 1) := by decide +kernel
theorem dM_init_131 : decode cM_init 131 = .ok (.return_, 1) := by decide +kernel
theorem dM_thrown_0 : decode cM_thrown 0 = .ok (.aload_n 0, 1) := by decide +kernel
theorem dM_thrown_1 : decode cM_thrown 1 = .ok (.getfield 55, 3) := by decide +kernel
theorem dM_thrown_4 : decode cM_thrown 4 = .ok (.ireturn, 1) := by decide +kernel
theorem dM_text_0 : decode cM_text 0 = .ok (.aload_n 0, 1) := by decide +kernel
theorem dM_text_1 : decode cM_text 1 = .ok (.iconst 0, 1) := by decide +kernel
theorem dM_text_2 : decode cM_text 2 = .ok (.putfield 55, 3) := by decide +kernel
theorem dM_text_5 : decode cM_text 5 = .ok (.lload_n 1, 1) := by decide +kernel
theorem dM_text_6 : decode cM_text 6 = .ok (.iload_n 3, 1) := by decide +kernel
theorem dM_text_7 : decode cM_text 7 = .ok (.invokestatic 68, 3) := by decide +kernel
theorem dM_text_10 : decode cM_text 10 = .ok (.ifCond .eq 15, 3) := by decide +kernel
theorem dM_text_13 : decode cM_text 13 = .ok (.aload_n 0, 1) := by decide +kernel
theorem dM_text_14 : decode cM_text 14 = .ok (.getfield 72, 3) := by decide +kernel
theorem dM_text_17 : decode cM_text 17 = .ok (.iload_n 3, 1) := by decide +kernel
theorem dM_text_18 : decode cM_text 18 = .ok (.iadd, 1) := by decide +kernel
theorem dM_text_19 : decode cM_text 19 = .ok (.sipush 300, 3) := by decide +kernel
theorem dM_text_22 : decode cM_text 22 = .ok (.if_icmp .le 5, 3) := by decide +kernel
theorem dM_text_25 : decode cM_text 25 = .ok (.iconst (-1), 1) := by decide +kernel
theorem dM_text_26 : decode cM_text 26 = .ok (.ireturn, 1) := by decide +kernel
theorem dM_text_27 : decode cM_text 27 = .ok (.iconst 0, 1) := by decide +kernel
theorem dM_text_28 : decode cM_text 28 = .ok (.istore 4, 2) := by decide +kernel
theorem dM_text_30 : decode cM_text 30 = .ok (.iload 4, 2) := by decide +kernel
theorem dM_text_32 : decode cM_text 32 = .ok (.iload_n 3, 1) := by decide +kernel
theorem dM_text_33 : decode cM_text 33 = .ok (.if_icmp .ge 28, 3) := by decide +kernel
theorem dM_text_36 : decode cM_text 36 = .ok (.aload_n 0, 1) := by decide +kernel
theorem dM_text_37 : decode cM_text 37 = .ok (.getfield 7, 3) := by decide +kernel
theorem dM_text_40 : decode cM_text 40 = .ok (.aload_n 0, 1) := by decide +kernel
theorem dM_text_41 : decode cM_text 41 = .ok (.getfield 72, 3) := by decide +kernel
theorem dM_text_44 : decode cM_text 44 = .ok (.iload 4, 2) := by decide +kernel
theorem dM_text_46 : decode cM_text 46 = .ok (.iadd, 1) := by decide +kernel
theorem dM_text_47 : decode cM_text 47 = .ok (.lload_n 1, 1) := by decide +kernel
theorem dM_text_48 : decode cM_text 48 = .ok (.iload_n 3, 1) := by decide +kernel
theorem dM_text_49 : decode cM_text 49 = .ok (.iload 4, 2) := by decide +kernel
theorem dM_text_51 : decode cM_text 51 = .ok (.invokestatic 60, 3) := by decide +kernel
theorem dM_text_54 : decode cM_text 54 = .ok (.iastore, 1) := by decide +kernel
theorem dM_text_55 : decode cM_text 55 = .ok (.iinc 4 1, 3) := by decide +kernel
theorem dM_text_58 : decode cM_text 58 = .ok (.goto (-28), 3) := by decide +kernel
theorem dM_text_61 : decode cM_text 61 = .ok (.aload_n 0, 1) := by decide +kernel
theorem dM_text_62 : decode cM_text 62 = .ok (.dup, 1) := by decide +kernel
theorem dM_text_63 : decode cM_text 63 = .ok (.getfield 72, 3) := by decide +kernel
theorem dM_text_66 : decode cM_text 66 = .ok (.iload_n 3, 1) := by decide +kernel
theorem dM_text_67 : decode cM_text 67 = .ok (.iadd, 1) := by decide +kernel
theorem dM_text_68 : decode cM_text 68 = .ok (.putfield 72, 3) := by decide +kernel
theorem dM_text_71 : decode cM_text 71 = .ok (.aload_n 0, 1) := by decide +kernel
theorem dM_text_72 : decode cM_text 72 = .ok (.getfield 72, 3) := by decide +kernel
theorem dM_text_75 : decode cM_text 75 = .ok (.ireturn, 1) := by decide +kernel
theorem dM_areTexts_0 : decode cM_areTexts 0 = .ok (.iload_n 2, 1) := by decide +kernel
theorem dM_areTexts_1 : decode cM_areTexts 1 = .ok (.ifCond .lt 13, 3) := by decide +kernel
theorem dM_areTexts_4 : decode cM_areTexts 4 = .ok (.iload_n 2, 1) := by decide +kernel
theorem dM_areTexts_5 : decode cM_areTexts 5 = .ok (.bipush 9, 2) := by decide +kernel
theorem dM_areTexts_7 : decode cM_areTexts 7 = .ok (.if_icmp .ge 7, 3) := by decide +kernel
theorem dM_areTexts_10 : decode cM_areTexts 10 = .ok (.iconst 1, 1) := by decide +kernel
theorem dM_areTexts_11 : decode cM_areTexts 11 = .ok (.goto 4, 3) := by decide +kernel
theorem dM_areTexts_14 : decode cM_areTexts 14 = .ok (.iconst 0, 1) := by decide +kernel
theorem dM_areTexts_15 : decode cM_areTexts 15 = .ok (.istore_n 3, 1) := by decide +kernel
theorem dM_areTexts_16 : decode cM_areTexts 16 = .ok (.iconst 0, 1) := by decide +kernel
theorem dM_areTexts_17 : decode cM_areTexts 17 = .ok (.istore 4, 2) := by decide +kernel
theorem dM_areTexts_19 : decode cM_areTexts 19 = .ok (.iload 4, 2) := by decide +kernel
theorem dM_areTexts_21 : decode cM_areTexts 21 = .ok (.iload_n 2, 1) := by decide +kernel
theorem dM_areTexts_22 : decode cM_areTexts 22 = .ok (.if_icmp .ge 24, 3) := by decide +kernel
theorem dM_areTexts_25 : decode cM_areTexts 25 = .ok (.iload_n 3, 1) := by decide +kernel
theorem dM_areTexts_26 : decode cM_areTexts 26 = .ok (.ifCond .eq 20, 3) := by decide +kernel
theorem dM_areTexts_29 : decode cM_areTexts 29 = .ok (.lload_n 0, 1) := by decide +kernel
theorem dM_areTexts_30 : decode cM_areTexts 30 = .ok (.iload_n 2, 1) := by decide +kernel
theorem dM_areTexts_31 : decode cM_areTexts 31 = .ok (.iload 4, 2) := by decide +kernel
theorem dM_areTexts_33 : decode cM_areTexts 33 = .ok (.invokestatic 60, 3) := by decide +kernel
theorem dM_areTexts_36 : decode cM_areTexts 36 = .ok (.invokestatic 64, 3) := by decide +kernel
theorem dM_areTexts_39 : decode cM_areTexts 39 = .ok (.istore_n 3, 1) := by decide +kernel
theorem dM_areTexts_40 : decode cM_areTexts 40 = .ok (.iinc 4 1, 3) := by decide +kernel
theorem dM_areTexts_43 : decode cM_areTexts 43 = .ok (.goto (-24), 3) := by decide +kernel
theorem dM_areTexts_46 : decode cM_areTexts 46 = .ok (.iload_n 3, 1) := by decide +kernel
theorem dM_areTexts_47 : decode cM_areTexts 47 = .ok (.ireturn, 1) := by decide +kernel
theorem dM_byteOf_0 : decode cM_byteOf 0 = .ok (.lload_n 0, 1) := by decide +kernel
theorem dM_byteOf_1 : decode cM_byteOf 1 = .ok (.bipush 8, 2) := by decide +kernel
theorem dM_byteOf_3 : decode cM_byteOf 3 = .ok (.iload_n 2, 1) := by decide +kernel
theorem dM_byteOf_4 : decode cM_byteOf 4 = .ok (.iconst 1, 1) := by decide +kernel
theorem dM_byteOf_5 : decode cM_byteOf 5 = .ok (.isub, 1) := by decide +kernel
theorem dM_byteOf_6 : decode cM_byteOf 6 = .ok (.iload_n 3, 1) := by decide +kernel
theorem dM_byteOf_7 : decode cM_byteOf 7 = .ok (.isub, 1) := by decide +kernel
theorem dM_byteOf_8 : decode cM_byteOf 8 = .ok (.imul, 1) := by decide +kernel
theorem dM_byteOf_9 : decode cM_byteOf 9 = .ok (.lshr, 1) := by decide +kernel
theorem dM_byteOf_10 : decode cM_byteOf 10 = .ok (.ldc2_w 58, 3) := by decide +kernel
theorem dM_byteOf_13 : decode cM_byteOf 13 = .ok (.land, 1) := by decide +kernel
theorem dM_byteOf_14 : decode cM_byteOf 14 = .ok (.l2i, 1) := by decide +kernel
theorem dM_byteOf_15 : decode cM_byteOf 15 = .ok (.ireturn, 1) := by decide +kernel
theorem dM_isText_0 : decode cM_isText 0 = .ok (.iload_n 0, 1) := by decide +kernel
theorem dM_isText_1 : decode cM_isText 1 = .ok (.bipush 9, 2) := by decide +kernel
theorem dM_isText_3 : decode cM_isText 3 = .ok (.if_icmp .eq 21, 3) := by decide +kernel
theorem dM_isText_6 : decode cM_isText 6 = .ok (.iload_n 0, 1) := by decide +kernel
theorem dM_isText_7 : decode cM_isText 7 = .ok (.bipush 10, 2) := by decide +kernel
theorem dM_isText_9 : decode cM_isText 9 = .ok (.if_icmp .eq 15, 3) := by decide +kernel
theorem dM_isText_12 : decode cM_isText 12 = .ok (.iload_n 0, 1) := by decide +kernel
theorem dM_isText_13 : decode cM_isText 13 = .ok (.bipush 31, 2) := by decide +kernel
theorem dM_isText_15 : decode cM_isText 15 = .ok (.if_icmp .le 13, 3) := by decide +kernel
theorem dM_isText_18 : decode cM_isText 18 = .ok (.iload_n 0, 1) := by decide +kernel
theorem dM_isText_19 : decode cM_isText 19 = .ok (.bipush 127, 2) := by decide +kernel
theorem dM_isText_21 : decode cM_isText 21 = .ok (.if_icmp .ge 7, 3) := by decide +kernel
theorem dM_isText_24 : decode cM_isText 24 = .ok (.iconst 1, 1) := by decide +kernel
theorem dM_isText_25 : decode cM_isText 25 = .ok (.goto 4, 3) := by decide +kernel
theorem dM_isText_28 : decode cM_isText 28 = .ok (.iconst 0, 1) := by decide +kernel
theorem dM_isText_29 : decode cM_isText 29 = .ok (.ireturn, 1) := by decide +kernel
theorem dM_name_0 : decode cM_name 0 = .ok (.aload_n 0, 1) := by decide +kernel
theorem dM_name_1 : decode cM_name 1 = .ok (.iconst 0, 1) := by decide +kernel
theorem dM_name_2 : decode cM_name 2 = .ok (.putfield 55, 3) := by decide +kernel
theorem dM_name_5 : decode cM_name 5 = .ok (.iload_n 3, 1) := by decide +kernel
theorem dM_name_6 : decode cM_name 6 = .ok (.ifCond .le 25, 3) := by decide +kernel
theorem dM_name_9 : decode cM_name 9 = .ok (.iload_n 3, 1) := by decide +kernel
theorem dM_name_10 : decode cM_name 10 = .ok (.bipush 9, 2) := by decide +kernel
theorem dM_name_12 : decode cM_name 12 = .ok (.if_icmp .ge 19, 3) := by decide +kernel
theorem dM_name_15 : decode cM_name 15 = .ok (.lload_n 1, 1) := by decide +kernel
theorem dM_name_16 : decode cM_name 16 = .ok (.iload_n 3, 1) := by decide +kernel
theorem dM_name_17 : decode cM_name 17 = .ok (.iconst 0, 1) := by decide +kernel
theorem dM_name_18 : decode cM_name 18 = .ok (.invokestatic 60, 3) := by decide +kernel
theorem dM_name_21 : decode cM_name 21 = .ok (.invokestatic 82, 3) := by decide +kernel
theorem dM_name_24 : decode cM_name 24 = .ok (.ifCond .eq 7, 3) := by decide +kernel
theorem dM_name_27 : decode cM_name 27 = .ok (.iconst 1, 1) := by decide +kernel
theorem dM_name_28 : decode cM_name 28 = .ok (.goto 4, 3) := by decide +kernel
theorem dM_name_31 : decode cM_name 31 = .ok (.iconst 0, 1) := by decide +kernel
theorem dM_name_32 : decode cM_name 32 = .ok (.istore 4, 2) := by decide +kernel
theorem dM_name_34 : decode cM_name 34 = .ok (.iconst 0, 1) := by decide +kernel
theorem dM_name_35 : decode cM_name 35 = .ok (.istore 5, 2) := by decide +kernel
theorem dM_name_37 : decode cM_name 37 = .ok (.iload 5, 2) := by decide +kernel
theorem dM_name_39 : decode cM_name 39 = .ok (.iload_n 3, 1) := by decide +kernel
theorem dM_name_40 : decode cM_name 40 = .ok (.if_icmp .ge 47, 3) := by decide +kernel
theorem dM_name_43 : decode cM_name 43 = .ok (.iload 4, 2) := by decide +kernel
theorem dM_name_45 : decode cM_name 45 = .ok (.ifCond .eq 42, 3) := by decide +kernel
theorem dM_name_48 : decode cM_name 48 = .ok (.lload_n 1, 1) := by decide +kernel
theorem dM_name_49 : decode cM_name 49 = .ok (.iload_n 3, 1) := by decide +kernel
theorem dM_name_50 : decode cM_name 50 = .ok (.iload 5, 2) := by decide +kernel
theorem dM_name_52 : decode cM_name 52 = .ok (.invokestatic 60, 3) := by decide +kernel
theorem dM_name_55 : decode cM_name 55 = .ok (.invokestatic 82, 3) := by decide +kernel
theorem dM_name_58 : decode cM_name 58 = .ok (.ifCond .ne 16, 3) := by decide +kernel
theorem dM_name_61 : decode cM_name 61 = .ok (.lload_n 1, 1) := by decide +kernel
theorem dM_name_62 : decode cM_name 62 = .ok (.iload_n 3, 1) := by decide +kernel
theorem dM_name_63 : decode cM_name 63 = .ok (.iload 5, 2) := by decide +kernel
theorem dM_name_65 : decode cM_name 65 = .ok (.invokestatic 60, 3) := by decide +kernel
theorem dM_name_68 : decode cM_name 68 = .ok (.invokestatic 85, 3) := by decide +kernel
theorem dM_name_71 : decode cM_name 71 = .ok (.ifCond .eq 7, 3) := by decide +kernel
theorem dM_name_74 : decode cM_name 74 = .ok (.iconst 1, 1) := by decide +kernel
theorem dM_name_75 : decode cM_name 75 = .ok (.goto 4, 3) := by decide +kernel
theorem dM_name_78 : decode cM_name 78 = .ok (.iconst 0, 1) := by decide +kernel
theorem dM_name_79 : decode cM_name 79 = .ok (.istore 4, 2) := by decide +kernel
theorem dM_name_81 : decode cM_name 81 = .ok (.iinc 5 1, 3) := by decide +kernel
theorem dM_name_84 : decode cM_name 84 = .ok (.goto (-47), 3) := by decide +kernel
theorem dM_name_87 : decode cM_name 87 = .ok (.iconst 0, 1) := by decide +kernel
theorem dM_name_88 : decode cM_name 88 = .ok (.istore 5, 2) := by decide +kernel
theorem dM_name_90 : decode cM_name 90 = .ok (.iload 5, 2) := by decide +kernel
theorem dM_name_92 : decode cM_name 92 = .ok (.iload_n 3, 1) := by decide +kernel
theorem dM_name_93 : decode cM_name 93 = .ok (.if_icmp .ge 28, 3) := by decide +kernel
theorem dM_name_96 : decode cM_name 96 = .ok (.iload 4, 2) := by decide +kernel
theorem dM_name_98 : decode cM_name 98 = .ok (.ifCond .eq 23, 3) := by decide +kernel
theorem dM_name_101 : decode cM_name 101 = .ok (.aload_n 0, 1) := by decide +kernel
theorem dM_name_102 : decode cM_name 102 = .ok (.getfield 48, 3) := by decide +kernel
theorem dM_name_105 : decode cM_name 105 = .ok (.iload 5, 2) := by decide +kernel
theorem dM_name_107 : decode cM_name 107 = .ok (.lload_n 1, 1) := by decide +kernel
theorem dM_name_108 : decode cM_name 108 = .ok (.iload_n 3, 1) := by decide +kernel
theorem dM_name_109 : decode cM_name 109 = .ok (.iload 5, 2) := by decide +kernel
theorem dM_name_111 : decode cM_name 111 = .ok (.invokestatic 60, 3) := by decide +kernel
theorem dM_name_114 : decode cM_name 114 = .ok (.iastore, 1) := by decide +kernel
theorem dM_name_115 : decode cM_name 115 = .ok (.iinc 5 1, 3) := by decide +kernel
theorem dM_name_118 : decode cM_name 118 = .ok (.goto (-28), 3) := by decide +kernel
theorem dM_name_121 : decode cM_name 121 = .ok (.aload_n 0, 1) := by decide +kernel
theorem dM_name_122 : decode cM_name 122 = .ok (.iload 4, 2) := by decide +kernel
theorem dM_name_124 : decode cM_name 124 = .ok (.ifCond .eq 7, 3) := by decide +kernel
theorem dM_name_127 : decode cM_name 127 = .ok (.iload_n 3, 1) := by decide +kernel
theorem dM_name_128 : decode cM_name 128 = .ok (.goto 7, 3) := by decide +kernel
theorem dM_name_131 : decode cM_name 131 = .ok (.aload_n 0, 1) := by decide +kernel
theorem dM_name_132 : decode cM_name 132 = .ok (.getfield 51, 3) := by decide +kernel
theorem dM_name_135 : decode cM_name 135 = .ok (.putfield 51, 3) := by decide +kernel
theorem dM_name_138 : decode cM_name 138 = .ok (.iload 4, 2) := by decide +kernel
theorem dM_name_140 : decode cM_name 140 = .ok (.ireturn, 1) := by decide +kernel
theorem dM_isLetter_0 : decode cM_isLetter 0 = .ok (.iload_n 0, 1) := by decide +kernel
theorem dM_isLetter_1 : decode cM_isLetter 1 = .ok (.bipush 97, 2) := by decide +kernel
theorem dM_isLetter_3 : decode cM_isLetter 3 = .ok (.if_icmp .lt 9, 3) := by decide +kernel
theorem dM_isLetter_6 : decode cM_isLetter 6 = .ok (.iload_n 0, 1) := by decide +kernel
theorem dM_isLetter_7 : decode cM_isLetter 7 = .ok (.bipush 122, 2) := by decide +kernel
theorem dM_isLetter_9 : decode cM_isLetter 9 = .ok (.if_icmp .le 21, 3) := by decide +kernel
theorem dM_isLetter_12 : decode cM_isLetter 12 = .ok (.iload_n 0, 1) := by decide +kernel
theorem dM_isLetter_13 : decode cM_isLetter 13 = .ok (.bipush 65, 2) := by decide +kernel
theorem dM_isLetter_15 : decode cM_isLetter 15 = .ok (.if_icmp .lt 9, 3) := by decide +kernel
theorem dM_isLetter_18 : decode cM_isLetter 18 = .ok (.iload_n 0, 1) := by decide +kernel
theorem dM_isLetter_19 : decode cM_isLetter 19 = .ok (.bipush 90, 2) := by decide +kernel
theorem dM_isLetter_21 : decode cM_isLetter 21 = .ok (.if_icmp .le 9, 3) := by decide +kernel
theorem dM_isLetter_24 : decode cM_isLetter 24 = .ok (.iload_n 0, 1) := by decide +kernel
theorem dM_isLetter_25 : decode cM_isLetter 25 = .ok (.bipush 95, 2) := by decide +kernel
theorem dM_isLetter_27 : decode cM_isLetter 27 = .ok (.if_icmp .ne 7, 3) := by decide +kernel
theorem dM_isLetter_30 : decode cM_isLetter 30 = .ok (.iconst 1, 1) := by decide +kernel
theorem dM_isLetter_31 : decode cM_isLetter 31 = .ok (.goto 4, 3) := by decide +kernel
theorem dM_isLetter_34 : decode cM_isLetter 34 = .ok (.iconst 0, 1) := by decide +kernel
theorem dM_isLetter_35 : decode cM_isLetter 35 = .ok (.ireturn, 1) := by decide +kernel
theorem dM_isDigit_0 : decode cM_isDigit 0 = .ok (.iload_n 0, 1) := by decide +kernel
theorem dM_isDigit_1 : decode cM_isDigit 1 = .ok (.bipush 48, 2) := by decide +kernel
theorem dM_isDigit_3 : decode cM_isDigit 3 = .ok (.if_icmp .lt 13, 3) := by decide +kernel
theorem dM_isDigit_6 : decode cM_isDigit 6 = .ok (.iload_n 0, 1) := by decide +kernel
theorem dM_isDigit_7 : decode cM_isDigit 7 = .ok (.bipush 57, 2) := by decide +kernel
theorem dM_isDigit_9 : decode cM_isDigit 9 = .ok (.if_icmp .gt 7, 3) := by decide +kernel
theorem dM_isDigit_12 : decode cM_isDigit 12 = .ok (.iconst 1, 1) := by decide +kernel
theorem dM_isDigit_13 : decode cM_isDigit 13 = .ok (.goto 4, 3) := by decide +kernel
theorem dM_isDigit_16 : decode cM_isDigit 16 = .ok (.iconst 0, 1) := by decide +kernel
theorem dM_isDigit_17 : decode cM_isDigit 17 = .ok (.ireturn, 1) := by decide +kernel
theorem dM_put_0 : decode cM_put 0 = .ok (.aload_n 0, 1) := by decide +kernel
theorem dM_put_1 : decode cM_put 1 = .ok (.iconst 0, 1) := by decide +kernel
theorem dM_put_2 : decode cM_put 2 = .ok (.putfield 55, 3) := by decide +kernel
theorem dM_put_5 : decode cM_put 5 = .ok (.lload_n 1, 1) := by decide +kernel
theorem dM_put_6 : decode cM_put 6 = .ok (.iload_n 3, 1) := by decide +kernel
theorem dM_put_7 : decode cM_put 7 = .ok (.invokestatic 68, 3) := by decide +kernel
theorem dM_put_10 : decode cM_put 10 = .ok (.ifCond .ne 5, 3) := by decide +kernel
theorem dM_put_13 : decode cM_put 13 = .ok (.iconst 0, 1) := by decide +kernel
theorem dM_put_14 : decode cM_put 14 = .ok (.ireturn, 1) := by decide +kernel
theorem dM_put_15 : decode cM_put 15 = .ok (.aload_n 0, 1) := by decide +kernel
theorem dM_put_16 : decode cM_put 16 = .ok (.aload_n 0, 1) := by decide +kernel
theorem dM_put_17 : decode cM_put 17 = .ok (.getfield 48, 3) := by decide +kernel
theorem dM_put_20 : decode cM_put 20 = .ok (.iconst 0, 1) := by decide +kernel
theorem dM_put_21 : decode cM_put 21 = .ok (.aload_n 0, 1) := by decide +kernel
theorem dM_put_22 : decode cM_put 22 = .ok (.getfield 51, 3) := by decide +kernel
theorem dM_put_25 : decode cM_put 25 = .ok (.invokevirtual 88, 3) := by decide +kernel
theorem dM_put_28 : decode cM_put 28 = .ok (.istore 4, 2) := by decide +kernel
theorem dM_put_30 : decode cM_put 30 = .ok (.iload 4, 2) := by decide +kernel
theorem dM_put_32 : decode cM_put 32 = .ok (.iconst (-1), 1) := by decide +kernel
theorem dM_put_33 : decode cM_put 33 = .ok (.if_icmp .ne 5, 3) := by decide +kernel
theorem dM_put_36 : decode cM_put 36 = .ok (.iconst 0, 1) := by decide +kernel
theorem dM_put_37 : decode cM_put 37 = .ok (.ireturn, 1) := by decide +kernel
theorem dM_put_38 : decode cM_put 38 = .ok (.aload_n 0, 1) := by decide +kernel
theorem dM_put_39 : decode cM_put 39 = .ok (.getfield 45, 3) := by decide +kernel
theorem dM_put_42 : decode cM_put 42 = .ok (.iload 4, 2) := by decide +kernel
theorem dM_put_44 : decode cM_put 44 = .ok (.iload_n 3, 1) := by decide +kernel
theorem dM_put_45 : decode cM_put 45 = .ok (.iastore, 1) := by decide +kernel
theorem dM_put_46 : decode cM_put 46 = .ok (.iconst 0, 1) := by decide +kernel
theorem dM_put_47 : decode cM_put 47 = .ok (.istore 5, 2) := by decide +kernel
theorem dM_put_49 : decode cM_put 49 = .ok (.iload 5, 2) := by decide +kernel
theorem dM_put_51 : decode cM_put 51 = .ok (.iload_n 3, 1) := by decide +kernel
theorem dM_put_52 : decode cM_put 52 = .ok (.if_icmp .ge 29, 3) := by decide +kernel
theorem dM_put_55 : decode cM_put 55 = .ok (.aload_n 0, 1) := by decide +kernel
theorem dM_put_56 : decode cM_put 56 = .ok (.getfield 39, 3) := by decide +kernel
theorem dM_put_59 : decode cM_put 59 = .ok (.bipush 24, 2) := by decide +kernel
theorem dM_put_61 : decode cM_put 61 = .ok (.iload 4, 2) := by decide +kernel
theorem dM_put_63 : decode cM_put 63 = .ok (.imul, 1) := by decide +kernel
theorem dM_put_64 : decode cM_put 64 = .ok (.iload 5, 2) := by decide +kernel
theorem dM_put_66 : decode cM_put 66 = .ok (.iadd, 1) := by decide +kernel
theorem dM_put_67 : decode cM_put 67 = .ok (.lload_n 1, 1) := by decide +kernel
theorem dM_put_68 : decode cM_put 68 = .ok (.iload_n 3, 1) := by decide +kernel
theorem dM_put_69 : decode cM_put 69 = .ok (.iload 5, 2) := by decide +kernel
theorem dM_put_71 : decode cM_put 71 = .ok (.invokestatic 60, 3) := by decide +kernel
theorem dM_put_74 : decode cM_put 74 = .ok (.iastore, 1) := by decide +kernel
theorem dM_put_75 : decode cM_put 75 = .ok (.iinc 5 1, 3) := by decide +kernel
theorem dM_put_78 : decode cM_put 78 = .ok (.goto (-29), 3) := by decide +kernel
theorem dM_put_81 : decode cM_put 81 = .ok (.iconst 1, 1) := by decide +kernel
theorem dM_put_82 : decode cM_put 82 = .ok (.ireturn, 1) := by decide +kernel
theorem dM_placeFor_0 : decode cM_placeFor 0 = .ok (.aload_n 0, 1) := by decide +kernel
theorem dM_placeFor_1 : decode cM_placeFor 1 = .ok (.aload_n 1, 1) := by decide +kernel
theorem dM_placeFor_2 : decode cM_placeFor 2 = .ok (.iload_n 2, 1) := by decide +kernel
theorem dM_placeFor_3 : decode cM_placeFor 3 = .ok (.iload_n 3, 1) := by decide +kernel
theorem dM_placeFor_4 : decode cM_placeFor 4 = .ok (.invokevirtual 75, 3) := by decide +kernel
theorem dM_placeFor_7 : decode cM_placeFor 7 = .ok (.istore 4, 2) := by decide +kernel
theorem dM_placeFor_9 : decode cM_placeFor 9 = .ok (.iload 4, 2) := by decide +kernel
theorem dM_placeFor_11 : decode cM_placeFor 11 = .ok (.iconst (-1), 1) := by decide +kernel
theorem dM_placeFor_12 : decode cM_placeFor 12 = .ok (.if_icmp .ne 12, 3) := by decide +kernel
theorem dM_placeFor_15 : decode cM_placeFor 15 = .ok (.aload_n 0, 1) := by decide +kernel
theorem dM_placeFor_16 : decode cM_placeFor 16 = .ok (.getfield 79, 3) := by decide +kernel
theorem dM_placeFor_19 : decode cM_placeFor 19 = .ok (.bipush 64, 2) := by decide +kernel
theorem dM_placeFor_21 : decode cM_placeFor 21 = .ok (.if_icmp .ne 6, 3) := by decide +kernel
theorem dM_placeFor_24 : decode cM_placeFor 24 = .ok (.iload 4, 2) := by decide +kernel
theorem dM_placeFor_26 : decode cM_placeFor 26 = .ok (.ireturn, 1) := by decide +kernel
theorem dM_placeFor_27 : decode cM_placeFor 27 = .ok (.iconst 0, 1) := by decide +kernel
theorem dM_placeFor_28 : decode cM_placeFor 28 = .ok (.istore 4, 2) := by decide +kernel
theorem dM_placeFor_30 : decode cM_placeFor 30 = .ok (.aload_n 0, 1) := by decide +kernel
theorem dM_placeFor_31 : decode cM_placeFor 31 = .ok (.getfield 42, 3) := by decide +kernel
theorem dM_placeFor_34 : decode cM_placeFor 34 = .ok (.iload 4, 2) := by decide +kernel
theorem dM_placeFor_36 : decode cM_placeFor 36 = .ok (.iaload, 1) := by decide +kernel
theorem dM_placeFor_37 : decode cM_placeFor 37 = .ok (.ifCond .le 9, 3) := by decide +kernel
theorem dM_placeFor_40 : decode cM_placeFor 40 = .ok (.iinc 4 1, 3) := by decide +kernel
theorem dM_placeFor_43 : decode cM_placeFor 43 = .ok (.goto (-13), 3) := by decide +kernel
theorem dM_placeFor_46 : decode cM_placeFor 46 = .ok (.aload_n 0, 1) := by decide +kernel
theorem dM_placeFor_47 : decode cM_placeFor 47 = .ok (.getfield 42, 3) := by decide +kernel
theorem dM_placeFor_50 : decode cM_placeFor 50 = .ok (.iload 4, 2) := by decide +kernel
theorem dM_placeFor_52 : decode cM_placeFor 52 = .ok (.iload_n 3, 1) := by decide +kernel
theorem dM_placeFor_53 : decode cM_placeFor 53 = .ok (.iastore, 1) := by decide +kernel
theorem dM_placeFor_54 : decode cM_placeFor 54 = .ok (.iconst 0, 1) := by decide +kernel
theorem dM_placeFor_55 : decode cM_placeFor 55 = .ok (.istore 5, 2) := by decide +kernel
theorem dM_placeFor_57 : decode cM_placeFor 57 = .ok (.iload 5, 2) := by decide +kernel
theorem dM_placeFor_59 : decode cM_placeFor 59 = .ok (.iload_n 3, 1) := by decide +kernel
theorem dM_placeFor_60 : decode cM_placeFor 60 = .ok (.if_icmp .ge 29, 3) := by decide +kernel
theorem dM_placeFor_63 : decode cM_placeFor 63 = .ok (.aload_n 0, 1) := by decide +kernel
theorem dM_placeFor_64 : decode cM_placeFor 64 = .ok (.getfield 36, 3) := by decide +kernel
theorem dM_placeFor_67 : decode cM_placeFor 67 = .ok (.sipush 300, 3) := by decide +kernel
theorem dM_placeFor_70 : decode cM_placeFor 70 = .ok (.iload 4, 2) := by decide +kernel
theorem dM_placeFor_72 : decode cM_placeFor 72 = .ok (.imul, 1) := by decide +kernel
theorem dM_placeFor_73 : decode cM_placeFor 73 = .ok (.iload 5, 2) := by decide +kernel
theorem dM_placeFor_75 : decode cM_placeFor 75 = .ok (.iadd, 1) := by decide +kernel
theorem dM_placeFor_76 : decode cM_placeFor 76 = .ok (.aload_n 1, 1) := by decide +kernel
theorem dM_placeFor_77 : decode cM_placeFor 77 = .ok (.iload_n 2, 1) := by decide +kernel
theorem dM_placeFor_78 : decode cM_placeFor 78 = .ok (.iload 5, 2) := by decide +kernel
theorem dM_placeFor_80 : decode cM_placeFor 80 = .ok (.iadd, 1) := by decide +kernel
theorem dM_placeFor_81 : decode cM_placeFor 81 = .ok (.iaload, 1) := by decide +kernel
theorem dM_placeFor_82 : decode cM_placeFor 82 = .ok (.iastore, 1) := by decide +kernel
theorem dM_placeFor_83 : decode cM_placeFor 83 = .ok (.iinc 5 1, 3) := by decide +kernel
theorem dM_placeFor_86 : decode cM_placeFor 86 = .ok (.goto (-29), 3) := by decide +kernel
theorem dM_placeFor_89 : decode cM_placeFor 89 = .ok (.aload_n 0, 1) := by decide +kernel
theorem dM_placeFor_90 : decode cM_placeFor 90 = .ok (.dup, 1) := by decide +kernel
theorem dM_placeFor_91 : decode cM_placeFor 91 = .ok (.getfield 79, 3) := by decide +kernel
theorem dM_placeFor_94 : decode cM_placeFor 94 = .ok (.iconst 1, 1) := by decide +kernel
theorem dM_placeFor_95 : decode cM_placeFor 95 = .ok (.iadd, 1) := by decide +kernel
theorem dM_placeFor_96 : decode cM_placeFor 96 = .ok (.putfield 79, 3) := by decide +kernel
theorem dM_placeFor_99 : decode cM_placeFor 99 = .ok (.iload 4, 2) := by decide +kernel
theorem dM_placeFor_101 : decode cM_placeFor 101 = .ok (.ireturn, 1) := by decide +kernel
theorem dM_find_0 : decode cM_find 0 = .ok (.iconst (-1), 1) := by decide +kernel
theorem dM_find_1 : decode cM_find 1 = .ok (.istore 4, 2) := by decide +kernel
theorem dM_find_3 : decode cM_find 3 = .ok (.iconst 0, 1) := by decide +kernel
theorem dM_find_4 : decode cM_find 4 = .ok (.istore 5, 2) := by decide +kernel
theorem dM_find_6 : decode cM_find 6 = .ok (.iload 5, 2) := by decide +kernel
theorem dM_find_8 : decode cM_find 8 = .ok (.bipush 64, 2) := by decide +kernel
theorem dM_find_10 : decode cM_find 10 = .ok (.if_icmp .ge 91, 3) := by decide +kernel
theorem dM_find_13 : decode cM_find 13 = .ok (.aload_n 0, 1) := by decide +kernel
theorem dM_find_14 : decode cM_find 14 = .ok (.getfield 42, 3) := by decide +kernel
theorem dM_find_17 : decode cM_find 17 = .ok (.iload 5, 2) := by decide +kernel
theorem dM_find_19 : decode cM_find 19 = .ok (.iaload, 1) := by decide +kernel
theorem dM_find_20 : decode cM_find 20 = .ok (.iload_n 3, 1) := by decide +kernel
theorem dM_find_21 : decode cM_find 21 = .ok (.if_icmp .ne 7, 3) := by decide +kernel
theorem dM_find_24 : decode cM_find 24 = .ok (.iconst 1, 1) := by decide +kernel
theorem dM_find_25 : decode cM_find 25 = .ok (.goto 4, 3) := by decide +kernel
theorem dM_find_28 : decode cM_find 28 = .ok (.iconst 0, 1) := by decide +kernel
theorem dM_find_29 : decode cM_find 29 = .ok (.istore 6, 2) := by decide +kernel
theorem dM_find_31 : decode cM_find 31 = .ok (.iconst 0, 1) := by decide +kernel
theorem dM_find_32 : decode cM_find 32 = .ok (.istore 7, 2) := by decide +kernel
theorem dM_find_34 : decode cM_find 34 = .ok (.iload 7, 2) := by decide +kernel
theorem dM_find_36 : decode cM_find 36 = .ok (.iload_n 3, 1) := by decide +kernel
theorem dM_find_37 : decode cM_find 37 = .ok (.if_icmp .ge 44, 3) := by decide +kernel
theorem dM_find_40 : decode cM_find 40 = .ok (.iload 6, 2) := by decide +kernel
theorem dM_find_42 : decode cM_find 42 = .ok (.ifCond .eq 39, 3) := by decide +kernel
theorem dM_find_45 : decode cM_find 45 = .ok (.aload_n 0, 1) := by decide +kernel
theorem dM_find_46 : decode cM_find 46 = .ok (.getfield 36, 3) := by decide +kernel
theorem dM_find_49 : decode cM_find 49 = .ok (.sipush 300, 3) := by decide +kernel
theorem dM_find_52 : decode cM_find 52 = .ok (.iload 5, 2) := by decide +kernel
theorem dM_find_54 : decode cM_find 54 = .ok (.imul, 1) := by decide +kernel
theorem dM_find_55 : decode cM_find 55 = .ok (.iload 7, 2) := by decide +kernel
theorem dM_find_57 : decode cM_find 57 = .ok (.iadd, 1) := by decide +kernel
theorem dM_find_58 : decode cM_find 58 = .ok (.iaload, 1) := by decide +kernel
theorem dM_find_59 : decode cM_find 59 = .ok (.aload_n 1, 1) := by decide +kernel
theorem dM_find_60 : decode cM_find 60 = .ok (.iload_n 2, 1) := by decide +kernel
theorem dM_find_61 : decode cM_find 61 = .ok (.iload 7, 2) := by decide +kernel
theorem dM_find_63 : decode cM_find 63 = .ok (.iadd, 1) := by decide +kernel
theorem dM_find_64 : decode cM_find 64 = .ok (.iaload, 1) := by decide +kernel
theorem dM_find_65 : decode cM_find 65 = .ok (.if_icmp .ne 7, 3) := by decide +kernel
theorem dM_find_68 : decode cM_find 68 = .ok (.iconst 1, 1) := by decide +kernel
theorem dM_find_69 : decode cM_find 69 = .ok (.goto 4, 3) := by decide +kernel
theorem dM_find_72 : decode cM_find 72 = .ok (.iconst 0, 1) := by decide +kernel
theorem dM_find_73 : decode cM_find 73 = .ok (.istore 6, 2) := by decide +kernel
theorem dM_find_75 : decode cM_find 75 = .ok (.iinc 7 1, 3) := by decide +kernel
theorem dM_find_78 : decode cM_find 78 = .ok (.goto (-44), 3) := by decide +kernel
theorem dM_find_81 : decode cM_find 81 = .ok (.iload 6, 2) := by decide +kernel
theorem dM_find_83 : decode cM_find 83 = .ok (.ifCond .eq 8, 3) := by decide +kernel
theorem dM_find_86 : decode cM_find 86 = .ok (.iload 5, 2) := by decide +kernel
theorem dM_find_88 : decode cM_find 88 = .ok (.goto 5, 3) := by decide +kernel
theorem dM_find_91 : decode cM_find 91 = .ok (.iload 4, 2) := by decide +kernel
theorem dM_find_93 : decode cM_find 93 = .ok (.istore 4, 2) := by decide +kernel
theorem dM_find_95 : decode cM_find 95 = .ok (.iinc 5 1, 3) := by decide +kernel
theorem dM_find_98 : decode cM_find 98 = .ok (.goto (-92), 3) := by decide +kernel
theorem dM_find_101 : decode cM_find 101 = .ok (.iload 4, 2) := by decide +kernel
theorem dM_find_103 : decode cM_find 103 = .ok (.ireturn, 1) := by decide +kernel
theorem dM_drop_0 : decode cM_drop 0 = .ok (.aload_n 0, 1) := by decide +kernel
theorem dM_drop_1 : decode cM_drop 1 = .ok (.iconst 0, 1) := by decide +kernel
theorem dM_drop_2 : decode cM_drop 2 = .ok (.putfield 55, 3) := by decide +kernel
theorem dM_drop_5 : decode cM_drop 5 = .ok (.aload_n 0, 1) := by decide +kernel
theorem dM_drop_6 : decode cM_drop 6 = .ok (.aload_n 0, 1) := by decide +kernel
theorem dM_drop_7 : decode cM_drop 7 = .ok (.getfield 48, 3) := by decide +kernel
theorem dM_drop_10 : decode cM_drop 10 = .ok (.iconst 0, 1) := by decide +kernel
theorem dM_drop_11 : decode cM_drop 11 = .ok (.aload_n 0, 1) := by decide +kernel
theorem dM_drop_12 : decode cM_drop 12 = .ok (.getfield 51, 3) := by decide +kernel
theorem dM_drop_15 : decode cM_drop 15 = .ok (.invokevirtual 75, 3) := by decide +kernel
theorem dM_drop_18 : decode cM_drop 18 = .ok (.istore_n 1, 1) := by decide +kernel
theorem dM_drop_19 : decode cM_drop 19 = .ok (.iload_n 1, 1) := by decide +kernel
theorem dM_drop_20 : decode cM_drop 20 = .ok (.iconst (-1), 1) := by decide +kernel
theorem dM_drop_21 : decode cM_drop 21 = .ok (.if_icmp .ne 5, 3) := by decide +kernel
theorem dM_drop_24 : decode cM_drop 24 = .ok (.iconst 0, 1) := by decide +kernel
theorem dM_drop_25 : decode cM_drop 25 = .ok (.ireturn, 1) := by decide +kernel
theorem dM_drop_26 : decode cM_drop 26 = .ok (.aload_n 0, 1) := by decide +kernel
theorem dM_drop_27 : decode cM_drop 27 = .ok (.getfield 42, 3) := by decide +kernel
theorem dM_drop_30 : decode cM_drop 30 = .ok (.iload_n 1, 1) := by decide +kernel
theorem dM_drop_31 : decode cM_drop 31 = .ok (.iconst 0, 1) := by decide +kernel
theorem dM_drop_32 : decode cM_drop 32 = .ok (.iastore, 1) := by decide +kernel
theorem dM_drop_33 : decode cM_drop 33 = .ok (.aload_n 0, 1) := by decide +kernel
theorem dM_drop_34 : decode cM_drop 34 = .ok (.dup, 1) := by decide +kernel
theorem dM_drop_35 : decode cM_drop 35 = .ok (.getfield 79, 3) := by decide +kernel
theorem dM_drop_38 : decode cM_drop 38 = .ok (.iconst 1, 1) := by decide +kernel
theorem dM_drop_39 : decode cM_drop 39 = .ok (.isub, 1) := by decide +kernel
theorem dM_drop_40 : decode cM_drop 40 = .ok (.putfield 79, 3) := by decide +kernel
theorem dM_drop_43 : decode cM_drop 43 = .ok (.iconst 1, 1) := by decide +kernel
theorem dM_drop_44 : decode cM_drop 44 = .ok (.ireturn, 1) := by decide +kernel
theorem dM_letter_0 : decode cM_letter 0 = .ok (.aload_n 0, 1) := by decide +kernel
theorem dM_letter_1 : decode cM_letter 1 = .ok (.iconst 0, 1) := by decide +kernel
theorem dM_letter_2 : decode cM_letter 2 = .ok (.putfield 55, 3) := by decide +kernel
theorem dM_letter_5 : decode cM_letter 5 = .ok (.aload_n 0, 1) := by decide +kernel
theorem dM_letter_6 : decode cM_letter 6 = .ok (.aload_n 0, 1) := by decide +kernel
theorem dM_letter_7 : decode cM_letter 7 = .ok (.getfield 48, 3) := by decide +kernel
theorem dM_letter_10 : decode cM_letter 10 = .ok (.iconst 0, 1) := by decide +kernel
theorem dM_letter_11 : decode cM_letter 11 = .ok (.aload_n 0, 1) := by decide +kernel
theorem dM_letter_12 : decode cM_letter 12 = .ok (.getfield 51, 3) := by decide +kernel
theorem dM_letter_15 : decode cM_letter 15 = .ok (.invokevirtual 75, 3) := by decide +kernel
theorem dM_letter_18 : decode cM_letter 18 = .ok (.istore_n 2, 1) := by decide +kernel
theorem dM_letter_19 : decode cM_letter 19 = .ok (.iload_n 2, 1) := by decide +kernel
theorem dM_letter_20 : decode cM_letter 20 = .ok (.iconst (-1), 1) := by decide +kernel
theorem dM_letter_21 : decode cM_letter 21 = .ok (.if_icmp .eq 31, 3) := by decide +kernel
theorem dM_letter_24 : decode cM_letter 24 = .ok (.iload_n 1, 1) := by decide +kernel
theorem dM_letter_25 : decode cM_letter 25 = .ok (.ifCond .lt 27, 3) := by decide +kernel
theorem dM_letter_28 : decode cM_letter 28 = .ok (.iload_n 1, 1) := by decide +kernel
theorem dM_letter_29 : decode cM_letter 29 = .ok (.aload_n 0, 1) := by decide +kernel
theorem dM_letter_30 : decode cM_letter 30 = .ok (.getfield 45, 3) := by decide +kernel
theorem dM_letter_33 : decode cM_letter 33 = .ok (.iload_n 2, 1) := by decide +kernel
theorem dM_letter_34 : decode cM_letter 34 = .ok (.iaload, 1) := by decide +kernel
theorem dM_letter_35 : decode cM_letter 35 = .ok (.if_icmp .ge 17, 3) := by decide +kernel
theorem dM_letter_38 : decode cM_letter 38 = .ok (.aload_n 0, 1) := by decide +kernel
theorem dM_letter_39 : decode cM_letter 39 = .ok (.getfield 39, 3) := by decide +kernel
theorem dM_letter_42 : decode cM_letter 42 = .ok (.bipush 24, 2) := by decide +kernel
theorem dM_letter_44 : decode cM_letter 44 = .ok (.iload_n 2, 1) := by decide +kernel
theorem dM_letter_45 : decode cM_letter 45 = .ok (.imul, 1) := by decide +kernel
theorem dM_letter_46 : decode cM_letter 46 = .ok (.iload_n 1, 1) := by decide +kernel
theorem dM_letter_47 : decode cM_letter 47 = .ok (.iadd, 1) := by decide +kernel
theorem dM_letter_48 : decode cM_letter 48 = .ok (.iaload, 1) := by decide +kernel
theorem dM_letter_49 : decode cM_letter 49 = .ok (.goto 4, 3) := by decide +kernel
theorem dM_letter_52 : decode cM_letter 52 = .ok (.iconst (-1), 1) := by decide +kernel
theorem dM_letter_53 : decode cM_letter 53 = .ok (.ireturn, 1) := by decide +kernel
theorem dM_sign_0 : decode cM_sign 0 = .ok (.aload_n 0, 1) := by decide +kernel
theorem dM_sign_1 : decode cM_sign 1 = .ok (.getfield 108, 3) := by decide +kernel
theorem dM_sign_4 : decode cM_sign 4 = .ok (.aload_n 0, 1) := by decide +kernel
theorem dM_sign_5 : decode cM_sign 5 = .ok (.getfield 111, 3) := by decide +kernel
theorem dM_sign_8 : decode cM_sign 8 = .ok (.if_icmp .ge 58, 3) := by decide +kernel
theorem dM_sign_11 : decode cM_sign 11 = .ok (.aload_n 0, 1) := by decide +kernel
theorem dM_sign_12 : decode cM_sign 12 = .ok (.getfield 13, 3) := by decide +kernel
theorem dM_sign_15 : decode cM_sign 15 = .ok (.aload_n 0, 1) := by decide +kernel
theorem dM_sign_16 : decode cM_sign 16 = .ok (.getfield 108, 3) := by decide +kernel
theorem dM_sign_19 : decode cM_sign 19 = .ok (.iaload, 1) := by decide +kernel
theorem dM_sign_20 : decode cM_sign 20 = .ok (.bipush 9, 2) := by decide +kernel
theorem dM_sign_22 : decode cM_sign 22 = .ok (.if_icmp .eq 31, 3) := by decide +kernel
theorem dM_sign_25 : decode cM_sign 25 = .ok (.aload_n 0, 1) := by decide +kernel
theorem dM_sign_26 : decode cM_sign 26 = .ok (.getfield 13, 3) := by decide +kernel
theorem dM_sign_29 : decode cM_sign 29 = .ok (.aload_n 0, 1) := by decide +kernel
theorem dM_sign_30 : decode cM_sign 30 = .ok (.getfield 108, 3) := by decide +kernel
theorem dM_sign_33 : decode cM_sign 33 = .ok (.iaload, 1) := by decide +kernel
theorem dM_sign_34 : decode cM_sign 34 = .ok (.bipush 10, 2) := by decide +kernel
theorem dM_sign_36 : decode cM_sign 36 = .ok (.if_icmp .eq 17, 3) := by decide +kernel
theorem dM_sign_39 : decode cM_sign 39 = .ok (.aload_n 0, 1) := by decide +kernel
theorem dM_sign_40 : decode cM_sign 40 = .ok (.getfield 13, 3) := by decide +kernel
theorem dM_sign_43 : decode cM_sign 43 = .ok (.aload_n 0, 1) := by decide +kernel
theorem dM_sign_44 : decode cM_sign 44 = .ok (.getfield 108, 3) := by decide +kernel
theorem dM_sign_47 : decode cM_sign 47 = .ok (.iaload, 1) := by decide +kernel
theorem dM_sign_48 : decode cM_sign 48 = .ok (.bipush 32, 2) := by decide +kernel
theorem dM_sign_50 : decode cM_sign 50 = .ok (.if_icmp .ne 16, 3) := by decide +kernel
theorem dM_sign_53 : decode cM_sign 53 = .ok (.aload_n 0, 1) := by decide +kernel
theorem dM_sign_54 : decode cM_sign 54 = .ok (.dup, 1) := by decide +kernel
theorem dM_sign_55 : decode cM_sign 55 = .ok (.getfield 108, 3) := by decide +kernel
theorem dM_sign_58 : decode cM_sign 58 = .ok (.iconst 1, 1) := by decide +kernel
theorem dM_sign_59 : decode cM_sign 59 = .ok (.iadd, 1) := by decide +kernel
theorem dM_sign_60 : decode cM_sign 60 = .ok (.putfield 108, 3) := by decide +kernel
theorem dM_sign_63 : decode cM_sign 63 = .ok (.goto (-63), 3) := by decide +kernel
theorem dM_sign_66 : decode cM_sign 66 = .ok (.aload_n 0, 1) := by decide +kernel
theorem dM_sign_67 : decode cM_sign 67 = .ok (.getfield 108, 3) := by decide +kernel
theorem dM_sign_70 : decode cM_sign 70 = .ok (.aload_n 0, 1) := by decide +kernel
theorem dM_sign_71 : decode cM_sign 71 = .ok (.getfield 111, 3) := by decide +kernel
theorem dM_sign_74 : decode cM_sign 74 = .ok (.if_icmp .ge 15, 3) := by decide +kernel
theorem dM_sign_77 : decode cM_sign 77 = .ok (.aload_n 0, 1) := by decide +kernel
theorem dM_sign_78 : decode cM_sign 78 = .ok (.getfield 13, 3) := by decide +kernel
theorem dM_sign_81 : decode cM_sign 81 = .ok (.aload_n 0, 1) := by decide +kernel
theorem dM_sign_82 : decode cM_sign 82 = .ok (.getfield 108, 3) := by decide +kernel
theorem dM_sign_85 : decode cM_sign 85 = .ok (.iaload, 1) := by decide +kernel
theorem dM_sign_86 : decode cM_sign 86 = .ok (.goto 4, 3) := by decide +kernel
theorem dM_sign_89 : decode cM_sign 89 = .ok (.iconst (-1), 1) := by decide +kernel
theorem dM_sign_90 : decode cM_sign 90 = .ok (.ireturn, 1) := by decide +kernel
theorem dM_plain_0 : decode cM_plain 0 = .ok (.aload_n 0, 1) := by decide +kernel
theorem dM_plain_1 : decode cM_plain 1 = .ok (.iload_n 1, 1) := by decide +kernel
theorem dM_plain_2 : decode cM_plain 2 = .ok (.iload_n 2, 1) := by decide +kernel
theorem dM_plain_3 : decode cM_plain 3 = .ok (.iconst 0, 1) := by decide +kernel
theorem dM_plain_4 : decode cM_plain 4 = .ok (.iconst 0, 1) := by decide +kernel
theorem dM_plain_5 : decode cM_plain 5 = .ok (.lconst 0, 1) := by decide +kernel
theorem dM_plain_6 : decode cM_plain 6 = .ok (.invokevirtual 117, 3) := by decide +kernel
theorem dM_plain_9 : decode cM_plain 9 = .ok (.return_, 1) := by decide +kernel
theorem dM_wait_0 : decode cM_wait 0 = .ok (.aload_n 0, 1) := by decide +kernel
theorem dM_wait_1 : decode cM_wait 1 = .ok (.getfield 16, 3) := by decide +kernel
theorem dM_wait_4 : decode cM_wait 4 = .ok (.aload_n 0, 1) := by decide +kernel
theorem dM_wait_5 : decode cM_wait 5 = .ok (.getfield 114, 3) := by decide +kernel
theorem dM_wait_8 : decode cM_wait 8 = .ok (.iload_n 1, 1) := by decide +kernel
theorem dM_wait_9 : decode cM_wait 9 = .ok (.iastore, 1) := by decide +kernel
theorem dM_wait_10 : decode cM_wait 10 = .ok (.aload_n 0, 1) := by decide +kernel
theorem dM_wait_11 : decode cM_wait 11 = .ok (.getfield 25, 3) := by decide +kernel
theorem dM_wait_14 : decode cM_wait 14 = .ok (.aload_n 0, 1) := by decide +kernel
theorem dM_wait_15 : decode cM_wait 15 = .ok (.getfield 114, 3) := by decide +kernel
theorem dM_wait_18 : decode cM_wait 18 = .ok (.iload_n 2, 1) := by decide +kernel
theorem dM_wait_19 : decode cM_wait 19 = .ok (.bastore, 1) := by decide +kernel
theorem dM_wait_20 : decode cM_wait 20 = .ok (.aload_n 0, 1) := by decide +kernel
theorem dM_wait_21 : decode cM_wait 21 = .ok (.getfield 19, 3) := by decide +kernel
theorem dM_wait_24 : decode cM_wait 24 = .ok (.aload_n 0, 1) := by decide +kernel
theorem dM_wait_25 : decode cM_wait 25 = .ok (.getfield 114, 3) := by decide +kernel
theorem dM_wait_28 : decode cM_wait 28 = .ok (.iload_n 3, 1) := by decide +kernel
theorem dM_wait_29 : decode cM_wait 29 = .ok (.iastore, 1) := by decide +kernel
theorem dM_wait_30 : decode cM_wait 30 = .ok (.aload_n 0, 1) := by decide +kernel
theorem dM_wait_31 : decode cM_wait 31 = .ok (.getfield 22, 3) := by decide +kernel
theorem dM_wait_34 : decode cM_wait 34 = .ok (.aload_n 0, 1) := by decide +kernel
theorem dM_wait_35 : decode cM_wait 35 = .ok (.getfield 114, 3) := by decide +kernel
theorem dM_wait_38 : decode cM_wait 38 = .ok (.iload 4, 2) := by decide +kernel
theorem dM_wait_40 : decode cM_wait 40 = .ok (.iastore, 1) := by decide +kernel
theorem dM_wait_41 : decode cM_wait 41 = .ok (.aload_n 0, 1) := by decide +kernel
theorem dM_wait_42 : decode cM_wait 42 = .ok (.getfield 29, 3) := by decide +kernel
theorem dM_wait_45 : decode cM_wait 45 = .ok (.aload_n 0, 1) := by decide +kernel
theorem dM_wait_46 : decode cM_wait 46 = .ok (.getfield 114, 3) := by decide +kernel
theorem dM_wait_49 : decode cM_wait 49 = .ok (.lload 5, 2) := by decide +kernel
theorem dM_wait_51 : decode cM_wait 51 = .ok (.lastore, 1) := by decide +kernel
theorem dM_wait_52 : decode cM_wait 52 = .ok (.aload_n 0, 1) := by decide +kernel
theorem dM_wait_53 : decode cM_wait 53 = .ok (.dup, 1) := by decide +kernel
theorem dM_wait_54 : decode cM_wait 54 = .ok (.getfield 114, 3) := by decide +kernel
theorem dM_wait_57 : decode cM_wait 57 = .ok (.iconst 1, 1) := by decide +kernel
theorem dM_wait_58 : decode cM_wait 58 = .ok (.iadd, 1) := by decide +kernel
theorem dM_wait_59 : decode cM_wait 59 = .ok (.putfield 114, 3) := by decide +kernel
theorem dM_wait_62 : decode cM_wait 62 = .ok (.return_, 1) := by decide +kernel
theorem dM_nameEnd_0 : decode cM_nameEnd 0 = .ok (.aload_n 0, 1) := by decide +kernel
theorem dM_nameEnd_1 : decode cM_nameEnd 1 = .ok (.getfield 108, 3) := by decide +kernel
theorem dM_nameEnd_4 : decode cM_nameEnd 4 = .ok (.istore_n 1, 1) := by decide +kernel
theorem dM_nameEnd_5 : decode cM_nameEnd 5 = .ok (.iload_n 1, 1) := by decide +kernel
theorem dM_nameEnd_6 : decode cM_nameEnd 6 = .ok (.aload_n 0, 1) := by decide +kernel
theorem dM_nameEnd_7 : decode cM_nameEnd 7 = .ok (.getfield 111, 3) := by decide +kernel
theorem dM_nameEnd_10 : decode cM_nameEnd 10 = .ok (.if_icmp .ge 33, 3) := by decide +kernel
theorem dM_nameEnd_13 : decode cM_nameEnd 13 = .ok (.aload_n 0, 1) := by decide +kernel
theorem dM_nameEnd_14 : decode cM_nameEnd 14 = .ok (.getfield 13, 3) := by decide +kernel
theorem dM_nameEnd_17 : decode cM_nameEnd 17 = .ok (.iload_n 1, 1) := by decide +kernel
theorem dM_nameEnd_18 : decode cM_nameEnd 18 = .ok (.iaload, 1) := by decide +kernel
theorem dM_nameEnd_19 : decode cM_nameEnd 19 = .ok (.invokestatic 82, 3) := by decide +kernel
theorem dM_nameEnd_22 : decode cM_nameEnd 22 = .ok (.ifCond .ne 15, 3) := by decide +kernel
theorem dM_nameEnd_25 : decode cM_nameEnd 25 = .ok (.aload_n 0, 1) := by decide +kernel
theorem dM_nameEnd_26 : decode cM_nameEnd 26 = .ok (.getfield 13, 3) := by decide +kernel
theorem dM_nameEnd_29 : decode cM_nameEnd 29 = .ok (.iload_n 1, 1) := by decide +kernel
theorem dM_nameEnd_30 : decode cM_nameEnd 30 = .ok (.iaload, 1) := by decide +kernel
theorem dM_nameEnd_31 : decode cM_nameEnd 31 = .ok (.invokestatic 85, 3) := by decide +kernel
theorem dM_nameEnd_34 : decode cM_nameEnd 34 = .ok (.ifCond .eq 9, 3) := by decide +kernel
theorem dM_nameEnd_37 : decode cM_nameEnd 37 = .ok (.iinc 1 1, 3) := by decide +kernel
theorem dM_nameEnd_40 : decode cM_nameEnd 40 = .ok (.goto (-35), 3) := by decide +kernel
theorem dM_nameEnd_43 : decode cM_nameEnd 43 = .ok (.iload_n 1, 1) := by decide +kernel
theorem dM_nameEnd_44 : decode cM_nameEnd 44 = .ok (.ireturn, 1) := by decide +kernel
theorem dM_at_0 : decode cM_at 0 = .ok (.aload_n 0, 1) := by decide +kernel
theorem dM_at_1 : decode cM_at 1 = .ok (.getfield 108, 3) := by decide +kernel
theorem dM_at_4 : decode cM_at 4 = .ok (.iload_n 1, 1) := by decide +kernel
theorem dM_at_5 : decode cM_at 5 = .ok (.iadd, 1) := by decide +kernel
theorem dM_at_6 : decode cM_at 6 = .ok (.aload_n 0, 1) := by decide +kernel
theorem dM_at_7 : decode cM_at 7 = .ok (.getfield 111, 3) := by decide +kernel
theorem dM_at_10 : decode cM_at 10 = .ok (.if_icmp .ge 17, 3) := by decide +kernel
theorem dM_at_13 : decode cM_at 13 = .ok (.aload_n 0, 1) := by decide +kernel
theorem dM_at_14 : decode cM_at 14 = .ok (.getfield 13, 3) := by decide +kernel
theorem dM_at_17 : decode cM_at 17 = .ok (.aload_n 0, 1) := by decide +kernel
theorem dM_at_18 : decode cM_at 18 = .ok (.getfield 108, 3) := by decide +kernel
theorem dM_at_21 : decode cM_at 21 = .ok (.iload_n 1, 1) := by decide +kernel
theorem dM_at_22 : decode cM_at 22 = .ok (.iadd, 1) := by decide +kernel
theorem dM_at_23 : decode cM_at 23 = .ok (.iaload, 1) := by decide +kernel
theorem dM_at_24 : decode cM_at 24 = .ok (.goto 4, 3) := by decide +kernel
theorem dM_at_27 : decode cM_at 27 = .ok (.iconst (-1), 1) := by decide +kernel
theorem dM_at_28 : decode cM_at 28 = .ok (.ireturn, 1) := by decide +kernel
theorem dM_inner_0 : decode cM_inner 0 = .ok (.aload_n 0, 1) := by decide +kernel
theorem dM_inner_1 : decode cM_inner 1 = .ok (.getfield 124, 3) := by decide +kernel
theorem dM_inner_4 : decode cM_inner 4 = .ok (.bipush 40, 2) := by decide +kernel
theorem dM_inner_6 : decode cM_inner 6 = .ok (.if_icmp .ne 8, 3) := by decide +kernel
theorem dM_inner_9 : decode cM_inner 9 = .ok (.aload_n 0, 1) := by decide +kernel
theorem dM_inner_10 : decode cM_inner 10 = .ok (.iconst 1, 1) := by decide +kernel
theorem dM_inner_11 : decode cM_inner 11 = .ok (.putfield 102, 3) := by decide +kernel
theorem dM_inner_14 : decode cM_inner 14 = .ok (.aload_n 0, 1) := by decide +kernel
theorem dM_inner_15 : decode cM_inner 15 = .ok (.dup, 1) := by decide +kernel
theorem dM_inner_16 : decode cM_inner 16 = .ok (.getfield 124, 3) := by decide +kernel
theorem dM_inner_19 : decode cM_inner 19 = .ok (.iconst 1, 1) := by decide +kernel
theorem dM_inner_20 : decode cM_inner 20 = .ok (.iadd, 1) := by decide +kernel
theorem dM_inner_21 : decode cM_inner 21 = .ok (.putfield 124, 3) := by decide +kernel
theorem dM_inner_24 : decode cM_inner 24 = .ok (.return_, 1) := by decide +kernel
theorem dM_taken_0 : decode cM_taken 0 = .ok (.aload_n 0, 1) := by decide +kernel
theorem dM_taken_1 : decode cM_taken 1 = .ok (.dup, 1) := by decide +kernel
theorem dM_taken_2 : decode cM_taken 2 = .ok (.getfield 121, 3) := by decide +kernel
theorem dM_taken_5 : decode cM_taken 5 = .ok (.iconst 1, 1) := by decide +kernel
theorem dM_taken_6 : decode cM_taken 6 = .ok (.isub, 1) := by decide +kernel
theorem dM_taken_7 : decode cM_taken 7 = .ok (.putfield 121, 3) := by decide +kernel
theorem dM_taken_10 : decode cM_taken 10 = .ok (.aload_n 0, 1) := by decide +kernel
theorem dM_taken_11 : decode cM_taken 11 = .ok (.getfield 33, 3) := by decide +kernel
theorem dM_taken_14 : decode cM_taken 14 = .ok (.aload_n 0, 1) := by decide +kernel
theorem dM_taken_15 : decode cM_taken 15 = .ok (.getfield 121, 3) := by decide +kernel
theorem dM_taken_18 : decode cM_taken 18 = .ok (.laload, 1) := by decide +kernel
theorem dM_taken_19 : decode cM_taken 19 = .ok (.lreturn, 1) := by decide +kernel
theorem dM_keep_0 : decode cM_keep 0 = .ok (.aload_n 0, 1) := by decide +kernel
theorem dM_keep_1 : decode cM_keep 1 = .ok (.getfield 33, 3) := by decide +kernel
theorem dM_keep_4 : decode cM_keep 4 = .ok (.aload_n 0, 1) := by decide +kernel
theorem dM_keep_5 : decode cM_keep 5 = .ok (.getfield 121, 3) := by decide +kernel
theorem dM_keep_8 : decode cM_keep 8 = .ok (.lload_n 1, 1) := by decide +kernel
theorem dM_keep_9 : decode cM_keep 9 = .ok (.lastore, 1) := by decide +kernel
theorem dM_keep_10 : decode cM_keep 10 = .ok (.aload_n 0, 1) := by decide +kernel
theorem dM_keep_11 : decode cM_keep 11 = .ok (.dup, 1) := by decide +kernel
theorem dM_keep_12 : decode cM_keep 12 = .ok (.getfield 121, 3) := by decide +kernel
theorem dM_keep_15 : decode cM_keep 15 = .ok (.iconst 1, 1) := by decide +kernel
theorem dM_keep_16 : decode cM_keep 16 = .ok (.iadd, 1) := by decide +kernel
theorem dM_keep_17 : decode cM_keep 17 = .ok (.putfield 121, 3) := by decide +kernel
theorem dM_keep_20 : decode cM_keep 20 = .ok (.return_, 1) := by decide +kernel
theorem dM_named_0 : decode cM_named 0 = .ok (.aload_n 0, 1) := by decide +kernel
theorem dM_named_1 : decode cM_named 1 = .ok (.aload_n 0, 1) := by decide +kernel
theorem dM_named_2 : decode cM_named 2 = .ok (.getfield 13, 3) := by decide +kernel
theorem dM_named_5 : decode cM_named 5 = .ok (.iload_n 1, 1) := by decide +kernel
theorem dM_named_6 : decode cM_named 6 = .ok (.iload_n 2, 1) := by decide +kernel
theorem dM_named_7 : decode cM_named 7 = .ok (.invokevirtual 75, 3) := by decide +kernel
theorem dM_named_10 : decode cM_named 10 = .ok (.istore_n 3, 1) := by decide +kernel
theorem dM_named_11 : decode cM_named 11 = .ok (.iload_n 3, 1) := by decide +kernel
theorem dM_named_12 : decode cM_named 12 = .ok (.iconst (-1), 1) := by decide +kernel
theorem dM_named_13 : decode cM_named 13 = .ok (.if_icmp .eq 12, 3) := by decide +kernel
theorem dM_named_16 : decode cM_named 16 = .ok (.aload_n 0, 1) := by decide +kernel
theorem dM_named_17 : decode cM_named 17 = .ok (.getfield 45, 3) := by decide +kernel
theorem dM_named_20 : decode cM_named 20 = .ok (.iload_n 3, 1) := by decide +kernel
theorem dM_named_21 : decode cM_named 21 = .ok (.iaload, 1) := by decide +kernel
theorem dM_named_22 : decode cM_named 22 = .ok (.ifCond .ne 5, 3) := by decide +kernel
theorem dM_named_25 : decode cM_named 25 = .ok (.lconst 0, 1) := by decide +kernel
theorem dM_named_26 : decode cM_named 26 = .ok (.lreturn, 1) := by decide +kernel
theorem dM_named_27 : decode cM_named 27 = .ok (.bipush 24, 2) := by decide +kernel
theorem dM_named_29 : decode cM_named 29 = .ok (.iload_n 3, 1) := by decide +kernel
theorem dM_named_30 : decode cM_named 30 = .ok (.imul, 1) := by decide +kernel
theorem dM_named_31 : decode cM_named 31 = .ok (.istore 4, 2) := by decide +kernel
theorem dM_named_33 : decode cM_named 33 = .ok (.iload 4, 2) := by decide +kernel
theorem dM_named_35 : decode cM_named 35 = .ok (.aload_n 0, 1) := by decide +kernel
theorem dM_named_36 : decode cM_named 36 = .ok (.getfield 45, 3) := by decide +kernel
theorem dM_named_39 : decode cM_named 39 = .ok (.iload_n 3, 1) := by decide +kernel
theorem dM_named_40 : decode cM_named 40 = .ok (.iaload, 1) := by decide +kernel
theorem dM_named_41 : decode cM_named 41 = .ok (.iadd, 1) := by decide +kernel
theorem dM_named_42 : decode cM_named 42 = .ok (.istore 5, 2) := by decide +kernel
theorem dM_named_44 : decode cM_named 44 = .ok (.aload_n 0, 1) := by decide +kernel
theorem dM_named_45 : decode cM_named 45 = .ok (.getfield 39, 3) := by decide +kernel
theorem dM_named_48 : decode cM_named 48 = .ok (.iload 4, 2) := by decide +kernel
theorem dM_named_50 : decode cM_named 50 = .ok (.iaload, 1) := by decide +kernel
theorem dM_named_51 : decode cM_named 51 = .ok (.bipush 45, 2) := by decide +kernel
theorem dM_named_53 : decode cM_named 53 = .ok (.if_icmp .ne 7, 3) := by decide +kernel
theorem dM_named_56 : decode cM_named 56 = .ok (.iconst 1, 1) := by decide +kernel
theorem dM_named_57 : decode cM_named 57 = .ok (.goto 4, 3) := by decide +kernel
theorem dM_named_60 : decode cM_named 60 = .ok (.iconst 0, 1) := by decide +kernel
theorem dM_named_61 : decode cM_named 61 = .ok (.istore 6, 2) := by decide +kernel
theorem dM_named_63 : decode cM_named 63 = .ok (.iload 4, 2) := by decide +kernel
theorem dM_named_65 : decode cM_named 65 = .ok (.iload 6, 2) := by decide +kernel
theorem dM_named_67 : decode cM_named 67 = .ok (.ifCond .eq 7, 3) := by decide +kernel
theorem dM_named_70 : decode cM_named 70 = .ok (.iconst 1, 1) := by decide +kernel
theorem dM_named_71 : decode cM_named 71 = .ok (.goto 4, 3) := by decide +kernel
theorem dM_named_74 : decode cM_named 74 = .ok (.iconst 0, 1) := by decide +kernel
theorem dM_named_75 : decode cM_named 75 = .ok (.iadd, 1) := by decide +kernel
theorem dM_named_76 : decode cM_named 76 = .ok (.istore 4, 2) := by decide +kernel
theorem dM_named_78 : decode cM_named 78 = .ok (.iload 4, 2) := by decide +kernel
theorem dM_named_80 : decode cM_named 80 = .ok (.iload 5, 2) := by decide +kernel
theorem dM_named_82 : decode cM_named 82 = .ok (.if_icmp .eq 33, 3) := by decide +kernel
theorem dM_named_85 : decode cM_named 85 = .ok (.aload_n 0, 1) := by decide +kernel
theorem dM_named_86 : decode cM_named 86 = .ok (.getfield 39, 3) := by decide +kernel
theorem dM_named_89 : decode cM_named 89 = .ok (.iload 4, 2) := by decide +kernel
theorem dM_named_91 : decode cM_named 91 = .ok (.iaload, 1) := by decide +kernel
theorem dM_named_92 : decode cM_named 92 = .ok (.invokestatic 85, 3) := by decide +kernel
theorem dM_named_95 : decode cM_named 95 = .ok (.ifCond .eq 20, 3) := by decide +kernel
theorem dM_named_98 : decode cM_named 98 = .ok (.aload_n 0, 1) := by decide +kernel
theorem dM_named_99 : decode cM_named 99 = .ok (.aload_n 0, 1) := by decide +kernel
theorem dM_named_100 : decode cM_named 100 = .ok (.getfield 39, 3) := by decide +kernel
theorem dM_named_103 : decode cM_named 103 = .ok (.iload 4, 2) := by decide +kernel
theorem dM_named_105 : decode cM_named 105 = .ok (.iload 5, 2) := by decide +kernel
theorem dM_named_107 : decode cM_named 107 = .ok (.invokevirtual 99, 3) := by decide +kernel
theorem dM_named_110 : decode cM_named 110 = .ok (.iload 5, 2) := by decide +kernel
theorem dM_named_112 : decode cM_named 112 = .ok (.if_icmp .eq 10, 3) := by decide +kernel
theorem dM_named_115 : decode cM_named 115 = .ok (.aload_n 0, 1) := by decide +kernel
theorem dM_named_116 : decode cM_named 116 = .ok (.iconst 1, 1) := by decide +kernel
theorem dM_named_117 : decode cM_named 117 = .ok (.putfield 102, 3) := by decide +kernel
theorem dM_named_120 : decode cM_named 120 = .ok (.lconst 0, 1) := by decide +kernel
theorem dM_named_121 : decode cM_named 121 = .ok (.lreturn, 1) := by decide +kernel
theorem dM_named_122 : decode cM_named 122 = .ok (.iload 6, 2) := by decide +kernel
theorem dM_named_124 : decode cM_named 124 = .ok (.ifCond .eq 11, 3) := by decide +kernel
theorem dM_named_127 : decode cM_named 127 = .ok (.aload_n 0, 1) := by decide +kernel
theorem dM_named_128 : decode cM_named 128 = .ok (.getfield 91, 3) := by decide +kernel
theorem dM_named_131 : decode cM_named 131 = .ok (.lneg, 1) := by decide +kernel
theorem dM_named_132 : decode cM_named 132 = .ok (.goto 7, 3) := by decide +kernel
theorem dM_named_135 : decode cM_named 135 = .ok (.aload_n 0, 1) := by decide +kernel
theorem dM_named_136 : decode cM_named 136 = .ok (.getfield 91, 3) := by decide +kernel
theorem dM_named_139 : decode cM_named 139 = .ok (.lreturn, 1) := by decide +kernel
theorem dM_numberEnd_0 : decode cM_numberEnd 0 = .ok (.aload_n 1, 1) := by decide +kernel
theorem dM_numberEnd_1 : decode cM_numberEnd 1 = .ok (.iload_n 2, 1) := by decide +kernel
theorem dM_numberEnd_2 : decode cM_numberEnd 2 = .ok (.iaload, 1) := by decide +kernel
theorem dM_numberEnd_3 : decode cM_numberEnd 3 = .ok (.bipush 48, 2) := by decide +kernel
theorem dM_numberEnd_5 : decode cM_numberEnd 5 = .ok (.if_icmp .ne 7, 3) := by decide +kernel
theorem dM_numberEnd_8 : decode cM_numberEnd 8 = .ok (.iconst 1, 1) := by decide +kernel
theorem dM_numberEnd_9 : decode cM_numberEnd 9 = .ok (.goto 4, 3) := by decide +kernel
theorem dM_numberEnd_12 : decode cM_numberEnd 12 = .ok (.iconst 0, 1) := by decide +kernel
theorem dM_numberEnd_13 : decode cM_numberEnd 13 = .ok (.istore 4, 2) := by decide +kernel
theorem dM_numberEnd_15 : decode cM_numberEnd 15 = .ok (.iload 4, 2) := by decide +kernel
theorem dM_numberEnd_17 : decode cM_numberEnd 17 = .ok (.ifCond .eq 34, 3) := by decide +kernel
theorem dM_numberEnd_20 : decode cM_numberEnd 20 = .ok (.iload_n 2, 1) := by decide +kernel
theorem dM_numberEnd_21 : decode cM_numberEnd 21 = .ok (.iconst 1, 1) := by decide +kernel
theorem dM_numberEnd_22 : decode cM_numberEnd 22 = .ok (.iadd, 1) := by decide +kernel
theorem dM_numberEnd_23 : decode cM_numberEnd 23 = .ok (.iload_n 3, 1) := by decide +kernel
theorem dM_numberEnd_24 : decode cM_numberEnd 24 = .ok (.if_icmp .ge 27, 3) := by decide +kernel
theorem dM_numberEnd_27 : decode cM_numberEnd 27 = .ok (.aload_n 1, 1) := by decide +kernel
theorem dM_numberEnd_28 : decode cM_numberEnd 28 = .ok (.iload_n 2, 1) := by decide +kernel
theorem dM_numberEnd_29 : decode cM_numberEnd 29 = .ok (.iconst 1, 1) := by decide +kernel
theorem dM_numberEnd_30 : decode cM_numberEnd 30 = .ok (.iadd, 1) := by decide +kernel
theorem dM_numberEnd_31 : decode cM_numberEnd 31 = .ok (.iaload, 1) := by decide +kernel
theorem dM_numberEnd_32 : decode cM_numberEnd 32 = .ok (.bipush 120, 2) := by decide +kernel
theorem dM_numberEnd_34 : decode cM_numberEnd 34 = .ok (.if_icmp .eq 13, 3) := by decide +kernel
theorem dM_numberEnd_37 : decode cM_numberEnd 37 = .ok (.aload_n 1, 1) := by decide +kernel
theorem dM_numberEnd_38 : decode cM_numberEnd 38 = .ok (.iload_n 2, 1) := by decide +kernel
theorem dM_numberEnd_39 : decode cM_numberEnd 39 = .ok (.iconst 1, 1) := by decide +kernel
theorem dM_numberEnd_40 : decode cM_numberEnd 40 = .ok (.iadd, 1) := by decide +kernel
theorem dM_numberEnd_41 : decode cM_numberEnd 41 = .ok (.iaload, 1) := by decide +kernel
theorem dM_numberEnd_42 : decode cM_numberEnd 42 = .ok (.bipush 88, 2) := by decide +kernel
theorem dM_numberEnd_44 : decode cM_numberEnd 44 = .ok (.if_icmp .ne 7, 3) := by decide +kernel
theorem dM_numberEnd_47 : decode cM_numberEnd 47 = .ok (.iconst 1, 1) := by decide +kernel
theorem dM_numberEnd_48 : decode cM_numberEnd 48 = .ok (.goto 4, 3) := by decide +kernel
theorem dM_numberEnd_51 : decode cM_numberEnd 51 = .ok (.iconst 0, 1) := by decide +kernel
theorem dM_numberEnd_52 : decode cM_numberEnd 52 = .ok (.istore 5, 2) := by decide +kernel
theorem dM_numberEnd_54 : decode cM_numberEnd 54 = .ok (.iload 5, 2) := by decide +kernel
theorem dM_numberEnd_56 : decode cM_numberEnd 56 = .ok (.ifCond .eq 8, 3) := by decide +kernel
theorem dM_numberEnd_59 : decode cM_numberEnd 59 = .ok (.bipush 16, 2) := by decide +kernel
theorem dM_numberEnd_61 : decode cM_numberEnd 61 = .ok (.goto 15, 3) := by decide +kernel
theorem dM_numberEnd_64 : decode cM_numberEnd 64 = .ok (.iload 4, 2) := by decide +kernel
theorem dM_numberEnd_66 : decode cM_numberEnd 66 = .ok (.ifCond .eq 8, 3) := by decide +kernel
theorem dM_numberEnd_69 : decode cM_numberEnd 69 = .ok (.bipush 8, 2) := by decide +kernel
theorem dM_numberEnd_71 : decode cM_numberEnd 71 = .ok (.goto 5, 3) := by decide +kernel
theorem dM_numberEnd_74 : decode cM_numberEnd 74 = .ok (.bipush 10, 2) := by decide +kernel
theorem dM_numberEnd_76 : decode cM_numberEnd 76 = .ok (.istore 6, 2) := by decide +kernel
theorem dM_numberEnd_78 : decode cM_numberEnd 78 = .ok (.iload 5, 2) := by decide +kernel
theorem dM_numberEnd_80 : decode cM_numberEnd 80 = .ok (.ifCond .eq 9, 3) := by decide +kernel
theorem dM_numberEnd_83 : decode cM_numberEnd 83 = .ok (.iload_n 2, 1) := by decide +kernel
theorem dM_numberEnd_84 : decode cM_numberEnd 84 = .ok (.iconst 2, 1) := by decide +kernel
theorem dM_numberEnd_85 : decode cM_numberEnd 85 = .ok (.iadd, 1) := by decide +kernel
theorem dM_numberEnd_86 : decode cM_numberEnd 86 = .ok (.goto 4, 3) := by decide +kernel
theorem dM_numberEnd_89 : decode cM_numberEnd 89 = .ok (.iload_n 2, 1) := by decide +kernel
theorem dM_numberEnd_90 : decode cM_numberEnd 90 = .ok (.istore 7, 2) := by decide +kernel
theorem dM_numberEnd_92 : decode cM_numberEnd 92 = .ok (.iload 7, 2) := by decide +kernel
theorem dM_numberEnd_94 : decode cM_numberEnd 94 = .ok (.istore 8, 2) := by decide +kernel
theorem dM_numberEnd_96 : decode cM_numberEnd 96 = .ok (.aload_n 0, 1) := by decide +kernel
theorem dM_numberEnd_97 : decode cM_numberEnd 97 = .ok (.lconst 0, 1) := by decide +kernel
theorem dM_numberEnd_98 : decode cM_numberEnd 98 = .ok (.putfield 91, 3) := by decide +kernel
theorem dM_numberEnd_101 : decode cM_numberEnd 101 = .ok (.iload 7, 2) := by decide +kernel
theorem dM_numberEnd_103 : decode cM_numberEnd 103 = .ok (.iload_n 3, 1) := by decide +kernel
theorem dM_numberEnd_104 : decode cM_numberEnd 104 = .ok (.if_icmp .ge 63, 3) := by decide +kernel
theorem dM_numberEnd_107 : decode cM_numberEnd 107 = .ok (.aload_n 1, 1) := by decide +kernel
theorem dM_numberEnd_108 : decode cM_numberEnd 108 = .ok (.iload 7, 2) := by decide +kernel
theorem dM_numberEnd_110 : decode cM_numberEnd 110 = .ok (.iaload, 1) := by decide +kernel
theorem dM_numberEnd_111 : decode cM_numberEnd 111 = .ok (.invokestatic 82, 3) := by decide +kernel
theorem dM_numberEnd_114 : decode cM_numberEnd 114 = .ok (.ifCond .ne 13, 3) := by decide +kernel
theorem dM_numberEnd_117 : decode cM_numberEnd 117 = .ok (.aload_n 1, 1) := by decide +kernel
theorem dM_numberEnd_118 : decode cM_numberEnd 118 = .ok (.iload 7, 2) := by decide +kernel
theorem dM_numberEnd_120 : decode cM_numberEnd 120 = .ok (.iaload, 1) := by decide +kernel
theorem dM_numberEnd_121 : decode cM_numberEnd 121 = .ok (.invokestatic 85, 3) := by decide +kernel
theorem dM_numberEnd_124 : decode cM_numberEnd 124 = .ok (.ifCond .eq 43, 3) := by decide +kernel
theorem dM_numberEnd_127 : decode cM_numberEnd 127 = .ok (.aload_n 1, 1) := by decide +kernel
theorem dM_numberEnd_128 : decode cM_numberEnd 128 = .ok (.iload 7, 2) := by decide +kernel
theorem dM_numberEnd_130 : decode cM_numberEnd 130 = .ok (.iaload, 1) := by decide +kernel
theorem dM_numberEnd_131 : decode cM_numberEnd 131 = .ok (.invokestatic 95, 3) := by decide +kernel
theorem dM_numberEnd_134 : decode cM_numberEnd 134 = .ok (.istore 9, 2) := by decide +kernel
theorem dM_numberEnd_136 : decode cM_numberEnd 136 = .ok (.iload 9, 2) := by decide +kernel
theorem dM_numberEnd_138 : decode cM_numberEnd 138 = .ok (.iload 6, 2) := by decide +kernel
theorem dM_numberEnd_140 : decode cM_numberEnd 140 = .ok (.if_icmp .lt 5, 3) := by decide +kernel
theorem dM_numberEnd_143 : decode cM_numberEnd 143 = .ok (.iconst (-1), 1) := by decide +kernel
theorem dM_numberEnd_144 : decode cM_numberEnd 144 = .ok (.ireturn, 1) := by decide +kernel
theorem dM_numberEnd_145 : decode cM_numberEnd 145 = .ok (.aload_n 0, 1) := by decide +kernel
theorem dM_numberEnd_146 : decode cM_numberEnd 146 = .ok (.aload_n 0, 1) := by decide +kernel
theorem dM_numberEnd_147 : decode cM_numberEnd 147 = .ok (.getfield 91, 3) := by decide +kernel
theorem dM_numberEnd_150 : decode cM_numberEnd 150 = .ok (.iload 6, 2) := by decide +kernel
theorem dM_numberEnd_152 : decode cM_numberEnd 152 = .ok (.i2l, 1) := by decide +kernel
theorem dM_numberEnd_153 : decode cM_numberEnd 153 = .ok (.lmul, 1) := by decide +kernel
theorem dM_numberEnd_154 : decode cM_numberEnd 154 = .ok (.iload 9, 2) := by decide +kernel
theorem dM_numberEnd_156 : decode cM_numberEnd 156 = .ok (.i2l, 1) := by decide +kernel
theorem dM_numberEnd_157 : decode cM_numberEnd 157 = .ok (.ladd, 1) := by decide +kernel
theorem dM_numberEnd_158 : decode cM_numberEnd 158 = .ok (.putfield 91, 3) := by decide +kernel
theorem dM_numberEnd_161 : decode cM_numberEnd 161 = .ok (.iinc 7 1, 3) := by decide +kernel
theorem dM_numberEnd_164 : decode cM_numberEnd 164 = .ok (.goto (-63), 3) := by decide +kernel
theorem dM_numberEnd_167 : decode cM_numberEnd 167 = .ok (.iload 7, 2) := by decide +kernel
theorem dM_numberEnd_169 : decode cM_numberEnd 169 = .ok (.iload 8, 2) := by decide +kernel
theorem dM_numberEnd_171 : decode cM_numberEnd 171 = .ok (.if_icmp .ne 7, 3) := by decide +kernel
theorem dM_numberEnd_174 : decode cM_numberEnd 174 = .ok (.iconst (-1), 1) := by decide +kernel
theorem dM_numberEnd_175 : decode cM_numberEnd 175 = .ok (.goto 5, 3) := by decide +kernel
theorem dM_numberEnd_178 : decode cM_numberEnd 178 = .ok (.iload 7, 2) := by decide +kernel
theorem dM_numberEnd_180 : decode cM_numberEnd 180 = .ok (.ireturn, 1) := by decide +kernel
theorem dM_digitOf_0 : decode cM_digitOf 0 = .ok (.iload_n 0, 1) := by decide +kernel
theorem dM_digitOf_1 : decode cM_digitOf 1 = .ok (.invokestatic 85, 3) := by decide +kernel
theorem dM_digitOf_4 : decode cM_digitOf 4 = .ok (.ifCond .eq 10, 3) := by decide +kernel
theorem dM_digitOf_7 : decode cM_digitOf 7 = .ok (.iload_n 0, 1) := by decide +kernel
theorem dM_digitOf_8 : decode cM_digitOf 8 = .ok (.bipush 48, 2) := by decide +kernel
theorem dM_digitOf_10 : decode cM_digitOf 10 = .ok (.isub, 1) := by decide +kernel
theorem dM_digitOf_11 : decode cM_digitOf 11 = .ok (.goto 49, 3) := by decide +kernel
theorem dM_digitOf_14 : decode cM_digitOf 14 = .ok (.iload_n 0, 1) := by decide +kernel
theorem dM_digitOf_15 : decode cM_digitOf 15 = .ok (.bipush 97, 2) := by decide +kernel
theorem dM_digitOf_17 : decode cM_digitOf 17 = .ok (.if_icmp .lt 19, 3) := by decide +kernel
theorem dM_digitOf_20 : decode cM_digitOf 20 = .ok (.iload_n 0, 1) := by decide +kernel
theorem dM_digitOf_21 : decode cM_digitOf 21 = .ok (.bipush 102, 2) := by decide +kernel
theorem dM_digitOf_23 : decode cM_digitOf 23 = .ok (.if_icmp .gt 13, 3) := by decide +kernel
theorem dM_digitOf_26 : decode cM_digitOf 26 = .ok (.iload_n 0, 1) := by decide +kernel
theorem dM_digitOf_27 : decode cM_digitOf 27 = .ok (.bipush 97, 2) := by decide +kernel
theorem dM_digitOf_29 : decode cM_digitOf 29 = .ok (.isub, 1) := by decide +kernel
theorem dM_digitOf_30 : decode cM_digitOf 30 = .ok (.bipush 10, 2) := by decide +kernel
theorem dM_digitOf_32 : decode cM_digitOf 32 = .ok (.iadd, 1) := by decide +kernel
theorem dM_digitOf_33 : decode cM_digitOf 33 = .ok (.goto 27, 3) := by decide +kernel
theorem dM_digitOf_36 : decode cM_digitOf 36 = .ok (.iload_n 0, 1) := by decide +kernel
theorem dM_digitOf_37 : decode cM_digitOf 37 = .ok (.bipush 65, 2) := by decide +kernel
theorem dM_digitOf_39 : decode cM_digitOf 39 = .ok (.if_icmp .lt 19, 3) := by decide +kernel
theorem dM_digitOf_42 : decode cM_digitOf 42 = .ok (.iload_n 0, 1) := by decide +kernel
theorem dM_digitOf_43 : decode cM_digitOf 43 = .ok (.bipush 70, 2) := by decide +kernel
theorem dM_digitOf_45 : decode cM_digitOf 45 = .ok (.if_icmp .gt 13, 3) := by decide +kernel
theorem dM_digitOf_48 : decode cM_digitOf 48 = .ok (.iload_n 0, 1) := by decide +kernel
theorem dM_digitOf_49 : decode cM_digitOf 49 = .ok (.bipush 65, 2) := by decide +kernel
theorem dM_digitOf_51 : decode cM_digitOf 51 = .ok (.isub, 1) := by decide +kernel
theorem dM_digitOf_52 : decode cM_digitOf 52 = .ok (.bipush 10, 2) := by decide +kernel
theorem dM_digitOf_54 : decode cM_digitOf 54 = .ok (.iadd, 1) := by decide +kernel
theorem dM_digitOf_55 : decode cM_digitOf 55 = .ok (.goto 5, 3) := by decide +kernel
theorem dM_digitOf_58 : decode cM_digitOf 58 = .ok (.bipush 99, 2) := by decide +kernel
theorem dM_digitOf_60 : decode cM_digitOf 60 = .ok (.ireturn, 1) := by decide +kernel
theorem dM_given_0 : decode cM_given 0 = .ok (.aload_n 0, 1) := by decide +kernel
theorem dM_given_1 : decode cM_given 1 = .ok (.invokevirtual 147, 3) := by decide +kernel
theorem dM_given_4 : decode cM_given 4 = .ok (.lstore 5, 2) := by decide +kernel
theorem dM_given_6 : decode cM_given 6 = .ok (.aload_n 0, 1) := by decide +kernel
theorem dM_given_7 : decode cM_given 7 = .ok (.dup, 1) := by decide +kernel
theorem dM_given_8 : decode cM_given 8 = .ok (.getfield 124, 3) := by decide +kernel
theorem dM_given_11 : decode cM_given 11 = .ok (.iconst 1, 1) := by decide +kernel
theorem dM_given_12 : decode cM_given 12 = .ok (.isub, 1) := by decide +kernel
theorem dM_given_13 : decode cM_given 13 = .ok (.putfield 124, 3) := by decide +kernel
theorem dM_given_16 : decode cM_given 16 = .ok (.iload 4, 2) := by decide +kernel
theorem dM_given_18 : decode cM_given 18 = .ok (.ifCond .eq 27, 3) := by decide +kernel
theorem dM_given_21 : decode cM_given 21 = .ok (.iload_n 1, 1) := by decide +kernel
theorem dM_given_22 : decode cM_given 22 = .ok (.ifCond .eq 23, 3) := by decide +kernel
theorem dM_given_25 : decode cM_given 25 = .ok (.aload_n 0, 1) := by decide +kernel
theorem dM_given_26 : decode cM_given 26 = .ok (.iload 4, 2) := by decide +kernel
theorem dM_given_28 : decode cM_given 28 = .ok (.bipush 8, 2) := by decide +kernel
theorem dM_given_30 : decode cM_given 30 = .ok (.iconst 0, 1) := by decide +kernel
theorem dM_given_31 : decode cM_given 31 = .ok (.aload_n 0, 1) := by decide +kernel
theorem dM_given_32 : decode cM_given 32 = .ok (.iload_n 2, 1) := by decide +kernel
theorem dM_given_33 : decode cM_given 33 = .ok (.iload_n 3, 1) := by decide +kernel
theorem dM_given_34 : decode cM_given 34 = .ok (.invokevirtual 151, 3) := by decide +kernel
theorem dM_given_37 : decode cM_given 37 = .ok (.lload 5, 2) := by decide +kernel
theorem dM_given_39 : decode cM_given 39 = .ok (.iconst 1, 1) := by decide +kernel
theorem dM_given_40 : decode cM_given 40 = .ok (.invokevirtual 155, 3) := by decide +kernel
theorem dM_given_43 : decode cM_given 43 = .ok (.lstore 5, 2) := by decide +kernel
theorem dM_given_45 : decode cM_given 45 = .ok (.iload_n 1, 1) := by decide +kernel
theorem dM_given_46 : decode cM_given 46 = .ok (.ifCond .eq 18, 3) := by decide +kernel
theorem dM_given_49 : decode cM_given 49 = .ok (.aload_n 0, 1) := by decide +kernel
theorem dM_given_50 : decode cM_given 50 = .ok (.getfield 102, 3) := by decide +kernel
theorem dM_given_53 : decode cM_given 53 = .ok (.ifCond .ne 11, 3) := by decide +kernel
theorem dM_given_56 : decode cM_given 56 = .ok (.aload_n 0, 1) := by decide +kernel
theorem dM_given_57 : decode cM_given 57 = .ok (.iload_n 2, 1) := by decide +kernel
theorem dM_given_58 : decode cM_given 58 = .ok (.iload_n 3, 1) := by decide +kernel
theorem dM_given_59 : decode cM_given 59 = .ok (.lload 5, 2) := by decide +kernel
theorem dM_given_61 : decode cM_given 61 = .ok (.invokevirtual 159, 3) := by decide +kernel
theorem dM_given_64 : decode cM_given 64 = .ok (.aload_n 0, 1) := by decide +kernel
theorem dM_given_65 : decode cM_given 65 = .ok (.lload 5, 2) := by decide +kernel
theorem dM_given_67 : decode cM_given 67 = .ok (.invokevirtual 163, 3) := by decide +kernel
theorem dM_given_70 : decode cM_given 70 = .ok (.return_, 1) := by decide +kernel
theorem dM_count_0 : decode cM_count 0 = .ok (.aload_n 0, 1) := by decide +kernel
theorem dM_count_1 : decode cM_count 1 = .ok (.iconst 0, 1) := by decide +kernel
theorem dM_count_2 : decode cM_count 2 = .ok (.putfield 55, 3) := by decide +kernel
theorem dM_count_5 : decode cM_count 5 = .ok (.aload_n 0, 1) := by decide +kernel
theorem dM_count_6 : decode cM_count 6 = .ok (.aload_n 0, 1) := by decide +kernel
theorem dM_count_7 : decode cM_count 7 = .ok (.getfield 48, 3) := by decide +kernel
theorem dM_count_10 : decode cM_count 10 = .ok (.iconst 0, 1) := by decide +kernel
theorem dM_count_11 : decode cM_count 11 = .ok (.aload_n 0, 1) := by decide +kernel
theorem dM_count_12 : decode cM_count 12 = .ok (.getfield 51, 3) := by decide +kernel
theorem dM_count_15 : decode cM_count 15 = .ok (.invokevirtual 75, 3) := by decide +kernel
theorem dM_count_18 : decode cM_count 18 = .ok (.istore_n 2, 1) := by decide +kernel
theorem dM_count_19 : decode cM_count 19 = .ok (.iload_n 1, 1) := by decide +kernel
theorem dM_count_20 : decode cM_count 20 = .ok (.tableswitch 72 0 4 #[36, 41, 46, 62, 67], 36) := by decide +kernel
theorem dM_count_56 : decode cM_count 56 = .ok (.aload_n 0, 1) := by decide +kernel
theorem dM_count_57 : decode cM_count 57 = .ok (.getfield 72, 3) := by decide +kernel
theorem dM_count_60 : decode cM_count 60 = .ok (.ireturn, 1) := by decide +kernel
theorem dM_count_61 : decode cM_count 61 = .ok (.aload_n 0, 1) := by decide +kernel
theorem dM_count_62 : decode cM_count 62 = .ok (.getfield 79, 3) := by decide +kernel
theorem dM_count_65 : decode cM_count 65 = .ok (.ireturn, 1) := by decide +kernel
theorem dM_count_66 : decode cM_count 66 = .ok (.iload_n 2, 1) := by decide +kernel
theorem dM_count_67 : decode cM_count 67 = .ok (.iconst (-1), 1) := by decide +kernel
theorem dM_count_68 : decode cM_count 68 = .ok (.if_icmp .ne 7, 3) := by decide +kernel
theorem dM_count_71 : decode cM_count 71 = .ok (.iconst (-1), 1) := by decide +kernel
theorem dM_count_72 : decode cM_count 72 = .ok (.goto 9, 3) := by decide +kernel
theorem dM_count_75 : decode cM_count 75 = .ok (.aload_n 0, 1) := by decide +kernel
theorem dM_count_76 : decode cM_count 76 = .ok (.getfield 45, 3) := by decide +kernel
theorem dM_count_79 : decode cM_count 79 = .ok (.iload_n 2, 1) := by decide +kernel
theorem dM_count_80 : decode cM_count 80 = .ok (.iaload, 1) := by decide +kernel
theorem dM_count_81 : decode cM_count 81 = .ok (.ireturn, 1) := by decide +kernel
theorem dM_count_82 : decode cM_count 82 = .ok (.aload_n 0, 1) := by decide +kernel
theorem dM_count_83 : decode cM_count 83 = .ok (.getfield 190, 3) := by decide +kernel
theorem dM_count_86 : decode cM_count 86 = .ok (.ireturn, 1) := by decide +kernel
theorem dM_count_87 : decode cM_count 87 = .ok (.aload_n 0, 1) := by decide +kernel
theorem dM_count_88 : decode cM_count 88 = .ok (.getfield 193, 3) := by decide +kernel
theorem dM_count_91 : decode cM_count 91 = .ok (.ireturn, 1) := by decide +kernel
theorem dM_count_92 : decode cM_count 92 = .ok (.iconst (-1), 1) := by decide +kernel
theorem dM_count_93 : decode cM_count 93 = .ok (.ireturn, 1) := by decide +kernel
end
section
theorem dM_value_0 : decode cM_value 0 = .ok (.aload_n 0, 1) := by decide +kernel
theorem dM_value_1 : decode cM_value 1 = .ok (.aload_n 0, 1) := by decide +kernel
theorem dM_value_2 : decode cM_value 2 = .ok (.getfield 72, 3) := by decide +kernel
theorem dM_value_5 : decode cM_value 5 = .ok (.putfield 111, 3) := by decide +kernel
theorem dM_value_8 : decode cM_value 8 = .ok (.iconst 0, 1) := by decide +kernel
theorem dM_value_9 : decode cM_value 9 = .ok (.istore_n 1, 1) := by decide +kernel
theorem dM_value_10 : decode cM_value 10 = .ok (.iload_n 1, 1) := by decide +kernel
theorem dM_value_11 : decode cM_value 11 = .ok (.aload_n 0, 1) := by decide +kernel
theorem dM_value_12 : decode cM_value 12 = .ok (.getfield 72, 3) := by decide +kernel
theorem dM_value_15 : decode cM_value 15 = .ok (.if_icmp .ge 21, 3) := by decide +kernel
theorem dM_value_18 : decode cM_value 18 = .ok (.aload_n 0, 1) := by decide +kernel
theorem dM_value_19 : decode cM_value 19 = .ok (.getfield 13, 3) := by decide +kernel
theorem dM_value_22 : decode cM_value 22 = .ok (.iload_n 1, 1) := by decide +kernel
theorem dM_value_23 : decode cM_value 23 = .ok (.aload_n 0, 1) := by decide +kernel
theorem dM_value_24 : decode cM_value 24 = .ok (.getfield 7, 3) := by decide +kernel
theorem dM_value_27 : decode cM_value 27 = .ok (.iload_n 1, 1) := by decide +kernel
theorem dM_value_28 : decode cM_value 28 = .ok (.iaload, 1) := by decide +kernel
theorem dM_value_29 : decode cM_value 29 = .ok (.iastore, 1) := by decide +kernel
theorem dM_value_30 : decode cM_value 30 = .ok (.iinc 1 1, 3) := by decide +kernel
theorem dM_value_33 : decode cM_value 33 = .ok (.goto (-23), 3) := by decide +kernel
theorem dM_value_36 : decode cM_value 36 = .ok (.aload_n 0, 1) := by decide +kernel
theorem dM_value_37 : decode cM_value 37 = .ok (.iconst 0, 1) := by decide +kernel
theorem dM_value_38 : decode cM_value 38 = .ok (.putfield 72, 3) := by decide +kernel
theorem dM_value_41 : decode cM_value 41 = .ok (.aload_n 0, 1) := by decide +kernel
theorem dM_value_42 : decode cM_value 42 = .ok (.iconst 0, 1) := by decide +kernel
theorem dM_value_43 : decode cM_value 43 = .ok (.putfield 108, 3) := by decide +kernel
theorem dM_value_46 : decode cM_value 46 = .ok (.aload_n 0, 1) := by decide +kernel
theorem dM_value_47 : decode cM_value 47 = .ok (.iconst 0, 1) := by decide +kernel
theorem dM_value_48 : decode cM_value 48 = .ok (.putfield 124, 3) := by decide +kernel
theorem dM_value_51 : decode cM_value 51 = .ok (.aload_n 0, 1) := by decide +kernel
theorem dM_value_52 : decode cM_value 52 = .ok (.iconst 0, 1) := by decide +kernel
theorem dM_value_53 : decode cM_value 53 = .ok (.putfield 114, 3) := by decide +kernel
theorem dM_value_56 : decode cM_value 56 = .ok (.aload_n 0, 1) := by decide +kernel
theorem dM_value_57 : decode cM_value 57 = .ok (.iconst 0, 1) := by decide +kernel
theorem dM_value_58 : decode cM_value 58 = .ok (.putfield 121, 3) := by decide +kernel
theorem dM_value_61 : decode cM_value 61 = .ok (.aload_n 0, 1) := by decide +kernel
theorem dM_value_62 : decode cM_value 62 = .ok (.iconst 0, 1) := by decide +kernel
theorem dM_value_63 : decode cM_value 63 = .ok (.putfield 102, 3) := by decide +kernel
theorem dM_value_66 : decode cM_value 66 = .ok (.aload_n 0, 1) := by decide +kernel
theorem dM_value_67 : decode cM_value 67 = .ok (.invokevirtual 127, 3) := by decide +kernel
theorem dM_value_70 : decode cM_value 70 = .ok (.ifCond .lt 7, 3) := by decide +kernel
theorem dM_value_73 : decode cM_value 73 = .ok (.iconst 1, 1) := by decide +kernel
theorem dM_value_74 : decode cM_value 74 = .ok (.goto 4, 3) := by decide +kernel
theorem dM_value_77 : decode cM_value 77 = .ok (.iconst 0, 1) := by decide +kernel
theorem dM_value_78 : decode cM_value 78 = .ok (.istore_n 1, 1) := by decide +kernel
theorem dM_value_79 : decode cM_value 79 = .ok (.iload_n 1, 1) := by decide +kernel
theorem dM_value_80 : decode cM_value 80 = .ok (.ifCond .eq 36, 3) := by decide +kernel
theorem dM_value_83 : decode cM_value 83 = .ok (.aload_n 0, 1) := by decide +kernel
theorem dM_value_84 : decode cM_value 84 = .ok (.iconst 0, 1) := by decide +kernel
theorem dM_value_85 : decode cM_value 85 = .ok (.iconst 1, 1) := by decide +kernel
theorem dM_value_86 : decode cM_value 86 = .ok (.invokevirtual 143, 3) := by decide +kernel
theorem dM_value_89 : decode cM_value 89 = .ok (.aload_n 0, 1) := by decide +kernel
theorem dM_value_90 : decode cM_value 90 = .ok (.invokevirtual 187, 3) := by decide +kernel
theorem dM_value_93 : decode cM_value 93 = .ok (.aload_n 0, 1) := by decide +kernel
theorem dM_value_94 : decode cM_value 94 = .ok (.aload_n 0, 1) := by decide +kernel
theorem dM_value_95 : decode cM_value 95 = .ok (.getfield 102, 3) := by decide +kernel
theorem dM_value_98 : decode cM_value 98 = .ok (.ifCond .ne 10, 3) := by decide +kernel
theorem dM_value_101 : decode cM_value 101 = .ok (.aload_n 0, 1) := by decide +kernel
theorem dM_value_102 : decode cM_value 102 = .ok (.invokevirtual 127, 3) := by decide +kernel
theorem dM_value_105 : decode cM_value 105 = .ok (.ifCond .lt 7, 3) := by decide +kernel
theorem dM_value_108 : decode cM_value 108 = .ok (.iconst 1, 1) := by decide +kernel
theorem dM_value_109 : decode cM_value 109 = .ok (.goto 4, 3) := by decide +kernel
theorem dM_value_112 : decode cM_value 112 = .ok (.iconst 0, 1) := by decide +kernel
theorem dM_value_113 : decode cM_value 113 = .ok (.putfield 102, 3) := by decide +kernel
theorem dM_value_116 : decode cM_value 116 = .ok (.aload_n 0, 1) := by decide +kernel
theorem dM_value_117 : decode cM_value 117 = .ok (.dup, 1) := by decide +kernel
theorem dM_value_118 : decode cM_value 118 = .ok (.getfield 190, 3) := by decide +kernel
theorem dM_value_121 : decode cM_value 121 = .ok (.aload_n 0, 1) := by decide +kernel
theorem dM_value_122 : decode cM_value 122 = .ok (.getfield 102, 3) := by decide +kernel
theorem dM_value_125 : decode cM_value 125 = .ok (.ifCond .eq 7, 3) := by decide +kernel
theorem dM_value_128 : decode cM_value 128 = .ok (.iconst 0, 1) := by decide +kernel
theorem dM_value_129 : decode cM_value 129 = .ok (.goto 4, 3) := by decide +kernel
theorem dM_value_132 : decode cM_value 132 = .ok (.iconst 1, 1) := by decide +kernel
theorem dM_value_133 : decode cM_value 133 = .ok (.iadd, 1) := by decide +kernel
theorem dM_value_134 : decode cM_value 134 = .ok (.putfield 190, 3) := by decide +kernel
theorem dM_value_137 : decode cM_value 137 = .ok (.aload_n 0, 1) := by decide +kernel
theorem dM_value_138 : decode cM_value 138 = .ok (.dup, 1) := by decide +kernel
theorem dM_value_139 : decode cM_value 139 = .ok (.getfield 193, 3) := by decide +kernel
theorem dM_value_142 : decode cM_value 142 = .ok (.aload_n 0, 1) := by decide +kernel
theorem dM_value_143 : decode cM_value 143 = .ok (.getfield 102, 3) := by decide +kernel
theorem dM_value_146 : decode cM_value 146 = .ok (.ifCond .eq 7, 3) := by decide +kernel
theorem dM_value_149 : decode cM_value 149 = .ok (.iconst 1, 1) := by decide +kernel
theorem dM_value_150 : decode cM_value 150 = .ok (.goto 4, 3) := by decide +kernel
theorem dM_value_153 : decode cM_value 153 = .ok (.iconst 0, 1) := by decide +kernel
theorem dM_value_154 : decode cM_value 154 = .ok (.iadd, 1) := by decide +kernel
theorem dM_value_155 : decode cM_value 155 = .ok (.putfield 193, 3) := by decide +kernel
theorem dM_value_158 : decode cM_value 158 = .ok (.aload_n 0, 1) := by decide +kernel
theorem dM_value_159 : decode cM_value 159 = .ok (.aload_n 0, 1) := by decide +kernel
theorem dM_value_160 : decode cM_value 160 = .ok (.getfield 102, 3) := by decide +kernel
theorem dM_value_163 : decode cM_value 163 = .ok (.ifCond .eq 7, 3) := by decide +kernel
theorem dM_value_166 : decode cM_value 166 = .ok (.iconst 1, 1) := by decide +kernel
theorem dM_value_167 : decode cM_value 167 = .ok (.goto 4, 3) := by decide +kernel
theorem dM_value_170 : decode cM_value 170 = .ok (.iconst 0, 1) := by decide +kernel
theorem dM_value_171 : decode cM_value 171 = .ok (.putfield 55, 3) := by decide +kernel
theorem dM_value_174 : decode cM_value 174 = .ok (.aload_n 0, 1) := by decide +kernel
theorem dM_value_175 : decode cM_value 175 = .ok (.getfield 102, 3) := by decide +kernel
theorem dM_value_178 : decode cM_value 178 = .ok (.ifCond .ne 7, 3) := by decide +kernel
theorem dM_value_181 : decode cM_value 181 = .ok (.iload_n 1, 1) := by decide +kernel
theorem dM_value_182 : decode cM_value 182 = .ok (.ifCond .ne 7, 3) := by decide +kernel
theorem dM_value_185 : decode cM_value 185 = .ok (.lconst 0, 1) := by decide +kernel
theorem dM_value_186 : decode cM_value 186 = .ok (.goto 7, 3) := by decide +kernel
theorem dM_value_189 : decode cM_value 189 = .ok (.aload_n 0, 1) := by decide +kernel
theorem dM_value_190 : decode cM_value 190 = .ok (.invokevirtual 147, 3) := by decide +kernel
theorem dM_value_193 : decode cM_value 193 = .ok (.lreturn, 1) := by decide +kernel
theorem dM_go_0 : decode cM_go 0 = .ok (.aload_n 0, 1) := by decide +kernel
theorem dM_go_1 : decode cM_go 1 = .ok (.getfield 114, 3) := by decide +kernel
theorem dM_go_4 : decode cM_go 4 = .ok (.ifCond .le 540, 3) := by decide +kernel
theorem dM_go_7 : decode cM_go 7 = .ok (.aload_n 0, 1) := by decide +kernel
theorem dM_go_8 : decode cM_go 8 = .ok (.getfield 102, 3) := by decide +kernel
theorem dM_go_11 : decode cM_go 11 = .ok (.ifCond .ne 533, 3) := by decide +kernel
theorem dM_go_14 : decode cM_go 14 = .ok (.aload_n 0, 1) := by decide +kernel
theorem dM_go_15 : decode cM_go 15 = .ok (.dup, 1) := by decide +kernel
theorem dM_go_16 : decode cM_go 16 = .ok (.getfield 114, 3) := by decide +kernel
theorem dM_go_19 : decode cM_go 19 = .ok (.iconst 1, 1) := by decide +kernel
theorem dM_go_20 : decode cM_go 20 = .ok (.isub, 1) := by decide +kernel
theorem dM_go_21 : decode cM_go 21 = .ok (.putfield 114, 3) := by decide +kernel
theorem dM_go_24 : decode cM_go 24 = .ok (.aload_n 0, 1) := by decide +kernel
theorem dM_go_25 : decode cM_go 25 = .ok (.getfield 25, 3) := by decide +kernel
theorem dM_go_28 : decode cM_go 28 = .ok (.aload_n 0, 1) := by decide +kernel
theorem dM_go_29 : decode cM_go 29 = .ok (.getfield 114, 3) := by decide +kernel
theorem dM_go_32 : decode cM_go 32 = .ok (.baload, 1) := by decide +kernel
theorem dM_go_33 : decode cM_go 33 = .ok (.istore_n 1, 1) := by decide +kernel
theorem dM_go_34 : decode cM_go 34 = .ok (.aload_n 0, 1) := by decide +kernel
theorem dM_go_35 : decode cM_go 35 = .ok (.getfield 19, 3) := by decide +kernel
theorem dM_go_38 : decode cM_go 38 = .ok (.aload_n 0, 1) := by decide +kernel
theorem dM_go_39 : decode cM_go 39 = .ok (.getfield 114, 3) := by decide +kernel
theorem dM_go_42 : decode cM_go 42 = .ok (.iaload, 1) := by decide +kernel
theorem dM_go_43 : decode cM_go 43 = .ok (.istore_n 2, 1) := by decide +kernel
theorem dM_go_44 : decode cM_go 44 = .ok (.aload_n 0, 1) := by decide +kernel
theorem dM_go_45 : decode cM_go 45 = .ok (.getfield 22, 3) := by decide +kernel
theorem dM_go_48 : decode cM_go 48 = .ok (.aload_n 0, 1) := by decide +kernel
theorem dM_go_49 : decode cM_go 49 = .ok (.getfield 114, 3) := by decide +kernel
theorem dM_go_52 : decode cM_go 52 = .ok (.iaload, 1) := by decide +kernel
theorem dM_go_53 : decode cM_go 53 = .ok (.istore_n 3, 1) := by decide +kernel
theorem dM_go_54 : decode cM_go 54 = .ok (.aload_n 0, 1) := by decide +kernel
theorem dM_go_55 : decode cM_go 55 = .ok (.getfield 29, 3) := by decide +kernel
theorem dM_go_58 : decode cM_go 58 = .ok (.aload_n 0, 1) := by decide +kernel
theorem dM_go_59 : decode cM_go 59 = .ok (.getfield 114, 3) := by decide +kernel
theorem dM_go_62 : decode cM_go 62 = .ok (.laload, 1) := by decide +kernel
theorem dM_go_63 : decode cM_go 63 = .ok (.lstore 4, 2) := by decide +kernel
theorem dM_go_65 : decode cM_go 65 = .ok (.aload_n 0, 1) := by decide +kernel
theorem dM_go_66 : decode cM_go 66 = .ok (.getfield 16, 3) := by decide +kernel
theorem dM_go_69 : decode cM_go 69 = .ok (.aload_n 0, 1) := by decide +kernel
theorem dM_go_70 : decode cM_go 70 = .ok (.getfield 114, 3) := by decide +kernel
theorem dM_go_73 : decode cM_go 73 = .ok (.iaload, 1) := by decide +kernel
theorem dM_go_74 : decode cM_go 74 = .ok (.tableswitch 457 0 9 #[54, 62, 138, 227, 262, 281, 290, 328, 336, 409], 54) := by decide +kernel
theorem dM_go_128 : decode cM_go 128 = .ok (.aload_n 0, 1) := by decide +kernel
theorem dM_go_129 : decode cM_go 129 = .ok (.iload_n 1, 1) := by decide +kernel
theorem dM_go_130 : decode cM_go 130 = .ok (.invokevirtual 170, 3) := by decide +kernel
theorem dM_go_133 : decode cM_go 133 = .ok (.goto 408, 3) := by decide +kernel
theorem dM_go_136 : decode cM_go 136 = .ok (.aload_n 0, 1) := by decide +kernel
theorem dM_go_137 : decode cM_go 137 = .ok (.invokevirtual 127, 3) := by decide +kernel
theorem dM_go_140 : decode cM_go 140 = .ok (.bipush 63, 2) := by decide +kernel
theorem dM_go_142 : decode cM_go 142 = .ok (.if_icmp .eq 6, 3) := by decide +kernel
theorem dM_go_145 : decode cM_go 145 = .ok (.goto 396, 3) := by decide +kernel
theorem dM_go_148 : decode cM_go 148 = .ok (.aload_n 0, 1) := by decide +kernel
theorem dM_go_149 : decode cM_go 149 = .ok (.dup, 1) := by decide +kernel
theorem dM_go_150 : decode cM_go 150 = .ok (.getfield 108, 3) := by decide +kernel
theorem dM_go_153 : decode cM_go 153 = .ok (.iconst 1, 1) := by decide +kernel
theorem dM_go_154 : decode cM_go 154 = .ok (.iadd, 1) := by decide +kernel
theorem dM_go_155 : decode cM_go 155 = .ok (.putfield 108, 3) := by decide +kernel
theorem dM_go_158 : decode cM_go 158 = .ok (.aload_n 0, 1) := by decide +kernel
theorem dM_go_159 : decode cM_go 159 = .ok (.invokevirtual 140, 3) := by decide +kernel
theorem dM_go_162 : decode cM_go 162 = .ok (.aload_n 0, 1) := by decide +kernel
theorem dM_go_163 : decode cM_go 163 = .ok (.invokevirtual 147, 3) := by decide +kernel
theorem dM_go_166 : decode cM_go 166 = .ok (.lstore 6, 2) := by decide +kernel
theorem dM_go_168 : decode cM_go 168 = .ok (.aload_n 0, 1) := by decide +kernel
theorem dM_go_169 : decode cM_go 169 = .ok (.iconst 2, 1) := by decide +kernel
theorem dM_go_170 : decode cM_go 170 = .ok (.iload_n 1, 1) := by decide +kernel
theorem dM_go_171 : decode cM_go 171 = .ok (.lload 6, 2) := by decide +kernel
theorem dM_go_173 : decode cM_go 173 = .ok (.lconst 0, 1) := by decide +kernel
theorem dM_go_174 : decode cM_go 174 = .ok (.lcmp, 1) := by decide +kernel
theorem dM_go_175 : decode cM_go 175 = .ok (.ifCond .eq 7, 3) := by decide +kernel
theorem dM_go_178 : decode cM_go 178 = .ok (.iconst 1, 1) := by decide +kernel
theorem dM_go_179 : decode cM_go 179 = .ok (.goto 4, 3) := by decide +kernel
theorem dM_go_182 : decode cM_go 182 = .ok (.iconst 0, 1) := by decide +kernel
theorem dM_go_183 : decode cM_go 183 = .ok (.iconst 0, 1) := by decide +kernel
theorem dM_go_184 : decode cM_go 184 = .ok (.lconst 0, 1) := by decide +kernel
theorem dM_go_185 : decode cM_go 185 = .ok (.invokevirtual 117, 3) := by decide +kernel
theorem dM_go_188 : decode cM_go 188 = .ok (.aload_n 0, 1) := by decide +kernel
theorem dM_go_189 : decode cM_go 189 = .ok (.iconst 0, 1) := by decide +kernel
theorem dM_go_190 : decode cM_go 190 = .ok (.iload_n 1, 1) := by decide +kernel
theorem dM_go_191 : decode cM_go 191 = .ok (.ifCond .eq 14, 3) := by decide +kernel
theorem dM_go_194 : decode cM_go 194 = .ok (.lload 6, 2) := by decide +kernel
theorem dM_go_196 : decode cM_go 196 = .ok (.lconst 0, 1) := by decide +kernel
theorem dM_go_197 : decode cM_go 197 = .ok (.lcmp, 1) := by decide +kernel
theorem dM_go_198 : decode cM_go 198 = .ok (.ifCond .eq 7, 3) := by decide +kernel
theorem dM_go_201 : decode cM_go 201 = .ok (.iconst 1, 1) := by decide +kernel
theorem dM_go_202 : decode cM_go 202 = .ok (.goto 4, 3) := by decide +kernel
theorem dM_go_205 : decode cM_go 205 = .ok (.iconst 0, 1) := by decide +kernel
theorem dM_go_206 : decode cM_go 206 = .ok (.invokevirtual 143, 3) := by decide +kernel
theorem dM_go_209 : decode cM_go 209 = .ok (.goto 332, 3) := by decide +kernel
theorem dM_go_212 : decode cM_go 212 = .ok (.aload_n 0, 1) := by decide +kernel
theorem dM_go_213 : decode cM_go 213 = .ok (.aload_n 0, 1) := by decide +kernel
theorem dM_go_214 : decode cM_go 214 = .ok (.getfield 102, 3) := by decide +kernel
theorem dM_go_217 : decode cM_go 217 = .ok (.ifCond .ne 12, 3) := by decide +kernel
theorem dM_go_220 : decode cM_go 220 = .ok (.aload_n 0, 1) := by decide +kernel
theorem dM_go_221 : decode cM_go 221 = .ok (.invokevirtual 127, 3) := by decide +kernel
theorem dM_go_224 : decode cM_go 224 = .ok (.bipush 58, 2) := by decide +kernel
theorem dM_go_226 : decode cM_go 226 = .ok (.if_icmp .eq 7, 3) := by decide +kernel
theorem dM_go_229 : decode cM_go 229 = .ok (.iconst 1, 1) := by decide +kernel
theorem dM_go_230 : decode cM_go 230 = .ok (.goto 4, 3) := by decide +kernel
theorem dM_go_233 : decode cM_go 233 = .ok (.iconst 0, 1) := by decide +kernel
theorem dM_go_234 : decode cM_go 234 = .ok (.putfield 102, 3) := by decide +kernel
theorem dM_go_237 : decode cM_go 237 = .ok (.aload_n 0, 1) := by decide +kernel
theorem dM_go_238 : decode cM_go 238 = .ok (.dup, 1) := by decide +kernel
theorem dM_go_239 : decode cM_go 239 = .ok (.getfield 108, 3) := by decide +kernel
theorem dM_go_242 : decode cM_go 242 = .ok (.iconst 1, 1) := by decide +kernel
theorem dM_go_243 : decode cM_go 243 = .ok (.iadd, 1) := by decide +kernel
theorem dM_go_244 : decode cM_go 244 = .ok (.putfield 108, 3) := by decide +kernel
theorem dM_go_247 : decode cM_go 247 = .ok (.aload_n 0, 1) := by decide +kernel
theorem dM_go_248 : decode cM_go 248 = .ok (.iconst 3, 1) := by decide +kernel
theorem dM_go_249 : decode cM_go 249 = .ok (.iload_n 1, 1) := by decide +kernel
theorem dM_go_250 : decode cM_go 250 = .ok (.iload_n 2, 1) := by decide +kernel
theorem dM_go_251 : decode cM_go 251 = .ok (.iconst 0, 1) := by decide +kernel
theorem dM_go_252 : decode cM_go 252 = .ok (.aload_n 0, 1) := by decide +kernel
theorem dM_go_253 : decode cM_go 253 = .ok (.invokevirtual 147, 3) := by decide +kernel
theorem dM_go_256 : decode cM_go 256 = .ok (.invokevirtual 117, 3) := by decide +kernel
theorem dM_go_259 : decode cM_go 259 = .ok (.aload_n 0, 1) := by decide +kernel
theorem dM_go_260 : decode cM_go 260 = .ok (.iconst 1, 1) := by decide +kernel
theorem dM_go_261 : decode cM_go 261 = .ok (.iload_n 1, 1) := by decide +kernel
theorem dM_go_262 : decode cM_go 262 = .ok (.ifCond .eq 11, 3) := by decide +kernel
theorem dM_go_265 : decode cM_go 265 = .ok (.iload_n 2, 1) := by decide +kernel
theorem dM_go_266 : decode cM_go 266 = .ok (.ifCond .ne 7, 3) := by decide +kernel
theorem dM_go_269 : decode cM_go 269 = .ok (.iconst 1, 1) := by decide +kernel
theorem dM_go_270 : decode cM_go 270 = .ok (.goto 4, 3) := by decide +kernel
theorem dM_go_273 : decode cM_go 273 = .ok (.iconst 0, 1) := by decide +kernel
theorem dM_go_274 : decode cM_go 274 = .ok (.invokevirtual 143, 3) := by decide +kernel
theorem dM_go_277 : decode cM_go 277 = .ok (.aload_n 0, 1) := by decide +kernel
theorem dM_go_278 : decode cM_go 278 = .ok (.iconst 4, 1) := by decide +kernel
theorem dM_go_279 : decode cM_go 279 = .ok (.iload_n 1, 1) := by decide +kernel
theorem dM_go_280 : decode cM_go 280 = .ok (.ifCond .eq 11, 3) := by decide +kernel
theorem dM_go_283 : decode cM_go 283 = .ok (.iload_n 2, 1) := by decide +kernel
theorem dM_go_284 : decode cM_go 284 = .ok (.ifCond .ne 7, 3) := by decide +kernel
theorem dM_go_287 : decode cM_go 287 = .ok (.iconst 1, 1) := by decide +kernel
theorem dM_go_288 : decode cM_go 288 = .ok (.goto 4, 3) := by decide +kernel
theorem dM_go_291 : decode cM_go 291 = .ok (.iconst 0, 1) := by decide +kernel
theorem dM_go_292 : decode cM_go 292 = .ok (.iconst 1, 1) := by decide +kernel
theorem dM_go_293 : decode cM_go 293 = .ok (.iconst 0, 1) := by decide +kernel
theorem dM_go_294 : decode cM_go 294 = .ok (.lconst 0, 1) := by decide +kernel
theorem dM_go_295 : decode cM_go 295 = .ok (.invokevirtual 117, 3) := by decide +kernel
theorem dM_go_298 : decode cM_go 298 = .ok (.goto 243, 3) := by decide +kernel
theorem dM_go_301 : decode cM_go 301 = .ok (.aload_n 0, 1) := by decide +kernel
theorem dM_go_302 : decode cM_go 302 = .ok (.dup, 1) := by decide +kernel
theorem dM_go_303 : decode cM_go 303 = .ok (.getfield 124, 3) := by decide +kernel
theorem dM_go_306 : decode cM_go 306 = .ok (.iconst 1, 1) := by decide +kernel
theorem dM_go_307 : decode cM_go 307 = .ok (.isub, 1) := by decide +kernel
theorem dM_go_308 : decode cM_go 308 = .ok (.putfield 124, 3) := by decide +kernel
theorem dM_go_311 : decode cM_go 311 = .ok (.aload_n 0, 1) := by decide +kernel
theorem dM_go_312 : decode cM_go 312 = .ok (.invokevirtual 147, 3) := by decide +kernel
theorem dM_go_315 : decode cM_go 315 = .ok (.lstore 8, 2) := by decide +kernel
theorem dM_go_317 : decode cM_go 317 = .ok (.aload_n 0, 1) := by decide +kernel
theorem dM_go_318 : decode cM_go 318 = .ok (.iload_n 2, 1) := by decide +kernel
theorem dM_go_319 : decode cM_go 319 = .ok (.iconst 1, 1) := by decide +kernel
theorem dM_go_320 : decode cM_go 320 = .ok (.if_icmp .ne 8, 3) := by decide +kernel
theorem dM_go_323 : decode cM_go 323 = .ok (.lload 4, 2) := by decide +kernel
theorem dM_go_325 : decode cM_go 325 = .ok (.goto 5, 3) := by decide +kernel
theorem dM_go_328 : decode cM_go 328 = .ok (.lload 8, 2) := by decide +kernel
theorem dM_go_330 : decode cM_go 330 = .ok (.invokevirtual 163, 3) := by decide +kernel
theorem dM_go_333 : decode cM_go 333 = .ok (.goto 208, 3) := by decide +kernel
theorem dM_go_336 : decode cM_go 336 = .ok (.aload_n 0, 1) := by decide +kernel
theorem dM_go_337 : decode cM_go 337 = .ok (.iconst 5, 1) := by decide +kernel
theorem dM_go_338 : decode cM_go 338 = .ok (.iload_n 1, 1) := by decide +kernel
theorem dM_go_339 : decode cM_go 339 = .ok (.iload_n 2, 1) := by decide +kernel
theorem dM_go_340 : decode cM_go 340 = .ok (.iconst 0, 1) := by decide +kernel
theorem dM_go_341 : decode cM_go 341 = .ok (.lconst 0, 1) := by decide +kernel
theorem dM_go_342 : decode cM_go 342 = .ok (.invokevirtual 117, 3) := by decide +kernel
theorem dM_go_345 : decode cM_go 345 = .ok (.aload_n 0, 1) := by decide +kernel
theorem dM_go_346 : decode cM_go 346 = .ok (.bipush 7, 2) := by decide +kernel
theorem dM_go_348 : decode cM_go 348 = .ok (.iload_n 1, 1) := by decide +kernel
theorem dM_go_349 : decode cM_go 349 = .ok (.invokevirtual 143, 3) := by decide +kernel
theorem dM_go_352 : decode cM_go 352 = .ok (.goto 189, 3) := by decide +kernel
theorem dM_go_355 : decode cM_go 355 = .ok (.aload_n 0, 1) := by decide +kernel
theorem dM_go_356 : decode cM_go 356 = .ok (.iload_n 1, 1) := by decide +kernel
theorem dM_go_357 : decode cM_go 357 = .ok (.iload_n 2, 1) := by decide +kernel
theorem dM_go_358 : decode cM_go 358 = .ok (.invokevirtual 174, 3) := by decide +kernel
theorem dM_go_361 : decode cM_go 361 = .ok (.goto 180, 3) := by decide +kernel
theorem dM_go_364 : decode cM_go 364 = .ok (.aload_n 0, 1) := by decide +kernel
theorem dM_go_365 : decode cM_go 365 = .ok (.aload_n 0, 1) := by decide +kernel
theorem dM_go_366 : decode cM_go 366 = .ok (.iload_n 2, 1) := by decide +kernel
theorem dM_go_367 : decode cM_go 367 = .ok (.iload_n 3, 1) := by decide +kernel
theorem dM_go_368 : decode cM_go 368 = .ok (.ifCond .ge 8, 3) := by decide +kernel
theorem dM_go_371 : decode cM_go 371 = .ok (.iload_n 3, 1) := by decide +kernel
theorem dM_go_372 : decode cM_go 372 = .ok (.ineg, 1) := by decide +kernel
theorem dM_go_373 : decode cM_go 373 = .ok (.goto 4, 3) := by decide +kernel
theorem dM_go_376 : decode cM_go 376 = .ok (.iload_n 3, 1) := by decide +kernel
theorem dM_go_377 : decode cM_go 377 = .ok (.iload_n 3, 1) := by decide +kernel
theorem dM_go_378 : decode cM_go 378 = .ok (.ifCond .ge 7, 3) := by decide +kernel
theorem dM_go_381 : decode cM_go 381 = .ok (.iconst 1, 1) := by decide +kernel
theorem dM_go_382 : decode cM_go 382 = .ok (.goto 4, 3) := by decide +kernel
theorem dM_go_385 : decode cM_go 385 = .ok (.iconst 0, 1) := by decide +kernel
theorem dM_go_386 : decode cM_go 386 = .ok (.lload 4, 2) := by decide +kernel
theorem dM_go_388 : decode cM_go 388 = .ok (.aload_n 0, 1) := by decide +kernel
theorem dM_go_389 : decode cM_go 389 = .ok (.invokevirtual 147, 3) := by decide +kernel
theorem dM_go_392 : decode cM_go 392 = .ok (.iload_n 1, 1) := by decide +kernel
theorem dM_go_393 : decode cM_go 393 = .ok (.invokevirtual 155, 3) := by decide +kernel
theorem dM_go_396 : decode cM_go 396 = .ok (.invokevirtual 163, 3) := by decide +kernel
theorem dM_go_399 : decode cM_go 399 = .ok (.goto 142, 3) := by decide +kernel
theorem dM_go_402 : decode cM_go 402 = .ok (.aload_n 0, 1) := by decide +kernel
theorem dM_go_403 : decode cM_go 403 = .ok (.iload_n 1, 1) := by decide +kernel
theorem dM_go_404 : decode cM_go 404 = .ok (.invokevirtual 178, 3) := by decide +kernel
theorem dM_go_407 : decode cM_go 407 = .ok (.goto 134, 3) := by decide +kernel
theorem dM_go_410 : decode cM_go 410 = .ok (.aload_n 0, 1) := by decide +kernel
theorem dM_go_411 : decode cM_go 411 = .ok (.dup, 1) := by decide +kernel
theorem dM_go_412 : decode cM_go 412 = .ok (.getfield 124, 3) := by decide +kernel
theorem dM_go_415 : decode cM_go 415 = .ok (.iconst 1, 1) := by decide +kernel
theorem dM_go_416 : decode cM_go 416 = .ok (.isub, 1) := by decide +kernel
theorem dM_go_417 : decode cM_go 417 = .ok (.putfield 124, 3) := by decide +kernel
theorem dM_go_420 : decode cM_go 420 = .ok (.aload_n 0, 1) := by decide +kernel
theorem dM_go_421 : decode cM_go 421 = .ok (.invokevirtual 147, 3) := by decide +kernel
theorem dM_go_424 : decode cM_go 424 = .ok (.lstore 10, 2) := by decide +kernel
theorem dM_go_426 : decode cM_go 426 = .ok (.aload_n 0, 1) := by decide +kernel
theorem dM_go_427 : decode cM_go 427 = .ok (.iload_n 2, 1) := by decide +kernel
theorem dM_go_428 : decode cM_go 428 = .ok (.bipush 43, 2) := by decide +kernel
theorem dM_go_430 : decode cM_go 430 = .ok (.if_icmp .ne 8, 3) := by decide +kernel
theorem dM_go_433 : decode cM_go 433 = .ok (.lload 10, 2) := by decide +kernel
theorem dM_go_435 : decode cM_go 435 = .ok (.goto 42, 3) := by decide +kernel
theorem dM_go_438 : decode cM_go 438 = .ok (.iload_n 2, 1) := by decide +kernel
theorem dM_go_439 : decode cM_go 439 = .ok (.bipush 45, 2) := by decide +kernel
theorem dM_go_441 : decode cM_go 441 = .ok (.if_icmp .ne 9, 3) := by decide +kernel
theorem dM_go_444 : decode cM_go 444 = .ok (.lload 10, 2) := by decide +kernel
theorem dM_go_446 : decode cM_go 446 = .ok (.lneg, 1) := by decide +kernel
theorem dM_go_447 : decode cM_go 447 = .ok (.goto 30, 3) := by decide +kernel
theorem dM_go_450 : decode cM_go 450 = .ok (.iload_n 2, 1) := by decide +kernel
theorem dM_go_451 : decode cM_go 451 = .ok (.bipush 126, 2) := by decide +kernel
theorem dM_go_453 : decode cM_go 453 = .ok (.if_icmp .ne 12, 3) := by decide +kernel
theorem dM_go_456 : decode cM_go 456 = .ok (.lload 10, 2) := by decide +kernel
theorem dM_go_458 : decode cM_go 458 = .ok (.ldc2_w 181, 3) := by decide +kernel
theorem dM_go_461 : decode cM_go 461 = .ok (.lxor, 1) := by decide +kernel
theorem dM_go_462 : decode cM_go 462 = .ok (.goto 15, 3) := by decide +kernel
theorem dM_go_465 : decode cM_go 465 = .ok (.lload 10, 2) := by decide +kernel
theorem dM_go_467 : decode cM_go 467 = .ok (.lconst 0, 1) := by decide +kernel
theorem dM_go_468 : decode cM_go 468 = .ok (.lcmp, 1) := by decide +kernel
theorem dM_go_469 : decode cM_go 469 = .ok (.ifCond .ne 7, 3) := by decide +kernel
theorem dM_go_472 : decode cM_go 472 = .ok (.lconst 1, 1) := by decide +kernel
theorem dM_go_473 : decode cM_go 473 = .ok (.goto 4, 3) := by decide +kernel
theorem dM_go_476 : decode cM_go 476 = .ok (.lconst 0, 1) := by decide +kernel
theorem dM_go_477 : decode cM_go 477 = .ok (.invokevirtual 163, 3) := by decide +kernel
theorem dM_go_480 : decode cM_go 480 = .ok (.goto 61, 3) := by decide +kernel
theorem dM_go_483 : decode cM_go 483 = .ok (.aload_n 0, 1) := by decide +kernel
theorem dM_go_484 : decode cM_go 484 = .ok (.aload_n 0, 1) := by decide +kernel
theorem dM_go_485 : decode cM_go 485 = .ok (.getfield 102, 3) := by decide +kernel
theorem dM_go_488 : decode cM_go 488 = .ok (.ifCond .ne 12, 3) := by decide +kernel
theorem dM_go_491 : decode cM_go 491 = .ok (.aload_n 0, 1) := by decide +kernel
theorem dM_go_492 : decode cM_go 492 = .ok (.invokevirtual 127, 3) := by decide +kernel
theorem dM_go_495 : decode cM_go 495 = .ok (.bipush 41, 2) := by decide +kernel
theorem dM_go_497 : decode cM_go 497 = .ok (.if_icmp .eq 7, 3) := by decide +kernel
theorem dM_go_500 : decode cM_go 500 = .ok (.iconst 1, 1) := by decide +kernel
theorem dM_go_501 : decode cM_go 501 = .ok (.goto 4, 3) := by decide +kernel
theorem dM_go_504 : decode cM_go 504 = .ok (.iconst 0, 1) := by decide +kernel
theorem dM_go_505 : decode cM_go 505 = .ok (.putfield 102, 3) := by decide +kernel
theorem dM_go_508 : decode cM_go 508 = .ok (.aload_n 0, 1) := by decide +kernel
theorem dM_go_509 : decode cM_go 509 = .ok (.dup, 1) := by decide +kernel
theorem dM_go_510 : decode cM_go 510 = .ok (.getfield 108, 3) := by decide +kernel
theorem dM_go_513 : decode cM_go 513 = .ok (.iconst 1, 1) := by decide +kernel
theorem dM_go_514 : decode cM_go 514 = .ok (.iadd, 1) := by decide +kernel
theorem dM_go_515 : decode cM_go 515 = .ok (.putfield 108, 3) := by decide +kernel
theorem dM_go_518 : decode cM_go 518 = .ok (.aload_n 0, 1) := by decide +kernel
theorem dM_go_519 : decode cM_go 519 = .ok (.dup, 1) := by decide +kernel
theorem dM_go_520 : decode cM_go 520 = .ok (.getfield 124, 3) := by decide +kernel
theorem dM_go_523 : decode cM_go 523 = .ok (.iconst 1, 1) := by decide +kernel
theorem dM_go_524 : decode cM_go 524 = .ok (.isub, 1) := by decide +kernel
theorem dM_go_525 : decode cM_go 525 = .ok (.putfield 124, 3) := by decide +kernel
theorem dM_go_528 : decode cM_go 528 = .ok (.goto 13, 3) := by decide +kernel
theorem dM_go_531 : decode cM_go 531 = .ok (.aload_n 0, 1) := by decide +kernel
theorem dM_go_532 : decode cM_go 532 = .ok (.iload_n 1, 1) := by decide +kernel
theorem dM_go_533 : decode cM_go 533 = .ok (.iload_n 2, 1) := by decide +kernel
theorem dM_go_534 : decode cM_go 534 = .ok (.iload_n 3, 1) := by decide +kernel
theorem dM_go_535 : decode cM_go 535 = .ok (.lload 4, 2) := by decide +kernel
theorem dM_go_537 : decode cM_go 537 = .ok (.l2i, 1) := by decide +kernel
theorem dM_go_538 : decode cM_go 538 = .ok (.invokevirtual 183, 3) := by decide +kernel
theorem dM_go_541 : decode cM_go 541 = .ok (.goto (-541), 3) := by decide +kernel
theorem dM_go_544 : decode cM_go 544 = .ok (.return_, 1) := by decide +kernel
theorem dM_aSum_0 : decode cM_aSum 0 = .ok (.aload_n 0, 1) := by decide +kernel
theorem dM_aSum_1 : decode cM_aSum 1 = .ok (.invokevirtual 127, 3) := by decide +kernel
theorem dM_aSum_4 : decode cM_aSum 4 = .ok (.istore_n 2, 1) := by decide +kernel
theorem dM_aSum_5 : decode cM_aSum 5 = .ok (.iload_n 2, 1) := by decide +kernel
theorem dM_aSum_6 : decode cM_aSum 6 = .ok (.ifCond .lt 101, 3) := by decide +kernel
theorem dM_aSum_9 : decode cM_aSum 9 = .ok (.iload_n 2, 1) := by decide +kernel
theorem dM_aSum_10 : decode cM_aSum 10 = .ok (.invokestatic 82, 3) := by decide +kernel
theorem dM_aSum_13 : decode cM_aSum 13 = .ok (.ifCond .eq 94, 3) := by decide +kernel
theorem dM_aSum_16 : decode cM_aSum 16 = .ok (.aload_n 0, 1) := by decide +kernel
theorem dM_aSum_17 : decode cM_aSum 17 = .ok (.getfield 108, 3) := by decide +kernel
theorem dM_aSum_20 : decode cM_aSum 20 = .ok (.istore_n 3, 1) := by decide +kernel
theorem dM_aSum_21 : decode cM_aSum 21 = .ok (.aload_n 0, 1) := by decide +kernel
theorem dM_aSum_22 : decode cM_aSum 22 = .ok (.invokevirtual 134, 3) := by decide +kernel
theorem dM_aSum_25 : decode cM_aSum 25 = .ok (.istore 4, 2) := by decide +kernel
theorem dM_aSum_27 : decode cM_aSum 27 = .ok (.aload_n 0, 1) := by decide +kernel
theorem dM_aSum_28 : decode cM_aSum 28 = .ok (.iload 4, 2) := by decide +kernel
theorem dM_aSum_30 : decode cM_aSum 30 = .ok (.putfield 108, 3) := by decide +kernel
theorem dM_aSum_33 : decode cM_aSum 33 = .ok (.aload_n 0, 1) := by decide +kernel
theorem dM_aSum_34 : decode cM_aSum 34 = .ok (.invokevirtual 137, 3) := by decide +kernel
theorem dM_aSum_37 : decode cM_aSum 37 = .ok (.istore 5, 2) := by decide +kernel
theorem dM_aSum_39 : decode cM_aSum 39 = .ok (.iload 5, 2) := by decide +kernel
theorem dM_aSum_41 : decode cM_aSum 41 = .ok (.ifCond .le 61, 3) := by decide +kernel
theorem dM_aSum_44 : decode cM_aSum 44 = .ok (.iload 5, 2) := by decide +kernel
theorem dM_aSum_46 : decode cM_aSum 46 = .ok (.iconst 1, 1) := by decide +kernel
theorem dM_aSum_47 : decode cM_aSum 47 = .ok (.if_icmp .ne 7, 3) := by decide +kernel
theorem dM_aSum_50 : decode cM_aSum 50 = .ok (.iconst 0, 1) := by decide +kernel
theorem dM_aSum_51 : decode cM_aSum 51 = .ok (.goto 12, 3) := by decide +kernel
theorem dM_aSum_54 : decode cM_aSum 54 = .ok (.aload_n 0, 1) := by decide +kernel
theorem dM_aSum_55 : decode cM_aSum 55 = .ok (.getfield 13, 3) := by decide +kernel
theorem dM_aSum_58 : decode cM_aSum 58 = .ok (.aload_n 0, 1) := by decide +kernel
theorem dM_aSum_59 : decode cM_aSum 59 = .ok (.getfield 108, 3) := by decide +kernel
theorem dM_aSum_62 : decode cM_aSum 62 = .ok (.iaload, 1) := by decide +kernel
theorem dM_aSum_63 : decode cM_aSum 63 = .ok (.istore 6, 2) := by decide +kernel
theorem dM_aSum_65 : decode cM_aSum 65 = .ok (.aload_n 0, 1) := by decide +kernel
theorem dM_aSum_66 : decode cM_aSum 66 = .ok (.dup, 1) := by decide +kernel
theorem dM_aSum_67 : decode cM_aSum 67 = .ok (.getfield 108, 3) := by decide +kernel
theorem dM_aSum_70 : decode cM_aSum 70 = .ok (.iload 5, 2) := by decide +kernel
theorem dM_aSum_72 : decode cM_aSum 72 = .ok (.iadd, 1) := by decide +kernel
theorem dM_aSum_73 : decode cM_aSum 73 = .ok (.putfield 108, 3) := by decide +kernel
theorem dM_aSum_76 : decode cM_aSum 76 = .ok (.aload_n 0, 1) := by decide +kernel
theorem dM_aSum_77 : decode cM_aSum 77 = .ok (.invokevirtual 140, 3) := by decide +kernel
theorem dM_aSum_80 : decode cM_aSum 80 = .ok (.aload_n 0, 1) := by decide +kernel
theorem dM_aSum_81 : decode cM_aSum 81 = .ok (.bipush 10, 2) := by decide +kernel
theorem dM_aSum_83 : decode cM_aSum 83 = .ok (.iload_n 1, 1) := by decide +kernel
theorem dM_aSum_84 : decode cM_aSum 84 = .ok (.iload_n 3, 1) := by decide +kernel
theorem dM_aSum_85 : decode cM_aSum 85 = .ok (.iload 4, 2) := by decide +kernel
theorem dM_aSum_87 : decode cM_aSum 87 = .ok (.iload_n 3, 1) := by decide +kernel
theorem dM_aSum_88 : decode cM_aSum 88 = .ok (.isub, 1) := by decide +kernel
theorem dM_aSum_89 : decode cM_aSum 89 = .ok (.iload 6, 2) := by decide +kernel
theorem dM_aSum_91 : decode cM_aSum 91 = .ok (.i2l, 1) := by decide +kernel
theorem dM_aSum_92 : decode cM_aSum 92 = .ok (.invokevirtual 117, 3) := by decide +kernel
theorem dM_aSum_95 : decode cM_aSum 95 = .ok (.aload_n 0, 1) := by decide +kernel
theorem dM_aSum_96 : decode cM_aSum 96 = .ok (.iconst 0, 1) := by decide +kernel
theorem dM_aSum_97 : decode cM_aSum 97 = .ok (.iload_n 1, 1) := by decide +kernel
theorem dM_aSum_98 : decode cM_aSum 98 = .ok (.invokevirtual 143, 3) := by decide +kernel
theorem dM_aSum_101 : decode cM_aSum 101 = .ok (.return_, 1) := by decide +kernel
theorem dM_aSum_102 : decode cM_aSum 102 = .ok (.aload_n 0, 1) := by decide +kernel
theorem dM_aSum_103 : decode cM_aSum 103 = .ok (.iload_n 3, 1) := by decide +kernel
theorem dM_aSum_104 : decode cM_aSum 104 = .ok (.putfield 108, 3) := by decide +kernel
theorem dM_aSum_107 : decode cM_aSum 107 = .ok (.aload_n 0, 1) := by decide +kernel
theorem dM_aSum_108 : decode cM_aSum 108 = .ok (.iconst 1, 1) := by decide +kernel
theorem dM_aSum_109 : decode cM_aSum 109 = .ok (.iload_n 1, 1) := by decide +kernel
theorem dM_aSum_110 : decode cM_aSum 110 = .ok (.invokevirtual 143, 3) := by decide +kernel
theorem dM_aSum_113 : decode cM_aSum 113 = .ok (.aload_n 0, 1) := by decide +kernel
theorem dM_aSum_114 : decode cM_aSum 114 = .ok (.iconst 4, 1) := by decide +kernel
theorem dM_aSum_115 : decode cM_aSum 115 = .ok (.iload_n 1, 1) := by decide +kernel
theorem dM_aSum_116 : decode cM_aSum 116 = .ok (.iconst 1, 1) := by decide +kernel
theorem dM_aSum_117 : decode cM_aSum 117 = .ok (.iconst 0, 1) := by decide +kernel
theorem dM_aSum_118 : decode cM_aSum 118 = .ok (.lconst 0, 1) := by decide +kernel
theorem dM_aSum_119 : decode cM_aSum 119 = .ok (.invokevirtual 117, 3) := by decide +kernel
theorem dM_aSum_122 : decode cM_aSum 122 = .ok (.return_, 1) := by decide +kernel
theorem dM_gives_0 : decode cM_gives 0 = .ok (.aload_n 0, 1) := by decide +kernel
theorem dM_gives_1 : decode cM_gives 1 = .ok (.invokevirtual 127, 3) := by decide +kernel
theorem dM_gives_4 : decode cM_gives 4 = .ok (.istore_n 1, 1) := by decide +kernel
theorem dM_gives_5 : decode cM_gives 5 = .ok (.iload_n 1, 1) := by decide +kernel
theorem dM_gives_6 : decode cM_gives 6 = .ok (.bipush 61, 2) := by decide +kernel
theorem dM_gives_8 : decode cM_gives 8 = .ok (.if_icmp .ne 19, 3) := by decide +kernel
theorem dM_gives_11 : decode cM_gives 11 = .ok (.aload_n 0, 1) := by decide +kernel
theorem dM_gives_12 : decode cM_gives 12 = .ok (.iconst 1, 1) := by decide +kernel
theorem dM_gives_13 : decode cM_gives 13 = .ok (.invokevirtual 131, 3) := by decide +kernel
theorem dM_gives_16 : decode cM_gives 16 = .ok (.bipush 61, 2) := by decide +kernel
theorem dM_gives_18 : decode cM_gives 18 = .ok (.if_icmp .ne 7, 3) := by decide +kernel
theorem dM_gives_21 : decode cM_gives 21 = .ok (.iconst 0, 1) := by decide +kernel
theorem dM_gives_22 : decode cM_gives 22 = .ok (.goto 4, 3) := by decide +kernel
theorem dM_gives_25 : decode cM_gives 25 = .ok (.iconst 1, 1) := by decide +kernel
theorem dM_gives_26 : decode cM_gives 26 = .ok (.ireturn, 1) := by decide +kernel
theorem dM_gives_27 : decode cM_gives 27 = .ok (.iload_n 1, 1) := by decide +kernel
theorem dM_gives_28 : decode cM_gives 28 = .ok (.bipush 60, 2) := by decide +kernel
theorem dM_gives_30 : decode cM_gives 30 = .ok (.if_icmp .eq 9, 3) := by decide +kernel
theorem dM_gives_33 : decode cM_gives 33 = .ok (.iload_n 1, 1) := by decide +kernel
theorem dM_gives_34 : decode cM_gives 34 = .ok (.bipush 62, 2) := by decide +kernel
theorem dM_gives_36 : decode cM_gives 36 = .ok (.if_icmp .ne 28, 3) := by decide +kernel
theorem dM_gives_39 : decode cM_gives 39 = .ok (.aload_n 0, 1) := by decide +kernel
theorem dM_gives_40 : decode cM_gives 40 = .ok (.iconst 1, 1) := by decide +kernel
theorem dM_gives_41 : decode cM_gives 41 = .ok (.invokevirtual 131, 3) := by decide +kernel
theorem dM_gives_44 : decode cM_gives 44 = .ok (.iload_n 1, 1) := by decide +kernel
theorem dM_gives_45 : decode cM_gives 45 = .ok (.if_icmp .ne 19, 3) := by decide +kernel
theorem dM_gives_48 : decode cM_gives 48 = .ok (.aload_n 0, 1) := by decide +kernel
theorem dM_gives_49 : decode cM_gives 49 = .ok (.iconst 2, 1) := by decide +kernel
theorem dM_gives_50 : decode cM_gives 50 = .ok (.invokevirtual 131, 3) := by decide +kernel
theorem dM_gives_53 : decode cM_gives 53 = .ok (.bipush 61, 2) := by decide +kernel
theorem dM_gives_55 : decode cM_gives 55 = .ok (.if_icmp .ne 7, 3) := by decide +kernel
theorem dM_gives_58 : decode cM_gives 58 = .ok (.iconst 3, 1) := by decide +kernel
theorem dM_gives_59 : decode cM_gives 59 = .ok (.goto 4, 3) := by decide +kernel
theorem dM_gives_62 : decode cM_gives 62 = .ok (.iconst 0, 1) := by decide +kernel
theorem dM_gives_63 : decode cM_gives 63 = .ok (.ireturn, 1) := by decide +kernel
theorem dM_gives_64 : decode cM_gives 64 = .ok (.iload_n 1, 1) := by decide +kernel
theorem dM_gives_65 : decode cM_gives 65 = .ok (.bipush 42, 2) := by decide +kernel
theorem dM_gives_67 : decode cM_gives 67 = .ok (.if_icmp .eq 45, 3) := by decide +kernel
theorem dM_gives_70 : decode cM_gives 70 = .ok (.iload_n 1, 1) := by decide +kernel
theorem dM_gives_71 : decode cM_gives 71 = .ok (.bipush 47, 2) := by decide +kernel
theorem dM_gives_73 : decode cM_gives 73 = .ok (.if_icmp .eq 39, 3) := by decide +kernel
theorem dM_gives_76 : decode cM_gives 76 = .ok (.iload_n 1, 1) := by decide +kernel
theorem dM_gives_77 : decode cM_gives 77 = .ok (.bipush 37, 2) := by decide +kernel
theorem dM_gives_79 : decode cM_gives 79 = .ok (.if_icmp .eq 33, 3) := by decide +kernel
theorem dM_gives_82 : decode cM_gives 82 = .ok (.iload_n 1, 1) := by decide +kernel
theorem dM_gives_83 : decode cM_gives 83 = .ok (.bipush 43, 2) := by decide +kernel
theorem dM_gives_85 : decode cM_gives 85 = .ok (.if_icmp .eq 27, 3) := by decide +kernel
theorem dM_gives_88 : decode cM_gives 88 = .ok (.iload_n 1, 1) := by decide +kernel
theorem dM_gives_89 : decode cM_gives 89 = .ok (.bipush 45, 2) := by decide +kernel
theorem dM_gives_91 : decode cM_gives 91 = .ok (.if_icmp .eq 21, 3) := by decide +kernel
theorem dM_gives_94 : decode cM_gives 94 = .ok (.iload_n 1, 1) := by decide +kernel
theorem dM_gives_95 : decode cM_gives 95 = .ok (.bipush 38, 2) := by decide +kernel
theorem dM_gives_97 : decode cM_gives 97 = .ok (.if_icmp .eq 15, 3) := by decide +kernel
theorem dM_gives_100 : decode cM_gives 100 = .ok (.iload_n 1, 1) := by decide +kernel
theorem dM_gives_101 : decode cM_gives 101 = .ok (.bipush 94, 2) := by decide +kernel
theorem dM_gives_103 : decode cM_gives 103 = .ok (.if_icmp .eq 9, 3) := by decide +kernel
theorem dM_gives_106 : decode cM_gives 106 = .ok (.iload_n 1, 1) := by decide +kernel
theorem dM_gives_107 : decode cM_gives 107 = .ok (.bipush 124, 2) := by decide +kernel
theorem dM_gives_109 : decode cM_gives 109 = .ok (.if_icmp .ne 7, 3) := by decide +kernel
theorem dM_gives_112 : decode cM_gives 112 = .ok (.iconst 1, 1) := by decide +kernel
theorem dM_gives_113 : decode cM_gives 113 = .ok (.goto 4, 3) := by decide +kernel
theorem dM_gives_116 : decode cM_gives 116 = .ok (.iconst 0, 1) := by decide +kernel
theorem dM_gives_117 : decode cM_gives 117 = .ok (.istore_n 2, 1) := by decide +kernel
theorem dM_gives_118 : decode cM_gives 118 = .ok (.iload_n 2, 1) := by decide +kernel
theorem dM_gives_119 : decode cM_gives 119 = .ok (.ifCond .eq 17, 3) := by decide +kernel
theorem dM_gives_122 : decode cM_gives 122 = .ok (.aload_n 0, 1) := by decide +kernel
theorem dM_gives_123 : decode cM_gives 123 = .ok (.iconst 1, 1) := by decide +kernel
theorem dM_gives_124 : decode cM_gives 124 = .ok (.invokevirtual 131, 3) := by decide +kernel
theorem dM_gives_127 : decode cM_gives 127 = .ok (.bipush 61, 2) := by decide +kernel
theorem dM_gives_129 : decode cM_gives 129 = .ok (.if_icmp .ne 7, 3) := by decide +kernel
theorem dM_gives_132 : decode cM_gives 132 = .ok (.iconst 2, 1) := by decide +kernel
theorem dM_gives_133 : decode cM_gives 133 = .ok (.goto 4, 3) := by decide +kernel
theorem dM_gives_136 : decode cM_gives 136 = .ok (.iconst 0, 1) := by decide +kernel
theorem dM_gives_137 : decode cM_gives 137 = .ok (.ireturn, 1) := by decide +kernel
theorem dM_more_0 : decode cM_more 0 = .ok (.aload_n 0, 1) := by decide +kernel
theorem dM_more_1 : decode cM_more 1 = .ok (.invokevirtual 167, 3) := by decide +kernel
theorem dM_more_4 : decode cM_more 4 = .ok (.istore_n 3, 1) := by decide +kernel
theorem dM_more_5 : decode cM_more 5 = .ok (.iload_n 3, 1) := by decide +kernel
theorem dM_more_6 : decode cM_more 6 = .ok (.ifCond .eq 8, 3) := by decide +kernel
theorem dM_more_9 : decode cM_more 9 = .ok (.iload_n 3, 1) := by decide +kernel
theorem dM_more_10 : decode cM_more 10 = .ok (.iload_n 2, 1) := by decide +kernel
theorem dM_more_11 : decode cM_more 11 = .ok (.if_icmp .ge 4, 3) := by decide +kernel
theorem dM_more_14 : decode cM_more 14 = .ok (.return_, 1) := by decide +kernel
theorem dM_more_15 : decode cM_more 15 = .ok (.aload_n 0, 1) := by decide +kernel
theorem dM_more_16 : decode cM_more 16 = .ok (.invokevirtual 127, 3) := by decide +kernel
theorem dM_more_19 : decode cM_more 19 = .ok (.istore 4, 2) := by decide +kernel
theorem dM_more_21 : decode cM_more 21 = .ok (.iload_n 3, 1) := by decide +kernel
theorem dM_more_22 : decode cM_more 22 = .ok (.iconst 1, 1) := by decide +kernel
theorem dM_more_23 : decode cM_more 23 = .ok (.if_icmp .eq 36, 3) := by decide +kernel
theorem dM_more_26 : decode cM_more 26 = .ok (.iload_n 3, 1) := by decide +kernel
theorem dM_more_27 : decode cM_more 27 = .ok (.iconst 2, 1) := by decide +kernel
theorem dM_more_28 : decode cM_more 28 = .ok (.if_icmp .eq 31, 3) := by decide +kernel
theorem dM_more_31 : decode cM_more 31 = .ok (.iload_n 3, 1) := by decide +kernel
theorem dM_more_32 : decode cM_more 32 = .ok (.bipush 6, 2) := by decide +kernel
theorem dM_more_34 : decode cM_more 34 = .ok (.if_icmp .eq 25, 3) := by decide +kernel
theorem dM_more_37 : decode cM_more 37 = .ok (.iload_n 3, 1) := by decide +kernel
theorem dM_more_38 : decode cM_more 38 = .ok (.bipush 8, 2) := by decide +kernel
theorem dM_more_40 : decode cM_more 40 = .ok (.if_icmp .eq 19, 3) := by decide +kernel
theorem dM_more_43 : decode cM_more 43 = .ok (.iload_n 3, 1) := by decide +kernel
theorem dM_more_44 : decode cM_more 44 = .ok (.bipush 7, 2) := by decide +kernel
theorem dM_more_46 : decode cM_more 46 = .ok (.if_icmp .ne 17, 3) := by decide +kernel
theorem dM_more_49 : decode cM_more 49 = .ok (.aload_n 0, 1) := by decide +kernel
theorem dM_more_50 : decode cM_more 50 = .ok (.iconst 1, 1) := by decide +kernel
theorem dM_more_51 : decode cM_more 51 = .ok (.invokevirtual 131, 3) := by decide +kernel
theorem dM_more_54 : decode cM_more 54 = .ok (.bipush 61, 2) := by decide +kernel
theorem dM_more_56 : decode cM_more 56 = .ok (.if_icmp .ne 7, 3) := by decide +kernel
theorem dM_more_59 : decode cM_more 59 = .ok (.iconst 1, 1) := by decide +kernel
theorem dM_more_60 : decode cM_more 60 = .ok (.goto 4, 3) := by decide +kernel
theorem dM_more_63 : decode cM_more 63 = .ok (.iconst 0, 1) := by decide +kernel
theorem dM_more_64 : decode cM_more 64 = .ok (.istore 5, 2) := by decide +kernel
theorem dM_more_66 : decode cM_more 66 = .ok (.aload_n 0, 1) := by decide +kernel
theorem dM_more_67 : decode cM_more 67 = .ok (.dup, 1) := by decide +kernel
theorem dM_more_68 : decode cM_more 68 = .ok (.getfield 108, 3) := by decide +kernel
theorem dM_more_71 : decode cM_more 71 = .ok (.iload 5, 2) := by decide +kernel
theorem dM_more_73 : decode cM_more 73 = .ok (.ifCond .eq 7, 3) := by decide +kernel
theorem dM_more_76 : decode cM_more 76 = .ok (.iconst 2, 1) := by decide +kernel
theorem dM_more_77 : decode cM_more 77 = .ok (.goto 4, 3) := by decide +kernel
theorem dM_more_80 : decode cM_more 80 = .ok (.iconst 1, 1) := by decide +kernel
theorem dM_more_81 : decode cM_more 81 = .ok (.iadd, 1) := by decide +kernel
theorem dM_more_82 : decode cM_more 82 = .ok (.putfield 108, 3) := by decide +kernel
theorem dM_more_85 : decode cM_more 85 = .ok (.aload_n 0, 1) := by decide +kernel
theorem dM_more_86 : decode cM_more 86 = .ok (.invokevirtual 147, 3) := by decide +kernel
theorem dM_more_89 : decode cM_more 89 = .ok (.lstore 6, 2) := by decide +kernel
theorem dM_more_91 : decode cM_more 91 = .ok (.iload_n 1, 1) := by decide +kernel
theorem dM_more_92 : decode cM_more 92 = .ok (.ifCond .eq 34, 3) := by decide +kernel
theorem dM_more_95 : decode cM_more 95 = .ok (.iload_n 3, 1) := by decide +kernel
theorem dM_more_96 : decode cM_more 96 = .ok (.iconst 1, 1) := by decide +kernel
theorem dM_more_97 : decode cM_more 97 = .ok (.if_icmp .ne 13, 3) := by decide +kernel
theorem dM_more_100 : decode cM_more 100 = .ok (.lload 6, 2) := by decide +kernel
theorem dM_more_102 : decode cM_more 102 = .ok (.lconst 0, 1) := by decide +kernel
theorem dM_more_103 : decode cM_more 103 = .ok (.lcmp, 1) := by decide +kernel
theorem dM_more_104 : decode cM_more 104 = .ok (.ifCond .ne 22, 3) := by decide +kernel
theorem dM_more_107 : decode cM_more 107 = .ok (.goto 15, 3) := by decide +kernel
theorem dM_more_110 : decode cM_more 110 = .ok (.iload_n 3, 1) := by decide +kernel
theorem dM_more_111 : decode cM_more 111 = .ok (.iconst 2, 1) := by decide +kernel
theorem dM_more_112 : decode cM_more 112 = .ok (.if_icmp .ne 10, 3) := by decide +kernel
theorem dM_more_115 : decode cM_more 115 = .ok (.lload 6, 2) := by decide +kernel
theorem dM_more_117 : decode cM_more 117 = .ok (.lconst 0, 1) := by decide +kernel
theorem dM_more_118 : decode cM_more 118 = .ok (.lcmp, 1) := by decide +kernel
theorem dM_more_119 : decode cM_more 119 = .ok (.ifCond .eq 7, 3) := by decide +kernel
theorem dM_more_122 : decode cM_more 122 = .ok (.iconst 1, 1) := by decide +kernel
theorem dM_more_123 : decode cM_more 123 = .ok (.goto 4, 3) := by decide +kernel
theorem dM_more_126 : decode cM_more 126 = .ok (.iconst 0, 1) := by decide +kernel
theorem dM_more_127 : decode cM_more 127 = .ok (.istore 8, 2) := by decide +kernel
theorem dM_more_129 : decode cM_more 129 = .ok (.aload_n 0, 1) := by decide +kernel
theorem dM_more_130 : decode cM_more 130 = .ok (.iconst 5, 1) := by decide +kernel
theorem dM_more_131 : decode cM_more 131 = .ok (.iload_n 1, 1) := by decide +kernel
theorem dM_more_132 : decode cM_more 132 = .ok (.invokevirtual 143, 3) := by decide +kernel
theorem dM_more_135 : decode cM_more 135 = .ok (.aload_n 0, 1) := by decide +kernel
theorem dM_more_136 : decode cM_more 136 = .ok (.getfield 19, 3) := by decide +kernel
theorem dM_more_139 : decode cM_more 139 = .ok (.aload_n 0, 1) := by decide +kernel
theorem dM_more_140 : decode cM_more 140 = .ok (.getfield 114, 3) := by decide +kernel
theorem dM_more_143 : decode cM_more 143 = .ok (.iconst 1, 1) := by decide +kernel
theorem dM_more_144 : decode cM_more 144 = .ok (.isub, 1) := by decide +kernel
theorem dM_more_145 : decode cM_more 145 = .ok (.iload_n 2, 1) := by decide +kernel
theorem dM_more_146 : decode cM_more 146 = .ok (.iastore, 1) := by decide +kernel
theorem dM_more_147 : decode cM_more 147 = .ok (.aload_n 0, 1) := by decide +kernel
theorem dM_more_148 : decode cM_more 148 = .ok (.bipush 6, 2) := by decide +kernel
theorem dM_more_150 : decode cM_more 150 = .ok (.iload_n 1, 1) := by decide +kernel
theorem dM_more_151 : decode cM_more 151 = .ok (.iload 4, 2) := by decide +kernel
theorem dM_more_153 : decode cM_more 153 = .ok (.iload 5, 2) := by decide +kernel
theorem dM_more_155 : decode cM_more 155 = .ok (.ifCond .eq 8, 3) := by decide +kernel
theorem dM_more_158 : decode cM_more 158 = .ok (.iload_n 3, 1) := by decide +kernel
theorem dM_more_159 : decode cM_more 159 = .ok (.ineg, 1) := by decide +kernel
theorem dM_more_160 : decode cM_more 160 = .ok (.goto 4, 3) := by decide +kernel
theorem dM_more_163 : decode cM_more 163 = .ok (.iload_n 3, 1) := by decide +kernel
theorem dM_more_164 : decode cM_more 164 = .ok (.lload 6, 2) := by decide +kernel
theorem dM_more_166 : decode cM_more 166 = .ok (.invokevirtual 117, 3) := by decide +kernel
theorem dM_more_169 : decode cM_more 169 = .ok (.aload_n 0, 1) := by decide +kernel
theorem dM_more_170 : decode cM_more 170 = .ok (.iconst 4, 1) := by decide +kernel
theorem dM_more_171 : decode cM_more 171 = .ok (.iload 8, 2) := by decide +kernel
theorem dM_more_173 : decode cM_more 173 = .ok (.iload_n 3, 1) := by decide +kernel
theorem dM_more_174 : decode cM_more 174 = .ok (.iconst 1, 1) := by decide +kernel
theorem dM_more_175 : decode cM_more 175 = .ok (.iadd, 1) := by decide +kernel
theorem dM_more_176 : decode cM_more 176 = .ok (.iconst 0, 1) := by decide +kernel
theorem dM_more_177 : decode cM_more 177 = .ok (.lconst 0, 1) := by decide +kernel
theorem dM_more_178 : decode cM_more 178 = .ok (.invokevirtual 117, 3) := by decide +kernel
theorem dM_more_181 : decode cM_more 181 = .ok (.return_, 1) := by decide +kernel
theorem dM_rank_0 : decode cM_rank 0 = .ok (.aload_n 0, 1) := by decide +kernel
theorem dM_rank_1 : decode cM_rank 1 = .ok (.invokevirtual 127, 3) := by decide +kernel
theorem dM_rank_4 : decode cM_rank 4 = .ok (.istore_n 1, 1) := by decide +kernel
theorem dM_rank_5 : decode cM_rank 5 = .ok (.aload_n 0, 1) := by decide +kernel
theorem dM_rank_6 : decode cM_rank 6 = .ok (.iconst 1, 1) := by decide +kernel
theorem dM_rank_7 : decode cM_rank 7 = .ok (.invokevirtual 131, 3) := by decide +kernel
theorem dM_rank_10 : decode cM_rank 10 = .ok (.istore_n 2, 1) := by decide +kernel
theorem dM_rank_11 : decode cM_rank 11 = .ok (.iload_n 1, 1) := by decide +kernel
theorem dM_rank_12 : decode cM_rank 12 = .ok (.bipush 124, 2) := by decide +kernel
theorem dM_rank_14 : decode cM_rank 14 = .ok (.if_icmp .ne 25, 3) := by decide +kernel
theorem dM_rank_17 : decode cM_rank 17 = .ok (.iload_n 2, 1) := by decide +kernel
theorem dM_rank_18 : decode cM_rank 18 = .ok (.bipush 124, 2) := by decide +kernel
theorem dM_rank_20 : decode cM_rank 20 = .ok (.if_icmp .ne 7, 3) := by decide +kernel
theorem dM_rank_23 : decode cM_rank 23 = .ok (.iconst 1, 1) := by decide +kernel
theorem dM_rank_24 : decode cM_rank 24 = .ok (.goto 14, 3) := by decide +kernel
theorem dM_rank_27 : decode cM_rank 27 = .ok (.iload_n 2, 1) := by decide +kernel
theorem dM_rank_28 : decode cM_rank 28 = .ok (.bipush 61, 2) := by decide +kernel
theorem dM_rank_30 : decode cM_rank 30 = .ok (.if_icmp .ne 7, 3) := by decide +kernel
theorem dM_rank_33 : decode cM_rank 33 = .ok (.iconst 0, 1) := by decide +kernel
theorem dM_rank_34 : decode cM_rank 34 = .ok (.goto 4, 3) := by decide +kernel
theorem dM_rank_37 : decode cM_rank 37 = .ok (.iconst 3, 1) := by decide +kernel
theorem dM_rank_38 : decode cM_rank 38 = .ok (.ireturn, 1) := by decide +kernel
theorem dM_rank_39 : decode cM_rank 39 = .ok (.iload_n 1, 1) := by decide +kernel
theorem dM_rank_40 : decode cM_rank 40 = .ok (.bipush 38, 2) := by decide +kernel
theorem dM_rank_42 : decode cM_rank 42 = .ok (.if_icmp .ne 25, 3) := by decide +kernel
theorem dM_rank_45 : decode cM_rank 45 = .ok (.iload_n 2, 1) := by decide +kernel
theorem dM_rank_46 : decode cM_rank 46 = .ok (.bipush 38, 2) := by decide +kernel
theorem dM_rank_48 : decode cM_rank 48 = .ok (.if_icmp .ne 7, 3) := by decide +kernel
theorem dM_rank_51 : decode cM_rank 51 = .ok (.iconst 2, 1) := by decide +kernel
theorem dM_rank_52 : decode cM_rank 52 = .ok (.goto 14, 3) := by decide +kernel
theorem dM_rank_55 : decode cM_rank 55 = .ok (.iload_n 2, 1) := by decide +kernel
theorem dM_rank_56 : decode cM_rank 56 = .ok (.bipush 61, 2) := by decide +kernel
theorem dM_rank_58 : decode cM_rank 58 = .ok (.if_icmp .ne 7, 3) := by decide +kernel
theorem dM_rank_61 : decode cM_rank 61 = .ok (.iconst 0, 1) := by decide +kernel
theorem dM_rank_62 : decode cM_rank 62 = .ok (.goto 4, 3) := by decide +kernel
theorem dM_rank_65 : decode cM_rank 65 = .ok (.iconst 5, 1) := by decide +kernel
theorem dM_rank_66 : decode cM_rank 66 = .ok (.ireturn, 1) := by decide +kernel
theorem dM_rank_67 : decode cM_rank 67 = .ok (.iload_n 1, 1) := by decide +kernel
theorem dM_rank_68 : decode cM_rank 68 = .ok (.bipush 94, 2) := by decide +kernel
theorem dM_rank_70 : decode cM_rank 70 = .ok (.if_icmp .ne 15, 3) := by decide +kernel
theorem dM_rank_73 : decode cM_rank 73 = .ok (.iload_n 2, 1) := by decide +kernel
theorem dM_rank_74 : decode cM_rank 74 = .ok (.bipush 61, 2) := by decide +kernel
theorem dM_rank_76 : decode cM_rank 76 = .ok (.if_icmp .ne 7, 3) := by decide +kernel
theorem dM_rank_79 : decode cM_rank 79 = .ok (.iconst 0, 1) := by decide +kernel
theorem dM_rank_80 : decode cM_rank 80 = .ok (.goto 4, 3) := by decide +kernel
theorem dM_rank_83 : decode cM_rank 83 = .ok (.iconst 4, 1) := by decide +kernel
theorem dM_rank_84 : decode cM_rank 84 = .ok (.ireturn, 1) := by decide +kernel
theorem dM_rank_85 : decode cM_rank 85 = .ok (.iload_n 1, 1) := by decide +kernel
theorem dM_rank_86 : decode cM_rank 86 = .ok (.bipush 61, 2) := by decide +kernel
theorem dM_rank_88 : decode cM_rank 88 = .ok (.if_icmp .eq 9, 3) := by decide +kernel
theorem dM_rank_91 : decode cM_rank 91 = .ok (.iload_n 1, 1) := by decide +kernel
theorem dM_rank_92 : decode cM_rank 92 = .ok (.bipush 33, 2) := by decide +kernel
theorem dM_rank_94 : decode cM_rank 94 = .ok (.if_icmp .ne 16, 3) := by decide +kernel
theorem dM_rank_97 : decode cM_rank 97 = .ok (.iload_n 2, 1) := by decide +kernel
theorem dM_rank_98 : decode cM_rank 98 = .ok (.bipush 61, 2) := by decide +kernel
theorem dM_rank_100 : decode cM_rank 100 = .ok (.if_icmp .ne 8, 3) := by decide +kernel
theorem dM_rank_103 : decode cM_rank 103 = .ok (.bipush 6, 2) := by decide +kernel
theorem dM_rank_105 : decode cM_rank 105 = .ok (.goto 4, 3) := by decide +kernel
theorem dM_rank_108 : decode cM_rank 108 = .ok (.iconst 0, 1) := by decide +kernel
theorem dM_rank_109 : decode cM_rank 109 = .ok (.ireturn, 1) := by decide +kernel
theorem dM_rank_110 : decode cM_rank 110 = .ok (.iload_n 1, 1) := by decide +kernel
theorem dM_rank_111 : decode cM_rank 111 = .ok (.bipush 60, 2) := by decide +kernel
theorem dM_rank_113 : decode cM_rank 113 = .ok (.if_icmp .eq 9, 3) := by decide +kernel
theorem dM_rank_116 : decode cM_rank 116 = .ok (.iload_n 1, 1) := by decide +kernel
theorem dM_rank_117 : decode cM_rank 117 = .ok (.bipush 62, 2) := by decide +kernel
theorem dM_rank_119 : decode cM_rank 119 = .ok (.if_icmp .ne 30, 3) := by decide +kernel
theorem dM_rank_122 : decode cM_rank 122 = .ok (.iload_n 2, 1) := by decide +kernel
theorem dM_rank_123 : decode cM_rank 123 = .ok (.iload_n 1, 1) := by decide +kernel
theorem dM_rank_124 : decode cM_rank 124 = .ok (.if_icmp .eq 8, 3) := by decide +kernel
theorem dM_rank_127 : decode cM_rank 127 = .ok (.bipush 7, 2) := by decide +kernel
theorem dM_rank_129 : decode cM_rank 129 = .ok (.goto 19, 3) := by decide +kernel
theorem dM_rank_132 : decode cM_rank 132 = .ok (.aload_n 0, 1) := by decide +kernel
theorem dM_rank_133 : decode cM_rank 133 = .ok (.iconst 2, 1) := by decide +kernel
theorem dM_rank_134 : decode cM_rank 134 = .ok (.invokevirtual 131, 3) := by decide +kernel
theorem dM_rank_137 : decode cM_rank 137 = .ok (.bipush 61, 2) := by decide +kernel
theorem dM_rank_139 : decode cM_rank 139 = .ok (.if_icmp .ne 7, 3) := by decide +kernel
theorem dM_rank_142 : decode cM_rank 142 = .ok (.iconst 0, 1) := by decide +kernel
theorem dM_rank_143 : decode cM_rank 143 = .ok (.goto 5, 3) := by decide +kernel
theorem dM_rank_146 : decode cM_rank 146 = .ok (.bipush 8, 2) := by decide +kernel
theorem dM_rank_148 : decode cM_rank 148 = .ok (.ireturn, 1) := by decide +kernel
theorem dM_rank_149 : decode cM_rank 149 = .ok (.iload_n 1, 1) := by decide +kernel
theorem dM_rank_150 : decode cM_rank 150 = .ok (.bipush 43, 2) := by decide +kernel
theorem dM_rank_152 : decode cM_rank 152 = .ok (.if_icmp .eq 9, 3) := by decide +kernel
theorem dM_rank_155 : decode cM_rank 155 = .ok (.iload_n 1, 1) := by decide +kernel
theorem dM_rank_156 : decode cM_rank 156 = .ok (.bipush 45, 2) := by decide +kernel
theorem dM_rank_158 : decode cM_rank 158 = .ok (.if_icmp .ne 16, 3) := by decide +kernel
theorem dM_rank_161 : decode cM_rank 161 = .ok (.iload_n 2, 1) := by decide +kernel
theorem dM_rank_162 : decode cM_rank 162 = .ok (.bipush 61, 2) := by decide +kernel
theorem dM_rank_164 : decode cM_rank 164 = .ok (.if_icmp .ne 7, 3) := by decide +kernel
theorem dM_rank_167 : decode cM_rank 167 = .ok (.iconst 0, 1) := by decide +kernel
theorem dM_rank_168 : decode cM_rank 168 = .ok (.goto 5, 3) := by decide +kernel
theorem dM_rank_171 : decode cM_rank 171 = .ok (.bipush 9, 2) := by decide +kernel
theorem dM_rank_173 : decode cM_rank 173 = .ok (.ireturn, 1) := by decide +kernel
theorem dM_rank_174 : decode cM_rank 174 = .ok (.iload_n 1, 1) := by decide +kernel
theorem dM_rank_175 : decode cM_rank 175 = .ok (.bipush 42, 2) := by decide +kernel
theorem dM_rank_177 : decode cM_rank 177 = .ok (.if_icmp .eq 15, 3) := by decide +kernel
theorem dM_rank_180 : decode cM_rank 180 = .ok (.iload_n 1, 1) := by decide +kernel
theorem dM_rank_181 : decode cM_rank 181 = .ok (.bipush 47, 2) := by decide +kernel
theorem dM_rank_183 : decode cM_rank 183 = .ok (.if_icmp .eq 9, 3) := by decide +kernel
theorem dM_rank_186 : decode cM_rank 186 = .ok (.iload_n 1, 1) := by decide +kernel
theorem dM_rank_187 : decode cM_rank 187 = .ok (.bipush 37, 2) := by decide +kernel
theorem dM_rank_189 : decode cM_rank 189 = .ok (.if_icmp .ne 14, 3) := by decide +kernel
theorem dM_rank_192 : decode cM_rank 192 = .ok (.iload_n 2, 1) := by decide +kernel
theorem dM_rank_193 : decode cM_rank 193 = .ok (.bipush 61, 2) := by decide +kernel
theorem dM_rank_195 : decode cM_rank 195 = .ok (.if_icmp .eq 8, 3) := by decide +kernel
theorem dM_rank_198 : decode cM_rank 198 = .ok (.bipush 10, 2) := by decide +kernel
theorem dM_rank_200 : decode cM_rank 200 = .ok (.goto 4, 3) := by decide +kernel
theorem dM_rank_203 : decode cM_rank 203 = .ok (.iconst 0, 1) := by decide +kernel
theorem dM_rank_204 : decode cM_rank 204 = .ok (.ireturn, 1) := by decide +kernel
theorem dM_joined_0 : decode cM_joined 0 = .ok (.iload_n 1, 1) := by decide +kernel
theorem dM_joined_1 : decode cM_joined 1 = .ok (.lookupswitch 317 #[(33, 185), (37, 217), (38, 132), (42, 211), (43, 199), (45, 205), (47, 217), (60, 276), (61, 171), (94, 165), (124, 99)], 99) := by decide +kernel
theorem dM_joined_100 : decode cM_joined 100 = .ok (.iload_n 2, 1) := by decide +kernel
theorem dM_joined_101 : decode cM_joined 101 = .ok (.iconst 1, 1) := by decide +kernel
theorem dM_joined_102 : decode cM_joined 102 = .ok (.if_icmp .ne 25, 3) := by decide +kernel
theorem dM_joined_105 : decode cM_joined 105 = .ok (.lload 4, 2) := by decide +kernel
theorem dM_joined_107 : decode cM_joined 107 = .ok (.lconst 0, 1) := by decide +kernel
theorem dM_joined_108 : decode cM_joined 108 = .ok (.lcmp, 1) := by decide +kernel
theorem dM_joined_109 : decode cM_joined 109 = .ok (.ifCond .ne 10, 3) := by decide +kernel
theorem dM_joined_112 : decode cM_joined 112 = .ok (.lload 6, 2) := by decide +kernel
theorem dM_joined_114 : decode cM_joined 114 = .ok (.lconst 0, 1) := by decide +kernel
theorem dM_joined_115 : decode cM_joined 115 = .ok (.lcmp, 1) := by decide +kernel
theorem dM_joined_116 : decode cM_joined 116 = .ok (.ifCond .eq 7, 3) := by decide +kernel
theorem dM_joined_119 : decode cM_joined 119 = .ok (.lconst 1, 1) := by decide +kernel
theorem dM_joined_120 : decode cM_joined 120 = .ok (.goto 12, 3) := by decide +kernel
theorem dM_joined_123 : decode cM_joined 123 = .ok (.lconst 0, 1) := by decide +kernel
theorem dM_joined_124 : decode cM_joined 124 = .ok (.goto 8, 3) := by decide +kernel
theorem dM_joined_127 : decode cM_joined 127 = .ok (.lload 4, 2) := by decide +kernel
theorem dM_joined_129 : decode cM_joined 129 = .ok (.lload 6, 2) := by decide +kernel
theorem dM_joined_131 : decode cM_joined 131 = .ok (.lor, 1) := by decide +kernel
theorem dM_joined_132 : decode cM_joined 132 = .ok (.lreturn, 1) := by decide +kernel
theorem dM_joined_133 : decode cM_joined 133 = .ok (.iload_n 2, 1) := by decide +kernel
theorem dM_joined_134 : decode cM_joined 134 = .ok (.iconst 2, 1) := by decide +kernel
theorem dM_joined_135 : decode cM_joined 135 = .ok (.if_icmp .ne 25, 3) := by decide +kernel
theorem dM_joined_138 : decode cM_joined 138 = .ok (.lload 4, 2) := by decide +kernel
theorem dM_joined_140 : decode cM_joined 140 = .ok (.lconst 0, 1) := by decide +kernel
theorem dM_joined_141 : decode cM_joined 141 = .ok (.lcmp, 1) := by decide +kernel
theorem dM_joined_142 : decode cM_joined 142 = .ok (.ifCond .eq 14, 3) := by decide +kernel
theorem dM_joined_145 : decode cM_joined 145 = .ok (.lload 6, 2) := by decide +kernel
theorem dM_joined_147 : decode cM_joined 147 = .ok (.lconst 0, 1) := by decide +kernel
theorem dM_joined_148 : decode cM_joined 148 = .ok (.lcmp, 1) := by decide +kernel
theorem dM_joined_149 : decode cM_joined 149 = .ok (.ifCond .eq 7, 3) := by decide +kernel
theorem dM_joined_152 : decode cM_joined 152 = .ok (.lconst 1, 1) := by decide +kernel
theorem dM_joined_153 : decode cM_joined 153 = .ok (.goto 12, 3) := by decide +kernel
theorem dM_joined_156 : decode cM_joined 156 = .ok (.lconst 0, 1) := by decide +kernel
theorem dM_joined_157 : decode cM_joined 157 = .ok (.goto 8, 3) := by decide +kernel
theorem dM_joined_160 : decode cM_joined 160 = .ok (.lload 4, 2) := by decide +kernel
theorem dM_joined_162 : decode cM_joined 162 = .ok (.lload 6, 2) := by decide +kernel
theorem dM_joined_164 : decode cM_joined 164 = .ok (.land, 1) := by decide +kernel
theorem dM_joined_165 : decode cM_joined 165 = .ok (.lreturn, 1) := by decide +kernel
theorem dM_joined_166 : decode cM_joined 166 = .ok (.lload 4, 2) := by decide +kernel
theorem dM_joined_168 : decode cM_joined 168 = .ok (.lload 6, 2) := by decide +kernel
theorem dM_joined_170 : decode cM_joined 170 = .ok (.lxor, 1) := by decide +kernel
theorem dM_joined_171 : decode cM_joined 171 = .ok (.lreturn, 1) := by decide +kernel
theorem dM_joined_172 : decode cM_joined 172 = .ok (.lload 4, 2) := by decide +kernel
theorem dM_joined_174 : decode cM_joined 174 = .ok (.lload 6, 2) := by decide +kernel
theorem dM_joined_176 : decode cM_joined 176 = .ok (.lcmp, 1) := by decide +kernel
theorem dM_joined_177 : decode cM_joined 177 = .ok (.ifCond .ne 7, 3) := by decide +kernel
theorem dM_joined_180 : decode cM_joined 180 = .ok (.lconst 1, 1) := by decide +kernel
theorem dM_joined_181 : decode cM_joined 181 = .ok (.goto 4, 3) := by decide +kernel
theorem dM_joined_184 : decode cM_joined 184 = .ok (.lconst 0, 1) := by decide +kernel
theorem dM_joined_185 : decode cM_joined 185 = .ok (.lreturn, 1) := by decide +kernel
theorem dM_joined_186 : decode cM_joined 186 = .ok (.lload 4, 2) := by decide +kernel
theorem dM_joined_188 : decode cM_joined 188 = .ok (.lload 6, 2) := by decide +kernel
theorem dM_joined_190 : decode cM_joined 190 = .ok (.lcmp, 1) := by decide +kernel
theorem dM_joined_191 : decode cM_joined 191 = .ok (.ifCond .eq 7, 3) := by decide +kernel
theorem dM_joined_194 : decode cM_joined 194 = .ok (.lconst 1, 1) := by decide +kernel
theorem dM_joined_195 : decode cM_joined 195 = .ok (.goto 4, 3) := by decide +kernel
theorem dM_joined_198 : decode cM_joined 198 = .ok (.lconst 0, 1) := by decide +kernel
theorem dM_joined_199 : decode cM_joined 199 = .ok (.lreturn, 1) := by decide +kernel
theorem dM_joined_200 : decode cM_joined 200 = .ok (.lload 4, 2) := by decide +kernel
theorem dM_joined_202 : decode cM_joined 202 = .ok (.lload 6, 2) := by decide +kernel
theorem dM_joined_204 : decode cM_joined 204 = .ok (.ladd, 1) := by decide +kernel
theorem dM_joined_205 : decode cM_joined 205 = .ok (.lreturn, 1) := by decide +kernel
theorem dM_joined_206 : decode cM_joined 206 = .ok (.lload 4, 2) := by decide +kernel
theorem dM_joined_208 : decode cM_joined 208 = .ok (.lload 6, 2) := by decide +kernel
theorem dM_joined_210 : decode cM_joined 210 = .ok (.lsub, 1) := by decide +kernel
theorem dM_joined_211 : decode cM_joined 211 = .ok (.lreturn, 1) := by decide +kernel
theorem dM_joined_212 : decode cM_joined 212 = .ok (.lload 4, 2) := by decide +kernel
theorem dM_joined_214 : decode cM_joined 214 = .ok (.lload 6, 2) := by decide +kernel
theorem dM_joined_216 : decode cM_joined 216 = .ok (.lmul, 1) := by decide +kernel
theorem dM_joined_217 : decode cM_joined 217 = .ok (.lreturn, 1) := by decide +kernel
theorem dM_joined_218 : decode cM_joined 218 = .ok (.aload_n 0, 1) := by decide +kernel
theorem dM_joined_219 : decode cM_joined 219 = .ok (.aload_n 0, 1) := by decide +kernel
theorem dM_joined_220 : decode cM_joined 220 = .ok (.getfield 102, 3) := by decide +kernel
theorem dM_joined_223 : decode cM_joined 223 = .ok (.ifCond .ne 15, 3) := by decide +kernel
theorem dM_joined_226 : decode cM_joined 226 = .ok (.iload 8, 2) := by decide +kernel
theorem dM_joined_228 : decode cM_joined 228 = .ok (.ifCond .eq 14, 3) := by decide +kernel
theorem dM_joined_231 : decode cM_joined 231 = .ok (.lload 6, 2) := by decide +kernel
theorem dM_joined_233 : decode cM_joined 233 = .ok (.lconst 0, 1) := by decide +kernel
theorem dM_joined_234 : decode cM_joined 234 = .ok (.lcmp, 1) := by decide +kernel
theorem dM_joined_235 : decode cM_joined 235 = .ok (.ifCond .ne 7, 3) := by decide +kernel
theorem dM_joined_238 : decode cM_joined 238 = .ok (.iconst 1, 1) := by decide +kernel
theorem dM_joined_239 : decode cM_joined 239 = .ok (.goto 4, 3) := by decide +kernel
theorem dM_joined_242 : decode cM_joined 242 = .ok (.iconst 0, 1) := by decide +kernel
theorem dM_joined_243 : decode cM_joined 243 = .ok (.putfield 102, 3) := by decide +kernel
theorem dM_joined_246 : decode cM_joined 246 = .ok (.lload 6, 2) := by decide +kernel
theorem dM_joined_248 : decode cM_joined 248 = .ok (.lconst 0, 1) := by decide +kernel
theorem dM_joined_249 : decode cM_joined 249 = .ok (.lcmp, 1) := by decide +kernel
theorem dM_joined_250 : decode cM_joined 250 = .ok (.ifCond .ne 7, 3) := by decide +kernel
theorem dM_joined_253 : decode cM_joined 253 = .ok (.lconst 0, 1) := by decide +kernel
theorem dM_joined_254 : decode cM_joined 254 = .ok (.goto 22, 3) := by decide +kernel
theorem dM_joined_257 : decode cM_joined 257 = .ok (.iload_n 1, 1) := by decide +kernel
theorem dM_joined_258 : decode cM_joined 258 = .ok (.bipush 47, 2) := by decide +kernel
theorem dM_joined_260 : decode cM_joined 260 = .ok (.if_icmp .ne 11, 3) := by decide +kernel
theorem dM_joined_263 : decode cM_joined 263 = .ok (.lload 4, 2) := by decide +kernel
theorem dM_joined_265 : decode cM_joined 265 = .ok (.lload 6, 2) := by decide +kernel
theorem dM_joined_267 : decode cM_joined 267 = .ok (.ldiv, 1) := by decide +kernel
theorem dM_joined_268 : decode cM_joined 268 = .ok (.goto 8, 3) := by decide +kernel
theorem dM_joined_271 : decode cM_joined 271 = .ok (.lload 4, 2) := by decide +kernel
theorem dM_joined_273 : decode cM_joined 273 = .ok (.lload 6, 2) := by decide +kernel
theorem dM_joined_275 : decode cM_joined 275 = .ok (.lrem, 1) := by decide +kernel
theorem dM_joined_276 : decode cM_joined 276 = .ok (.lreturn, 1) := by decide +kernel
theorem dM_joined_277 : decode cM_joined 277 = .ok (.iload_n 2, 1) := by decide +kernel
theorem dM_joined_278 : decode cM_joined 278 = .ok (.bipush 8, 2) := by decide +kernel
theorem dM_joined_280 : decode cM_joined 280 = .ok (.if_icmp .ne 12, 3) := by decide +kernel
theorem dM_joined_283 : decode cM_joined 283 = .ok (.lload 4, 2) := by decide +kernel
theorem dM_joined_285 : decode cM_joined 285 = .ok (.lload 6, 2) := by decide +kernel
theorem dM_joined_287 : decode cM_joined 287 = .ok (.l2i, 1) := by decide +kernel
theorem dM_joined_288 : decode cM_joined 288 = .ok (.lshl, 1) := by decide +kernel
theorem dM_joined_289 : decode cM_joined 289 = .ok (.goto 28, 3) := by decide +kernel
theorem dM_joined_292 : decode cM_joined 292 = .ok (.lload 4, 2) := by decide +kernel
theorem dM_joined_294 : decode cM_joined 294 = .ok (.lload 6, 2) := by decide +kernel
theorem dM_joined_296 : decode cM_joined 296 = .ok (.lcmp, 1) := by decide +kernel
theorem dM_joined_297 : decode cM_joined 297 = .ok (.ifCond .lt 15, 3) := by decide +kernel
theorem dM_joined_300 : decode cM_joined 300 = .ok (.iload_n 3, 1) := by decide +kernel
theorem dM_joined_301 : decode cM_joined 301 = .ok (.ifCond .eq 15, 3) := by decide +kernel
theorem dM_joined_304 : decode cM_joined 304 = .ok (.lload 4, 2) := by decide +kernel
theorem dM_joined_306 : decode cM_joined 306 = .ok (.lload 6, 2) := by decide +kernel
theorem dM_joined_308 : decode cM_joined 308 = .ok (.lcmp, 1) := by decide +kernel
theorem dM_joined_309 : decode cM_joined 309 = .ok (.ifCond .ne 7, 3) := by decide +kernel
theorem dM_joined_312 : decode cM_joined 312 = .ok (.lconst 1, 1) := by decide +kernel
theorem dM_joined_313 : decode cM_joined 313 = .ok (.goto 4, 3) := by decide +kernel
theorem dM_joined_316 : decode cM_joined 316 = .ok (.lconst 0, 1) := by decide +kernel
theorem dM_joined_317 : decode cM_joined 317 = .ok (.lreturn, 1) := by decide +kernel
theorem dM_joined_318 : decode cM_joined 318 = .ok (.iload_n 2, 1) := by decide +kernel
theorem dM_joined_319 : decode cM_joined 319 = .ok (.bipush 8, 2) := by decide +kernel
theorem dM_joined_321 : decode cM_joined 321 = .ok (.if_icmp .ne 12, 3) := by decide +kernel
theorem dM_joined_324 : decode cM_joined 324 = .ok (.lload 4, 2) := by decide +kernel
theorem dM_joined_326 : decode cM_joined 326 = .ok (.lload 6, 2) := by decide +kernel
theorem dM_joined_328 : decode cM_joined 328 = .ok (.l2i, 1) := by decide +kernel
theorem dM_joined_329 : decode cM_joined 329 = .ok (.lshr, 1) := by decide +kernel
theorem dM_joined_330 : decode cM_joined 330 = .ok (.goto 28, 3) := by decide +kernel
theorem dM_joined_333 : decode cM_joined 333 = .ok (.lload 4, 2) := by decide +kernel
theorem dM_joined_335 : decode cM_joined 335 = .ok (.lload 6, 2) := by decide +kernel
theorem dM_joined_337 : decode cM_joined 337 = .ok (.lcmp, 1) := by decide +kernel
theorem dM_joined_338 : decode cM_joined 338 = .ok (.ifCond .gt 15, 3) := by decide +kernel
theorem dM_joined_341 : decode cM_joined 341 = .ok (.iload_n 3, 1) := by decide +kernel
theorem dM_joined_342 : decode cM_joined 342 = .ok (.ifCond .eq 15, 3) := by decide +kernel
theorem dM_joined_345 : decode cM_joined 345 = .ok (.lload 4, 2) := by decide +kernel
theorem dM_joined_347 : decode cM_joined 347 = .ok (.lload 6, 2) := by decide +kernel
theorem dM_joined_349 : decode cM_joined 349 = .ok (.lcmp, 1) := by decide +kernel
theorem dM_joined_350 : decode cM_joined 350 = .ok (.ifCond .ne 7, 3) := by decide +kernel
theorem dM_joined_353 : decode cM_joined 353 = .ok (.lconst 1, 1) := by decide +kernel
theorem dM_joined_354 : decode cM_joined 354 = .ok (.goto 4, 3) := by decide +kernel
theorem dM_joined_357 : decode cM_joined 357 = .ok (.lconst 0, 1) := by decide +kernel
theorem dM_joined_358 : decode cM_joined 358 = .ok (.lreturn, 1) := by decide +kernel
theorem dM_term_0 : decode cM_term 0 = .ok (.aload_n 0, 1) := by decide +kernel
theorem dM_term_1 : decode cM_term 1 = .ok (.invokevirtual 127, 3) := by decide +kernel
theorem dM_term_4 : decode cM_term 4 = .ok (.istore_n 2, 1) := by decide +kernel
theorem dM_term_5 : decode cM_term 5 = .ok (.iload_n 2, 1) := by decide +kernel
theorem dM_term_6 : decode cM_term 6 = .ok (.bipush 43, 2) := by decide +kernel
theorem dM_term_8 : decode cM_term 8 = .ok (.if_icmp .eq 21, 3) := by decide +kernel
theorem dM_term_11 : decode cM_term 11 = .ok (.iload_n 2, 1) := by decide +kernel
theorem dM_term_12 : decode cM_term 12 = .ok (.bipush 45, 2) := by decide +kernel
theorem dM_term_14 : decode cM_term 14 = .ok (.if_icmp .eq 15, 3) := by decide +kernel
theorem dM_term_17 : decode cM_term 17 = .ok (.iload_n 2, 1) := by decide +kernel
theorem dM_term_18 : decode cM_term 18 = .ok (.bipush 33, 2) := by decide +kernel
theorem dM_term_20 : decode cM_term 20 = .ok (.if_icmp .eq 9, 3) := by decide +kernel
theorem dM_term_23 : decode cM_term 23 = .ok (.iload_n 2, 1) := by decide +kernel
theorem dM_term_24 : decode cM_term 24 = .ok (.bipush 126, 2) := by decide +kernel
theorem dM_term_26 : decode cM_term 26 = .ok (.if_icmp .ne 37, 3) := by decide +kernel
theorem dM_term_29 : decode cM_term 29 = .ok (.aload_n 0, 1) := by decide +kernel
theorem dM_term_30 : decode cM_term 30 = .ok (.dup, 1) := by decide +kernel
theorem dM_term_31 : decode cM_term 31 = .ok (.getfield 108, 3) := by decide +kernel
theorem dM_term_34 : decode cM_term 34 = .ok (.iconst 1, 1) := by decide +kernel
theorem dM_term_35 : decode cM_term 35 = .ok (.iadd, 1) := by decide +kernel
theorem dM_term_36 : decode cM_term 36 = .ok (.putfield 108, 3) := by decide +kernel
theorem dM_term_39 : decode cM_term 39 = .ok (.aload_n 0, 1) := by decide +kernel
theorem dM_term_40 : decode cM_term 40 = .ok (.invokevirtual 140, 3) := by decide +kernel
theorem dM_term_43 : decode cM_term 43 = .ok (.aload_n 0, 1) := by decide +kernel
theorem dM_term_44 : decode cM_term 44 = .ok (.bipush 8, 2) := by decide +kernel
theorem dM_term_46 : decode cM_term 46 = .ok (.iload_n 1, 1) := by decide +kernel
theorem dM_term_47 : decode cM_term 47 = .ok (.iload_n 2, 1) := by decide +kernel
theorem dM_term_48 : decode cM_term 48 = .ok (.iconst 0, 1) := by decide +kernel
theorem dM_term_49 : decode cM_term 49 = .ok (.lconst 0, 1) := by decide +kernel
theorem dM_term_50 : decode cM_term 50 = .ok (.invokevirtual 117, 3) := by decide +kernel
theorem dM_term_53 : decode cM_term 53 = .ok (.aload_n 0, 1) := by decide +kernel
theorem dM_term_54 : decode cM_term 54 = .ok (.bipush 7, 2) := by decide +kernel
theorem dM_term_56 : decode cM_term 56 = .ok (.iload_n 1, 1) := by decide +kernel
theorem dM_term_57 : decode cM_term 57 = .ok (.invokevirtual 143, 3) := by decide +kernel
theorem dM_term_60 : decode cM_term 60 = .ok (.goto 167, 3) := by decide +kernel
theorem dM_term_63 : decode cM_term 63 = .ok (.iload_n 2, 1) := by decide +kernel
theorem dM_term_64 : decode cM_term 64 = .ok (.bipush 40, 2) := by decide +kernel
theorem dM_term_66 : decode cM_term 66 = .ok (.if_icmp .ne 33, 3) := by decide +kernel
theorem dM_term_69 : decode cM_term 69 = .ok (.aload_n 0, 1) := by decide +kernel
theorem dM_term_70 : decode cM_term 70 = .ok (.dup, 1) := by decide +kernel
theorem dM_term_71 : decode cM_term 71 = .ok (.getfield 108, 3) := by decide +kernel
theorem dM_term_74 : decode cM_term 74 = .ok (.iconst 1, 1) := by decide +kernel
theorem dM_term_75 : decode cM_term 75 = .ok (.iadd, 1) := by decide +kernel
theorem dM_term_76 : decode cM_term 76 = .ok (.putfield 108, 3) := by decide +kernel
theorem dM_term_79 : decode cM_term 79 = .ok (.aload_n 0, 1) := by decide +kernel
theorem dM_term_80 : decode cM_term 80 = .ok (.invokevirtual 140, 3) := by decide +kernel
theorem dM_term_83 : decode cM_term 83 = .ok (.aload_n 0, 1) := by decide +kernel
theorem dM_term_84 : decode cM_term 84 = .ok (.bipush 9, 2) := by decide +kernel
theorem dM_term_86 : decode cM_term 86 = .ok (.iload_n 1, 1) := by decide +kernel
theorem dM_term_87 : decode cM_term 87 = .ok (.invokevirtual 143, 3) := by decide +kernel
theorem dM_term_90 : decode cM_term 90 = .ok (.aload_n 0, 1) := by decide +kernel
theorem dM_term_91 : decode cM_term 91 = .ok (.iconst 0, 1) := by decide +kernel
theorem dM_term_92 : decode cM_term 92 = .ok (.iload_n 1, 1) := by decide +kernel
theorem dM_term_93 : decode cM_term 93 = .ok (.invokevirtual 143, 3) := by decide +kernel
theorem dM_term_96 : decode cM_term 96 = .ok (.goto 131, 3) := by decide +kernel
theorem dM_term_99 : decode cM_term 99 = .ok (.iload_n 2, 1) := by decide +kernel
theorem dM_term_100 : decode cM_term 100 = .ok (.ifCond .lt 49, 3) := by decide +kernel
theorem dM_term_103 : decode cM_term 103 = .ok (.iload_n 2, 1) := by decide +kernel
theorem dM_term_104 : decode cM_term 104 = .ok (.invokestatic 82, 3) := by decide +kernel
theorem dM_term_107 : decode cM_term 107 = .ok (.ifCond .eq 42, 3) := by decide +kernel
theorem dM_term_110 : decode cM_term 110 = .ok (.aload_n 0, 1) := by decide +kernel
theorem dM_term_111 : decode cM_term 111 = .ok (.getfield 108, 3) := by decide +kernel
theorem dM_term_114 : decode cM_term 114 = .ok (.istore_n 3, 1) := by decide +kernel
theorem dM_term_115 : decode cM_term 115 = .ok (.aload_n 0, 1) := by decide +kernel
theorem dM_term_116 : decode cM_term 116 = .ok (.aload_n 0, 1) := by decide +kernel
theorem dM_term_117 : decode cM_term 117 = .ok (.invokevirtual 134, 3) := by decide +kernel
theorem dM_term_120 : decode cM_term 120 = .ok (.putfield 108, 3) := by decide +kernel
theorem dM_term_123 : decode cM_term 123 = .ok (.aload_n 0, 1) := by decide +kernel
theorem dM_term_124 : decode cM_term 124 = .ok (.iload_n 1, 1) := by decide +kernel
theorem dM_term_125 : decode cM_term 125 = .ok (.ifCond .eq 17, 3) := by decide +kernel
theorem dM_term_128 : decode cM_term 128 = .ok (.aload_n 0, 1) := by decide +kernel
theorem dM_term_129 : decode cM_term 129 = .ok (.iload_n 3, 1) := by decide +kernel
theorem dM_term_130 : decode cM_term 130 = .ok (.aload_n 0, 1) := by decide +kernel
theorem dM_term_131 : decode cM_term 131 = .ok (.getfield 108, 3) := by decide +kernel
theorem dM_term_134 : decode cM_term 134 = .ok (.iload_n 3, 1) := by decide +kernel
theorem dM_term_135 : decode cM_term 135 = .ok (.isub, 1) := by decide +kernel
theorem dM_term_136 : decode cM_term 136 = .ok (.invokevirtual 151, 3) := by decide +kernel
theorem dM_term_139 : decode cM_term 139 = .ok (.goto 4, 3) := by decide +kernel
theorem dM_term_142 : decode cM_term 142 = .ok (.lconst 0, 1) := by decide +kernel
theorem dM_term_143 : decode cM_term 143 = .ok (.invokevirtual 163, 3) := by decide +kernel
theorem dM_term_146 : decode cM_term 146 = .ok (.goto 81, 3) := by decide +kernel
theorem dM_term_149 : decode cM_term 149 = .ok (.iload_n 2, 1) := by decide +kernel
theorem dM_term_150 : decode cM_term 150 = .ok (.ifCond .lt 29, 3) := by decide +kernel
theorem dM_term_153 : decode cM_term 153 = .ok (.iload_n 2, 1) := by decide +kernel
theorem dM_term_154 : decode cM_term 154 = .ok (.invokestatic 85, 3) := by decide +kernel
theorem dM_term_157 : decode cM_term 157 = .ok (.ifCond .eq 22, 3) := by decide +kernel
theorem dM_term_160 : decode cM_term 160 = .ok (.aload_n 0, 1) := by decide +kernel
theorem dM_term_161 : decode cM_term 161 = .ok (.aload_n 0, 1) := by decide +kernel
theorem dM_term_162 : decode cM_term 162 = .ok (.getfield 13, 3) := by decide +kernel
theorem dM_term_165 : decode cM_term 165 = .ok (.aload_n 0, 1) := by decide +kernel
theorem dM_term_166 : decode cM_term 166 = .ok (.getfield 108, 3) := by decide +kernel
theorem dM_term_169 : decode cM_term 169 = .ok (.aload_n 0, 1) := by decide +kernel
theorem dM_term_170 : decode cM_term 170 = .ok (.getfield 111, 3) := by decide +kernel
theorem dM_term_173 : decode cM_term 173 = .ok (.invokevirtual 99, 3) := by decide +kernel
theorem dM_term_176 : decode cM_term 176 = .ok (.goto 4, 3) := by decide +kernel
theorem dM_term_179 : decode cM_term 179 = .ok (.iconst (-1), 1) := by decide +kernel
theorem dM_term_180 : decode cM_term 180 = .ok (.istore_n 3, 1) := by decide +kernel
theorem dM_term_181 : decode cM_term 181 = .ok (.aload_n 0, 1) := by decide +kernel
theorem dM_term_182 : decode cM_term 182 = .ok (.aload_n 0, 1) := by decide +kernel
theorem dM_term_183 : decode cM_term 183 = .ok (.getfield 102, 3) := by decide +kernel
theorem dM_term_186 : decode cM_term 186 = .ok (.ifCond .ne 8, 3) := by decide +kernel
theorem dM_term_189 : decode cM_term 189 = .ok (.iload_n 3, 1) := by decide +kernel
theorem dM_term_190 : decode cM_term 190 = .ok (.iconst (-1), 1) := by decide +kernel
theorem dM_term_191 : decode cM_term 191 = .ok (.if_icmp .ne 7, 3) := by decide +kernel
theorem dM_term_194 : decode cM_term 194 = .ok (.iconst 1, 1) := by decide +kernel
theorem dM_term_195 : decode cM_term 195 = .ok (.goto 4, 3) := by decide +kernel
theorem dM_term_198 : decode cM_term 198 = .ok (.iconst 0, 1) := by decide +kernel
theorem dM_term_199 : decode cM_term 199 = .ok (.putfield 102, 3) := by decide +kernel
theorem dM_term_202 : decode cM_term 202 = .ok (.aload_n 0, 1) := by decide +kernel
theorem dM_term_203 : decode cM_term 203 = .ok (.iload_n 3, 1) := by decide +kernel
theorem dM_term_204 : decode cM_term 204 = .ok (.iconst (-1), 1) := by decide +kernel
theorem dM_term_205 : decode cM_term 205 = .ok (.if_icmp .ne 10, 3) := by decide +kernel
theorem dM_term_208 : decode cM_term 208 = .ok (.aload_n 0, 1) := by decide +kernel
theorem dM_term_209 : decode cM_term 209 = .ok (.getfield 111, 3) := by decide +kernel
theorem dM_term_212 : decode cM_term 212 = .ok (.goto 4, 3) := by decide +kernel
theorem dM_term_215 : decode cM_term 215 = .ok (.iload_n 3, 1) := by decide +kernel
theorem dM_term_216 : decode cM_term 216 = .ok (.putfield 108, 3) := by decide +kernel
theorem dM_term_219 : decode cM_term 219 = .ok (.aload_n 0, 1) := by decide +kernel
theorem dM_term_220 : decode cM_term 220 = .ok (.aload_n 0, 1) := by decide +kernel
theorem dM_term_221 : decode cM_term 221 = .ok (.getfield 91, 3) := by decide +kernel
theorem dM_term_224 : decode cM_term 224 = .ok (.invokevirtual 163, 3) := by decide +kernel
theorem dM_term_227 : decode cM_term 227 = .ok (.return_, 1) := by decide +kernel
theorem dM_give_0 : decode cM_give 0 = .ok (.aload_n 0, 1) := by decide +kernel
theorem dM_give_1 : decode cM_give 1 = .ok (.aload_n 0, 1) := by decide +kernel
theorem dM_give_2 : decode cM_give 2 = .ok (.getfield 13, 3) := by decide +kernel
theorem dM_give_5 : decode cM_give 5 = .ok (.iload_n 1, 1) := by decide +kernel
theorem dM_give_6 : decode cM_give 6 = .ok (.iload_n 2, 1) := by decide +kernel
theorem dM_give_7 : decode cM_give 7 = .ok (.invokevirtual 88, 3) := by decide +kernel
theorem dM_give_10 : decode cM_give 10 = .ok (.istore 5, 2) := by decide +kernel
theorem dM_give_12 : decode cM_give 12 = .ok (.iload 5, 2) := by decide +kernel
theorem dM_give_14 : decode cM_give 14 = .ok (.iconst (-1), 1) := by decide +kernel
theorem dM_give_15 : decode cM_give 15 = .ok (.if_icmp .ne 9, 3) := by decide +kernel
theorem dM_give_18 : decode cM_give 18 = .ok (.aload_n 0, 1) := by decide +kernel
theorem dM_give_19 : decode cM_give 19 = .ok (.iconst 1, 1) := by decide +kernel
theorem dM_give_20 : decode cM_give 20 = .ok (.putfield 102, 3) := by decide +kernel
theorem dM_give_23 : decode cM_give 23 = .ok (.return_, 1) := by decide +kernel
theorem dM_give_24 : decode cM_give 24 = .ok (.iconst 0, 1) := by decide +kernel
theorem dM_give_25 : decode cM_give 25 = .ok (.istore 6, 2) := by decide +kernel
theorem dM_give_27 : decode cM_give 27 = .ok (.lload_n 3, 1) := by decide +kernel
theorem dM_give_28 : decode cM_give 28 = .ok (.lstore 7, 2) := by decide +kernel
theorem dM_give_30 : decode cM_give 30 = .ok (.lload 7, 2) := by decide +kernel
theorem dM_give_32 : decode cM_give 32 = .ok (.lconst 0, 1) := by decide +kernel
theorem dM_give_33 : decode cM_give 33 = .ok (.lcmp, 1) := by decide +kernel
theorem dM_give_34 : decode cM_give 34 = .ok (.ifCond .ne 8, 3) := by decide +kernel
theorem dM_give_37 : decode cM_give 37 = .ok (.iload 6, 2) := by decide +kernel
theorem dM_give_39 : decode cM_give 39 = .ok (.ifCond .ne 55, 3) := by decide +kernel
theorem dM_give_42 : decode cM_give 42 = .ok (.lload 7, 2) := by decide +kernel
theorem dM_give_44 : decode cM_give 44 = .ok (.ldc2_w 106, 3) := by decide +kernel
theorem dM_give_47 : decode cM_give 47 = .ok (.lrem, 1) := by decide +kernel
theorem dM_give_48 : decode cM_give 48 = .ok (.l2i, 1) := by decide +kernel
theorem dM_give_49 : decode cM_give 49 = .ok (.istore 9, 2) := by decide +kernel
theorem dM_give_51 : decode cM_give 51 = .ok (.aload_n 0, 1) := by decide +kernel
theorem dM_give_52 : decode cM_give 52 = .ok (.getfield 39, 3) := by decide +kernel
theorem dM_give_55 : decode cM_give 55 = .ok (.bipush 24, 2) := by decide +kernel
theorem dM_give_57 : decode cM_give 57 = .ok (.iload 5, 2) := by decide +kernel
theorem dM_give_59 : decode cM_give 59 = .ok (.imul, 1) := by decide +kernel
theorem dM_give_60 : decode cM_give 60 = .ok (.iload 6, 2) := by decide +kernel
theorem dM_give_62 : decode cM_give 62 = .ok (.iadd, 1) := by decide +kernel
theorem dM_give_63 : decode cM_give 63 = .ok (.bipush 48, 2) := by decide +kernel
theorem dM_give_65 : decode cM_give 65 = .ok (.iload 9, 2) := by decide +kernel
theorem dM_give_67 : decode cM_give 67 = .ok (.ifCond .ge 9, 3) := by decide +kernel
theorem dM_give_70 : decode cM_give 70 = .ok (.iload 9, 2) := by decide +kernel
theorem dM_give_72 : decode cM_give 72 = .ok (.ineg, 1) := by decide +kernel
theorem dM_give_73 : decode cM_give 73 = .ok (.goto 5, 3) := by decide +kernel
theorem dM_give_76 : decode cM_give 76 = .ok (.iload 9, 2) := by decide +kernel
theorem dM_give_78 : decode cM_give 78 = .ok (.iadd, 1) := by decide +kernel
theorem dM_give_79 : decode cM_give 79 = .ok (.iastore, 1) := by decide +kernel
theorem dM_give_80 : decode cM_give 80 = .ok (.iinc 6 1, 3) := by decide +kernel
theorem dM_give_83 : decode cM_give 83 = .ok (.lload 7, 2) := by decide +kernel
theorem dM_give_85 : decode cM_give 85 = .ok (.ldc2_w 106, 3) := by decide +kernel
theorem dM_give_88 : decode cM_give 88 = .ok (.ldiv, 1) := by decide +kernel
theorem dM_give_89 : decode cM_give 89 = .ok (.lstore 7, 2) := by decide +kernel
theorem dM_give_91 : decode cM_give 91 = .ok (.goto (-61), 3) := by decide +kernel
theorem dM_give_94 : decode cM_give 94 = .ok (.lload_n 3, 1) := by decide +kernel
theorem dM_give_95 : decode cM_give 95 = .ok (.lconst 0, 1) := by decide +kernel
theorem dM_give_96 : decode cM_give 96 = .ok (.lcmp, 1) := by decide +kernel
theorem dM_give_97 : decode cM_give 97 = .ok (.ifCond .ge 21, 3) := by decide +kernel
theorem dM_give_100 : decode cM_give 100 = .ok (.aload_n 0, 1) := by decide +kernel
theorem dM_give_101 : decode cM_give 101 = .ok (.getfield 39, 3) := by decide +kernel
theorem dM_give_104 : decode cM_give 104 = .ok (.bipush 24, 2) := by decide +kernel
theorem dM_give_106 : decode cM_give 106 = .ok (.iload 5, 2) := by decide +kernel
theorem dM_give_108 : decode cM_give 108 = .ok (.imul, 1) := by decide +kernel
theorem dM_give_109 : decode cM_give 109 = .ok (.iload 6, 2) := by decide +kernel
theorem dM_give_111 : decode cM_give 111 = .ok (.iadd, 1) := by decide +kernel
theorem dM_give_112 : decode cM_give 112 = .ok (.bipush 45, 2) := by decide +kernel
theorem dM_give_114 : decode cM_give 114 = .ok (.iastore, 1) := by decide +kernel
theorem dM_give_115 : decode cM_give 115 = .ok (.iinc 6 1, 3) := by decide +kernel
theorem dM_give_118 : decode cM_give 118 = .ok (.iconst 0, 1) := by decide +kernel
theorem dM_give_119 : decode cM_give 119 = .ok (.istore 9, 2) := by decide +kernel
theorem dM_give_121 : decode cM_give 121 = .ok (.iload 9, 2) := by decide +kernel
theorem dM_give_123 : decode cM_give 123 = .ok (.iload 6, 2) := by decide +kernel
theorem dM_give_125 : decode cM_give 125 = .ok (.iconst 2, 1) := by decide +kernel
theorem dM_give_126 : decode cM_give 126 = .ok (.idiv, 1) := by decide +kernel
theorem dM_give_127 : decode cM_give 127 = .ok (.if_icmp .ge 75, 3) := by decide +kernel
theorem dM_give_130 : decode cM_give 130 = .ok (.aload_n 0, 1) := by decide +kernel
theorem dM_give_131 : decode cM_give 131 = .ok (.getfield 39, 3) := by decide +kernel
theorem dM_give_134 : decode cM_give 134 = .ok (.bipush 24, 2) := by decide +kernel
theorem dM_give_136 : decode cM_give 136 = .ok (.iload 5, 2) := by decide +kernel
theorem dM_give_138 : decode cM_give 138 = .ok (.imul, 1) := by decide +kernel
theorem dM_give_139 : decode cM_give 139 = .ok (.iload 9, 2) := by decide +kernel
theorem dM_give_141 : decode cM_give 141 = .ok (.iadd, 1) := by decide +kernel
theorem dM_give_142 : decode cM_give 142 = .ok (.iaload, 1) := by decide +kernel
theorem dM_give_143 : decode cM_give 143 = .ok (.istore 10, 2) := by decide +kernel
theorem dM_give_145 : decode cM_give 145 = .ok (.aload_n 0, 1) := by decide +kernel
theorem dM_give_146 : decode cM_give 146 = .ok (.getfield 39, 3) := by decide +kernel
theorem dM_give_149 : decode cM_give 149 = .ok (.bipush 24, 2) := by decide +kernel
theorem dM_give_151 : decode cM_give 151 = .ok (.iload 5, 2) := by decide +kernel
theorem dM_give_153 : decode cM_give 153 = .ok (.imul, 1) := by decide +kernel
theorem dM_give_154 : decode cM_give 154 = .ok (.iload 9, 2) := by decide +kernel
theorem dM_give_156 : decode cM_give 156 = .ok (.iadd, 1) := by decide +kernel
theorem dM_give_157 : decode cM_give 157 = .ok (.aload_n 0, 1) := by decide +kernel
theorem dM_give_158 : decode cM_give 158 = .ok (.getfield 39, 3) := by decide +kernel
theorem dM_give_161 : decode cM_give 161 = .ok (.bipush 24, 2) := by decide +kernel
theorem dM_give_163 : decode cM_give 163 = .ok (.iload 5, 2) := by decide +kernel
theorem dM_give_165 : decode cM_give 165 = .ok (.imul, 1) := by decide +kernel
theorem dM_give_166 : decode cM_give 166 = .ok (.iload 6, 2) := by decide +kernel
theorem dM_give_168 : decode cM_give 168 = .ok (.iadd, 1) := by decide +kernel
theorem dM_give_169 : decode cM_give 169 = .ok (.iconst 1, 1) := by decide +kernel
theorem dM_give_170 : decode cM_give 170 = .ok (.isub, 1) := by decide +kernel
theorem dM_give_171 : decode cM_give 171 = .ok (.iload 9, 2) := by decide +kernel
theorem dM_give_173 : decode cM_give 173 = .ok (.isub, 1) := by decide +kernel
theorem dM_give_174 : decode cM_give 174 = .ok (.iaload, 1) := by decide +kernel
theorem dM_give_175 : decode cM_give 175 = .ok (.iastore, 1) := by decide +kernel
theorem dM_give_176 : decode cM_give 176 = .ok (.aload_n 0, 1) := by decide +kernel
theorem dM_give_177 : decode cM_give 177 = .ok (.getfield 39, 3) := by decide +kernel
theorem dM_give_180 : decode cM_give 180 = .ok (.bipush 24, 2) := by decide +kernel
theorem dM_give_182 : decode cM_give 182 = .ok (.iload 5, 2) := by decide +kernel
theorem dM_give_184 : decode cM_give 184 = .ok (.imul, 1) := by decide +kernel
theorem dM_give_185 : decode cM_give 185 = .ok (.iload 6, 2) := by decide +kernel
theorem dM_give_187 : decode cM_give 187 = .ok (.iadd, 1) := by decide +kernel
theorem dM_give_188 : decode cM_give 188 = .ok (.iconst 1, 1) := by decide +kernel
theorem dM_give_189 : decode cM_give 189 = .ok (.isub, 1) := by decide +kernel
theorem dM_give_190 : decode cM_give 190 = .ok (.iload 9, 2) := by decide +kernel
theorem dM_give_192 : decode cM_give 192 = .ok (.isub, 1) := by decide +kernel
theorem dM_give_193 : decode cM_give 193 = .ok (.iload 10, 2) := by decide +kernel
theorem dM_give_195 : decode cM_give 195 = .ok (.iastore, 1) := by decide +kernel
theorem dM_give_196 : decode cM_give 196 = .ok (.iinc 9 1, 3) := by decide +kernel
theorem dM_give_199 : decode cM_give 199 = .ok (.goto (-78), 3) := by decide +kernel
theorem dM_give_202 : decode cM_give 202 = .ok (.aload_n 0, 1) := by decide +kernel
theorem dM_give_203 : decode cM_give 203 = .ok (.getfield 45, 3) := by decide +kernel
theorem dM_give_206 : decode cM_give 206 = .ok (.iload 5, 2) := by decide +kernel
theorem dM_give_208 : decode cM_give 208 = .ok (.iload 6, 2) := by decide +kernel
theorem dM_give_210 : decode cM_give 210 = .ok (.iastore, 1) := by decide +kernel
theorem dM_give_211 : decode cM_give 211 = .ok (.return_, 1) := by decide +kernel
end
section
/-! Own rows, of no class: a number on the stack under another name; worlds up to order; cells of a pool of named things. -/
section XW
variable {p : Program} {l : Launch} {e : Env} {R : Room} {s : State} {m : MethodId} {args : Array Value} {below : List Frame} {meth : Method} {c : Code} {H : Heap} {locs : List Loc} {cells slots : Nat} {Q : State → Prop}
variable {pc : Nat} {ls : Array Slot} {rest : List Value}
theorem xw_topi {x y : Int32} (h : x = y) (k : W p l e R s m args below meth c H locs cells slots Q (F0 m pc ls (.int y :: rest))) : W p l e R s m args below meth c H locs cells slots Q (F0 m pc ls (.int x :: rest)) := by
  subst h; exact k
theorem xw_topl {x y : Int64} (h : x = y) (k : W p l e R s m args below meth c H locs cells slots Q (F0 m pc ls (.long y :: rest))) : W p l e R s m args below meth c H locs cells slots Q (F0 m pc ls (.long x :: rest)) := by
  subst h; exact k
theorem xw_topv {x y : Value} (h : x = y) (k : W p l e R s m args below meth c H locs cells slots Q (F0 m pc ls (y :: rest))) : W p l e R s m args below meth c H locs cells slots Q (F0 m pc ls (x :: rest)) := by
  subst h; exact k
end XW
theorem xw_Pmem {D : va_G} {cl : List vw_C} {ws ws' : va_W} {H : Heap} (h : va_P D cl ws H) (hs : ∀ q ∈ ws', q ∈ ws) : va_P D cl ws' H := fun k q hk => by
  obtain ⟨i, hi⟩ := List.getElem?_of_mem (hs q (List.mem_of_getElem? hk))
  exact h i q hi
theorem xw_Dnd {A : Nat → Prop} {ws : va_W} : va_D A ws ↔ (ws.map (·.1)).Nodup ∧ ∀ q ∈ ws, A q.1 := by
  constructor
  · intro h
    refine ⟨?_, fun q hq => ?_⟩
    · rw [List.nodup_iff_pairwise_ne, List.pairwise_iff_getElem]
      intro i j hi hj hij e
      rw [List.length_map] at hi hj
      rw [List.getElem_map, List.getElem_map] at e
      have := h.1 i j ws[i] ws[j] (List.getElem?_eq_getElem hi) (List.getElem?_eq_getElem hj) e
      omega
    · obtain ⟨k, hk⟩ := List.getElem?_of_mem hq
      exact h.2 k q hk
  · intro h
    refine ⟨fun i j a b hi hj e => ?_, fun k q hk => h.2 q (List.mem_of_getElem? hk)⟩
    have hn := h.1
    rw [List.nodup_iff_pairwise_ne, List.pairwise_iff_getElem] at hn
    obtain ⟨hi', ei⟩ := List.getElem?_eq_some_iff.mp hi
    obtain ⟨hj', ej⟩ := List.getElem?_eq_some_iff.mp hj
    rcases Nat.lt_trichotomy i j with h1 | h1 | h1
    · exact absurd (by rw [List.getElem_map, List.getElem_map, ei, ej]; exact e) (hn i j (by rw [List.length_map]; exact hi') (by rw [List.length_map]; exact hj') h1)
    · exact h1
    · exact absurd (by rw [List.getElem_map, List.getElem_map, ei, ej]; exact e.symm) (hn j i (by rw [List.length_map]; exact hj') (by rw [List.length_map]; exact hi') h1)
theorem xw_Dperm {A : Nat → Prop} {ws ws' : va_W} (h : va_D A ws) (hp : ws.Perm ws') : va_D A ws' := by
  rw [xw_Dnd] at h ⊢
  exact ⟨(hp.map (·.1)).nodup h.1, fun q hq => h.2 q (hp.mem_iff.mpr hq)⟩
theorem xw_Dright {A : Nat → Prop} {w1 w2 : va_W} (h : va_D A (w1 ++ w2)) : va_D A w2 := by
  rw [xw_Dnd] at h ⊢
  rw [List.map_append, List.nodup_append] at h
  exact ⟨h.1.2.1, fun q hq => h.2 q (List.mem_append_right _ hq)⟩
/-! a pool: one thing is three cells. (addresses: the object, its letters, its row), letters, row, length -/
abbrev rw_N : Type := (Nat × Nat × Nat) × List Int32 × (Nat → Int32) × Int32
def rw_c (ci : Nat) (cA : ClassId) (x : rw_N) : va_W := [(x.1.1, .inr (ci, [.ref x.1.2.1, .ref x.1.2.2, .int x.2.2.2])), (x.1.2.1, .inl (cA, x.2.1.length, .inl (fun i => x.2.1.getD i 0))), (x.1.2.2, .inl (cA, 20, .inl x.2.2.1))]
def rw_p (ci : Nat) (cA : ClassId) : List rw_N → va_W
  | [] => []
  | x :: r => rw_c ci cA x ++ rw_p ci cA r
theorem rw_p_app (ci : Nat) (cA : ClassId) (a b : List rw_N) : rw_p ci cA (a ++ b) = rw_p ci cA a ++ rw_p ci cA b := by
  induction a with
  | nil => rfl
  | cons x r ih => show rw_c ci cA x ++ rw_p ci cA (r ++ b) = _; rw [ih, ← List.append_assoc]; rfl
theorem rw_p_len (ci : Nat) (cA : ClassId) (a : List rw_N) : (rw_p ci cA a).length = 3 * a.length := by
  induction a with
  | nil => rfl
  | cons x r ih => show (rw_c ci cA x ++ rw_p ci cA r).length = _; rw [List.length_append, ih, List.length_cons]; show 3 + _ = _; omega
theorem rw_p_get {ci : Nat} {cA : ClassId} : ∀ {a : List rw_N} {i : Nat} {x : rw_N} (j : Nat), j < 3 → a[i]? = some x → (rw_p ci cA a)[3 * i + j]? = (rw_c ci cA x)[j]?
  | [], i, x, j, _, h => by simp at h
  | y :: r, 0, x, j, hj, h => by
    cases h
    show (rw_c ci cA y ++ rw_p ci cA r)[3 * 0 + j]? = _
    rw [List.getElem?_append_left (by show _ < 3; omega)]
    congr 1
    omega
  | y :: r, i + 1, x, j, hj, h => by
    show (rw_c ci cA y ++ rw_p ci cA r)[3 * (i + 1) + j]? = _
    rw [List.getElem?_append_right (by show 3 ≤ _; omega), ← rw_p_get j hj (show r[i]? = some x from h)]
    congr 1
    show 3 * (i + 1) + j - 3 = _
    omega
theorem rw_p_set {ci : Nat} {cA : ClassId} : ∀ {a : List rw_N} {i : Nat} {x y : rw_N} (j : Nat) (q : Nat × va_E), j < 3 → a[i]? = some x → (rw_c ci cA x).set j q = rw_c ci cA y → (rw_p ci cA a).set (3 * i + j) q = rw_p ci cA (a.set i y)
  | [], i, x, y, j, q, _, h, _ => by simp at h
  | z :: r, 0, x, y, j, q, hj, h, e => by
    cases h
    show (rw_c ci cA z ++ rw_p ci cA r).set (3 * 0 + j) q = rw_c ci cA y ++ rw_p ci cA r
    rw [show 3 * 0 + j = j by omega, List.set_append_left _ _ (by show _ < 3; omega), e]
  | z :: r, i + 1, x, y, j, q, hj, h, e => by
    show (rw_c ci cA z ++ rw_p ci cA r).set (3 * (i + 1) + j) q = rw_c ci cA z ++ rw_p ci cA (r.set i y)
    rw [List.set_append_right _ _ (by show 3 ≤ _; omega), ← rw_p_set j q hj (show r[i]? = some x from h) e]
    congr 2
    show 3 * (i + 1) + j - 3 = _
    omega
theorem rw_p_perm {ci : Nat} {cA : ClassId} {a b : List rw_N} (h : a.Perm b) : (rw_p ci cA a).Perm (rw_p ci cA b) := by
  induction h with
  | nil => exact List.Perm.refl _
  | cons x _ ih => exact List.Perm.append_left _ ih
  | swap x y l =>
    show (rw_c ci cA y ++ (rw_c ci cA x ++ rw_p ci cA l)).Perm (rw_c ci cA x ++ (rw_c ci cA y ++ rw_p ci cA l))
    rw [← List.append_assoc, ← List.append_assoc]
    exact List.Perm.append_right _ List.perm_append_comm
  | trans _ _ h1 h2 => exact h1.trans h2
/-- a method that writes nothing and answers v -/
def rq_ (v : Option Value) : Array Value → State → Outcome → State → Prop := fun _ st o t => o = .returned v ∧ t.heap = st.heap
section RQ
variable {p : Program} {l : Launch} {e : Env} {R : Room} {s : State} {m : MethodId} {args : Array Value} {below : List Frame} {meth : Method} {c : Code} {H : Heap} {locs : List Loc} {cells slots : Nat} {Q : State → Prop}
variable {pc : Nat} {ls : Array Slot} {rest st0 : List Value} {a : Array Value}
theorem rq_call {v : Option Value} (hr : va_Run p l e R s m args below meth c H locs cells slots 0 0 (F0 m pc ls st0) rest (rq_ v a) (fun _ => False))
    (kk : W p l e R s m args below meth c H locs cells slots Q (F0 m (pc + 3) ls (v.toList ++ rest))) : W p l e R s m args below meth c H locs cells slots Q (F0 m pc ls st0) := by
  intro T hT X
  obtain ⟨w, st₀, t, T', L, h0, X', hL, e1, -, ⟨hv, hh⟩, st⟩ := hr T hT X
  cases hv
  obtain ⟨t2, a1, b1⟩ := kk T' (by rw [e1, hh, h0]) (Stand.forget X' (fun q h => (hL q h).elim))
  exact ⟨t2, st t2 a1, b1⟩
theorem rq_pre {As : List Value} : PreS s H (va_Pc As (fun _ => True)) As := ⟨fun _ _ _ _ h => ⟨h.1, trivial⟩, fun _ _ _ => ⟨rfl, trivial⟩⟩
end RQ
theorem xi_le {a b : Nat} (h : nI a ≤ nI b) (ha : a < 2 ^ 31) (hb : b < 2 ^ 31) : a ≤ b := (nI_leI ha hb).mp h
theorem xi_nle {a b : Nat} (h : ¬ nI a ≤ nI b) (ha : a < 2 ^ 31) (hb : b < 2 ^ 31) : b < a := Nat.not_le.mp (mt (nI_leI ha hb).mpr h)
theorem xi_lt {a b : Nat} (h : nI a < nI b) (ha : a < 2 ^ 31) (hb : b < 2 ^ 31) : a < b := (nI_ltI ha hb).mp h
theorem xi_nlt {a b : Nat} (h : ¬ nI a < nI b) (ha : a < 2 ^ 31) (hb : b < 2 ^ 31) : b ≤ a := Nat.not_lt.mp (mt (nI_ltI ha hb).mpr h)
theorem xi_eq {a b : Nat} (h : nI a = nI b) (ha : a < 2 ^ 31) (hb : b < 2 ^ 31) : a = b := (nI_eq ha hb).mp h
theorem xi_ne {a b : Nat} (h : ¬ nI a = nI b) (ha : a < 2 ^ 31) (hb : b < 2 ^ 31) : a ≠ b := fun e => h (by rw [e])
end
section
/-! The class as a function: characters, signs, numbers, names, the reckoner by levels. -/
def sh_b (b : Bool) : Int32 := if b then 1 else 0
def sh_blank (c : Int32) : Bool := decide (c = 9) || (decide (c = 10) || decide (c = 32))
def sh_digit (c : Int32) : Bool := decide (48 ≤ c) && decide (c ≤ 57)
def sh_start (c : Int32) : Bool := (decide (97 ≤ c) && decide (c ≤ 122)) || ((decide (65 ≤ c) && decide (c ≤ 90)) || decide (c = 95))
def sh_word (c : Int32) : Bool := sh_start c || sh_digit c
def sh_ok (c : Int32) : Bool := sh_blank c || (decide (32 ≤ c) && decide (c ≤ 126))
def sh_at (tx : List Int32) (i : Nat) : Int32 := tx.getD i 0
/-- the first place from i on whose character isn't of the kind -/
def sh_run (p : Int32 → Bool) (tx : List Int32) (i : Nat) : Nat := i + ((tx.drop i).takeWhile p).length
def sh_skip (tx : List Int32) (i : Nat) : Nat := sh_run sh_blank tx i
def sh_wend (tx : List Int32) (i : Nat) : Nat := sh_run sh_word tx i
def sh_cut (tx : List Int32) (i j : Nat) : List Int32 := (tx.drop i).take (j - i)
def sh_digOf (c : Int32) : Int32 := if 48 ≤ c ∧ c ≤ 57 then c - 48 else if 97 ≤ c ∧ c ≤ 102 then c - 97 + 10 else if 65 ≤ c ∧ c ≤ 70 then c - 65 + 10 else -1
def sh_digs (base : Int32) : List Int32 → Int64 → Option Int64
  | [], v => some v
  | c :: r, v => if sh_digOf c < 0 ∨ base ≤ sh_digOf c then none else sh_digs base r (v * base.toInt64 + (sh_digOf c).toInt64)
def sh_base (a b : Int32) : Int32 := if a = 48 then (if b = 120 ∨ b = 88 then 16 else 8) else 10
def sh_num (l : List Int32) : Option Int64 := match l with
  | [] => none
  | a :: r => if sh_base a (r.headD 48) = 16 then (if r.tail = [] then none else sh_digs 16 r.tail 0) else sh_digs (sh_base a (r.headD 48)) (a :: r) 0
def sh_rank (s : Int32) : Nat :=
  if s = 31868 then 1 else if s = 9766 then 2 else if s = 124 then 3 else if s = 94 then 4 else if s = 38 then 5
  else if s = 15677 ∨ s = 8509 then 6 else if s = 60 ∨ s = 62 ∨ s = 15421 ∨ s = 15933 then 7 else if s = 15420 ∨ s = 15934 then 8
  else if s = 43 ∨ s = 45 then 9 else if s = 42 ∨ s = 47 ∨ s = 37 then 10 else 0
def sh_shift (s : Int32) : Bool := decide (s = 15420) || decide (s = 15934)
def sh_two (a b : Int32) : Int32 := (a <<< ((8 : Int32) &&& 31)) ||| b
/-- the sign of two at a place: the sign (0: none), the place behind it -/
def sh_sign2 (tx : List Int32) (pl : Nat) : Int32 × Nat :=
  if 0 < sh_rank (sh_two (sh_at tx (sh_skip tx pl)) (sh_at tx (sh_skip tx pl + 1))) then
    (if sh_shift (sh_two (sh_at tx (sh_skip tx pl)) (sh_at tx (sh_skip tx pl + 1))) = true ∧ sh_at tx (sh_skip tx pl + 2) = 61 then (0, sh_skip tx pl)
     else (sh_two (sh_at tx (sh_skip tx pl)) (sh_at tx (sh_skip tx pl + 1)), sh_skip tx pl + 2))
  else if sh_rank (sh_at tx (sh_skip tx pl)) = 0 ∨ sh_at tx (sh_skip tx pl + 1) = 61 then (0, sh_skip tx pl)
  else (sh_at tx (sh_skip tx pl), sh_skip tx pl + 1)
/-- the sign of an assignment at a place, likewise -/
def sh_signA (tx : List Int32) (pl : Nat) : Int32 × Nat :=
  if sh_at tx (sh_skip tx pl) = 61 ∧ ¬ sh_at tx (sh_skip tx pl + 1) = 61 then (61, sh_skip tx pl + 1)
  else if sh_shift (sh_two (sh_at tx (sh_skip tx pl)) (sh_at tx (sh_skip tx pl + 1))) = true ∧ sh_at tx (sh_skip tx pl + 2) = 61 then
    (sh_two (sh_at tx (sh_skip tx pl)) (sh_at tx (sh_skip tx pl + 1)), sh_skip tx pl + 3)
  else if sh_at tx (sh_skip tx pl + 1) = 61 ∧ ¬ sh_at tx (sh_skip tx pl) = 60 ∧ ¬ sh_at tx (sh_skip tx pl) = 62 ∧ 0 < sh_rank (sh_at tx (sh_skip tx pl)) then
    (sh_at tx (sh_skip tx pl), sh_skip tx pl + 2)
  else (0, sh_skip tx pl)
abbrev sh_Env : Type := List (List Int32 × List Int32)
def sh_find (env : sh_Env) (nm : List Int32) : Option (List Int32) := (env.find? (fun q => decide (q.1 = nm))).map (·.2)
def sh_nameVal (env : sh_Env) (nm : List Int32) : Option Int64 := match sh_find env nm with
  | none => some 0
  | some [] => some 0
  | some (c :: r) => if c = 45 then (sh_num r).map (fun v => -v) else sh_num (c :: r)
def sh_put (env : sh_Env) (nm t : List Int32) : Option sh_Env :=
  if (sh_find env nm).isSome then some (env.map (fun q => if q.1 = nm then (nm, t) else q))
  else if 64 ≤ env.length then none else some (env ++ [(nm, t)])
def sh_settled (s : Int32) (f : Int64) : Bool := (decide (s = 31868) && decide (¬ f = 0)) || (decide (s = 9766) && decide (f = 0))
def sh_holds (s : Int32) (a b : Int64) : Bool :=
  if s = 31868 then decide (¬ a = 0) || decide (¬ b = 0) else if s = 9766 then decide (¬ a = 0) && decide (¬ b = 0) else if s = 15677 then decide (a = b) else if s = 8509 then decide (¬ a = b)
  else if s = 60 then decide (a < b) else if s = 62 then decide (b < a) else if s = 15421 then decide (a ≤ b) else if s = 15933 then decide (b ≤ a) else false
abbrev sh_F : Type := Nat → Nat → sh_Env → Option (Int64 × Nat) × sh_Env
def sh_bad : sh_F := fun _ _ env => (none, env)
def sh_map (f : Int64 → Int64) (r : Option (Int64 × Nat) × sh_Env) : Option (Int64 × Nat) × sh_Env := (r.1.map (fun q => (f q.1, q.2)), r.2)
def sh_W (tx : List Int32) : sh_F := fun un p env =>
  if sh_digit (sh_at tx p) = true then ((sh_num (sh_cut tx p (sh_wend tx p))).map (fun v => (v, sh_wend tx p)), env)
  else if sh_start (sh_at tx p) = true then
    (if 0 < un then some (0, sh_wend tx p) else (sh_nameVal env (sh_cut tx p (sh_wend tx p))).map (fun v => (v, sh_wend tx p)), env)
  else (none, env)
/-- a closing sign is read behind a value -/
def sh_exp (tx : List Int32) (k : Int32) (r : Option (Int64 × Nat) × sh_Env) : Option (Int64 × Nat) × sh_Env := match r.1 with
  | none => (none, r.2)
  | some q => if sh_at tx (sh_skip tx q.2) = k then (some (q.1, sh_skip tx q.2 + 1), r.2) else (none, r.2)
def sh_U (tx : List Int32) (U E : sh_F) : sh_F := fun un pl env =>
  if sh_at tx (sh_skip tx pl) = 43 then U un (sh_skip tx pl + 1) env
  else if sh_at tx (sh_skip tx pl) = 45 then sh_map (fun v => -v) (U un (sh_skip tx pl + 1) env)
  else if sh_at tx (sh_skip tx pl) = 33 then sh_map (fun v => if v = 0 then 1 else 0) (U un (sh_skip tx pl + 1) env)
  else if sh_at tx (sh_skip tx pl) = 126 then sh_map (fun v => v ^^^ (-1)) (U un (sh_skip tx pl + 1) env)
  else if sh_at tx (sh_skip tx pl) = 40 then sh_exp tx 41 (E un (sh_skip tx pl + 1) env)
  else sh_W tx un (sh_skip tx pl) env
def sh_bA (x : Int64) (n i : Int32) : Int32 := (((((x).toUInt64 >>> ((8 * ((n - 1) - i)).toInt64.toUInt64 &&& Int64.toUInt64 63)).toInt64 &&& 255).toInt32).toUInt32 % 65536).toInt32
def sh_bM (x : Int64) (n i : Int32) : Int32 := ((x >>> ((8 * ((n - 1) - i)).toInt64 &&& 63)) &&& 255).toInt32
def sh_byte (x : Int64) (n i : Nat) : Int32 := nI (x.toBitVec.toNat / 2 ^ (8 * (n - 1 - i)) % 256)
def sh_bytes (x : Int64) (n : Nat) : List Int32 := (List.range n).map (sh_byte x n)
def sh_digM (c : Int32) : Int32 := if sh_digit c = true then c - 48 else if 97 ≤ c ∧ c ≤ 102 then c - 97 + 10 else if 65 ≤ c ∧ c ≤ 70 then c - 65 + 10 else 99
end
section
set_option maxHeartbeats 4000000 in
set_option maxRecDepth 100000 in
/-- isBlank(c) -/
theorem k_A_isBlank (l : Launch) (c0 : Int32) : Met l yA_isBlank wsA_isBlank ({ frames := 0, cells := 0, slots := 0, locals := 0 }) (va_Pc [.int c0] (fun _ => True)) (rq_ (some (.int (sh_b (sh_blank c0))))) 0 0 (fun _ => False) := by
  refine Met.ofW (cc := cA_isBlank) (maxL := 1) (ret := (some .boolean)) (by decide) rfl ?_
  intro p e s m args below meth c s₁ B hml hv
  obtain ⟨rfl, -⟩ := hv
  have hx := B.exec
  have hb := B.bytes
  have hr := B.returns
  have htz : ∀ w ∈ zw, w.before _ s = true := fun w h => atoms_spec (ws := wsA_isBlank) B.pre w (List.mem_cons_of_mem _ h)
  have hown : s.vm.findClass "ShellSum" = some m.cls := findClass_of_methodNamed B.named
  have hlocks := B.notSynchronized
  have hl := lv_entry ([.int c0]) (n := 1) (Nat.le_of_ble_eq_true rfl)
  rw [lg_entry_eq]
  generalize (lg_sl ([.int c0]) ++ List.replicate (1 - (lg_sl ([.int c0])).length) Slot.unset).toArray = ls at hl ⊢
  have hl : lv_has ls 1 [(0, .int c0)] := hl
  refine lv_iload_n hx hb dA_isBlank_0 rfl (lv_at hl 0 rfl) ?_
  refine lv_bipush (v := 9) hx hb dA_isBlank_1 (by decide) ?_
  refine lv_icmp_eq (tgt := 18) hx hb dA_isBlank_3 (by decide) (fun c_1 => ?_) (fun c_1 => ?_)
  · skip
    refine lv_iconst (v := 1) hx hb dA_isBlank_18 (by decide) ?_
    refine lv_goto (tgt := 23) hx hb dA_isBlank_19 (by decide) ?_
    exact W.zret (v := 1) hx hb hr (rfl) (fun t ht _ => ⟨by rw [show sh_b (sh_blank c0) = 1 from by first | (simp [sh_b, sh_blank, c_1]; done) | grind [sh_b, sh_blank]], ht⟩) t_nil dA_isBlank_23
  refine lv_iload_n hx hb dA_isBlank_6 rfl (lv_at hl 0 rfl) ?_
  refine lv_bipush (v := 10) hx hb dA_isBlank_7 (by decide) ?_
  refine lv_icmp_eq (tgt := 18) hx hb dA_isBlank_9 (by decide) (fun c_2 => ?_) (fun c_2 => ?_)
  · skip
    refine lv_iconst (v := 1) hx hb dA_isBlank_18 (by decide) ?_
    refine lv_goto (tgt := 23) hx hb dA_isBlank_19 (by decide) ?_
    exact W.zret (v := 1) hx hb hr (rfl) (fun t ht _ => ⟨by rw [show sh_b (sh_blank c0) = 1 from by first | (simp [sh_b, sh_blank, c_1, c_2]; done) | grind [sh_b, sh_blank]], ht⟩) t_nil dA_isBlank_23
  refine lv_iload_n hx hb dA_isBlank_12 rfl (lv_at hl 0 rfl) ?_
  refine lv_bipush (v := 32) hx hb dA_isBlank_13 (by decide) ?_
  refine lv_icmp_ne (tgt := 22) hx hb dA_isBlank_15 (by decide) (fun c_3 => ?_) (fun c_3 => ?_)
  · skip
    refine lv_iconst (v := 0) hx hb dA_isBlank_22 (by decide) ?_
    exact W.zret (v := 0) hx hb hr (rfl) (fun t ht _ => ⟨by rw [show sh_b (sh_blank c0) = 0 from by first | (simp [sh_b, sh_blank, c_1, c_2, c_3]; done) | grind [sh_b, sh_blank]], ht⟩) t_nil dA_isBlank_23
  refine lv_iconst (v := 1) hx hb dA_isBlank_18 (by decide) ?_
  refine lv_goto (tgt := 23) hx hb dA_isBlank_19 (by decide) ?_
  exact W.zret (v := 1) hx hb hr (rfl) (fun t ht _ => ⟨by rw [show sh_b (sh_blank c0) = 1 from by first | (simp [sh_b, sh_blank, c_1, c_2, c_3]; done) | grind [sh_b, sh_blank]], ht⟩) t_nil dA_isBlank_23
set_option maxHeartbeats 4000000 in
set_option maxRecDepth 100000 in
/-- isDigit(c) -/
theorem k_A_isDigit (l : Launch) (c0 : Int32) : Met l yA_isDigit wsA_isDigit ({ frames := 0, cells := 0, slots := 0, locals := 0 }) (va_Pc [.int c0] (fun _ => True)) (rq_ (some (.int (sh_b (sh_digit c0))))) 0 0 (fun _ => False) := by
  refine Met.ofW (cc := cA_isDigit) (maxL := 1) (ret := (some .boolean)) (by decide) rfl ?_
  intro p e s m args below meth c s₁ B hml hv
  obtain ⟨rfl, -⟩ := hv
  have hx := B.exec
  have hb := B.bytes
  have hr := B.returns
  have htz : ∀ w ∈ zw, w.before _ s = true := fun w h => atoms_spec (ws := wsA_isDigit) B.pre w (List.mem_cons_of_mem _ h)
  have hown : s.vm.findClass "ShellSum" = some m.cls := findClass_of_methodNamed B.named
  have hlocks := B.notSynchronized
  have hl := lv_entry ([.int c0]) (n := 1) (Nat.le_of_ble_eq_true rfl)
  rw [lg_entry_eq]
  generalize (lg_sl ([.int c0]) ++ List.replicate (1 - (lg_sl ([.int c0])).length) Slot.unset).toArray = ls at hl ⊢
  have hl : lv_has ls 1 [(0, .int c0)] := hl
  refine lv_iload_n hx hb dA_isDigit_0 rfl (lv_at hl 0 rfl) ?_
  refine lv_bipush (v := 48) hx hb dA_isDigit_1 (by decide) ?_
  refine lv_icmp_lt (tgt := 16) hx hb dA_isDigit_3 (by decide) (fun c_1 => ?_) (fun c_1 => ?_)
  · skip
    refine lv_iconst (v := 0) hx hb dA_isDigit_16 (by decide) ?_
    exact W.zret (v := 0) hx hb hr (rfl) (fun t ht _ => ⟨by rw [show sh_b (sh_digit c0) = 0 from by first | (simp [sh_b, sh_digit, c_1]; done) | grind [sh_b, sh_digit]], ht⟩) t_nil dA_isDigit_17
  refine lv_iload_n hx hb dA_isDigit_6 rfl (lv_at hl 0 rfl) ?_
  refine lv_bipush (v := 57) hx hb dA_isDigit_7 (by decide) ?_
  refine lv_icmp_gt (tgt := 16) hx hb dA_isDigit_9 (by decide) (fun c_2 => ?_) (fun c_2 => ?_)
  · skip
    refine lv_iconst (v := 0) hx hb dA_isDigit_16 (by decide) ?_
    exact W.zret (v := 0) hx hb hr (rfl) (fun t ht _ => ⟨by rw [show sh_b (sh_digit c0) = 0 from by first | (simp [sh_b, sh_digit, c_1, c_2]; done) | grind [sh_b, sh_digit]], ht⟩) t_nil dA_isDigit_17
  refine lv_iconst (v := 1) hx hb dA_isDigit_12 (by decide) ?_
  refine lv_goto (tgt := 17) hx hb dA_isDigit_13 (by decide) ?_
  exact W.zret (v := 1) hx hb hr (rfl) (fun t ht _ => ⟨by rw [show sh_b (sh_digit c0) = 1 from by first | (simp [sh_b, sh_digit, c_1, c_2]; done) | grind [sh_b, sh_digit]], ht⟩) t_nil dA_isDigit_17
set_option maxHeartbeats 4000000 in
set_option maxRecDepth 100000 in
/-- startsName(c) -/
theorem k_A_startsName (l : Launch) (c0 : Int32) : Met l yA_startsName wsA_startsName ({ frames := 0, cells := 0, slots := 0, locals := 0 }) (va_Pc [.int c0] (fun _ => True)) (rq_ (some (.int (sh_b (sh_start c0))))) 0 0 (fun _ => False) := by
  refine Met.ofW (cc := cA_startsName) (maxL := 1) (ret := (some .boolean)) (by decide) rfl ?_
  intro p e s m args below meth c s₁ B hml hv
  obtain ⟨rfl, -⟩ := hv
  have hx := B.exec
  have hb := B.bytes
  have hr := B.returns
  have htz : ∀ w ∈ zw, w.before _ s = true := fun w h => atoms_spec (ws := wsA_startsName) B.pre w (List.mem_cons_of_mem _ h)
  have hown : s.vm.findClass "ShellSum" = some m.cls := findClass_of_methodNamed B.named
  have hlocks := B.notSynchronized
  have hl := lv_entry ([.int c0]) (n := 1) (Nat.le_of_ble_eq_true rfl)
  rw [lg_entry_eq]
  generalize (lg_sl ([.int c0]) ++ List.replicate (1 - (lg_sl ([.int c0])).length) Slot.unset).toArray = ls at hl ⊢
  have hl : lv_has ls 1 [(0, .int c0)] := hl
  refine lv_iload_n hx hb dA_startsName_0 rfl (lv_at hl 0 rfl) ?_
  refine lv_bipush (v := 97) hx hb dA_startsName_1 (by decide) ?_
  refine lv_icmp_lt (tgt := 12) hx hb dA_startsName_3 (by decide) (fun c_1 => ?_) (fun c_1 => ?_)
  · skip
    refine lv_iload_n hx hb dA_startsName_12 rfl (lv_at hl 0 rfl) ?_
    refine lv_bipush (v := 65) hx hb dA_startsName_13 (by decide) ?_
    refine lv_icmp_lt (tgt := 24) hx hb dA_startsName_15 (by decide) (fun c_2 => ?_) (fun c_2 => ?_)
    · skip
      refine lv_iload_n hx hb dA_startsName_24 rfl (lv_at hl 0 rfl) ?_
      refine lv_bipush (v := 95) hx hb dA_startsName_25 (by decide) ?_
      refine lv_icmp_ne (tgt := 34) hx hb dA_startsName_27 (by decide) (fun c_3 => ?_) (fun c_3 => ?_)
      · skip
        refine lv_iconst (v := 0) hx hb dA_startsName_34 (by decide) ?_
        exact W.zret (v := 0) hx hb hr (rfl) (fun t ht _ => ⟨by rw [show sh_b (sh_start c0) = 0 from by first | (simp [sh_b, sh_start, c_1, c_2, c_3]; done) | grind [sh_b, sh_start]], ht⟩) t_nil dA_startsName_35
      refine lv_iconst (v := 1) hx hb dA_startsName_30 (by decide) ?_
      refine lv_goto (tgt := 35) hx hb dA_startsName_31 (by decide) ?_
      exact W.zret (v := 1) hx hb hr (rfl) (fun t ht _ => ⟨by rw [show sh_b (sh_start c0) = 1 from by first | (simp [sh_b, sh_start, c_1, c_2, c_3]; done) | grind [sh_b, sh_start]], ht⟩) t_nil dA_startsName_35
    refine lv_iload_n hx hb dA_startsName_18 rfl (lv_at hl 0 rfl) ?_
    refine lv_bipush (v := 90) hx hb dA_startsName_19 (by decide) ?_
    refine lv_icmp_le (tgt := 30) hx hb dA_startsName_21 (by decide) (fun c_4 => ?_) (fun c_4 => ?_)
    · skip
      refine lv_iconst (v := 1) hx hb dA_startsName_30 (by decide) ?_
      refine lv_goto (tgt := 35) hx hb dA_startsName_31 (by decide) ?_
      exact W.zret (v := 1) hx hb hr (rfl) (fun t ht _ => ⟨by rw [show sh_b (sh_start c0) = 1 from by first | (simp [sh_b, sh_start, c_1, c_2, c_4]; done) | grind [sh_b, sh_start]], ht⟩) t_nil dA_startsName_35
    refine lv_iload_n hx hb dA_startsName_24 rfl (lv_at hl 0 rfl) ?_
    refine lv_bipush (v := 95) hx hb dA_startsName_25 (by decide) ?_
    refine lv_icmp_ne (tgt := 34) hx hb dA_startsName_27 (by decide) (fun c_5 => ?_) (fun c_5 => ?_)
    · skip
      refine lv_iconst (v := 0) hx hb dA_startsName_34 (by decide) ?_
      exact W.zret (v := 0) hx hb hr (rfl) (fun t ht _ => ⟨by rw [show sh_b (sh_start c0) = 0 from by first | (simp [sh_b, sh_start, c_1, c_2, c_4, c_5]; done) | grind [sh_b, sh_start]], ht⟩) t_nil dA_startsName_35
    refine lv_iconst (v := 1) hx hb dA_startsName_30 (by decide) ?_
    refine lv_goto (tgt := 35) hx hb dA_startsName_31 (by decide) ?_
    exact W.zret (v := 1) hx hb hr (rfl) (fun t ht _ => ⟨by rw [show sh_b (sh_start c0) = 1 from by first | (simp [sh_b, sh_start, c_1, c_2, c_4, c_5]; done) | grind [sh_b, sh_start]], ht⟩) t_nil dA_startsName_35
  refine lv_iload_n hx hb dA_startsName_6 rfl (lv_at hl 0 rfl) ?_
  refine lv_bipush (v := 122) hx hb dA_startsName_7 (by decide) ?_
  refine lv_icmp_le (tgt := 30) hx hb dA_startsName_9 (by decide) (fun c_6 => ?_) (fun c_6 => ?_)
  · skip
    refine lv_iconst (v := 1) hx hb dA_startsName_30 (by decide) ?_
    refine lv_goto (tgt := 35) hx hb dA_startsName_31 (by decide) ?_
    exact W.zret (v := 1) hx hb hr (rfl) (fun t ht _ => ⟨by rw [show sh_b (sh_start c0) = 1 from by first | (simp [sh_b, sh_start, c_1, c_6]; done) | grind [sh_b, sh_start]], ht⟩) t_nil dA_startsName_35
  refine lv_iload_n hx hb dA_startsName_12 rfl (lv_at hl 0 rfl) ?_
  refine lv_bipush (v := 65) hx hb dA_startsName_13 (by decide) ?_
  refine lv_icmp_lt (tgt := 24) hx hb dA_startsName_15 (by decide) (fun c_7 => ?_) (fun c_7 => ?_)
  · skip
    refine lv_iload_n hx hb dA_startsName_24 rfl (lv_at hl 0 rfl) ?_
    refine lv_bipush (v := 95) hx hb dA_startsName_25 (by decide) ?_
    refine lv_icmp_ne (tgt := 34) hx hb dA_startsName_27 (by decide) (fun c_8 => ?_) (fun c_8 => ?_)
    · skip
      refine lv_iconst (v := 0) hx hb dA_startsName_34 (by decide) ?_
      exact W.zret (v := 0) hx hb hr (rfl) (fun t ht _ => ⟨by rw [show sh_b (sh_start c0) = 0 from by first | (simp [sh_b, sh_start, c_1, c_6, c_7, c_8]; done) | grind [sh_b, sh_start]], ht⟩) t_nil dA_startsName_35
    refine lv_iconst (v := 1) hx hb dA_startsName_30 (by decide) ?_
    refine lv_goto (tgt := 35) hx hb dA_startsName_31 (by decide) ?_
    exact W.zret (v := 1) hx hb hr (rfl) (fun t ht _ => ⟨by rw [show sh_b (sh_start c0) = 1 from by first | (simp [sh_b, sh_start, c_1, c_6, c_7, c_8]; done) | grind [sh_b, sh_start]], ht⟩) t_nil dA_startsName_35
  refine lv_iload_n hx hb dA_startsName_18 rfl (lv_at hl 0 rfl) ?_
  refine lv_bipush (v := 90) hx hb dA_startsName_19 (by decide) ?_
  refine lv_icmp_le (tgt := 30) hx hb dA_startsName_21 (by decide) (fun c_9 => ?_) (fun c_9 => ?_)
  · skip
    refine lv_iconst (v := 1) hx hb dA_startsName_30 (by decide) ?_
    refine lv_goto (tgt := 35) hx hb dA_startsName_31 (by decide) ?_
    exact W.zret (v := 1) hx hb hr (rfl) (fun t ht _ => ⟨by rw [show sh_b (sh_start c0) = 1 from by first | (simp [sh_b, sh_start, c_1, c_6, c_7, c_9]; done) | grind [sh_b, sh_start]], ht⟩) t_nil dA_startsName_35
  refine lv_iload_n hx hb dA_startsName_24 rfl (lv_at hl 0 rfl) ?_
  refine lv_bipush (v := 95) hx hb dA_startsName_25 (by decide) ?_
  refine lv_icmp_ne (tgt := 34) hx hb dA_startsName_27 (by decide) (fun c_10 => ?_) (fun c_10 => ?_)
  · skip
    refine lv_iconst (v := 0) hx hb dA_startsName_34 (by decide) ?_
    exact W.zret (v := 0) hx hb hr (rfl) (fun t ht _ => ⟨by rw [show sh_b (sh_start c0) = 0 from by first | (simp [sh_b, sh_start, c_1, c_6, c_7, c_9, c_10]; done) | grind [sh_b, sh_start]], ht⟩) t_nil dA_startsName_35
  refine lv_iconst (v := 1) hx hb dA_startsName_30 (by decide) ?_
  refine lv_goto (tgt := 35) hx hb dA_startsName_31 (by decide) ?_
  exact W.zret (v := 1) hx hb hr (rfl) (fun t ht _ => ⟨by rw [show sh_b (sh_start c0) = 1 from by first | (simp [sh_b, sh_start, c_1, c_6, c_7, c_9, c_10]; done) | grind [sh_b, sh_start]], ht⟩) t_nil dA_startsName_35
set_option maxHeartbeats 4000000 in
set_option maxRecDepth 100000 in
/-- isOfWord(c) -/
theorem k_A_isOfWord (l : Launch) (c0 : Int32) : Met l yA_isOfWord wsA_isOfWord ({ frames := 1, cells := 0, slots := 0, locals := 20 }) (va_Pc [.int c0] (fun _ => True)) (rq_ (some (.int (sh_b (sh_word c0))))) 0 0 (fun _ => False) := by
  refine Met.ofW (cc := cA_isOfWord) (maxL := 1) (ret := (some .boolean)) (by decide) rfl ?_
  intro p e s m args below meth c s₁ B hml hv
  obtain ⟨rfl, -⟩ := hv
  have hx := B.exec
  have hb := B.bytes
  have hr := B.returns
  have htz : ∀ w ∈ zw, w.before _ s = true := fun w h => atoms_spec (ws := wsA_isOfWord) B.pre w (List.mem_cons_of_mem _ h)
  have hown : s.vm.findClass "ShellSum" = some m.cls := findClass_of_methodNamed B.named
  have hlocks := B.notSynchronized
  have hl := lv_entry ([.int c0]) (n := 1) (Nat.le_of_ble_eq_true rfl)
  rw [lg_entry_eq]
  generalize (lg_sl ([.int c0]) ++ List.replicate (1 - (lg_sl ([.int c0])).length) Slot.unset).toArray = ls at hl ⊢
  have hl : lv_has ls 1 [(0, .int c0)] := hl
  refine lv_iload_n hx hb dA_isOfWord_0 rfl (lv_at hl 0 rfl) ?_
  refine rq_call (va_runS (As := [.int c0]) (rest := []) ⟨hx, hb, hml, hown, htz⟩ (k_A_startsName l c0) (cwS 1 htz (zg_S zw_1_125 zw_1_126 zw_1_1 zw_1_127) rfl rfl rfl (by decide +kernel) ⟨Nat.le_of_ble_eq_true rfl, Nat.le_of_ble_eq_true rfl⟩) rq_pre rfl rfl hl.1 rfl (lv_room (Nat.le_of_ble_eq_true rfl)) dA_isOfWord_1 ⟨Nat.zero_le _, Nat.zero_le _⟩) ?_
  refine W.eq (g2 := F0 m 4 ls [.int (sh_b (sh_start c0))]) rfl ?_
  refine lv_if_ne (tgt := 14) hx hb dA_isOfWord_4 (by decide) (fun c_1 => ?_) (fun c_1 => ?_)
  · skip
    refine lv_iconst (v := 1) hx hb dA_isOfWord_14 (by decide) ?_
    refine lv_goto (tgt := 19) hx hb dA_isOfWord_15 (by decide) ?_
    exact W.zret (v := 1) hx hb hr (rfl) (fun t ht _ => ⟨by rw [show sh_b (sh_word c0) = 1 from by first | (simp [sh_b, sh_word, c_1]; done) | grind [sh_b, sh_word]], ht⟩) t_nil dA_isOfWord_19
  refine lv_iload_n hx hb dA_isOfWord_7 rfl (lv_at hl 0 rfl) ?_
  refine rq_call (va_runS (As := [.int c0]) (rest := []) ⟨hx, hb, hml, hown, htz⟩ (k_A_isDigit l c0) (cwS 1 htz (zg_S zw_1_131 zw_1_132 zw_1_1 zw_1_133) rfl rfl rfl (by decide +kernel) ⟨Nat.le_of_ble_eq_true rfl, Nat.le_of_ble_eq_true rfl⟩) rq_pre rfl rfl hl.1 rfl (lv_room (Nat.le_of_ble_eq_true rfl)) dA_isOfWord_8 ⟨Nat.zero_le _, Nat.zero_le _⟩) ?_
  refine W.eq (g2 := F0 m 11 ls [.int (sh_b (sh_digit c0))]) rfl ?_
  refine lv_if_eq (tgt := 18) hx hb dA_isOfWord_11 (by decide) (fun c_2 => ?_) (fun c_2 => ?_)
  · skip
    refine lv_iconst (v := 0) hx hb dA_isOfWord_18 (by decide) ?_
    exact W.zret (v := 0) hx hb hr (rfl) (fun t ht _ => ⟨by rw [show sh_b (sh_word c0) = 0 from by first | (simp [sh_b, sh_word, c_1, c_2]; done) | grind [sh_b, sh_word]], ht⟩) t_nil dA_isOfWord_19
  refine lv_iconst (v := 1) hx hb dA_isOfWord_14 (by decide) ?_
  refine lv_goto (tgt := 19) hx hb dA_isOfWord_15 (by decide) ?_
  exact W.zret (v := 1) hx hb hr (rfl) (fun t ht _ => ⟨by rw [show sh_b (sh_word c0) = 1 from by first | (simp [sh_b, sh_word, c_1, c_2]; done) | grind [sh_b, sh_word]], ht⟩) t_nil dA_isOfWord_19
set_option maxHeartbeats 4000000 in
set_option maxRecDepth 100000 in
/-- baseOf(a, b) -/
theorem k_A_baseOf (l : Launch) (a0 b0 : Int32) : Met l yA_baseOf wsA_baseOf ({ frames := 0, cells := 0, slots := 0, locals := 0 }) (va_Pc [.int a0, .int b0] (fun _ => True)) (rq_ (some (.int (sh_base a0 b0)))) 0 0 (fun _ => False) := by
  refine Met.ofW (cc := cA_baseOf) (maxL := 2) (ret := (some .int)) (by decide) rfl ?_
  intro p e s m args below meth c s₁ B hml hv
  obtain ⟨rfl, -⟩ := hv
  have hx := B.exec
  have hb := B.bytes
  have hr := B.returns
  have htz : ∀ w ∈ zw, w.before _ s = true := fun w h => atoms_spec (ws := wsA_baseOf) B.pre w (List.mem_cons_of_mem _ h)
  have hown : s.vm.findClass "ShellSum" = some m.cls := findClass_of_methodNamed B.named
  have hlocks := B.notSynchronized
  have hl := lv_entry ([.int a0, .int b0]) (n := 2) (Nat.le_of_ble_eq_true rfl)
  rw [lg_entry_eq]
  generalize (lg_sl ([.int a0, .int b0]) ++ List.replicate (2 - (lg_sl ([.int a0, .int b0])).length) Slot.unset).toArray = ls at hl ⊢
  have hl : lv_has ls 2 [(0, .int a0), (1, .int b0)] := hl
  refine lv_iload_n hx hb dA_baseOf_0 rfl (lv_at hl 0 rfl) ?_
  refine lv_bipush (v := 48) hx hb dA_baseOf_1 (by decide) ?_
  refine lv_icmp_eq (tgt := 9) hx hb dA_baseOf_3 (by decide) (fun c_1 => ?_) (fun c_1 => ?_)
  · skip
    refine lv_iload_n hx hb dA_baseOf_9 rfl (lv_at hl 1 rfl) ?_
    refine lv_bipush (v := 120) hx hb dA_baseOf_10 (by decide) ?_
    refine lv_icmp_eq (tgt := 21) hx hb dA_baseOf_12 (by decide) (fun c_2 => ?_) (fun c_2 => ?_)
    · skip
      refine lv_bipush (v := 16) hx hb dA_baseOf_21 (by decide) ?_
      refine lv_goto (tgt := 28) hx hb dA_baseOf_23 (by decide) ?_
      exact W.iret (v := 16) hx hb hr (fun t ht _ => ⟨by rw [show sh_base a0 b0 = 16 from by first | (simp [sh_base, c_1, c_2]; done) | grind [sh_base]], ht⟩) t_nil dA_baseOf_28
    refine lv_iload_n hx hb dA_baseOf_15 rfl (lv_at hl 1 rfl) ?_
    refine lv_bipush (v := 88) hx hb dA_baseOf_16 (by decide) ?_
    refine lv_icmp_ne (tgt := 26) hx hb dA_baseOf_18 (by decide) (fun c_3 => ?_) (fun c_3 => ?_)
    · skip
      refine lv_bipush (v := 8) hx hb dA_baseOf_26 (by decide) ?_
      exact W.iret (v := 8) hx hb hr (fun t ht _ => ⟨by rw [show sh_base a0 b0 = 8 from by first | (simp [sh_base, c_1, c_2, c_3]; done) | grind [sh_base]], ht⟩) t_nil dA_baseOf_28
    refine lv_bipush (v := 16) hx hb dA_baseOf_21 (by decide) ?_
    refine lv_goto (tgt := 28) hx hb dA_baseOf_23 (by decide) ?_
    exact W.iret (v := 16) hx hb hr (fun t ht _ => ⟨by rw [show sh_base a0 b0 = 16 from by first | (simp [sh_base, c_1, c_2, c_3]; done) | grind [sh_base]], ht⟩) t_nil dA_baseOf_28
  refine lv_bipush (v := 10) hx hb dA_baseOf_6 (by decide) ?_
  exact W.iret (v := 10) hx hb hr (fun t ht _ => ⟨by rw [show sh_base a0 b0 = 10 from by first | (simp [sh_base, c_1]; done) | grind [sh_base]], ht⟩) t_nil dA_baseOf_8
set_option maxHeartbeats 4000000 in
set_option maxRecDepth 100000 in
/-- digitOf(c) -/
theorem k_A_digitOf (l : Launch) (c0 : Int32) : Met l yA_digitOf wsA_digitOf ({ frames := 0, cells := 0, slots := 0, locals := 0 }) (va_Pc [.int c0] (fun _ => True)) (rq_ (some (.int (sh_digOf c0)))) 0 0 (fun _ => False) := by
  refine Met.ofW (cc := cA_digitOf) (maxL := 1) (ret := (some .int)) (by decide) rfl ?_
  intro p e s m args below meth c s₁ B hml hv
  obtain ⟨rfl, -⟩ := hv
  have hx := B.exec
  have hb := B.bytes
  have hr := B.returns
  have htz : ∀ w ∈ zw, w.before _ s = true := fun w h => atoms_spec (ws := wsA_digitOf) B.pre w (List.mem_cons_of_mem _ h)
  have hown : s.vm.findClass "ShellSum" = some m.cls := findClass_of_methodNamed B.named
  have hlocks := B.notSynchronized
  have hl := lv_entry ([.int c0]) (n := 1) (Nat.le_of_ble_eq_true rfl)
  rw [lg_entry_eq]
  generalize (lg_sl ([.int c0]) ++ List.replicate (1 - (lg_sl ([.int c0])).length) Slot.unset).toArray = ls at hl ⊢
  have hl : lv_has ls 1 [(0, .int c0)] := hl
  refine lv_iload_n hx hb dA_digitOf_0 rfl (lv_at hl 0 rfl) ?_
  refine lv_bipush (v := 48) hx hb dA_digitOf_1 (by decide) ?_
  refine lv_icmp_lt (tgt := 17) hx hb dA_digitOf_3 (by decide) (fun c_1 => ?_) (fun c_1 => ?_)
  · skip
    refine lv_iload_n hx hb dA_digitOf_17 rfl (lv_at hl 0 rfl) ?_
    refine lv_bipush (v := 97) hx hb dA_digitOf_18 (by decide) ?_
    refine lv_icmp_lt (tgt := 37) hx hb dA_digitOf_20 (by decide) (fun c_2 => ?_) (fun c_2 => ?_)
    · skip
      refine lv_iload_n hx hb dA_digitOf_37 rfl (lv_at hl 0 rfl) ?_
      refine lv_bipush (v := 65) hx hb dA_digitOf_38 (by decide) ?_
      refine lv_icmp_lt (tgt := 59) hx hb dA_digitOf_40 (by decide) (fun c_3 => ?_) (fun c_3 => ?_)
      · skip
        refine lv_iconst (v := (-1)) hx hb dA_digitOf_59 (by decide) ?_
        exact W.iret (v := (-1)) hx hb hr (fun t ht _ => ⟨by rw [show sh_digOf c0 = (-1) from by first | (simp [sh_digOf, c_1, c_2, c_3]; done) | grind [sh_digOf]], ht⟩) t_nil dA_digitOf_60
      refine lv_iload_n hx hb dA_digitOf_43 rfl (lv_at hl 0 rfl) ?_
      refine lv_bipush (v := 70) hx hb dA_digitOf_44 (by decide) ?_
      refine lv_icmp_gt (tgt := 59) hx hb dA_digitOf_46 (by decide) (fun c_4 => ?_) (fun c_4 => ?_)
      · skip
        refine lv_iconst (v := (-1)) hx hb dA_digitOf_59 (by decide) ?_
        exact W.iret (v := (-1)) hx hb hr (fun t ht _ => ⟨by rw [show sh_digOf c0 = (-1) from by first | (simp [sh_digOf, c_1, c_2, c_3, c_4]; done) | grind [sh_digOf]], ht⟩) t_nil dA_digitOf_60
      refine lv_iload_n hx hb dA_digitOf_49 rfl (lv_at hl 0 rfl) ?_
      refine lv_bipush (v := 65) hx hb dA_digitOf_50 (by decide) ?_
      refine lv_isub hx hb dA_digitOf_52 ?_
      refine lv_bipush (v := 10) hx hb dA_digitOf_53 (by decide) ?_
      refine lv_iadd hx hb dA_digitOf_55 ?_
      refine lv_goto (tgt := 60) hx hb dA_digitOf_56 (by decide) ?_
      exact W.iret (v := (c0 - 65) + 10) hx hb hr (fun t ht _ => ⟨by rw [show sh_digOf c0 = (c0 - 65) + 10 from by first | (simp [sh_digOf, c_1, c_2, c_3, c_4]; done) | grind [sh_digOf]], ht⟩) t_nil dA_digitOf_60
    refine lv_iload_n hx hb dA_digitOf_23 rfl (lv_at hl 0 rfl) ?_
    refine lv_bipush (v := 102) hx hb dA_digitOf_24 (by decide) ?_
    refine lv_icmp_gt (tgt := 37) hx hb dA_digitOf_26 (by decide) (fun c_5 => ?_) (fun c_5 => ?_)
    · skip
      refine lv_iload_n hx hb dA_digitOf_37 rfl (lv_at hl 0 rfl) ?_
      refine lv_bipush (v := 65) hx hb dA_digitOf_38 (by decide) ?_
      refine lv_icmp_lt (tgt := 59) hx hb dA_digitOf_40 (by decide) (fun c_6 => ?_) (fun c_6 => ?_)
      · skip
        refine lv_iconst (v := (-1)) hx hb dA_digitOf_59 (by decide) ?_
        exact W.iret (v := (-1)) hx hb hr (fun t ht _ => ⟨by rw [show sh_digOf c0 = (-1) from by first | (simp [sh_digOf, c_1, c_2, c_5, c_6]; done) | grind [sh_digOf]], ht⟩) t_nil dA_digitOf_60
      refine lv_iload_n hx hb dA_digitOf_43 rfl (lv_at hl 0 rfl) ?_
      refine lv_bipush (v := 70) hx hb dA_digitOf_44 (by decide) ?_
      refine lv_icmp_gt (tgt := 59) hx hb dA_digitOf_46 (by decide) (fun c_7 => ?_) (fun c_7 => ?_)
      · skip
        refine lv_iconst (v := (-1)) hx hb dA_digitOf_59 (by decide) ?_
        exact W.iret (v := (-1)) hx hb hr (fun t ht _ => ⟨by rw [show sh_digOf c0 = (-1) from by first | (simp [sh_digOf, c_1, c_2, c_5, c_6, c_7]; done) | grind [sh_digOf]], ht⟩) t_nil dA_digitOf_60
      refine lv_iload_n hx hb dA_digitOf_49 rfl (lv_at hl 0 rfl) ?_
      refine lv_bipush (v := 65) hx hb dA_digitOf_50 (by decide) ?_
      refine lv_isub hx hb dA_digitOf_52 ?_
      refine lv_bipush (v := 10) hx hb dA_digitOf_53 (by decide) ?_
      refine lv_iadd hx hb dA_digitOf_55 ?_
      refine lv_goto (tgt := 60) hx hb dA_digitOf_56 (by decide) ?_
      exact W.iret (v := (c0 - 65) + 10) hx hb hr (fun t ht _ => ⟨by rw [show sh_digOf c0 = (c0 - 65) + 10 from by first | (simp [sh_digOf, c_1, c_2, c_5, c_6, c_7]; done) | grind [sh_digOf]], ht⟩) t_nil dA_digitOf_60
    refine lv_iload_n hx hb dA_digitOf_29 rfl (lv_at hl 0 rfl) ?_
    refine lv_bipush (v := 97) hx hb dA_digitOf_30 (by decide) ?_
    refine lv_isub hx hb dA_digitOf_32 ?_
    refine lv_bipush (v := 10) hx hb dA_digitOf_33 (by decide) ?_
    refine lv_iadd hx hb dA_digitOf_35 ?_
    exact W.iret (v := (c0 - 97) + 10) hx hb hr (fun t ht _ => ⟨by rw [show sh_digOf c0 = (c0 - 97) + 10 from by first | (simp [sh_digOf, c_1, c_2, c_5]; done) | grind [sh_digOf]], ht⟩) t_nil dA_digitOf_36
  refine lv_iload_n hx hb dA_digitOf_6 rfl (lv_at hl 0 rfl) ?_
  refine lv_bipush (v := 57) hx hb dA_digitOf_7 (by decide) ?_
  refine lv_icmp_gt (tgt := 17) hx hb dA_digitOf_9 (by decide) (fun c_8 => ?_) (fun c_8 => ?_)
  · skip
    refine lv_iload_n hx hb dA_digitOf_17 rfl (lv_at hl 0 rfl) ?_
    refine lv_bipush (v := 97) hx hb dA_digitOf_18 (by decide) ?_
    refine lv_icmp_lt (tgt := 37) hx hb dA_digitOf_20 (by decide) (fun c_9 => ?_) (fun c_9 => ?_)
    · skip
      refine lv_iload_n hx hb dA_digitOf_37 rfl (lv_at hl 0 rfl) ?_
      refine lv_bipush (v := 65) hx hb dA_digitOf_38 (by decide) ?_
      refine lv_icmp_lt (tgt := 59) hx hb dA_digitOf_40 (by decide) (fun c_10 => ?_) (fun c_10 => ?_)
      · skip
        refine lv_iconst (v := (-1)) hx hb dA_digitOf_59 (by decide) ?_
        exact W.iret (v := (-1)) hx hb hr (fun t ht _ => ⟨by rw [show sh_digOf c0 = (-1) from by first | (simp [sh_digOf, c_1, c_8, c_9, c_10]; done) | grind [sh_digOf]], ht⟩) t_nil dA_digitOf_60
      refine lv_iload_n hx hb dA_digitOf_43 rfl (lv_at hl 0 rfl) ?_
      refine lv_bipush (v := 70) hx hb dA_digitOf_44 (by decide) ?_
      refine lv_icmp_gt (tgt := 59) hx hb dA_digitOf_46 (by decide) (fun c_11 => ?_) (fun c_11 => ?_)
      · skip
        refine lv_iconst (v := (-1)) hx hb dA_digitOf_59 (by decide) ?_
        exact W.iret (v := (-1)) hx hb hr (fun t ht _ => ⟨by rw [show sh_digOf c0 = (-1) from by first | (simp [sh_digOf, c_1, c_8, c_9, c_10, c_11]; done) | grind [sh_digOf]], ht⟩) t_nil dA_digitOf_60
      refine lv_iload_n hx hb dA_digitOf_49 rfl (lv_at hl 0 rfl) ?_
      refine lv_bipush (v := 65) hx hb dA_digitOf_50 (by decide) ?_
      refine lv_isub hx hb dA_digitOf_52 ?_
      refine lv_bipush (v := 10) hx hb dA_digitOf_53 (by decide) ?_
      refine lv_iadd hx hb dA_digitOf_55 ?_
      refine lv_goto (tgt := 60) hx hb dA_digitOf_56 (by decide) ?_
      exact W.iret (v := (c0 - 65) + 10) hx hb hr (fun t ht _ => ⟨by rw [show sh_digOf c0 = (c0 - 65) + 10 from by first | (simp [sh_digOf, c_1, c_8, c_9, c_10, c_11]; done) | grind [sh_digOf]], ht⟩) t_nil dA_digitOf_60
    refine lv_iload_n hx hb dA_digitOf_23 rfl (lv_at hl 0 rfl) ?_
    refine lv_bipush (v := 102) hx hb dA_digitOf_24 (by decide) ?_
    refine lv_icmp_gt (tgt := 37) hx hb dA_digitOf_26 (by decide) (fun c_12 => ?_) (fun c_12 => ?_)
    · skip
      refine lv_iload_n hx hb dA_digitOf_37 rfl (lv_at hl 0 rfl) ?_
      refine lv_bipush (v := 65) hx hb dA_digitOf_38 (by decide) ?_
      refine lv_icmp_lt (tgt := 59) hx hb dA_digitOf_40 (by decide) (fun c_13 => ?_) (fun c_13 => ?_)
      · skip
        refine lv_iconst (v := (-1)) hx hb dA_digitOf_59 (by decide) ?_
        exact W.iret (v := (-1)) hx hb hr (fun t ht _ => ⟨by rw [show sh_digOf c0 = (-1) from by first | (simp [sh_digOf, c_1, c_8, c_9, c_12, c_13]; done) | grind [sh_digOf]], ht⟩) t_nil dA_digitOf_60
      refine lv_iload_n hx hb dA_digitOf_43 rfl (lv_at hl 0 rfl) ?_
      refine lv_bipush (v := 70) hx hb dA_digitOf_44 (by decide) ?_
      refine lv_icmp_gt (tgt := 59) hx hb dA_digitOf_46 (by decide) (fun c_14 => ?_) (fun c_14 => ?_)
      · skip
        refine lv_iconst (v := (-1)) hx hb dA_digitOf_59 (by decide) ?_
        exact W.iret (v := (-1)) hx hb hr (fun t ht _ => ⟨by rw [show sh_digOf c0 = (-1) from by first | (simp [sh_digOf, c_1, c_8, c_9, c_12, c_13, c_14]; done) | grind [sh_digOf]], ht⟩) t_nil dA_digitOf_60
      refine lv_iload_n hx hb dA_digitOf_49 rfl (lv_at hl 0 rfl) ?_
      refine lv_bipush (v := 65) hx hb dA_digitOf_50 (by decide) ?_
      refine lv_isub hx hb dA_digitOf_52 ?_
      refine lv_bipush (v := 10) hx hb dA_digitOf_53 (by decide) ?_
      refine lv_iadd hx hb dA_digitOf_55 ?_
      refine lv_goto (tgt := 60) hx hb dA_digitOf_56 (by decide) ?_
      exact W.iret (v := (c0 - 65) + 10) hx hb hr (fun t ht _ => ⟨by rw [show sh_digOf c0 = (c0 - 65) + 10 from by first | (simp [sh_digOf, c_1, c_8, c_9, c_12, c_13, c_14]; done) | grind [sh_digOf]], ht⟩) t_nil dA_digitOf_60
    refine lv_iload_n hx hb dA_digitOf_29 rfl (lv_at hl 0 rfl) ?_
    refine lv_bipush (v := 97) hx hb dA_digitOf_30 (by decide) ?_
    refine lv_isub hx hb dA_digitOf_32 ?_
    refine lv_bipush (v := 10) hx hb dA_digitOf_33 (by decide) ?_
    refine lv_iadd hx hb dA_digitOf_35 ?_
    exact W.iret (v := (c0 - 97) + 10) hx hb hr (fun t ht _ => ⟨by rw [show sh_digOf c0 = (c0 - 97) + 10 from by first | (simp [sh_digOf, c_1, c_8, c_9, c_12]; done) | grind [sh_digOf]], ht⟩) t_nil dA_digitOf_36
  refine lv_iload_n hx hb dA_digitOf_12 rfl (lv_at hl 0 rfl) ?_
  refine lv_bipush (v := 48) hx hb dA_digitOf_13 (by decide) ?_
  refine lv_isub hx hb dA_digitOf_15 ?_
  exact W.iret (v := c0 - 48) hx hb hr (fun t ht _ => ⟨by rw [show sh_digOf c0 = c0 - 48 from by first | (simp [sh_digOf, c_1, c_8]; done) | grind [sh_digOf]], ht⟩) t_nil dA_digitOf_16
set_option maxHeartbeats 4000000 in
set_option maxRecDepth 100000 in
/-- rankOf(sign) -/
theorem k_G_rankOf (l : Launch) (s0 : Int32) : Met l yG_rankOf wsG_rankOf ({ frames := 0, cells := 0, slots := 0, locals := 0 }) (va_Pc [.int s0] (fun _ => True)) (rq_ (some (.int (nI (sh_rank s0))))) 0 0 (fun _ => False) := by
  refine Met.ofW (cc := cG_rankOf) (maxL := 1) (ret := (some .int)) (by decide) rfl ?_
  intro p e s m args below meth c s₁ B hml hv
  obtain ⟨rfl, -⟩ := hv
  have hx := B.exec
  have hb := B.bytes
  have hr := B.returns
  have htz : ∀ w ∈ zw, w.before _ s = true := fun w h => atoms_spec (ws := wsG_rankOf) B.pre w (List.mem_cons_of_mem _ h)
  have hown : s.vm.findClass "ShellSum$Signs" = some m.cls := findClass_of_methodNamed B.named
  have hlocks := B.notSynchronized
  have hl := lv_entry ([.int s0]) (n := 1) (Nat.le_of_ble_eq_true rfl)
  rw [lg_entry_eq]
  generalize (lg_sl ([.int s0]) ++ List.replicate (1 - (lg_sl ([.int s0])).length) Slot.unset).toArray = ls at hl ⊢
  have hl : lv_has ls 1 [(0, .int s0)] := hl
  refine lv_iload_n hx hb dG_rankOf_0 rfl (lv_at hl 0 rfl) ?_
  by_cases c_1 : s0 = 37
  · skip
    refine lv_lookup (off := 177) (tgt := 178) hx hb dG_rankOf_1 (by decide) (by rw [c_1]; decide) (by decide) ?_
    refine lv_bipush (v := 10) hx hb dG_rankOf_178 (by decide) ?_
    exact W.iret (v := 10) hx hb hr (fun t ht _ => ⟨by rw [show nI (sh_rank s0) = 10 from by rw [c_1]; rfl], ht⟩) t_nil dG_rankOf_180
  by_cases c_2 : s0 = 38
  · skip
    refine lv_lookup (off := 163) (tgt := 164) hx hb dG_rankOf_1 (by decide) (by rw [c_2]; decide) (by decide) ?_
    refine lv_iconst (v := 5) hx hb dG_rankOf_164 (by decide) ?_
    exact W.iret (v := 5) hx hb hr (fun t ht _ => ⟨by rw [show nI (sh_rank s0) = 5 from by rw [c_2]; rfl], ht⟩) t_nil dG_rankOf_165
  by_cases c_3 : s0 = 42
  · skip
    refine lv_lookup (off := 177) (tgt := 178) hx hb dG_rankOf_1 (by decide) (by rw [c_3]; decide) (by decide) ?_
    refine lv_bipush (v := 10) hx hb dG_rankOf_178 (by decide) ?_
    exact W.iret (v := 10) hx hb hr (fun t ht _ => ⟨by rw [show nI (sh_rank s0) = 10 from by rw [c_3]; rfl], ht⟩) t_nil dG_rankOf_180
  by_cases c_4 : s0 = 43
  · skip
    refine lv_lookup (off := 174) (tgt := 175) hx hb dG_rankOf_1 (by decide) (by rw [c_4]; decide) (by decide) ?_
    refine lv_bipush (v := 9) hx hb dG_rankOf_175 (by decide) ?_
    exact W.iret (v := 9) hx hb hr (fun t ht _ => ⟨by rw [show nI (sh_rank s0) = 9 from by rw [c_4]; rfl], ht⟩) t_nil dG_rankOf_177
  by_cases c_5 : s0 = 45
  · skip
    refine lv_lookup (off := 174) (tgt := 175) hx hb dG_rankOf_1 (by decide) (by rw [c_5]; decide) (by decide) ?_
    refine lv_bipush (v := 9) hx hb dG_rankOf_175 (by decide) ?_
    exact W.iret (v := 9) hx hb hr (fun t ht _ => ⟨by rw [show nI (sh_rank s0) = 9 from by rw [c_5]; rfl], ht⟩) t_nil dG_rankOf_177
  by_cases c_6 : s0 = 47
  · skip
    refine lv_lookup (off := 177) (tgt := 178) hx hb dG_rankOf_1 (by decide) (by rw [c_6]; decide) (by decide) ?_
    refine lv_bipush (v := 10) hx hb dG_rankOf_178 (by decide) ?_
    exact W.iret (v := 10) hx hb hr (fun t ht _ => ⟨by rw [show nI (sh_rank s0) = 10 from by rw [c_6]; rfl], ht⟩) t_nil dG_rankOf_180
  by_cases c_7 : s0 = 60
  · skip
    refine lv_lookup (off := 168) (tgt := 169) hx hb dG_rankOf_1 (by decide) (by rw [c_7]; decide) (by decide) ?_
    refine lv_bipush (v := 7) hx hb dG_rankOf_169 (by decide) ?_
    exact W.iret (v := 7) hx hb hr (fun t ht _ => ⟨by rw [show nI (sh_rank s0) = 7 from by rw [c_7]; rfl], ht⟩) t_nil dG_rankOf_171
  by_cases c_8 : s0 = 62
  · skip
    refine lv_lookup (off := 168) (tgt := 169) hx hb dG_rankOf_1 (by decide) (by rw [c_8]; decide) (by decide) ?_
    refine lv_bipush (v := 7) hx hb dG_rankOf_169 (by decide) ?_
    exact W.iret (v := 7) hx hb hr (fun t ht _ => ⟨by rw [show nI (sh_rank s0) = 7 from by rw [c_8]; rfl], ht⟩) t_nil dG_rankOf_171
  by_cases c_9 : s0 = 94
  · skip
    refine lv_lookup (off := 161) (tgt := 162) hx hb dG_rankOf_1 (by decide) (by rw [c_9]; decide) (by decide) ?_
    refine lv_iconst (v := 4) hx hb dG_rankOf_162 (by decide) ?_
    exact W.iret (v := 4) hx hb hr (fun t ht _ => ⟨by rw [show nI (sh_rank s0) = 4 from by rw [c_9]; rfl], ht⟩) t_nil dG_rankOf_163
  by_cases c_10 : s0 = 124
  · skip
    refine lv_lookup (off := 159) (tgt := 160) hx hb dG_rankOf_1 (by decide) (by rw [c_10]; decide) (by decide) ?_
    refine lv_iconst (v := 3) hx hb dG_rankOf_160 (by decide) ?_
    exact W.iret (v := 3) hx hb hr (fun t ht _ => ⟨by rw [show nI (sh_rank s0) = 3 from by rw [c_10]; rfl], ht⟩) t_nil dG_rankOf_161
  by_cases c_11 : s0 = 8509
  · skip
    refine lv_lookup (off := 165) (tgt := 166) hx hb dG_rankOf_1 (by decide) (by rw [c_11]; decide) (by decide) ?_
    refine lv_bipush (v := 6) hx hb dG_rankOf_166 (by decide) ?_
    exact W.iret (v := 6) hx hb hr (fun t ht _ => ⟨by rw [show nI (sh_rank s0) = 6 from by rw [c_11]; rfl], ht⟩) t_nil dG_rankOf_168
  by_cases c_12 : s0 = 9766
  · skip
    refine lv_lookup (off := 157) (tgt := 158) hx hb dG_rankOf_1 (by decide) (by rw [c_12]; decide) (by decide) ?_
    refine lv_iconst (v := 2) hx hb dG_rankOf_158 (by decide) ?_
    exact W.iret (v := 2) hx hb hr (fun t ht _ => ⟨by rw [show nI (sh_rank s0) = 2 from by rw [c_12]; rfl], ht⟩) t_nil dG_rankOf_159
  by_cases c_13 : s0 = 15420
  · skip
    refine lv_lookup (off := 171) (tgt := 172) hx hb dG_rankOf_1 (by decide) (by rw [c_13]; decide) (by decide) ?_
    refine lv_bipush (v := 8) hx hb dG_rankOf_172 (by decide) ?_
    exact W.iret (v := 8) hx hb hr (fun t ht _ => ⟨by rw [show nI (sh_rank s0) = 8 from by rw [c_13]; rfl], ht⟩) t_nil dG_rankOf_174
  by_cases c_14 : s0 = 15421
  · skip
    refine lv_lookup (off := 168) (tgt := 169) hx hb dG_rankOf_1 (by decide) (by rw [c_14]; decide) (by decide) ?_
    refine lv_bipush (v := 7) hx hb dG_rankOf_169 (by decide) ?_
    exact W.iret (v := 7) hx hb hr (fun t ht _ => ⟨by rw [show nI (sh_rank s0) = 7 from by rw [c_14]; rfl], ht⟩) t_nil dG_rankOf_171
  by_cases c_15 : s0 = 15677
  · skip
    refine lv_lookup (off := 165) (tgt := 166) hx hb dG_rankOf_1 (by decide) (by rw [c_15]; decide) (by decide) ?_
    refine lv_bipush (v := 6) hx hb dG_rankOf_166 (by decide) ?_
    exact W.iret (v := 6) hx hb hr (fun t ht _ => ⟨by rw [show nI (sh_rank s0) = 6 from by rw [c_15]; rfl], ht⟩) t_nil dG_rankOf_168
  by_cases c_16 : s0 = 15933
  · skip
    refine lv_lookup (off := 168) (tgt := 169) hx hb dG_rankOf_1 (by decide) (by rw [c_16]; decide) (by decide) ?_
    refine lv_bipush (v := 7) hx hb dG_rankOf_169 (by decide) ?_
    exact W.iret (v := 7) hx hb hr (fun t ht _ => ⟨by rw [show nI (sh_rank s0) = 7 from by rw [c_16]; rfl], ht⟩) t_nil dG_rankOf_171
  by_cases c_17 : s0 = 15934
  · skip
    refine lv_lookup (off := 171) (tgt := 172) hx hb dG_rankOf_1 (by decide) (by rw [c_17]; decide) (by decide) ?_
    refine lv_bipush (v := 8) hx hb dG_rankOf_172 (by decide) ?_
    exact W.iret (v := 8) hx hb hr (fun t ht _ => ⟨by rw [show nI (sh_rank s0) = 8 from by rw [c_17]; rfl], ht⟩) t_nil dG_rankOf_174
  by_cases c_18 : s0 = 31868
  · skip
    refine lv_lookup (off := 155) (tgt := 156) hx hb dG_rankOf_1 (by decide) (by rw [c_18]; decide) (by decide) ?_
    refine lv_iconst (v := 1) hx hb dG_rankOf_156 (by decide) ?_
    exact W.iret (v := 1) hx hb hr (fun t ht _ => ⟨by rw [show nI (sh_rank s0) = 1 from by rw [c_18]; rfl], ht⟩) t_nil dG_rankOf_157
  refine lv_lookup (off := 180) (tgt := 181) hx hb dG_rankOf_1 (by decide) (by rw [lv_osw c_1 (k := 37) (by decide), lv_osw c_2 (k := 38) (by decide), lv_osw c_3 (k := 42) (by decide), lv_osw c_4 (k := 43) (by decide), lv_osw c_5 (k := 45) (by decide), lv_osw c_6 (k := 47) (by decide), lv_osw c_7 (k := 60) (by decide), lv_osw c_8 (k := 62) (by decide), lv_osw c_9 (k := 94) (by decide), lv_osw c_10 (k := 124) (by decide), lv_osw c_11 (k := 8509) (by decide), lv_osw c_12 (k := 9766) (by decide), lv_osw c_13 (k := 15420) (by decide), lv_osw c_14 (k := 15421) (by decide), lv_osw c_15 (k := 15677) (by decide), lv_osw c_16 (k := 15933) (by decide), lv_osw c_17 (k := 15934) (by decide), lv_osw c_18 (k := 31868) (by decide)]; rfl) (by decide) ?_
  refine lv_iconst (v := 0) hx hb dG_rankOf_181 (by decide) ?_
  exact W.iret (v := 0) hx hb hr (fun t ht _ => ⟨by rw [show nI (sh_rank s0) = 0 from by simp [sh_rank, nI, c_1, c_2, c_3, c_4, c_5, c_6, c_7, c_8, c_9, c_10, c_11, c_12, c_13, c_14, c_15, c_16, c_17, c_18]], ht⟩) t_nil dG_rankOf_182
set_option maxHeartbeats 4000000 in
set_option maxRecDepth 100000 in
/-- isShift(sign) -/
theorem k_R_isShift (l : Launch) (s0 : Int32) : Met l yR_isShift wsR_isShift ({ frames := 0, cells := 0, slots := 0, locals := 0 }) (va_Pc [.int s0] (fun _ => True)) (rq_ (some (.int (sh_b (sh_shift s0))))) 0 0 (fun _ => False) := by
  refine Met.ofW (cc := cR_isShift) (maxL := 1) (ret := (some .boolean)) (by decide) rfl ?_
  intro p e s m args below meth c s₁ B hml hv
  obtain ⟨rfl, -⟩ := hv
  have hx := B.exec
  have hb := B.bytes
  have hr := B.returns
  have htz : ∀ w ∈ zw, w.before _ s = true := fun w h => atoms_spec (ws := wsR_isShift) B.pre w (List.mem_cons_of_mem _ h)
  have hown : s.vm.findClass "ShellSum$Reckoner" = some m.cls := findClass_of_methodNamed B.named
  have hlocks := B.notSynchronized
  have hl := lv_entry ([.int s0]) (n := 1) (Nat.le_of_ble_eq_true rfl)
  rw [lg_entry_eq]
  generalize (lg_sl ([.int s0]) ++ List.replicate (1 - (lg_sl ([.int s0])).length) Slot.unset).toArray = ls at hl ⊢
  have hl : lv_has ls 1 [(0, .int s0)] := hl
  refine lv_iload_n hx hb dR_isShift_0 rfl (lv_at hl 0 rfl) ?_
  refine lv_sipush (v := 15420) hx hb dR_isShift_1 (by decide) ?_
  refine lv_icmp_eq (tgt := 14) hx hb dR_isShift_4 (by decide) (fun c_1 => ?_) (fun c_1 => ?_)
  · skip
    refine lv_iconst (v := 1) hx hb dR_isShift_14 (by decide) ?_
    refine lv_goto (tgt := 19) hx hb dR_isShift_15 (by decide) ?_
    exact W.zret (v := 1) hx hb hr (rfl) (fun t ht _ => ⟨by rw [show sh_b (sh_shift s0) = 1 from by first | (simp [sh_b, sh_shift, c_1]; done) | grind [sh_b, sh_shift]], ht⟩) t_nil dR_isShift_19
  refine lv_iload_n hx hb dR_isShift_7 rfl (lv_at hl 0 rfl) ?_
  refine lv_sipush (v := 15934) hx hb dR_isShift_8 (by decide) ?_
  refine lv_icmp_ne (tgt := 18) hx hb dR_isShift_11 (by decide) (fun c_2 => ?_) (fun c_2 => ?_)
  · skip
    refine lv_iconst (v := 0) hx hb dR_isShift_18 (by decide) ?_
    exact W.zret (v := 0) hx hb hr (rfl) (fun t ht _ => ⟨by rw [show sh_b (sh_shift s0) = 0 from by first | (simp [sh_b, sh_shift, c_1, c_2]; done) | grind [sh_b, sh_shift]], ht⟩) t_nil dR_isShift_19
  refine lv_iconst (v := 1) hx hb dR_isShift_14 (by decide) ?_
  refine lv_goto (tgt := 19) hx hb dR_isShift_15 (by decide) ?_
  exact W.zret (v := 1) hx hb hr (rfl) (fun t ht _ => ⟨by rw [show sh_b (sh_shift s0) = 1 from by first | (simp [sh_b, sh_shift, c_1, c_2]; done) | grind [sh_b, sh_shift]], ht⟩) t_nil dR_isShift_19
set_option maxHeartbeats 4000000 in
set_option maxRecDepth 100000 in
/-- isLetter(c) -/
theorem k_M_isLetter (l : Launch) (c0 : Int32) : Met l yM_isLetter wsM_isLetter ({ frames := 0, cells := 0, slots := 0, locals := 0 }) (va_Pc [.int c0] (fun _ => True)) (rq_ (some (.int (sh_b (sh_start c0))))) 0 0 (fun _ => False) := by
  refine Met.ofW (cc := cM_isLetter) (maxL := 1) (ret := (some .boolean)) (by decide) rfl ?_
  intro p e s m args below meth c s₁ B hml hv
  obtain ⟨rfl, -⟩ := hv
  have hx := B.exec
  have hb := B.bytes
  have hr := B.returns
  have htz : ∀ w ∈ zw, w.before _ s = true := fun w h => atoms_spec (ws := wsM_isLetter) B.pre w (List.mem_cons_of_mem _ h)
  have hown : s.vm.findClass "ShellSumModel" = some m.cls := findClass_of_methodNamed B.named
  have hlocks := B.notSynchronized
  have hl := lv_entry ([.int c0]) (n := 1) (Nat.le_of_ble_eq_true rfl)
  rw [lg_entry_eq]
  generalize (lg_sl ([.int c0]) ++ List.replicate (1 - (lg_sl ([.int c0])).length) Slot.unset).toArray = ls at hl ⊢
  have hl : lv_has ls 1 [(0, .int c0)] := hl
  refine lv_iload_n hx hb dM_isLetter_0 rfl (lv_at hl 0 rfl) ?_
  refine lv_bipush (v := 97) hx hb dM_isLetter_1 (by decide) ?_
  refine lv_icmp_lt (tgt := 12) hx hb dM_isLetter_3 (by decide) (fun c_1 => ?_) (fun c_1 => ?_)
  · skip
    refine lv_iload_n hx hb dM_isLetter_12 rfl (lv_at hl 0 rfl) ?_
    refine lv_bipush (v := 65) hx hb dM_isLetter_13 (by decide) ?_
    refine lv_icmp_lt (tgt := 24) hx hb dM_isLetter_15 (by decide) (fun c_2 => ?_) (fun c_2 => ?_)
    · skip
      refine lv_iload_n hx hb dM_isLetter_24 rfl (lv_at hl 0 rfl) ?_
      refine lv_bipush (v := 95) hx hb dM_isLetter_25 (by decide) ?_
      refine lv_icmp_ne (tgt := 34) hx hb dM_isLetter_27 (by decide) (fun c_3 => ?_) (fun c_3 => ?_)
      · skip
        refine lv_iconst (v := 0) hx hb dM_isLetter_34 (by decide) ?_
        exact W.zret (v := 0) hx hb hr (rfl) (fun t ht _ => ⟨by rw [show sh_b (sh_start c0) = 0 from by first | (simp [sh_b, sh_start, c_1, c_2, c_3]; done) | grind [sh_b, sh_start]], ht⟩) t_nil dM_isLetter_35
      refine lv_iconst (v := 1) hx hb dM_isLetter_30 (by decide) ?_
      refine lv_goto (tgt := 35) hx hb dM_isLetter_31 (by decide) ?_
      exact W.zret (v := 1) hx hb hr (rfl) (fun t ht _ => ⟨by rw [show sh_b (sh_start c0) = 1 from by first | (simp [sh_b, sh_start, c_1, c_2, c_3]; done) | grind [sh_b, sh_start]], ht⟩) t_nil dM_isLetter_35
    refine lv_iload_n hx hb dM_isLetter_18 rfl (lv_at hl 0 rfl) ?_
    refine lv_bipush (v := 90) hx hb dM_isLetter_19 (by decide) ?_
    refine lv_icmp_le (tgt := 30) hx hb dM_isLetter_21 (by decide) (fun c_4 => ?_) (fun c_4 => ?_)
    · skip
      refine lv_iconst (v := 1) hx hb dM_isLetter_30 (by decide) ?_
      refine lv_goto (tgt := 35) hx hb dM_isLetter_31 (by decide) ?_
      exact W.zret (v := 1) hx hb hr (rfl) (fun t ht _ => ⟨by rw [show sh_b (sh_start c0) = 1 from by first | (simp [sh_b, sh_start, c_1, c_2, c_4]; done) | grind [sh_b, sh_start]], ht⟩) t_nil dM_isLetter_35
    refine lv_iload_n hx hb dM_isLetter_24 rfl (lv_at hl 0 rfl) ?_
    refine lv_bipush (v := 95) hx hb dM_isLetter_25 (by decide) ?_
    refine lv_icmp_ne (tgt := 34) hx hb dM_isLetter_27 (by decide) (fun c_5 => ?_) (fun c_5 => ?_)
    · skip
      refine lv_iconst (v := 0) hx hb dM_isLetter_34 (by decide) ?_
      exact W.zret (v := 0) hx hb hr (rfl) (fun t ht _ => ⟨by rw [show sh_b (sh_start c0) = 0 from by first | (simp [sh_b, sh_start, c_1, c_2, c_4, c_5]; done) | grind [sh_b, sh_start]], ht⟩) t_nil dM_isLetter_35
    refine lv_iconst (v := 1) hx hb dM_isLetter_30 (by decide) ?_
    refine lv_goto (tgt := 35) hx hb dM_isLetter_31 (by decide) ?_
    exact W.zret (v := 1) hx hb hr (rfl) (fun t ht _ => ⟨by rw [show sh_b (sh_start c0) = 1 from by first | (simp [sh_b, sh_start, c_1, c_2, c_4, c_5]; done) | grind [sh_b, sh_start]], ht⟩) t_nil dM_isLetter_35
  refine lv_iload_n hx hb dM_isLetter_6 rfl (lv_at hl 0 rfl) ?_
  refine lv_bipush (v := 122) hx hb dM_isLetter_7 (by decide) ?_
  refine lv_icmp_le (tgt := 30) hx hb dM_isLetter_9 (by decide) (fun c_6 => ?_) (fun c_6 => ?_)
  · skip
    refine lv_iconst (v := 1) hx hb dM_isLetter_30 (by decide) ?_
    refine lv_goto (tgt := 35) hx hb dM_isLetter_31 (by decide) ?_
    exact W.zret (v := 1) hx hb hr (rfl) (fun t ht _ => ⟨by rw [show sh_b (sh_start c0) = 1 from by first | (simp [sh_b, sh_start, c_1, c_6]; done) | grind [sh_b, sh_start]], ht⟩) t_nil dM_isLetter_35
  refine lv_iload_n hx hb dM_isLetter_12 rfl (lv_at hl 0 rfl) ?_
  refine lv_bipush (v := 65) hx hb dM_isLetter_13 (by decide) ?_
  refine lv_icmp_lt (tgt := 24) hx hb dM_isLetter_15 (by decide) (fun c_7 => ?_) (fun c_7 => ?_)
  · skip
    refine lv_iload_n hx hb dM_isLetter_24 rfl (lv_at hl 0 rfl) ?_
    refine lv_bipush (v := 95) hx hb dM_isLetter_25 (by decide) ?_
    refine lv_icmp_ne (tgt := 34) hx hb dM_isLetter_27 (by decide) (fun c_8 => ?_) (fun c_8 => ?_)
    · skip
      refine lv_iconst (v := 0) hx hb dM_isLetter_34 (by decide) ?_
      exact W.zret (v := 0) hx hb hr (rfl) (fun t ht _ => ⟨by rw [show sh_b (sh_start c0) = 0 from by first | (simp [sh_b, sh_start, c_1, c_6, c_7, c_8]; done) | grind [sh_b, sh_start]], ht⟩) t_nil dM_isLetter_35
    refine lv_iconst (v := 1) hx hb dM_isLetter_30 (by decide) ?_
    refine lv_goto (tgt := 35) hx hb dM_isLetter_31 (by decide) ?_
    exact W.zret (v := 1) hx hb hr (rfl) (fun t ht _ => ⟨by rw [show sh_b (sh_start c0) = 1 from by first | (simp [sh_b, sh_start, c_1, c_6, c_7, c_8]; done) | grind [sh_b, sh_start]], ht⟩) t_nil dM_isLetter_35
  refine lv_iload_n hx hb dM_isLetter_18 rfl (lv_at hl 0 rfl) ?_
  refine lv_bipush (v := 90) hx hb dM_isLetter_19 (by decide) ?_
  refine lv_icmp_le (tgt := 30) hx hb dM_isLetter_21 (by decide) (fun c_9 => ?_) (fun c_9 => ?_)
  · skip
    refine lv_iconst (v := 1) hx hb dM_isLetter_30 (by decide) ?_
    refine lv_goto (tgt := 35) hx hb dM_isLetter_31 (by decide) ?_
    exact W.zret (v := 1) hx hb hr (rfl) (fun t ht _ => ⟨by rw [show sh_b (sh_start c0) = 1 from by first | (simp [sh_b, sh_start, c_1, c_6, c_7, c_9]; done) | grind [sh_b, sh_start]], ht⟩) t_nil dM_isLetter_35
  refine lv_iload_n hx hb dM_isLetter_24 rfl (lv_at hl 0 rfl) ?_
  refine lv_bipush (v := 95) hx hb dM_isLetter_25 (by decide) ?_
  refine lv_icmp_ne (tgt := 34) hx hb dM_isLetter_27 (by decide) (fun c_10 => ?_) (fun c_10 => ?_)
  · skip
    refine lv_iconst (v := 0) hx hb dM_isLetter_34 (by decide) ?_
    exact W.zret (v := 0) hx hb hr (rfl) (fun t ht _ => ⟨by rw [show sh_b (sh_start c0) = 0 from by first | (simp [sh_b, sh_start, c_1, c_6, c_7, c_9, c_10]; done) | grind [sh_b, sh_start]], ht⟩) t_nil dM_isLetter_35
  refine lv_iconst (v := 1) hx hb dM_isLetter_30 (by decide) ?_
  refine lv_goto (tgt := 35) hx hb dM_isLetter_31 (by decide) ?_
  exact W.zret (v := 1) hx hb hr (rfl) (fun t ht _ => ⟨by rw [show sh_b (sh_start c0) = 1 from by first | (simp [sh_b, sh_start, c_1, c_6, c_7, c_9, c_10]; done) | grind [sh_b, sh_start]], ht⟩) t_nil dM_isLetter_35
set_option maxHeartbeats 4000000 in
set_option maxRecDepth 100000 in
/-- isDigit(c) -/
theorem k_M_isDigit (l : Launch) (c0 : Int32) : Met l yM_isDigit wsM_isDigit ({ frames := 0, cells := 0, slots := 0, locals := 0 }) (va_Pc [.int c0] (fun _ => True)) (rq_ (some (.int (sh_b (sh_digit c0))))) 0 0 (fun _ => False) := by
  refine Met.ofW (cc := cM_isDigit) (maxL := 1) (ret := (some .boolean)) (by decide) rfl ?_
  intro p e s m args below meth c s₁ B hml hv
  obtain ⟨rfl, -⟩ := hv
  have hx := B.exec
  have hb := B.bytes
  have hr := B.returns
  have htz : ∀ w ∈ zw, w.before _ s = true := fun w h => atoms_spec (ws := wsM_isDigit) B.pre w (List.mem_cons_of_mem _ h)
  have hown : s.vm.findClass "ShellSumModel" = some m.cls := findClass_of_methodNamed B.named
  have hlocks := B.notSynchronized
  have hl := lv_entry ([.int c0]) (n := 1) (Nat.le_of_ble_eq_true rfl)
  rw [lg_entry_eq]
  generalize (lg_sl ([.int c0]) ++ List.replicate (1 - (lg_sl ([.int c0])).length) Slot.unset).toArray = ls at hl ⊢
  have hl : lv_has ls 1 [(0, .int c0)] := hl
  refine lv_iload_n hx hb dM_isDigit_0 rfl (lv_at hl 0 rfl) ?_
  refine lv_bipush (v := 48) hx hb dM_isDigit_1 (by decide) ?_
  refine lv_icmp_lt (tgt := 16) hx hb dM_isDigit_3 (by decide) (fun c_1 => ?_) (fun c_1 => ?_)
  · skip
    refine lv_iconst (v := 0) hx hb dM_isDigit_16 (by decide) ?_
    exact W.zret (v := 0) hx hb hr (rfl) (fun t ht _ => ⟨by rw [show sh_b (sh_digit c0) = 0 from by first | (simp [sh_b, sh_digit, c_1]; done) | grind [sh_b, sh_digit]], ht⟩) t_nil dM_isDigit_17
  refine lv_iload_n hx hb dM_isDigit_6 rfl (lv_at hl 0 rfl) ?_
  refine lv_bipush (v := 57) hx hb dM_isDigit_7 (by decide) ?_
  refine lv_icmp_gt (tgt := 16) hx hb dM_isDigit_9 (by decide) (fun c_2 => ?_) (fun c_2 => ?_)
  · skip
    refine lv_iconst (v := 0) hx hb dM_isDigit_16 (by decide) ?_
    exact W.zret (v := 0) hx hb hr (rfl) (fun t ht _ => ⟨by rw [show sh_b (sh_digit c0) = 0 from by first | (simp [sh_b, sh_digit, c_1, c_2]; done) | grind [sh_b, sh_digit]], ht⟩) t_nil dM_isDigit_17
  refine lv_iconst (v := 1) hx hb dM_isDigit_12 (by decide) ?_
  refine lv_goto (tgt := 17) hx hb dM_isDigit_13 (by decide) ?_
  exact W.zret (v := 1) hx hb hr (rfl) (fun t ht _ => ⟨by rw [show sh_b (sh_digit c0) = 1 from by first | (simp [sh_b, sh_digit, c_1, c_2]; done) | grind [sh_b, sh_digit]], ht⟩) t_nil dM_isDigit_17
end
section
set_option maxHeartbeats 4000000 in
set_option maxRecDepth 100000 in
/-- byteAt(chars, n, i) -/
theorem k_A_byteAt (l : Launch) (x0 : Int64) (n0 i0 : Int32) : Met l yA_byteAt wsA_byteAt ({ frames := 0, cells := 0, slots := 0, locals := 0 }) (va_Pc [.long x0, .int n0, .int i0] (fun _ => True)) (rq_ (some (.int (sh_bA x0 n0 i0)))) 0 0 (fun _ => False) := by
  refine Met.ofW (cc := cA_byteAt) (maxL := 4) (ret := (some .char)) (by decide) rfl ?_
  intro p e s m args below meth c s₁ B hml hv
  obtain ⟨rfl, -⟩ := hv
  have hx := B.exec
  have hb := B.bytes
  have hr := B.returns
  have htz : ∀ w ∈ zw, w.before _ s = true := fun w h => atoms_spec (ws := wsA_byteAt) B.pre w (List.mem_cons_of_mem _ h)
  have hown : s.vm.findClass "ShellSum" = some m.cls := findClass_of_methodNamed B.named
  have hlocks := B.notSynchronized
  have hl := lv_entry ([.long x0, .int n0, .int i0]) (n := 4) (Nat.le_of_ble_eq_true rfl)
  rw [lg_entry_eq]
  generalize (lg_sl ([.long x0, .int n0, .int i0]) ++ List.replicate (4 - (lg_sl ([.long x0, .int n0, .int i0])).length) Slot.unset).toArray = ls at hl ⊢
  have hl : lv_has ls 4 [(0, .long x0), (2, .int n0), (3, .int i0)] := hl
  refine lv_lload_n hx hb dA_byteAt_0 rfl (lv_at hl 0 rfl) ?_
  refine lv_bipush (v := 8) hx hb dA_byteAt_1 (by decide) ?_
  refine lv_iload_n hx hb dA_byteAt_3 rfl (lv_at hl 1 rfl) ?_
  refine lv_iconst (v := 1) hx hb dA_byteAt_4 (by decide) ?_
  refine lv_isub hx hb dA_byteAt_5 ?_
  refine lv_iload_n hx hb dA_byteAt_6 rfl (lv_at hl 2 rfl) ?_
  refine lv_isub hx hb dA_byteAt_7 ?_
  refine lv_imul hx hb dA_byteAt_8 ?_
  refine lv_lushr hx hb dA_byteAt_9 rfl ?_
  refine lv_ldc2 (v := 255) hx hb hown (htz _ zw_1_111) dA_byteAt_10 ?_
  refine lv_land hx hb dA_byteAt_13 ?_
  refine lv_l2i hx hb dA_byteAt_14 rfl ?_
  refine lv_i2c hx hb dA_byteAt_15 rfl ?_
  exact W.zret (v := ((((((x0).toUInt64 >>> ((8 * ((n0 - 1) - i0)).toInt64.toUInt64 &&& Int64.toUInt64 63)).toInt64) &&& 255).toInt32).toUInt32 % 65536).toInt32) hx hb hr (pk_nc _) (fun t ht _ => ⟨by rw [show sh_bA x0 n0 i0 = ((((((x0).toUInt64 >>> ((8 * ((n0 - 1) - i0)).toInt64.toUInt64 &&& Int64.toUInt64 63)).toInt64) &&& 255).toInt32).toUInt32 % 65536).toInt32 from by rfl], ht⟩) t_nil dA_byteAt_16
set_option maxHeartbeats 4000000 in
set_option maxRecDepth 100000 in
/-- byteOf(chars, n, k) -/
theorem k_M_byteOf (l : Launch) (x0 : Int64) (n0 i0 : Int32) : Met l yM_byteOf wsM_byteOf ({ frames := 0, cells := 0, slots := 0, locals := 0 }) (va_Pc [.long x0, .int n0, .int i0] (fun _ => True)) (rq_ (some (.int (sh_bM x0 n0 i0)))) 0 0 (fun _ => False) := by
  refine Met.ofW (cc := cM_byteOf) (maxL := 4) (ret := (some .int)) (by decide) rfl ?_
  intro p e s m args below meth c s₁ B hml hv
  obtain ⟨rfl, -⟩ := hv
  have hx := B.exec
  have hb := B.bytes
  have hr := B.returns
  have htz : ∀ w ∈ zw, w.before _ s = true := fun w h => atoms_spec (ws := wsM_byteOf) B.pre w (List.mem_cons_of_mem _ h)
  have hown : s.vm.findClass "ShellSumModel" = some m.cls := findClass_of_methodNamed B.named
  have hlocks := B.notSynchronized
  have hl := lv_entry ([.long x0, .int n0, .int i0]) (n := 4) (Nat.le_of_ble_eq_true rfl)
  rw [lg_entry_eq]
  generalize (lg_sl ([.long x0, .int n0, .int i0]) ++ List.replicate (4 - (lg_sl ([.long x0, .int n0, .int i0])).length) Slot.unset).toArray = ls at hl ⊢
  have hl : lv_has ls 4 [(0, .long x0), (2, .int n0), (3, .int i0)] := hl
  refine lv_lload_n hx hb dM_byteOf_0 rfl (lv_at hl 0 rfl) ?_
  refine lv_bipush (v := 8) hx hb dM_byteOf_1 (by decide) ?_
  refine lv_iload_n hx hb dM_byteOf_3 rfl (lv_at hl 1 rfl) ?_
  refine lv_iconst (v := 1) hx hb dM_byteOf_4 (by decide) ?_
  refine lv_isub hx hb dM_byteOf_5 ?_
  refine lv_iload_n hx hb dM_byteOf_6 rfl (lv_at hl 2 rfl) ?_
  refine lv_isub hx hb dM_byteOf_7 ?_
  refine lv_imul hx hb dM_byteOf_8 ?_
  refine lv_lshr hx hb dM_byteOf_9 rfl ?_
  refine lv_ldc2 (v := 255) hx hb hown (htz _ zw_3_14) dM_byteOf_10 ?_
  refine lv_land hx hb dM_byteOf_13 ?_
  refine lv_l2i hx hb dM_byteOf_14 rfl ?_
  exact W.iret (v := ((x0 >>> ((8 * ((n0 - 1) - i0)).toInt64 &&& 63)) &&& 255).toInt32) hx hb hr (fun t ht _ => ⟨by rw [show sh_bM x0 n0 i0 = ((x0 >>> ((8 * ((n0 - 1) - i0)).toInt64 &&& 63)) &&& 255).toInt32 from by rfl], ht⟩) t_nil dM_byteOf_15
set_option maxHeartbeats 4000000 in
set_option maxRecDepth 100000 in
/-- isText(c) -/
theorem k_M_isText (l : Launch) (c0 : Int32) : Met l yM_isText wsM_isText ({ frames := 0, cells := 0, slots := 0, locals := 0 }) (va_Pc [.int c0] (fun _ => True)) (rq_ (some (.int (sh_b (sh_ok c0))))) 0 0 (fun _ => False) := by
  refine Met.ofW (cc := cM_isText) (maxL := 1) (ret := (some .boolean)) (by decide) rfl ?_
  intro p e s m args below meth c s₁ B hml hv
  obtain ⟨rfl, -⟩ := hv
  have hx := B.exec
  have hb := B.bytes
  have hr := B.returns
  have htz : ∀ w ∈ zw, w.before _ s = true := fun w h => atoms_spec (ws := wsM_isText) B.pre w (List.mem_cons_of_mem _ h)
  have hown : s.vm.findClass "ShellSumModel" = some m.cls := findClass_of_methodNamed B.named
  have hlocks := B.notSynchronized
  have hl := lv_entry ([.int c0]) (n := 1) (Nat.le_of_ble_eq_true rfl)
  rw [lg_entry_eq]
  generalize (lg_sl ([.int c0]) ++ List.replicate (1 - (lg_sl ([.int c0])).length) Slot.unset).toArray = ls at hl ⊢
  have hl : lv_has ls 1 [(0, .int c0)] := hl
  refine lv_iload_n hx hb dM_isText_0 rfl (lv_at hl 0 rfl) ?_
  refine lv_bipush (v := 9) hx hb dM_isText_1 (by decide) ?_
  refine lv_icmp_eq (tgt := 24) hx hb dM_isText_3 (by decide) (fun c_1 => ?_) (fun c_1 => ?_)
  · skip
    refine lv_iconst (v := 1) hx hb dM_isText_24 (by decide) ?_
    refine lv_goto (tgt := 29) hx hb dM_isText_25 (by decide) ?_
    exact W.zret (v := 1) hx hb hr (rfl) (fun t ht _ => ⟨by rw [show sh_b (sh_ok c0) = 1 from by first | (simp [sh_b, sh_ok, sh_blank, c_1]; done) | grind [sh_b, sh_ok, sh_blank]], ht⟩) t_nil dM_isText_29
  refine lv_iload_n hx hb dM_isText_6 rfl (lv_at hl 0 rfl) ?_
  refine lv_bipush (v := 10) hx hb dM_isText_7 (by decide) ?_
  refine lv_icmp_eq (tgt := 24) hx hb dM_isText_9 (by decide) (fun c_2 => ?_) (fun c_2 => ?_)
  · skip
    refine lv_iconst (v := 1) hx hb dM_isText_24 (by decide) ?_
    refine lv_goto (tgt := 29) hx hb dM_isText_25 (by decide) ?_
    exact W.zret (v := 1) hx hb hr (rfl) (fun t ht _ => ⟨by rw [show sh_b (sh_ok c0) = 1 from by first | (simp [sh_b, sh_ok, sh_blank, c_1, c_2]; done) | grind [sh_b, sh_ok, sh_blank]], ht⟩) t_nil dM_isText_29
  refine lv_iload_n hx hb dM_isText_12 rfl (lv_at hl 0 rfl) ?_
  refine lv_bipush (v := 31) hx hb dM_isText_13 (by decide) ?_
  refine lv_icmp_le (tgt := 28) hx hb dM_isText_15 (by decide) (fun c_3 => ?_) (fun c_3 => ?_)
  · skip
    refine lv_iconst (v := 0) hx hb dM_isText_28 (by decide) ?_
    exact W.zret (v := 0) hx hb hr (rfl) (fun t ht _ => ⟨by rw [show sh_b (sh_ok c0) = 0 from by first | (simp [sh_b, sh_ok, sh_blank, c_1, c_2, c_3]; done) | grind [sh_b, sh_ok, sh_blank]], ht⟩) t_nil dM_isText_29
  refine lv_iload_n hx hb dM_isText_18 rfl (lv_at hl 0 rfl) ?_
  refine lv_bipush (v := 127) hx hb dM_isText_19 (by decide) ?_
  refine lv_icmp_ge (tgt := 28) hx hb dM_isText_21 (by decide) (fun c_4 => ?_) (fun c_4 => ?_)
  · skip
    refine lv_iconst (v := 0) hx hb dM_isText_28 (by decide) ?_
    exact W.zret (v := 0) hx hb hr (rfl) (fun t ht _ => ⟨by rw [show sh_b (sh_ok c0) = 0 from by first | (simp [sh_b, sh_ok, sh_blank, c_1, c_2, c_3, c_4]; done) | grind [sh_b, sh_ok, sh_blank]], ht⟩) t_nil dM_isText_29
  refine lv_iconst (v := 1) hx hb dM_isText_24 (by decide) ?_
  refine lv_goto (tgt := 29) hx hb dM_isText_25 (by decide) ?_
  exact W.zret (v := 1) hx hb hr (rfl) (fun t ht _ => ⟨by rw [show sh_b (sh_ok c0) = 1 from by first | (simp [sh_b, sh_ok, sh_blank, c_1, c_2, c_3, c_4]; done) | grind [sh_b, sh_ok, sh_blank]], ht⟩) t_nil dM_isText_29
set_option maxHeartbeats 4000000 in
set_option maxRecDepth 100000 in
/-- isSettledBy(sign, first) -/
theorem k_G_isSettledBy (l : Launch) (s0 : Int32) (f0 : Int64) : Met l yG_isSettledBy wsG_isSettledBy ({ frames := 0, cells := 0, slots := 0, locals := 0 }) (va_Pc [.int s0, .long f0] (fun _ => True)) (rq_ (some (.int (sh_b (sh_settled s0 f0))))) 0 0 (fun _ => False) := by
  refine Met.ofW (cc := cG_isSettledBy) (maxL := 3) (ret := (some .boolean)) (by decide) rfl ?_
  intro p e s m args below meth c s₁ B hml hv
  obtain ⟨rfl, -⟩ := hv
  have hx := B.exec
  have hb := B.bytes
  have hr := B.returns
  have htz : ∀ w ∈ zw, w.before _ s = true := fun w h => atoms_spec (ws := wsG_isSettledBy) B.pre w (List.mem_cons_of_mem _ h)
  have hown : s.vm.findClass "ShellSum$Signs" = some m.cls := findClass_of_methodNamed B.named
  have hlocks := B.notSynchronized
  have hl := lv_entry ([.int s0, .long f0]) (n := 3) (Nat.le_of_ble_eq_true rfl)
  rw [lg_entry_eq]
  generalize (lg_sl ([.int s0, .long f0]) ++ List.replicate (3 - (lg_sl ([.int s0, .long f0])).length) Slot.unset).toArray = ls at hl ⊢
  have hl : lv_has ls 3 [(0, .int s0), (1, .long f0)] := hl
  refine lv_iload_n hx hb dG_isSettledBy_0 rfl (lv_at hl 0 rfl) ?_
  refine lv_sipush (v := 31868) hx hb dG_isSettledBy_1 (by decide) ?_
  refine lv_icmp_ne (tgt := 13) hx hb dG_isSettledBy_4 (by decide) (fun c_1 => ?_) (fun c_1 => ?_)
  · skip
    refine lv_iload_n hx hb dG_isSettledBy_13 rfl (lv_at hl 0 rfl) ?_
    refine lv_sipush (v := 9766) hx hb dG_isSettledBy_14 (by decide) ?_
    refine lv_icmp_ne (tgt := 30) hx hb dG_isSettledBy_17 (by decide) (fun c_2 => ?_) (fun c_2 => ?_)
    · skip
      refine lv_iconst (v := 0) hx hb dG_isSettledBy_30 (by decide) ?_
      exact W.zret (v := 0) hx hb hr (rfl) (fun t ht _ => ⟨by rw [show sh_b (sh_settled s0 f0) = 0 from by first | (simp [sh_b, sh_settled, c_1, c_2]; done) | grind [sh_b, sh_settled]], ht⟩) t_nil dG_isSettledBy_31
    refine lv_lload_n hx hb dG_isSettledBy_20 rfl (lv_at hl 1 rfl) ?_
    refine lv_lconst (v := 0) hx hb dG_isSettledBy_21 (by decide) ?_
    refine W.lcmp hx hb dG_isSettledBy_22 ?_
    refine lv_if_ne (tgt := 30) hx hb dG_isSettledBy_23 (by decide) (fun c_3 => ?_) (fun c_3 => ?_)
    · skip
      rw [lg_cmp_eq] at c_3
      refine lv_iconst (v := 0) hx hb dG_isSettledBy_30 (by decide) ?_
      exact W.zret (v := 0) hx hb hr (rfl) (fun t ht _ => ⟨by rw [show sh_b (sh_settled s0 f0) = 0 from by first | (simp [sh_b, sh_settled, c_1, c_2, c_3]; done) | grind [sh_b, sh_settled]], ht⟩) t_nil dG_isSettledBy_31
    rw [lg_cmp_eq] at c_3
    refine lv_iconst (v := 1) hx hb dG_isSettledBy_26 (by decide) ?_
    refine lv_goto (tgt := 31) hx hb dG_isSettledBy_27 (by decide) ?_
    exact W.zret (v := 1) hx hb hr (rfl) (fun t ht _ => ⟨by rw [show sh_b (sh_settled s0 f0) = 1 from by first | (simp [sh_b, sh_settled, c_1, c_2, c_3]; done) | grind [sh_b, sh_settled]], ht⟩) t_nil dG_isSettledBy_31
  refine lv_lload_n hx hb dG_isSettledBy_7 rfl (lv_at hl 1 rfl) ?_
  refine lv_lconst (v := 0) hx hb dG_isSettledBy_8 (by decide) ?_
  refine W.lcmp hx hb dG_isSettledBy_9 ?_
  refine lv_if_ne (tgt := 26) hx hb dG_isSettledBy_10 (by decide) (fun c_4 => ?_) (fun c_4 => ?_)
  · skip
    rw [lg_cmp_eq] at c_4
    refine lv_iconst (v := 1) hx hb dG_isSettledBy_26 (by decide) ?_
    refine lv_goto (tgt := 31) hx hb dG_isSettledBy_27 (by decide) ?_
    exact W.zret (v := 1) hx hb hr (rfl) (fun t ht _ => ⟨by rw [show sh_b (sh_settled s0 f0) = 1 from by first | (simp [sh_b, sh_settled, c_1, c_4]; done) | grind [sh_b, sh_settled]], ht⟩) t_nil dG_isSettledBy_31
  rw [lg_cmp_eq] at c_4
  refine lv_iload_n hx hb dG_isSettledBy_13 rfl (lv_at hl 0 rfl) ?_
  refine lv_sipush (v := 9766) hx hb dG_isSettledBy_14 (by decide) ?_
  refine lv_icmp_ne (tgt := 30) hx hb dG_isSettledBy_17 (by decide) (fun c_5 => ?_) (fun c_5 => ?_)
  · skip
    refine lv_iconst (v := 0) hx hb dG_isSettledBy_30 (by decide) ?_
    exact W.zret (v := 0) hx hb hr (rfl) (fun t ht _ => ⟨by rw [show sh_b (sh_settled s0 f0) = 0 from by first | (simp [sh_b, sh_settled, c_1, c_4, c_5]; done) | grind [sh_b, sh_settled]], ht⟩) t_nil dG_isSettledBy_31
  refine lv_lload_n hx hb dG_isSettledBy_20 rfl (lv_at hl 1 rfl) ?_
  refine lv_lconst (v := 0) hx hb dG_isSettledBy_21 (by decide) ?_
  refine W.lcmp hx hb dG_isSettledBy_22 ?_
  refine lv_if_ne (tgt := 30) hx hb dG_isSettledBy_23 (by decide) (fun c_6 => ?_) (fun c_6 => ?_)
  · skip
    rw [lg_cmp_eq] at c_6
    refine lv_iconst (v := 0) hx hb dG_isSettledBy_30 (by decide) ?_
    exact W.zret (v := 0) hx hb hr (rfl) (fun t ht _ => ⟨by rw [show sh_b (sh_settled s0 f0) = 0 from by first | (simp [sh_b, sh_settled, c_1, c_4, c_5, c_6]; done) | grind [sh_b, sh_settled]], ht⟩) t_nil dG_isSettledBy_31
  rw [lg_cmp_eq] at c_6
  refine lv_iconst (v := 1) hx hb dG_isSettledBy_26 (by decide) ?_
  refine lv_goto (tgt := 31) hx hb dG_isSettledBy_27 (by decide) ?_
  exact W.zret (v := 1) hx hb hr (rfl) (fun t ht _ => ⟨by rw [show sh_b (sh_settled s0 f0) = 1 from by first | (simp [sh_b, sh_settled, c_1, c_4, c_5, c_6]; done) | grind [sh_b, sh_settled]], ht⟩) t_nil dG_isSettledBy_31
set_option maxHeartbeats 4000000 in
set_option maxRecDepth 100000 in
/-- holds(sign, a, b) -/
theorem k_G_holds (l : Launch) (s0 : Int32) (a0 b0 : Int64) : Met l yG_holds wsG_holds ({ frames := 0, cells := 0, slots := 0, locals := 0 }) (va_Pc [.int s0, .long a0, .long b0] (fun _ => True)) (rq_ (some (.int (sh_b (sh_holds s0 a0 b0))))) 0 0 (fun _ => False) := by
  refine Met.ofW (cc := cG_holds) (maxL := 5) (ret := (some .boolean)) (by decide) rfl ?_
  intro p e s m args below meth c s₁ B hml hv
  obtain ⟨rfl, -⟩ := hv
  have hx := B.exec
  have hb := B.bytes
  have hr := B.returns
  have htz : ∀ w ∈ zw, w.before _ s = true := fun w h => atoms_spec (ws := wsG_holds) B.pre w (List.mem_cons_of_mem _ h)
  have hown : s.vm.findClass "ShellSum$Signs" = some m.cls := findClass_of_methodNamed B.named
  have hlocks := B.notSynchronized
  have hl := lv_entry ([.int s0, .long a0, .long b0]) (n := 5) (Nat.le_of_ble_eq_true rfl)
  rw [lg_entry_eq]
  generalize (lg_sl ([.int s0, .long a0, .long b0]) ++ List.replicate (5 - (lg_sl ([.int s0, .long a0, .long b0])).length) Slot.unset).toArray = ls at hl ⊢
  have hl : lv_has ls 5 [(0, .int s0), (1, .long a0), (3, .long b0)] := hl
  refine lv_iload_n hx hb dG_holds_0 rfl (lv_at hl 0 rfl) ?_
  by_cases c_1 : s0 = 60
  · skip
    refine lv_lookup (off := 135) (tgt := 136) hx hb dG_holds_1 (by decide) (by rw [c_1]; decide) (by decide) ?_
    refine lv_lload_n hx hb dG_holds_136 rfl (lv_at hl 1 rfl) ?_
    refine lv_lload_n hx hb dG_holds_137 rfl (lv_at hl 2 rfl) ?_
    refine W.lcmp hx hb dG_holds_138 ?_
    refine lv_if_ge (tgt := 146) hx hb dG_holds_139 (by decide) (fun c_2 => ?_) (fun c_2 => ?_)
    · skip
      rw [lg_cmp_ge] at c_2
      refine lv_iconst (v := 0) hx hb dG_holds_146 (by decide) ?_
      exact W.zret (v := 0) hx hb hr (rfl) (fun t ht _ => ⟨by rw [show sh_b (sh_holds s0 a0 b0) = 0 from by first | (simp [sh_b, sh_holds, c_1, c_2]; done) | grind [sh_b, sh_holds]], ht⟩) t_nil dG_holds_147
    rw [lg_cmp_ge] at c_2
    refine lv_iconst (v := 1) hx hb dG_holds_142 (by decide) ?_
    refine lv_goto (tgt := 147) hx hb dG_holds_143 (by decide) ?_
    exact W.zret (v := 1) hx hb hr (rfl) (fun t ht _ => ⟨by rw [show sh_b (sh_holds s0 a0 b0) = 1 from by first | (simp [sh_b, sh_holds, c_1, c_2]; done) | grind [sh_b, sh_holds]], ht⟩) t_nil dG_holds_147
  by_cases c_3 : s0 = 62
  · skip
    refine lv_lookup (off := 147) (tgt := 148) hx hb dG_holds_1 (by decide) (by rw [c_3]; decide) (by decide) ?_
    refine lv_lload_n hx hb dG_holds_148 rfl (lv_at hl 1 rfl) ?_
    refine lv_lload_n hx hb dG_holds_149 rfl (lv_at hl 2 rfl) ?_
    refine W.lcmp hx hb dG_holds_150 ?_
    refine lv_if_le (tgt := 158) hx hb dG_holds_151 (by decide) (fun c_4 => ?_) (fun c_4 => ?_)
    · skip
      rw [lg_cmp_le] at c_4
      refine lv_iconst (v := 0) hx hb dG_holds_158 (by decide) ?_
      exact W.zret (v := 0) hx hb hr (rfl) (fun t ht _ => ⟨by rw [show sh_b (sh_holds s0 a0 b0) = 0 from by first | (simp [sh_b, sh_holds, c_3, c_4]; done) | grind [sh_b, sh_holds]], ht⟩) t_nil dG_holds_159
    rw [lg_cmp_le] at c_4
    refine lv_iconst (v := 1) hx hb dG_holds_154 (by decide) ?_
    refine lv_goto (tgt := 159) hx hb dG_holds_155 (by decide) ?_
    exact W.zret (v := 1) hx hb hr (rfl) (fun t ht _ => ⟨by rw [show sh_b (sh_holds s0 a0 b0) = 1 from by first | (simp [sh_b, sh_holds, c_3, c_4]; done) | grind [sh_b, sh_holds]], ht⟩) t_nil dG_holds_159
  by_cases c_5 : s0 = 8509
  · skip
    refine lv_lookup (off := 123) (tgt := 124) hx hb dG_holds_1 (by decide) (by rw [c_5]; decide) (by decide) ?_
    refine lv_lload_n hx hb dG_holds_124 rfl (lv_at hl 1 rfl) ?_
    refine lv_lload_n hx hb dG_holds_125 rfl (lv_at hl 2 rfl) ?_
    refine W.lcmp hx hb dG_holds_126 ?_
    refine lv_if_eq (tgt := 134) hx hb dG_holds_127 (by decide) (fun c_6 => ?_) (fun c_6 => ?_)
    · skip
      rw [lg_cmp_eq] at c_6
      refine lv_iconst (v := 0) hx hb dG_holds_134 (by decide) ?_
      exact W.zret (v := 0) hx hb hr (rfl) (fun t ht _ => ⟨by rw [show sh_b (sh_holds s0 a0 b0) = 0 from by first | (simp [sh_b, sh_holds, c_5, c_6]; done) | grind [sh_b, sh_holds]], ht⟩) t_nil dG_holds_135
    rw [lg_cmp_eq] at c_6
    refine lv_iconst (v := 1) hx hb dG_holds_130 (by decide) ?_
    refine lv_goto (tgt := 135) hx hb dG_holds_131 (by decide) ?_
    exact W.zret (v := 1) hx hb hr (rfl) (fun t ht _ => ⟨by rw [show sh_b (sh_holds s0 a0 b0) = 1 from by first | (simp [sh_b, sh_holds, c_5, c_6]; done) | grind [sh_b, sh_holds]], ht⟩) t_nil dG_holds_135
  by_cases c_7 : s0 = 9766
  · skip
    refine lv_lookup (off := 93) (tgt := 94) hx hb dG_holds_1 (by decide) (by rw [c_7]; decide) (by decide) ?_
    refine lv_lload_n hx hb dG_holds_94 rfl (lv_at hl 1 rfl) ?_
    refine lv_lconst (v := 0) hx hb dG_holds_95 (by decide) ?_
    refine W.lcmp hx hb dG_holds_96 ?_
    refine lv_if_eq (tgt := 110) hx hb dG_holds_97 (by decide) (fun c_8 => ?_) (fun c_8 => ?_)
    · skip
      rw [lg_cmp_eq] at c_8
      refine lv_iconst (v := 0) hx hb dG_holds_110 (by decide) ?_
      exact W.zret (v := 0) hx hb hr (rfl) (fun t ht _ => ⟨by rw [show sh_b (sh_holds s0 a0 b0) = 0 from by first | (simp [sh_b, sh_holds, c_7, c_8]; done) | grind [sh_b, sh_holds]], ht⟩) t_nil dG_holds_111
    rw [lg_cmp_eq] at c_8
    refine lv_lload_n hx hb dG_holds_100 rfl (lv_at hl 2 rfl) ?_
    refine lv_lconst (v := 0) hx hb dG_holds_101 (by decide) ?_
    refine W.lcmp hx hb dG_holds_102 ?_
    refine lv_if_eq (tgt := 110) hx hb dG_holds_103 (by decide) (fun c_9 => ?_) (fun c_9 => ?_)
    · skip
      rw [lg_cmp_eq] at c_9
      refine lv_iconst (v := 0) hx hb dG_holds_110 (by decide) ?_
      exact W.zret (v := 0) hx hb hr (rfl) (fun t ht _ => ⟨by rw [show sh_b (sh_holds s0 a0 b0) = 0 from by first | (simp [sh_b, sh_holds, c_7, c_8, c_9]; done) | grind [sh_b, sh_holds]], ht⟩) t_nil dG_holds_111
    rw [lg_cmp_eq] at c_9
    refine lv_iconst (v := 1) hx hb dG_holds_106 (by decide) ?_
    refine lv_goto (tgt := 111) hx hb dG_holds_107 (by decide) ?_
    exact W.zret (v := 1) hx hb hr (rfl) (fun t ht _ => ⟨by rw [show sh_b (sh_holds s0 a0 b0) = 1 from by first | (simp [sh_b, sh_holds, c_7, c_8, c_9]; done) | grind [sh_b, sh_holds]], ht⟩) t_nil dG_holds_111
  by_cases c_10 : s0 = 15421
  · skip
    refine lv_lookup (off := 159) (tgt := 160) hx hb dG_holds_1 (by decide) (by rw [c_10]; decide) (by decide) ?_
    refine lv_lload_n hx hb dG_holds_160 rfl (lv_at hl 1 rfl) ?_
    refine lv_lload_n hx hb dG_holds_161 rfl (lv_at hl 2 rfl) ?_
    refine W.lcmp hx hb dG_holds_162 ?_
    refine lv_if_gt (tgt := 170) hx hb dG_holds_163 (by decide) (fun c_11 => ?_) (fun c_11 => ?_)
    · skip
      rw [lg_cmp_gt] at c_11
      refine lv_iconst (v := 0) hx hb dG_holds_170 (by decide) ?_
      exact W.zret (v := 0) hx hb hr (rfl) (fun t ht _ => ⟨by rw [show sh_b (sh_holds s0 a0 b0) = 0 from by first | (simp [sh_b, sh_holds, c_10, c_11]; done) | grind [sh_b, sh_holds]], ht⟩) t_nil dG_holds_171
    rw [lg_cmp_gt] at c_11
    refine lv_iconst (v := 1) hx hb dG_holds_166 (by decide) ?_
    refine lv_goto (tgt := 171) hx hb dG_holds_167 (by decide) ?_
    exact W.zret (v := 1) hx hb hr (rfl) (fun t ht _ => ⟨by rw [show sh_b (sh_holds s0 a0 b0) = 1 from by first | (simp [sh_b, sh_holds, c_10, c_11]; done) | grind [sh_b, sh_holds]], ht⟩) t_nil dG_holds_171
  by_cases c_12 : s0 = 15677
  · skip
    refine lv_lookup (off := 111) (tgt := 112) hx hb dG_holds_1 (by decide) (by rw [c_12]; decide) (by decide) ?_
    refine lv_lload_n hx hb dG_holds_112 rfl (lv_at hl 1 rfl) ?_
    refine lv_lload_n hx hb dG_holds_113 rfl (lv_at hl 2 rfl) ?_
    refine W.lcmp hx hb dG_holds_114 ?_
    refine lv_if_ne (tgt := 122) hx hb dG_holds_115 (by decide) (fun c_13 => ?_) (fun c_13 => ?_)
    · skip
      rw [lg_cmp_eq] at c_13
      refine lv_iconst (v := 0) hx hb dG_holds_122 (by decide) ?_
      exact W.zret (v := 0) hx hb hr (rfl) (fun t ht _ => ⟨by rw [show sh_b (sh_holds s0 a0 b0) = 0 from by first | (simp [sh_b, sh_holds, c_12, c_13]; done) | grind [sh_b, sh_holds]], ht⟩) t_nil dG_holds_123
    rw [lg_cmp_eq] at c_13
    refine lv_iconst (v := 1) hx hb dG_holds_118 (by decide) ?_
    refine lv_goto (tgt := 123) hx hb dG_holds_119 (by decide) ?_
    exact W.zret (v := 1) hx hb hr (rfl) (fun t ht _ => ⟨by rw [show sh_b (sh_holds s0 a0 b0) = 1 from by first | (simp [sh_b, sh_holds, c_12, c_13]; done) | grind [sh_b, sh_holds]], ht⟩) t_nil dG_holds_123
  by_cases c_14 : s0 = 15933
  · skip
    refine lv_lookup (off := 171) (tgt := 172) hx hb dG_holds_1 (by decide) (by rw [c_14]; decide) (by decide) ?_
    refine lv_lload_n hx hb dG_holds_172 rfl (lv_at hl 1 rfl) ?_
    refine lv_lload_n hx hb dG_holds_173 rfl (lv_at hl 2 rfl) ?_
    refine W.lcmp hx hb dG_holds_174 ?_
    refine lv_if_lt (tgt := 182) hx hb dG_holds_175 (by decide) (fun c_15 => ?_) (fun c_15 => ?_)
    · skip
      rw [lg_cmp_lt] at c_15
      refine lv_iconst (v := 0) hx hb dG_holds_182 (by decide) ?_
      exact W.zret (v := 0) hx hb hr (rfl) (fun t ht _ => ⟨by rw [show sh_b (sh_holds s0 a0 b0) = 0 from by first | (simp [sh_b, sh_holds, c_14, c_15]; done) | grind [sh_b, sh_holds]], ht⟩) t_nil dG_holds_183
    rw [lg_cmp_lt] at c_15
    refine lv_iconst (v := 1) hx hb dG_holds_178 (by decide) ?_
    refine lv_goto (tgt := 183) hx hb dG_holds_179 (by decide) ?_
    exact W.zret (v := 1) hx hb hr (rfl) (fun t ht _ => ⟨by rw [show sh_b (sh_holds s0 a0 b0) = 1 from by first | (simp [sh_b, sh_holds, c_14, c_15]; done) | grind [sh_b, sh_holds]], ht⟩) t_nil dG_holds_183
  by_cases c_16 : s0 = 31868
  · skip
    refine lv_lookup (off := 75) (tgt := 76) hx hb dG_holds_1 (by decide) (by rw [c_16]; decide) (by decide) ?_
    refine lv_lload_n hx hb dG_holds_76 rfl (lv_at hl 1 rfl) ?_
    refine lv_lconst (v := 0) hx hb dG_holds_77 (by decide) ?_
    refine W.lcmp hx hb dG_holds_78 ?_
    refine lv_if_ne (tgt := 88) hx hb dG_holds_79 (by decide) (fun c_17 => ?_) (fun c_17 => ?_)
    · skip
      rw [lg_cmp_eq] at c_17
      refine lv_iconst (v := 1) hx hb dG_holds_88 (by decide) ?_
      refine lv_goto (tgt := 93) hx hb dG_holds_89 (by decide) ?_
      exact W.zret (v := 1) hx hb hr (rfl) (fun t ht _ => ⟨by rw [show sh_b (sh_holds s0 a0 b0) = 1 from by first | (simp [sh_b, sh_holds, c_16, c_17]; done) | grind [sh_b, sh_holds]], ht⟩) t_nil dG_holds_93
    rw [lg_cmp_eq] at c_17
    refine lv_lload_n hx hb dG_holds_82 rfl (lv_at hl 2 rfl) ?_
    refine lv_lconst (v := 0) hx hb dG_holds_83 (by decide) ?_
    refine W.lcmp hx hb dG_holds_84 ?_
    refine lv_if_eq (tgt := 92) hx hb dG_holds_85 (by decide) (fun c_18 => ?_) (fun c_18 => ?_)
    · skip
      rw [lg_cmp_eq] at c_18
      refine lv_iconst (v := 0) hx hb dG_holds_92 (by decide) ?_
      exact W.zret (v := 0) hx hb hr (rfl) (fun t ht _ => ⟨by rw [show sh_b (sh_holds s0 a0 b0) = 0 from by first | (simp [sh_b, sh_holds, c_16, c_17, c_18]; done) | grind [sh_b, sh_holds]], ht⟩) t_nil dG_holds_93
    rw [lg_cmp_eq] at c_18
    refine lv_iconst (v := 1) hx hb dG_holds_88 (by decide) ?_
    refine lv_goto (tgt := 93) hx hb dG_holds_89 (by decide) ?_
    exact W.zret (v := 1) hx hb hr (rfl) (fun t ht _ => ⟨by rw [show sh_b (sh_holds s0 a0 b0) = 1 from by first | (simp [sh_b, sh_holds, c_16, c_17, c_18]; done) | grind [sh_b, sh_holds]], ht⟩) t_nil dG_holds_93
  refine lv_lookup (off := 183) (tgt := 184) hx hb dG_holds_1 (by decide) (by rw [lv_osw c_1 (k := 60) (by decide), lv_osw c_3 (k := 62) (by decide), lv_osw c_5 (k := 8509) (by decide), lv_osw c_7 (k := 9766) (by decide), lv_osw c_10 (k := 15421) (by decide), lv_osw c_12 (k := 15677) (by decide), lv_osw c_14 (k := 15933) (by decide), lv_osw c_16 (k := 31868) (by decide)]; rfl) (by decide) ?_
  refine lv_iconst (v := 0) hx hb dG_holds_184 (by decide) ?_
  exact W.zret (v := 0) hx hb hr (rfl) (fun t ht _ => ⟨by rw [show sh_b (sh_holds s0 a0 b0) = 0 from by first | (simp [sh_b, sh_holds, c_1, c_3, c_5, c_7, c_10, c_12, c_14, c_16]; done) | grind [sh_b, sh_holds]], ht⟩) t_nil dG_holds_185
set_option maxHeartbeats 4000000 in
set_option maxRecDepth 100000 in
/-- digitOf(c) -/
theorem k_M_digitOf (l : Launch) (c0 : Int32) : Met l yM_digitOf wsM_digitOf ({ frames := 1, cells := 0, slots := 0, locals := 20 }) (va_Pc [.int c0] (fun _ => True)) (rq_ (some (.int (sh_digM c0)))) 0 0 (fun _ => False) := by
  refine Met.ofW (cc := cM_digitOf) (maxL := 1) (ret := (some .int)) (by decide) rfl ?_
  intro p e s m args below meth c s₁ B hml hv
  obtain ⟨rfl, -⟩ := hv
  have hx := B.exec
  have hb := B.bytes
  have hr := B.returns
  have htz : ∀ w ∈ zw, w.before _ s = true := fun w h => atoms_spec (ws := wsM_digitOf) B.pre w (List.mem_cons_of_mem _ h)
  have hown : s.vm.findClass "ShellSumModel" = some m.cls := findClass_of_methodNamed B.named
  have hlocks := B.notSynchronized
  have hl := lv_entry ([.int c0]) (n := 1) (Nat.le_of_ble_eq_true rfl)
  rw [lg_entry_eq]
  generalize (lg_sl ([.int c0]) ++ List.replicate (1 - (lg_sl ([.int c0])).length) Slot.unset).toArray = ls at hl ⊢
  have hl : lv_has ls 1 [(0, .int c0)] := hl
  refine lv_iload_n hx hb dM_digitOf_0 rfl (lv_at hl 0 rfl) ?_
  refine rq_call (va_runS (As := [.int c0]) (rest := []) ⟨hx, hb, hml, hown, htz⟩ (k_M_isDigit l c0) (cwS 1 htz (zg_S zw_3_25 zw_3_26 zw_1_4 zw_3_27) rfl rfl rfl (by decide +kernel) ⟨Nat.le_of_ble_eq_true rfl, Nat.le_of_ble_eq_true rfl⟩) rq_pre rfl rfl hl.1 rfl (lv_room (Nat.le_of_ble_eq_true rfl)) dM_digitOf_1 ⟨Nat.zero_le _, Nat.zero_le _⟩) ?_
  refine W.eq (g2 := F0 m 4 ls [.int (sh_b (sh_digit c0))]) rfl ?_
  refine lv_if_eq (tgt := 14) hx hb dM_digitOf_4 (by decide) (fun c_1 => ?_) (fun c_1 => ?_)
  · skip
    refine lv_iload_n hx hb dM_digitOf_14 rfl (lv_at hl 0 rfl) ?_
    refine lv_bipush (v := 97) hx hb dM_digitOf_15 (by decide) ?_
    refine lv_icmp_lt (tgt := 36) hx hb dM_digitOf_17 (by decide) (fun c_2 => ?_) (fun c_2 => ?_)
    · skip
      refine lv_iload_n hx hb dM_digitOf_36 rfl (lv_at hl 0 rfl) ?_
      refine lv_bipush (v := 65) hx hb dM_digitOf_37 (by decide) ?_
      refine lv_icmp_lt (tgt := 58) hx hb dM_digitOf_39 (by decide) (fun c_3 => ?_) (fun c_3 => ?_)
      · skip
        refine lv_bipush (v := 99) hx hb dM_digitOf_58 (by decide) ?_
        exact W.iret (v := 99) hx hb hr (fun t ht _ => ⟨by rw [show sh_digM c0 = 99 from by first | (simp [sh_b, sh_digM, sh_digit, c_1, c_2, c_3]; done) | grind [sh_b, sh_digM, sh_digit]], ht⟩) t_nil dM_digitOf_60
      refine lv_iload_n hx hb dM_digitOf_42 rfl (lv_at hl 0 rfl) ?_
      refine lv_bipush (v := 70) hx hb dM_digitOf_43 (by decide) ?_
      refine lv_icmp_gt (tgt := 58) hx hb dM_digitOf_45 (by decide) (fun c_4 => ?_) (fun c_4 => ?_)
      · skip
        refine lv_bipush (v := 99) hx hb dM_digitOf_58 (by decide) ?_
        exact W.iret (v := 99) hx hb hr (fun t ht _ => ⟨by rw [show sh_digM c0 = 99 from by first | (simp [sh_b, sh_digM, sh_digit, c_1, c_2, c_3, c_4]; done) | grind [sh_b, sh_digM, sh_digit]], ht⟩) t_nil dM_digitOf_60
      refine lv_iload_n hx hb dM_digitOf_48 rfl (lv_at hl 0 rfl) ?_
      refine lv_bipush (v := 65) hx hb dM_digitOf_49 (by decide) ?_
      refine lv_isub hx hb dM_digitOf_51 ?_
      refine lv_bipush (v := 10) hx hb dM_digitOf_52 (by decide) ?_
      refine lv_iadd hx hb dM_digitOf_54 ?_
      refine lv_goto (tgt := 60) hx hb dM_digitOf_55 (by decide) ?_
      exact W.iret (v := (c0 - 65) + 10) hx hb hr (fun t ht _ => ⟨by rw [show sh_digM c0 = (c0 - 65) + 10 from by first | (simp [sh_b, sh_digM, sh_digit, c_1, c_2, c_3, c_4]; done) | grind [sh_b, sh_digM, sh_digit]], ht⟩) t_nil dM_digitOf_60
    refine lv_iload_n hx hb dM_digitOf_20 rfl (lv_at hl 0 rfl) ?_
    refine lv_bipush (v := 102) hx hb dM_digitOf_21 (by decide) ?_
    refine lv_icmp_gt (tgt := 36) hx hb dM_digitOf_23 (by decide) (fun c_5 => ?_) (fun c_5 => ?_)
    · skip
      refine lv_iload_n hx hb dM_digitOf_36 rfl (lv_at hl 0 rfl) ?_
      refine lv_bipush (v := 65) hx hb dM_digitOf_37 (by decide) ?_
      refine lv_icmp_lt (tgt := 58) hx hb dM_digitOf_39 (by decide) (fun c_6 => ?_) (fun c_6 => ?_)
      · skip
        refine lv_bipush (v := 99) hx hb dM_digitOf_58 (by decide) ?_
        exact W.iret (v := 99) hx hb hr (fun t ht _ => ⟨by rw [show sh_digM c0 = 99 from by first | (simp [sh_b, sh_digM, sh_digit, c_1, c_2, c_5, c_6]; done) | grind [sh_b, sh_digM, sh_digit]], ht⟩) t_nil dM_digitOf_60
      refine lv_iload_n hx hb dM_digitOf_42 rfl (lv_at hl 0 rfl) ?_
      refine lv_bipush (v := 70) hx hb dM_digitOf_43 (by decide) ?_
      refine lv_icmp_gt (tgt := 58) hx hb dM_digitOf_45 (by decide) (fun c_7 => ?_) (fun c_7 => ?_)
      · skip
        refine lv_bipush (v := 99) hx hb dM_digitOf_58 (by decide) ?_
        exact W.iret (v := 99) hx hb hr (fun t ht _ => ⟨by rw [show sh_digM c0 = 99 from by first | (simp [sh_b, sh_digM, sh_digit, c_1, c_2, c_5, c_6, c_7]; done) | grind [sh_b, sh_digM, sh_digit]], ht⟩) t_nil dM_digitOf_60
      refine lv_iload_n hx hb dM_digitOf_48 rfl (lv_at hl 0 rfl) ?_
      refine lv_bipush (v := 65) hx hb dM_digitOf_49 (by decide) ?_
      refine lv_isub hx hb dM_digitOf_51 ?_
      refine lv_bipush (v := 10) hx hb dM_digitOf_52 (by decide) ?_
      refine lv_iadd hx hb dM_digitOf_54 ?_
      refine lv_goto (tgt := 60) hx hb dM_digitOf_55 (by decide) ?_
      exact W.iret (v := (c0 - 65) + 10) hx hb hr (fun t ht _ => ⟨by rw [show sh_digM c0 = (c0 - 65) + 10 from by first | (simp [sh_b, sh_digM, sh_digit, c_1, c_2, c_5, c_6, c_7]; done) | grind [sh_b, sh_digM, sh_digit]], ht⟩) t_nil dM_digitOf_60
    refine lv_iload_n hx hb dM_digitOf_26 rfl (lv_at hl 0 rfl) ?_
    refine lv_bipush (v := 97) hx hb dM_digitOf_27 (by decide) ?_
    refine lv_isub hx hb dM_digitOf_29 ?_
    refine lv_bipush (v := 10) hx hb dM_digitOf_30 (by decide) ?_
    refine lv_iadd hx hb dM_digitOf_32 ?_
    refine lv_goto (tgt := 60) hx hb dM_digitOf_33 (by decide) ?_
    exact W.iret (v := (c0 - 97) + 10) hx hb hr (fun t ht _ => ⟨by rw [show sh_digM c0 = (c0 - 97) + 10 from by first | (simp [sh_b, sh_digM, sh_digit, c_1, c_2, c_5]; done) | grind [sh_b, sh_digM, sh_digit]], ht⟩) t_nil dM_digitOf_60
  refine lv_iload_n hx hb dM_digitOf_7 rfl (lv_at hl 0 rfl) ?_
  refine lv_bipush (v := 48) hx hb dM_digitOf_8 (by decide) ?_
  refine lv_isub hx hb dM_digitOf_10 ?_
  refine lv_goto (tgt := 60) hx hb dM_digitOf_11 (by decide) ?_
  exact W.iret (v := c0 - 48) hx hb hr (fun t ht _ => ⟨by rw [show sh_digM c0 = c0 - 48 from by first | (simp [sh_b, sh_digM, sh_digit, c_1]; done) | grind [sh_b, sh_digM, sh_digit]], ht⟩) t_nil dM_digitOf_60
end
section
/-! lN n to 2^64 (from kit/laws/BITS.to-paste) -/
theorem wb_tb (n : Nat) : (lN n).toBitVec = BitVec.ofNat 64 n := rfl
theorem wb_inj {a b : Int64} (h : a.toBitVec = b.toBitVec) : a = b := Int64.toBitVec_inj.mp h
theorem wb_tn {n : Nat} (h : n < 2 ^ 64) : (lN n).toBitVec.toNat = n := by rw [wb_tb, BitVec.toNat_ofNat, Nat.mod_eq_of_lt h]
theorem wb_of (x : Int64) : ∃ n, n < 2 ^ 64 ∧ x = lN n := ⟨x.toBitVec.toNat, x.toBitVec.isLt, wb_inj (by rw [wb_tb]; simp)⟩
theorem wb_of32 (x : Int32) : ∃ n, n < 2 ^ 32 ∧ x = nI n := ⟨x.toBitVec.toNat, x.toBitVec.isLt, Int32.toBitVec_inj.mp (by show _ = BitVec.ofNat 32 _; simp)⟩
theorem wb_c : ∀ k, k < 64 → ((nI k).toInt64 &&& 63) = lN k := by decide +kernel
theorem wb_cu : ∀ k, k < 64 → ((nI k).toInt64.toUInt64 &&& Int64.toUInt64 63) = UInt64.ofNat k := by decide +kernel
theorem wb_sm : ∀ k, k < 64 → (BitVec.ofNat 64 k).smod 64 = BitVec.ofNat 64 k := by decide +kernel
theorem wb_pw {a b : Nat} (h : a ≤ b) : 2 ^ b = 2 ^ a * 2 ^ (b - a) := by rw [← Nat.pow_add]; congr 1; omega
theorem wb_lt2 {a b : Nat} (h : a < b) : 2 ^ a < 2 ^ b := Nat.pow_lt_pow_right (by decide) h
theorem wb_mod (n : Nat) : lN n = lN (n % 2 ^ 64) := wb_inj (by rw [wb_tb, wb_tb]; apply BitVec.eq_of_toNat_eq; rw [BitVec.toNat_ofNat, BitVec.toNat_ofNat, Nat.mod_mod])
theorem wb_shr {n k : Nat} (hn : n < 2 ^ 64) (hk : k < 64) : ((lN n).toUInt64 >>> ((nI k).toInt64.toUInt64 &&& Int64.toUInt64 63)).toInt64 = lN (n / 2 ^ k) := by
  rw [wb_cu k hk]
  apply wb_inj
  apply BitVec.eq_of_toNat_eq
  show ((lN n).toUInt64 >>> UInt64.ofNat k).toNat = (BitVec.ofNat 64 _).toNat
  have h1 : (UInt64.ofNat k).toNat = k := by
    show (BitVec.ofNat 64 k).toNat = k
    rw [BitVec.toNat_ofNat, Nat.mod_eq_of_lt (by omega)]
  have h2 : (lN n).toUInt64.toNat = n := wb_tn hn
  rw [UInt64.toNat_shiftRight, h1, h2, Nat.mod_eq_of_lt hk, Nat.shiftRight_eq_div_pow, BitVec.toNat_ofNat, Nat.mod_eq_of_lt (Nat.lt_of_le_of_lt (Nat.div_le_self _ _) hn)]
theorem wb_shl (n : Nat) {k : Nat} (hk : k < 64) : lN n <<< ((nI k).toInt64 &&& 63) = lN (n * 2 ^ k) := by
  rw [wb_c k hk]
  apply wb_inj
  rw [Int64.toBitVec_shiftLeft, wb_tb, wb_tb, wb_tb, wb_sm k hk]
  apply BitVec.eq_of_toNat_eq
  rw [BitVec.shiftLeft_eq', BitVec.toNat_shiftLeft, BitVec.toNat_ofNat, BitVec.toNat_ofNat, BitVec.toNat_ofNat, Nat.mod_eq_of_lt (show k < 2 ^ 64 by omega), Nat.shiftLeft_eq, Nat.mul_mod, Nat.mod_mod, ← Nat.mul_mod]
theorem wb_and {a b : Nat} (ha : a < 2 ^ 64) (hb : b < 2 ^ 64) : lN a &&& lN b = lN (a &&& b) := by
  apply wb_inj
  rw [Int64.toBitVec_and, wb_tb, wb_tb, wb_tb]
  apply BitVec.eq_of_toNat_eq
  rw [BitVec.toNat_and, BitVec.toNat_ofNat, BitVec.toNat_ofNat, BitVec.toNat_ofNat, Nat.mod_eq_of_lt ha, Nat.mod_eq_of_lt hb, Nat.mod_eq_of_lt (Nat.and_lt_two_pow _ hb)]
theorem wb_or {a b : Nat} (ha : a < 2 ^ 64) (hb : b < 2 ^ 64) : lN a ||| lN b = lN (a ||| b) := by
  apply wb_inj
  rw [Int64.toBitVec_or, wb_tb, wb_tb, wb_tb]
  apply BitVec.eq_of_toNat_eq
  rw [BitVec.toNat_or, BitVec.toNat_ofNat, BitVec.toNat_ofNat, BitVec.toNat_ofNat, Nat.mod_eq_of_lt ha, Nat.mod_eq_of_lt hb, Nat.mod_eq_of_lt (Nat.or_lt_two_pow ha hb)]
theorem wb_mask {n k : Nat} (hn : n < 2 ^ 64) (hk : k < 64) : lN n &&& lN (2 ^ k - 1) = lN (n % 2 ^ k) := by
  rw [wb_and hn (by have := wb_lt2 hk; omega), Nat.and_two_pow_sub_one_eq_mod]
theorem wb_a1 {n : Nat} (hn : n < 2 ^ 64) : lN n &&& 1 = lN (n % 2) := wb_mask (k := 1) hn (by decide)
theorem wb_bit {n k : Nat} (hn : n < 2 ^ 64) (hk : k < 64) : ((lN n).toUInt64 >>> ((nI k).toInt64.toUInt64 &&& Int64.toUInt64 63)).toInt64 &&& 1 = lN (n / 2 ^ k % 2) := by
  rw [wb_shr hn hk, wb_a1 (Nat.lt_of_le_of_lt (Nat.div_le_self _ _) hn)]
/-! bytes of a long -/
theorem bz_k {n i : Nat} (hi : i < n) (hn : n ≤ 8) : 8 * ((nI n - 1) - nI i) = nI (8 * (n - 1 - i)) := by
  have e1 : nI n - 1 = nI (n - 1) := pk_sub (b := 1) (by omega)
  rw [e1, pk_sub (by omega)]
  exact pk_mul 8 _
theorem bz_lt (x : Int64) (n i : Nat) : x.toBitVec.toNat / 2 ^ (8 * (n - 1 - i)) % 256 < 256 := Nat.mod_lt _ (by decide)
theorem sh_bA_eq {x : Int64} {n i : Nat} (hi : i < n) (hn : n ≤ 8) : sh_bA x (nI n) (nI i) = sh_byte x n i := by
  obtain ⟨N, hN, rfl⟩ := wb_of x
  unfold sh_bA sh_byte
  rw [bz_k hi hn, wb_shr hN (by omega)]
  have h1 : N / 2 ^ (8 * (n - 1 - i)) < 2 ^ 64 := Nat.lt_of_le_of_lt (Nat.div_le_self _ _) hN
  rw [show (255 : Int64) = lN (2 ^ 8 - 1) from rfl, wb_mask h1 (by decide), lN_i, pk_char, wb_tn hN]
  have h2 : N / 2 ^ (8 * (n - 1 - i)) % 2 ^ 8 < 256 := Nat.mod_lt _ (by decide)
  rw [pk_tn (by omega), Nat.mod_eq_of_lt (by omega)]
theorem bz_sar (x : BitVec 64) {k : Nat} (hk : k ≤ 56) : x.sshiftRight k &&& 255#64 = (x >>> k) &&& 255#64 := by
  apply BitVec.eq_of_getLsbD_eq
  intro i hi
  rw [BitVec.getLsbD_and, BitVec.getLsbD_and, BitVec.getLsbD_sshiftRight, BitVec.getLsbD_ushiftRight]
  by_cases h8 : i < 8
  · rw [if_pos (show k + i < 64 by omega)]
    simp [show ¬ 64 ≤ i by omega]
  · have : (255#64).getLsbD i = false := by
      have e : (255#64).getLsbD i = Nat.testBit 255 i := by
        show (BitVec.ofNat 64 255).getLsbD i = _
        rw [BitVec.getLsbD_ofNat]; simp [hi]
      rw [e]
      exact Nat.testBit_lt_two_pow (Nat.lt_of_lt_of_le (show 255 < 2 ^ 8 by decide) (Nat.pow_le_pow_right (by decide) (by omega)))
    rw [this]; simp
theorem sh_bM_eq {x : Int64} {n i : Nat} (hi : i < n) (hn : n ≤ 8) : sh_bM x (nI n) (nI i) = sh_byte x n i := by
  unfold sh_bM sh_byte
  rw [bz_k hi hn, wb_c _ (by omega)]
  have hk : 8 * (n - 1 - i) ≤ 56 := by omega
  generalize 8 * (n - 1 - i) = k at hk ⊢
  have e : (x >>> lN k) &&& 255 = lN (x.toBitVec.toNat / 2 ^ k % 256) := by
    apply wb_inj
    rw [Int64.toBitVec_and, Int64.toBitVec_shiftRight, wb_tb, wb_tb, wb_sm k (by omega)]
    show x.toBitVec.sshiftRight' (BitVec.ofNat 64 k) &&& 255#64 = _
    rw [show x.toBitVec.sshiftRight' (BitVec.ofNat 64 k) = x.toBitVec.sshiftRight k from by
      unfold BitVec.sshiftRight'
      rw [BitVec.toNat_ofNat, Nat.mod_eq_of_lt (by omega)], bz_sar _ hk]
    apply BitVec.eq_of_toNat_eq
    rw [BitVec.toNat_and, BitVec.toNat_ushiftRight, show (255#64).toNat = 2 ^ 8 - 1 from rfl, Nat.and_two_pow_sub_one_eq_mod, BitVec.toNat_ofNat, Nat.shiftRight_eq_div_pow]
    have : x.toBitVec.toNat / 2 ^ k % 2 ^ 8 < 256 := Nat.mod_lt _ (by decide)
    rw [Nat.mod_eq_of_lt (a := x.toBitVec.toNat / 2 ^ k % 256) (by omega)]
  rw [e, lN_i]
theorem sh_bytes_len (x : Int64) (n : Nat) : (sh_bytes x n).length = n := by simp [sh_bytes]
theorem sh_bytes_get {x : Int64} {n i : Nat} (h : i < n) : (sh_bytes x n)[i]? = some (sh_byte x n i) := by simp [sh_bytes, h]
theorem sh_bytes_all {x : Int64} {n : Nat} {p : Int32 → Bool} (h : ∀ j, j < n → p (sh_byte x n j) = true) : (sh_bytes x n).all p = true := by
  rw [List.all_eq_true]
  intro c hc
  obtain ⟨j, hj, rfl⟩ := List.mem_map.mp hc
  exact h j (List.mem_range.mp hj)
theorem sh_bytes_not {x : Int64} {n j : Nat} {p : Int32 → Bool} (hj : j < n) (h : p (sh_byte x n j) = false) : (sh_bytes x n).all p = false := by
  rw [List.all_eq_false]
  exact ⟨_, List.mem_map.mpr ⟨j, List.mem_range.mpr hj, rfl⟩, by rw [h]; decide⟩
end
section
def sh_areT (x : Int64) (n : Int32) : Bool := (decide (0 ≤ n) && decide (n ≤ 8)) && (sh_bytes x n.toNatClampNeg).all sh_ok
def sh_areN (x : Int64) (n : Int32) : Bool := (decide (1 ≤ n) && decide (n ≤ 8)) && (sh_start (sh_byte x n.toNatClampNeg 0) && (sh_bytes x n.toNatClampNeg).all sh_word)
theorem sh_areT_n {x : Int64} {n : Nat} (h : n ≤ 8) : sh_areT x (nI n) = (sh_bytes x n).all sh_ok := by
  unfold sh_areT
  rw [nI_clamp (by omega), decide_eq_true (nI_pos' (n := n) (by omega)), decide_eq_true (show nI n ≤ 8 from nI_le (b := 8) h (by decide))]
  simp
theorem sh_areN_n {x : Int64} {n : Nat} (h1 : 1 ≤ n) (h : n ≤ 8) : sh_areN x (nI n) = (sh_start (sh_byte x n 0) && (sh_bytes x n).all sh_word) := by
  unfold sh_areN
  rw [nI_clamp (by omega), decide_eq_true (show 1 ≤ nI n from nI_le (a := 1) h1 (by omega)), decide_eq_true (show nI n ≤ 8 from nI_le (b := 8) h (by decide))]
  simp
end
section
set_option maxHeartbeats 4000000 in
set_option maxRecDepth 100000 in
/-- areOfText(chars, n) -/
theorem k_A_areOfText (l : Launch) (x0 : Int64) (n0 : Int32) : Met l yA_areOfText wsA_areOfText ({ frames := 1, cells := 0, slots := 0, locals := 40 }) (va_Pc [.long x0, .int n0] (fun _ => True)) (rq_ (some (.int (sh_b (sh_areT x0 n0))))) 0 0 (fun _ => False) := by
  refine Met.ofW (cc := cA_areOfText) (maxL := 5) (ret := (some .boolean)) (by decide) rfl ?_
  intro p e s m args below meth c s₁ B hml hv
  obtain ⟨rfl, -⟩ := hv
  have hx := B.exec
  have hb := B.bytes
  have hr := B.returns
  have htz : ∀ w ∈ zw, w.before _ s = true := fun w h => atoms_spec (ws := wsA_areOfText) B.pre w (List.mem_cons_of_mem _ h)
  have hown : s.vm.findClass "ShellSum" = some m.cls := findClass_of_methodNamed B.named
  have hlocks := B.notSynchronized
  have hl := lv_entry ([.long x0, .int n0]) (n := 5) (Nat.le_of_ble_eq_true rfl)
  rw [lg_entry_eq]
  generalize (lg_sl ([.long x0, .int n0]) ++ List.replicate (5 - (lg_sl ([.long x0, .int n0])).length) Slot.unset).toArray = ls at hl ⊢
  have hl : lv_has ls 5 [(0, .long x0), (2, .int n0)] := hl
  refine lv_iload_n hx hb dA_areOfText_0 rfl (lv_at hl 1 rfl) ?_
  refine lv_if_lt (tgt := 10) hx hb dA_areOfText_1 (by decide) (fun c_1 => ?_) (fun c_1 => ?_)
  · skip
    refine lv_iconst (v := 0) hx hb dA_areOfText_10 (by decide) ?_
    exact W.zret (v := 0) hx hb hr (rfl) (fun t ht _ => ⟨by rw [show sh_b (sh_areT x0 n0) = 0 from by grind [sh_b, sh_areT]], ht⟩) t_nil dA_areOfText_11
  refine lv_iload_n hx hb dA_areOfText_4 rfl (lv_at hl 1 rfl) ?_
  refine lv_bipush (v := 8) hx hb dA_areOfText_5 (by decide) ?_
  refine lv_icmp_le (tgt := 12) hx hb dA_areOfText_7 (by decide) (fun c_2 => ?_) (fun c_2 => ?_)
  · skip
    obtain ⟨n, hn, rfl⟩ : ∃ n : Nat, n ≤ 8 ∧ n0 = nI n := nI_of2 (M := 8) rfl c_1 c_2
    refine lv_iconst (v := 0) hx hb dA_areOfText_12 (by decide) ?_
    refine xw_topi (y := nI 0) (nI_0.symm) ?_
    refine lv_istore_n (lv' := [(3, .int (nI 0)), (0, .long x0), (2, .int (nI n))]) hx hb dA_areOfText_13 rfl hl (by decide) rfl (fun ls hl => ?_)
    have loop_14 : ∀ (f_loop_14 : Nat) (k : Nat), n - k < f_loop_14 → (k ≤ n) → (∀ j, j < k → sh_ok (sh_byte x0 n j) = true) → ∀ ls : Array Slot, lv_has ls 5 [(3, .int (nI k)), (0, .long x0), (2, .int (nI n))] → W p l e (headSpec wsA_areOfText ({ frames := 1, cells := 0, slots := 0, locals := 40 })).room s m ([.long x0, .int (nI n)] : List Value).toArray below meth c s.heap [] 0 0 (MQ below (rq_ (some (.int (sh_b (sh_areT x0 (nI n)))))) ([.long x0, .int (nI n)] : List Value).toArray s 0 0 (fun _ => False)) (F0 m 14 ls []) := by
      intro f_loop_14
      induction f_loop_14 with
      | zero => intro k hf; exact absurd hf (Nat.not_lt_zero _)
      | succ f_loop_14 ih_loop_14 =>
        intro k hf_loop_14 hk hj ls hl
        refine lv_iload_n hx hb dA_areOfText_14 rfl (lv_at hl 0 rfl) ?_
        refine lv_iload_n hx hb dA_areOfText_15 rfl (lv_at hl 2 rfl) ?_
        refine lv_icmp_ge (tgt := 57) hx hb dA_areOfText_16 (by decide) (fun c_3 => ?_) (fun c_3 => ?_)
        · skip
          have e_16 : n ≤ k := xi_le c_3 (by omega) (by omega)
          refine lv_iconst (v := 1) hx hb dA_areOfText_57 (by decide) ?_
          exact W.zret (v := 1) hx hb hr (rfl) (fun t ht _ => ⟨by rw [show sh_b (sh_areT x0 (nI n)) = 1 from by rw [sh_areT_n hn, sh_bytes_all (fun j hj9 => hj j (by omega))]; rfl], ht⟩) t_nil dA_areOfText_58
        have e_16 : k < n := xi_nle c_3 (by omega) (by omega)
        refine lv_lload_n hx hb dA_areOfText_19 rfl (lv_at hl 1 rfl) ?_
        refine lv_iload_n hx hb dA_areOfText_20 rfl (lv_at hl 2 rfl) ?_
        refine lv_iload_n hx hb dA_areOfText_21 rfl (lv_at hl 0 rfl) ?_
        refine rq_call (va_runS (As := [.long x0, .int (nI n), .int (nI k)]) (rest := []) ⟨hx, hb, hml, hown, htz⟩ (k_A_byteAt l x0 (nI n) (nI k)) (cwS 3 htz (zg_S zw_1_108 zw_1_109 zw_1_1 zw_1_110) rfl rfl rfl (by decide +kernel) ⟨Nat.le_of_ble_eq_true rfl, Nat.le_of_ble_eq_true rfl⟩) rq_pre rfl rfl hl.1 rfl (lv_room (Nat.le_of_ble_eq_true rfl)) dA_areOfText_22 ⟨Nat.zero_le _, Nat.zero_le _⟩) ?_
        refine W.eq (g2 := F0 m 25 ls [.int (sh_bA x0 (nI n) (nI k))]) rfl ?_
        refine xw_topi (y := sh_byte x0 n k) (sh_bA_eq (by omega) hn) ?_
        refine lv_istore (lv' := [(4, .int (sh_byte x0 n k)), (3, .int (nI k)), (0, .long x0), (2, .int (nI n))]) hx hb dA_areOfText_25 hl (by decide) rfl (fun ls hl => ?_)
        refine lv_iload hx hb dA_areOfText_27 (lv_at hl 0 rfl) ?_
        refine rq_call (va_runS (As := [.int (sh_byte x0 n k)]) (rest := []) ⟨hx, hb, hml, hown, htz⟩ (k_A_isBlank l (sh_byte x0 n k)) (cwS 1 htz (zg_S zw_1_112 zw_1_113 zw_1_1 zw_1_114) rfl rfl rfl (by decide +kernel) ⟨Nat.le_of_ble_eq_true rfl, Nat.le_of_ble_eq_true rfl⟩) rq_pre rfl rfl hl.1 rfl (lv_room (Nat.le_of_ble_eq_true rfl)) dA_areOfText_29 ⟨Nat.zero_le _, Nat.zero_le _⟩) ?_
        refine W.eq (g2 := F0 m 32 ls [.int (sh_b (sh_blank (sh_byte x0 n k)))]) rfl ?_
        refine lv_if_ne (tgt := 51) hx hb dA_areOfText_32 (by decide) (fun c_4 => ?_) (fun c_4 => ?_)
        · skip
          refine lv_iinc (v := nI (k + 1)) (lv' := [(3, .int (nI (k + 1))), (4, .int (sh_byte x0 n k)), (0, .long x0), (2, .int (nI n))]) hx hb dA_areOfText_51 hl (k := 1) rfl (nI_1 k) (by decide) rfl (fun ls hl => ?_)
          refine lv_goto (tgt := 14) hx hb dA_areOfText_54 (by decide) ?_
          exact ih_loop_14 (k + 1) (by omega) (by omega) (lt_s hj (by grind [sh_ok, sh_b])) ls (lv_sub hl [0, 2, 3] rfl)
        refine lv_iload hx hb dA_areOfText_35 (lv_at hl 0 rfl) ?_
        refine lv_bipush (v := 32) hx hb dA_areOfText_37 (by decide) ?_
        refine lv_icmp_lt (tgt := 49) hx hb dA_areOfText_39 (by decide) (fun c_5 => ?_) (fun c_5 => ?_)
        · skip
          refine lv_iconst (v := 0) hx hb dA_areOfText_49 (by decide) ?_
          exact W.zret (v := 0) hx hb hr (rfl) (fun t ht _ => ⟨by rw [show sh_b (sh_areT x0 (nI n)) = 0 from by rw [sh_areT_n hn, sh_bytes_not (j := k) (by omega) (by grind [sh_ok, sh_b])]; rfl], ht⟩) t_nil dA_areOfText_50
        refine lv_iload hx hb dA_areOfText_42 (lv_at hl 0 rfl) ?_
        refine lv_bipush (v := 126) hx hb dA_areOfText_44 (by decide) ?_
        refine lv_icmp_le (tgt := 51) hx hb dA_areOfText_46 (by decide) (fun c_6 => ?_) (fun c_6 => ?_)
        · skip
          refine lv_iinc (v := nI (k + 1)) (lv' := [(3, .int (nI (k + 1))), (4, .int (sh_byte x0 n k)), (0, .long x0), (2, .int (nI n))]) hx hb dA_areOfText_51 hl (k := 1) rfl (nI_1 k) (by decide) rfl (fun ls hl => ?_)
          refine lv_goto (tgt := 14) hx hb dA_areOfText_54 (by decide) ?_
          exact ih_loop_14 (k + 1) (by omega) (by omega) (lt_s hj (by grind [sh_ok, sh_b])) ls (lv_sub hl [0, 2, 3] rfl)
        refine lv_iconst (v := 0) hx hb dA_areOfText_49 (by decide) ?_
        exact W.zret (v := 0) hx hb hr (rfl) (fun t ht _ => ⟨by rw [show sh_b (sh_areT x0 (nI n)) = 0 from by rw [sh_areT_n hn, sh_bytes_not (j := k) (by omega) (by grind [sh_ok, sh_b])]; rfl], ht⟩) t_nil dA_areOfText_50
    exact loop_14 _ 0 (Nat.lt_succ_self _) (Nat.zero_le _) (fun j h => absurd h (Nat.not_lt_zero _)) ls (lv_sub hl [0, 1, 2] rfl)
  refine lv_iconst (v := 0) hx hb dA_areOfText_10 (by decide) ?_
  exact W.zret (v := 0) hx hb hr (rfl) (fun t ht _ => ⟨by rw [show sh_b (sh_areT x0 n0) = 0 from by grind [sh_b, sh_areT]], ht⟩) t_nil dA_areOfText_11
set_option maxHeartbeats 4000000 in
set_option maxRecDepth 100000 in
/-- areName(chars, n) -/
theorem k_A_areName (l : Launch) (x0 : Int64) (n0 : Int32) : Met l yA_areName wsA_areName ({ frames := 2, cells := 0, slots := 0, locals := 60 }) (va_Pc [.long x0, .int n0] (fun _ => True)) (rq_ (some (.int (sh_b (sh_areN x0 n0))))) 0 0 (fun _ => False) := by
  refine Met.ofW (cc := cA_areName) (maxL := 4) (ret := (some .boolean)) (by decide) rfl ?_
  intro p e s m args below meth c s₁ B hml hv
  obtain ⟨rfl, -⟩ := hv
  have hx := B.exec
  have hb := B.bytes
  have hr := B.returns
  have htz : ∀ w ∈ zw, w.before _ s = true := fun w h => atoms_spec (ws := wsA_areName) B.pre w (List.mem_cons_of_mem _ h)
  have hown : s.vm.findClass "ShellSum" = some m.cls := findClass_of_methodNamed B.named
  have hlocks := B.notSynchronized
  have hl := lv_entry ([.long x0, .int n0]) (n := 4) (Nat.le_of_ble_eq_true rfl)
  rw [lg_entry_eq]
  generalize (lg_sl ([.long x0, .int n0]) ++ List.replicate (4 - (lg_sl ([.long x0, .int n0])).length) Slot.unset).toArray = ls at hl ⊢
  have hl : lv_has ls 4 [(0, .long x0), (2, .int n0)] := hl
  refine lv_iload_n hx hb dA_areName_0 rfl (lv_at hl 1 rfl) ?_
  refine lv_iconst (v := 1) hx hb dA_areName_1 (by decide) ?_
  refine lv_icmp_lt (tgt := 23) hx hb dA_areName_2 (by decide) (fun c_1 => ?_) (fun c_1 => ?_)
  · skip
    refine lv_iconst (v := 0) hx hb dA_areName_23 (by decide) ?_
    exact W.zret (v := 0) hx hb hr (rfl) (fun t ht _ => ⟨by rw [show sh_b (sh_areN x0 n0) = 0 from by grind [sh_b, sh_areN]], ht⟩) t_nil dA_areName_24
  refine lv_iload_n hx hb dA_areName_5 rfl (lv_at hl 1 rfl) ?_
  refine lv_bipush (v := 8) hx hb dA_areName_6 (by decide) ?_
  refine lv_icmp_gt (tgt := 23) hx hb dA_areName_8 (by decide) (fun c_2 => ?_) (fun c_2 => ?_)
  · skip
    refine lv_iconst (v := 0) hx hb dA_areName_23 (by decide) ?_
    exact W.zret (v := 0) hx hb hr (rfl) (fun t ht _ => ⟨by rw [show sh_b (sh_areN x0 n0) = 0 from by grind [sh_b, sh_areN]], ht⟩) t_nil dA_areName_24
  obtain ⟨n, hn, rfl⟩ : ∃ n : Nat, n ≤ 8 ∧ n0 = nI n := nI_of2 (M := 8) rfl (by grind) (by grind)
  have hn1 : 1 ≤ n := xi_nlt (a := n) (b := 1) c_1 (by omega) (by decide)
  refine lv_lload_n hx hb dA_areName_11 rfl (lv_at hl 0 rfl) ?_
  refine lv_iload_n hx hb dA_areName_12 rfl (lv_at hl 1 rfl) ?_
  refine lv_iconst (v := 0) hx hb dA_areName_13 (by decide) ?_
  refine xw_topi (y := nI 0) (nI_0.symm) ?_
  refine rq_call (va_runS (As := [.long x0, .int (nI n), .int (nI 0)]) (rest := []) ⟨hx, hb, hml, hown, htz⟩ (k_A_byteAt l x0 (nI n) (nI 0)) (cwS 3 htz (zg_S zw_1_108 zw_1_109 zw_1_1 zw_1_110) rfl rfl rfl (by decide +kernel) ⟨Nat.le_of_ble_eq_true rfl, Nat.le_of_ble_eq_true rfl⟩) rq_pre rfl rfl hl.1 rfl (lv_room (Nat.le_of_ble_eq_true rfl)) dA_areName_14 ⟨Nat.zero_le _, Nat.zero_le _⟩) ?_
  refine W.eq (g2 := F0 m 17 ls [.int (sh_bA x0 (nI n) (nI 0))]) rfl ?_
  refine xw_topi (y := sh_byte x0 n 0) (sh_bA_eq (by omega) hn) ?_
  refine rq_call (va_runS (As := [.int (sh_byte x0 n 0)]) (rest := []) ⟨hx, hb, hml, hown, htz⟩ (k_A_startsName l (sh_byte x0 n 0)) (cwS 1 htz (zg_S zw_1_125 zw_1_126 zw_1_1 zw_1_127) rfl rfl rfl (by decide +kernel) ⟨Nat.le_of_ble_eq_true rfl, Nat.le_of_ble_eq_true rfl⟩) rq_pre rfl rfl hl.1 rfl (lv_room (Nat.le_of_ble_eq_true rfl)) dA_areName_17 ⟨Nat.zero_le _, Nat.zero_le _⟩) ?_
  refine W.eq (g2 := F0 m 20 ls [.int (sh_b (sh_start (sh_byte x0 n 0)))]) rfl ?_
  refine lv_if_ne (tgt := 25) hx hb dA_areName_20 (by decide) (fun c_3 => ?_) (fun c_3 => ?_)
  · skip
    refine lv_iconst (v := 1) hx hb dA_areName_25 (by decide) ?_
    refine xw_topi (y := nI 1) (rfl) ?_
    refine lv_istore_n (lv' := [(3, .int (nI 1)), (0, .long x0), (2, .int (nI n))]) hx hb dA_areName_26 rfl hl (by decide) rfl (fun ls hl => ?_)
    have loop_27 : ∀ (f_loop_27 : Nat) (k : Nat), n - k < f_loop_27 → (1 ≤ k) → (k ≤ n) → (∀ j, j < k → sh_word (sh_byte x0 n j) = true) → (sh_start (sh_byte x0 n 0) = true) → ∀ ls : Array Slot, lv_has ls 4 [(3, .int (nI k)), (0, .long x0), (2, .int (nI n))] → W p l e (headSpec wsA_areName ({ frames := 2, cells := 0, slots := 0, locals := 60 })).room s m ([.long x0, .int (nI n)] : List Value).toArray below meth c s.heap [] 0 0 (MQ below (rq_ (some (.int (sh_b (sh_areN x0 (nI n)))))) ([.long x0, .int (nI n)] : List Value).toArray s 0 0 (fun _ => False)) (F0 m 27 ls []) := by
      intro f_loop_27
      induction f_loop_27 with
      | zero => intro k hf; exact absurd hf (Nat.not_lt_zero _)
      | succ f_loop_27 ih_loop_27 =>
        intro k hf_loop_27 hk1 hk hj hs ls hl
        refine lv_iload_n hx hb dA_areName_27 rfl (lv_at hl 0 rfl) ?_
        refine lv_iload_n hx hb dA_areName_28 rfl (lv_at hl 2 rfl) ?_
        refine lv_icmp_ge (tgt := 52) hx hb dA_areName_29 (by decide) (fun c_4 => ?_) (fun c_4 => ?_)
        · skip
          have e_29 : n ≤ k := xi_le c_4 (by omega) (by omega)
          refine lv_iconst (v := 1) hx hb dA_areName_52 (by decide) ?_
          exact W.zret (v := 1) hx hb hr (rfl) (fun t ht _ => ⟨by rw [show sh_b (sh_areN x0 (nI n)) = 1 from by rw [sh_areN_n hn1 hn, hs, sh_bytes_all (fun j hj9 => hj j (by omega))]; rfl], ht⟩) t_nil dA_areName_53
        have e_29 : k < n := xi_nle c_4 (by omega) (by omega)
        refine lv_lload_n hx hb dA_areName_32 rfl (lv_at hl 1 rfl) ?_
        refine lv_iload_n hx hb dA_areName_33 rfl (lv_at hl 2 rfl) ?_
        refine lv_iload_n hx hb dA_areName_34 rfl (lv_at hl 0 rfl) ?_
        refine rq_call (va_runS (As := [.long x0, .int (nI n), .int (nI k)]) (rest := []) ⟨hx, hb, hml, hown, htz⟩ (k_A_byteAt l x0 (nI n) (nI k)) (cwS 3 htz (zg_S zw_1_108 zw_1_109 zw_1_1 zw_1_110) rfl rfl rfl (by decide +kernel) ⟨Nat.le_of_ble_eq_true rfl, Nat.le_of_ble_eq_true rfl⟩) rq_pre rfl rfl hl.1 rfl (lv_room (Nat.le_of_ble_eq_true rfl)) dA_areName_35 ⟨Nat.zero_le _, Nat.zero_le _⟩) ?_
        refine W.eq (g2 := F0 m 38 ls [.int (sh_bA x0 (nI n) (nI k))]) rfl ?_
        refine xw_topi (y := sh_byte x0 n k) (sh_bA_eq (by omega) hn) ?_
        refine rq_call (va_runS (As := [.int (sh_byte x0 n k)]) (rest := []) ⟨hx, hb, hml, hown, htz⟩ (k_A_isOfWord l (sh_byte x0 n k)) (cwS 1 htz (zg_S zw_1_128 zw_1_129 zw_1_1 zw_1_130) rfl rfl rfl (by decide +kernel) ⟨Nat.le_of_ble_eq_true rfl, Nat.le_of_ble_eq_true rfl⟩) rq_pre rfl rfl hl.1 rfl (lv_room (Nat.le_of_ble_eq_true rfl)) dA_areName_38 ⟨Nat.zero_le _, Nat.zero_le _⟩) ?_
        refine W.eq (g2 := F0 m 41 ls [.int (sh_b (sh_word (sh_byte x0 n k)))]) rfl ?_
        refine lv_if_ne (tgt := 46) hx hb dA_areName_41 (by decide) (fun c_5 => ?_) (fun c_5 => ?_)
        · skip
          refine lv_iinc (v := nI (k + 1)) (lv' := [(3, .int (nI (k + 1))), (0, .long x0), (2, .int (nI n))]) hx hb dA_areName_46 hl (k := 0) rfl (nI_1 k) (by decide) rfl (fun ls hl => ?_)
          refine lv_goto (tgt := 27) hx hb dA_areName_49 (by decide) ?_
          exact ih_loop_27 (k + 1) (by omega) (by omega) (by omega) (lt_s hj (by grind [sh_b])) (hs) ls (lv_sub hl [0, 1, 2] rfl)
        refine lv_iconst (v := 0) hx hb dA_areName_44 (by decide) ?_
        exact W.zret (v := 0) hx hb hr (rfl) (fun t ht _ => ⟨by rw [show sh_b (sh_areN x0 (nI n)) = 0 from by rw [sh_areN_n hn1 hn, sh_bytes_not (j := k) (p := sh_word) (by omega) (by grind [sh_b])]; simp [sh_b]], ht⟩) t_nil dA_areName_45
    exact loop_27 _ 1 (Nat.lt_succ_self _) (Nat.le_refl _) (hn1) (fun j h => by rw [show j = 0 by omega]; grind [sh_word, sh_b]) (by grind [sh_b]) ls (lv_sub hl [0, 1, 2] rfl)
  refine lv_iconst (v := 0) hx hb dA_areName_23 (by decide) ?_
  exact W.zret (v := 0) hx hb hr (rfl) (fun t ht _ => ⟨by rw [show sh_b (sh_areN x0 (nI n)) = 0 from by rw [sh_areN_n hn1 hn]; grind [sh_b]], ht⟩) t_nil dA_areName_24
end
section
/-! contracts in these words: what a method finds (zR: it reads, zW: it may write), what it leaves (zQ), what it leaves when it throws (zX) -/
def zR (dC : Nat → ClassId) (dI : Nat → Nat → Nat) (tys : List (ClassId × FieldType)) (ws : va_W) : State → Prop := fun U => va_P (dC, dI) vwCl ws U.heap ∧ va_K (dC, dI) vwCl tys U ∧ zN U
def zW (dC : Nat → ClassId) (dI : Nat → Nat → Nat) (tys : List (ClassId × FieldType)) (ws : va_W) (sz : Nat) : State → Prop := fun U => U.heap.size = sz ∧ va_P (dC, dI) vwCl ws U.heap ∧ va_K (dC, dI) vwCl tys U ∧ va_D (fun _ => True) ws ∧ zN U
def zQ (dC : Nat → ClassId) (dI : Nat → Nat → Nat) (A : Nat → Prop) (P : Option Value → va_W → Prop) : Array Value → State → Outcome → State → Prop := fun _ st o t => ∃ (v : Option Value) (w : va_W), o = .returned v ∧ P v w ∧ va_P (dC, dI) vwCl w t.heap ∧ va_D A w ∧ va_F A st t
abbrev zE : String := "java/lang/IllegalStateException"
def zX (dC : Nat → ClassId) (dI : Nat → Nat → Nat) (A : Nat → Prop) (P : va_W → Prop) : String → State → State → Prop := fun E st t => E = zE ∧ ∃ w : va_W, P w ∧ va_P (dC, dI) vwCl w t.heap ∧ va_D A w ∧ va_F A st t
theorem zN.call {U : State} {g : JFrame} {mk : MethodId} {a : Array Value} (h : zN U) : zN (U.calling g mk a) := h.warm (State.WarmedH.refl U)
section ZC
variable {p : Program} {l : Launch} {e : Env} {R : Room} {s : State} {m : MethodId} {args : Array Value} {below : List Frame} {meth : Method} {c : Code} {H : Heap} {locs : List Loc} {cells slots : Nat} {Q : State → Prop}
variable {pc : Nat} {ls : Array Slot} {rest st0 : List Value} {a : Array Value} {dC : Nat → ClassId} {dI : Nat → Nat → Nat} {tys : List (ClassId × FieldType)} {ws : va_W} {As : List Value} {C : String} {b : Addr} {A0 : Nat → Prop} {H0 : Heap} {mc ms : Nat}
theorem zR_S (hP : va_P (dC, dI) vwCl ws H) (hK : va_K (dC, dI) vwCl tys s) (hN : zN s) : PreS s H (va_Pc As (zR dC dI tys ws)) As :=
  ⟨fun _ U _ _ h => ⟨h.1, h.2.1, va_K.moved (u := U) (Vm.Alike.refl U.vm) h.2.2.1, h.2.2.2.call⟩, fun U hU hW => ⟨rfl, by rw [hU]; exact hP, va_K.moved hW.alike hK, hN.warm hW⟩⟩
theorem zR_V (hP : va_P (dC, dI) vwCl ws H) (hK : va_K (dC, dI) vwCl tys s) (hN : zN s) (hr : ∃ cell : Cell, H[b]? = some cell ∧ cell.vm.isStatics = false ∧ s.vm.findClass C = some cell.cls) : PreV s H C b (va_Pc (.ref b :: As) (zR dC dI tys ws)) As :=
  ⟨fun _ U _ _ h => ⟨h.1, h.2.1, va_K.moved (u := U) (Vm.Alike.refl U.vm) h.2.2.1, h.2.2.2.call⟩, hr, fun U hU hW => ⟨rfl, by rw [hU]; exact hP, va_K.moved hW.alike hK, hN.warm hW⟩⟩
theorem zW_S (hP : va_P (dC, dI) vwCl ws H) (hK : va_K (dC, dI) vwCl tys s) (hD : va_D A0 ws) (hN : zN s) : PreS s H (va_Pc As (zW dC dI tys ws H.size)) As :=
  ⟨fun _ U _ _ h => ⟨h.1, h.2.1, h.2.2.1, va_K.moved (u := U) (Vm.Alike.refl U.vm) h.2.2.2.1, h.2.2.2.2.1, h.2.2.2.2.2.call⟩, fun U hU hW => ⟨rfl, by rw [hU], by rw [hU]; exact hP, va_K.moved hW.alike hK, hD.weaken (fun _ _ _ _ => trivial), hN.warm hW⟩⟩
theorem zW_V (hP : va_P (dC, dI) vwCl ws H) (hK : va_K (dC, dI) vwCl tys s) (hD : va_D A0 ws) (hN : zN s) (hr : ∃ cell : Cell, H[b]? = some cell ∧ cell.vm.isStatics = false ∧ s.vm.findClass C = some cell.cls) : PreV s H C b (va_Pc (.ref b :: As) (zW dC dI tys ws H.size)) As :=
  ⟨(zW_S (s := s) (As := .ref b :: As) hP hK hD hN).1, hr, (zW_S (As := .ref b :: As) hP hK hD hN).2⟩
theorem zA_sub (hD : va_D A0 ws) (hS : va_S A0 H0 H locs) (hA : ∀ q, H0.size ≤ q → A0 q) : ∀ q, va_A ws H.size q → A0 q := fun q h => by
  rcases h with ⟨k, e, h⟩ | h
  · exact hD.2 k (q, e) h
  · exact hA q (Nat.le_trans hS.1 h)
theorem zQ_call {P : Option Value → va_W → Prop} (hr : va_Run p l e R s m args below meth c H locs cells slots mc ms (F0 m pc ls st0) rest (zQ dC dI (va_A ws H.size) P a) (va_A ws H.size)) (hD : va_D A0 ws) (hS : va_S A0 H0 H locs) (hA : ∀ q, H0.size ≤ q → A0 q)
    (kk : ∀ (v : Option Value) (w : va_W) (H1 : Heap) (locs1 : List Loc), P v w → va_P (dC, dI) vwCl w H1 → va_D A0 w → va_S A0 H0 H1 locs1 → W p l e R s m args below meth c H1 locs1 (cells + mc) (slots + ms) Q (F0 m (pc + 3) ls (v.toList ++ rest))) : W p l e R s m args below meth c H locs cells slots Q (F0 m pc ls st0) := by
  intro T hT X
  obtain ⟨v, st₀, t, T', L, h0, X', hL, e1, e2, ⟨v', w, hv, hp, hP1, hD1, hF⟩, st⟩ := hr T hT X
  cases hv
  obtain ⟨k1, k2, k3⟩ := vx_keep h0 e1 hS (fun q _ h => zA_sub hD hS hA q h) (zA_sub hD hS hA) hL hF
  obtain ⟨t2, a1, b1⟩ := kk v w T'.heap (locs ++ L) hp (by rw [e1]; exact hP1) (hD1.weaken (fun _ _ _ h => zA_sub hD hS hA _ h)) k3 T' rfl X'
  exact ⟨t2, st t2 a1, b1⟩
theorem zX_call {P : Option Value → va_W → Prop} {PX : va_W → Prop} (hr : vx_Run p l e R s m args below meth c H locs cells slots mc ms (F0 m pc ls st0) rest (zQ dC dI (va_A ws H.size) P a) (zX dC dI (va_A ws H.size) PX) (va_A ws H.size)) (hD : va_D A0 ws) (hS : va_S A0 H0 H locs) (hA : ∀ q, H0.size ≤ q → A0 q)
    (kx : ∀ (ce : Cell) (q9 : Addr) (w : va_W) (H1 : Heap) (locs1 : List Loc), PX w → va_P (dC, dI) vwCl w H1 → va_D A0 w → va_S A0 H0 H1 locs1 → H1[q9]? = some ce → ce.vm = .none → s.vm.findClass zE = some ce.cls → vx_W p l e R s m args below meth c H1 locs1 (cells + mc) (slots + ms) Q (F0 m pc ls rest) q9)
    (kk : ∀ (v : Option Value) (w : va_W) (H1 : Heap) (locs1 : List Loc), P v w → va_P (dC, dI) vwCl w H1 → va_D A0 w → va_S A0 H0 H1 locs1 → W p l e R s m args below meth c H1 locs1 (cells + mc) (slots + ms) Q (F0 m (pc + 3) ls (v.toList ++ rest))) : W p l e R s m args below meth c H locs cells slots Q (F0 m pc ls st0) := by
  intro T hT X
  rcases hr T hT X with ⟨v, st₀, t, T', L, h0, X', hL, e1, e2, ⟨v', w, hv, hp, hP1, hD1, hF⟩, st⟩ | ⟨q, st₀, t, T', L, E, ce, h0, X', hL, e1, e2, ⟨hE, w, hp, hP1, hD1, hF⟩, hce, hcv, hcl, st⟩
  · cases hv
    obtain ⟨k1, k2, k3⟩ := vx_keep h0 e1 hS (fun q _ h => zA_sub hD hS hA q h) (zA_sub hD hS hA) hL hF
    obtain ⟨t2, a1, b1⟩ := kk v w T'.heap (locs ++ L) hp (by rw [e1]; exact hP1) (hD1.weaken (fun _ _ _ h => zA_sub hD hS hA _ h)) k3 T' rfl X'
    exact ⟨t2, st t2 a1, b1⟩
  · subst hE
    obtain ⟨k1, k2, k3⟩ := vx_keep h0 e1 hS (fun q _ h => zA_sub hD hS hA q h) (zA_sub hD hS hA) hL hF
    obtain ⟨t2, a1, b1⟩ := kx ce q w T'.heap (locs ++ L) hp (by rw [e1]; exact hP1) (hD1.weaken (fun _ _ _ h => zA_sub hD hS hA _ h)) k3 (by rw [e1]; exact hce) hcv hcl T' rfl X'
    exact ⟨t2, st.trans a1, b1⟩
/-- what a callee has thrown leaves this method too -/
theorem zX_out {w : va_W} {PX : va_W → Prop} {q9 : Addr} {ce : Cell} {Qc : Array Value → State → Outcome → State → Prop} (hEx : ∀ x ∈ c.exceptionTable.toList, False) (hlocks : meth.locks = false) (hp : PX w) (hP : va_P (dC, dI) vwCl w H) (hD : va_D A0 w) (hS : va_S A0 s.heap H locs) (hce : H[q9]? = some ce) (hcv : ce.vm = .none) (hcl : s.vm.findClass zE = some ce.cls) (hc : cells ≤ mc) (hs : slots ≤ ms) :
    vx_W p l e R s m args below meth c H locs cells slots (vx_MQ below Qc (zX dC dI A0 PX) args s mc ms A0) (F0 m pc ls rest) q9 :=
  vx_out (E := zE) (fun x h => (hEx x h).elim) hlocks hce hcv hcl (fun t ht _ => ⟨rfl, w, hp, by rw [ht]; exact hP, hD, hS.F ht⟩) hS.2.2 hc hs
end ZC
end
section
/-! what is thrown: IllegalStateException with a written text; launches without stack traces -/
def zstr : List (String × Nat × String) := [("ShellSum$Reckoner", 114, "too much stands within one another"), ("ShellSum", 107, "a number has no digit"), ("ShellSum", 113, "a number of sixteen has no digit"), ("ShellSum", 119, "a number has a wrong digit"), ("ShellSum$Signs", 23, "something divides by 0"), ("ShellSum$Reckoner", 147, "too many names would have a text"), ("ShellSum$Reckoner", 166, "a bracket or a choice has no end"), ("ShellSum$Reckoner", 126, "a number, a name or a bracket is missing"), ("ShellSum$Reckoner", 153, "too many signs wait"), ("ShellSum", 56, "the text has an error")]
theorem zstr_R_114 : ("ShellSum$Reckoner", 114, "too much stands within one another") ∈ zstr := List.mem_of_getElem? (i := 0) rfl
theorem zstr_A_107 : ("ShellSum", 107, "a number has no digit") ∈ zstr := List.mem_of_getElem? (i := 1) rfl
theorem zstr_A_113 : ("ShellSum", 113, "a number of sixteen has no digit") ∈ zstr := List.mem_of_getElem? (i := 2) rfl
theorem zstr_A_119 : ("ShellSum", 119, "a number has a wrong digit") ∈ zstr := List.mem_of_getElem? (i := 3) rfl
theorem zstr_G_23 : ("ShellSum$Signs", 23, "something divides by 0") ∈ zstr := List.mem_of_getElem? (i := 4) rfl
theorem zstr_R_147 : ("ShellSum$Reckoner", 147, "too many names would have a text") ∈ zstr := List.mem_of_getElem? (i := 5) rfl
theorem zstr_R_166 : ("ShellSum$Reckoner", 166, "a bracket or a choice has no end") ∈ zstr := List.mem_of_getElem? (i := 6) rfl
theorem zstr_R_126 : ("ShellSum$Reckoner", 126, "a number, a name or a bracket is missing") ∈ zstr := List.mem_of_getElem? (i := 7) rfl
theorem zstr_R_153 : ("ShellSum$Reckoner", 153, "too many signs wait") ∈ zstr := List.mem_of_getElem? (i := 8) rfl
theorem zstr_A_56 : ("ShellSum", 56, "the text has an error") ∈ zstr := List.mem_of_getElem? (i := 9) rfl
def zS (U : State) : Prop := ∀ (o : String) (k : Nat) (t : String), (o, k, t) ∈ zstr → ∃ a : Nat, vk_R o k t a U
theorem zS.warm {s U : State} (hW : s.WarmedH U.vm) (h : zS s) : zS U := fun o k t hq => by
  obtain ⟨a, ha⟩ := h o k t hq
  exact ⟨a, ha.warm hW⟩
theorem zS.call {U : State} {g : JFrame} {mk : MethodId} {a : Array Value} (h : zS U) : zS (U.calling g mk a) := h.warm (State.WarmedH.refl U)
/-- the two statics of Throwable that a new exception takes -/
def zU (A : Nat → Prop) (U : State) (H : Heap) : Prop := vx_Zq Bundle.tN "UNASSIGNED_STACK" Bundle.steD A U H ∧ vx_Zq Bundle.tN "SUPPRESSED_SENTINEL" Bundle.listD A U H
/-- a method that may throw finds: -/
def zV (dC : Nat → ClassId) (dI : Nat → Nat → Nat) (tys : List (ClassId × FieldType)) (ws : va_W) (sz : Nat) : State → Prop := fun U => zW dC dI tys ws sz U ∧ zS U ∧ zU (va_A ws sz) U U.heap
abbrev zNm : List String := ["java/lang/RuntimeException", "java/lang/Exception"]
section ZV
variable {p : Program} {l : Launch} {e : Env} {R : Room} {s : State} {m : MethodId} {args : Array Value} {below : List Frame} {meth : Method} {c : Code} {H : Heap} {locs : List Loc} {cells slots : Nat} {Q : State → Prop}
variable {pc : Nat} {ls : Array Slot} {rest st0 : List Value} {a : Array Value} {dC : Nat → ClassId} {dI : Nat → Nat → Nat} {tys : List (ClassId × FieldType)} {ws : va_W} {As : List Value} {C : String} {b : Addr} {A0 : Nat → Prop} {H0 : Heap} {mc ms : Nat}
theorem zU.at {A B : Nat → Prop} {s U : State} (hU : zU A s s.heap) (hS : va_S A s.heap H locs) (hW : s.WarmedH U.vm) (hh : U.heap = H) (hB : ∀ q, B q → A q) : zU B U U.heap := by
  rw [hh]
  exact ⟨((hU.1.kept hS.2.1).moved hW.alike).narrow hB, ((hU.2.kept hS.2.1).moved hW.alike).narrow hB⟩
theorem zV_S (hP : va_P (dC, dI) vwCl ws H) (hK : va_K (dC, dI) vwCl tys s) (hD : va_D A0 ws) (hN : zN s) (hT : zS s) (hU : zU A0 s s.heap) (hS : va_S A0 s.heap H locs) (hA : ∀ q, s.heap.size ≤ q → A0 q) : PreS s H (va_Pc As (zV dC dI tys ws H.size)) As :=
  ⟨fun av U g mk h => ⟨h.1, ((zW_S (s := s) (As := As) hP hK hD hN).1 av U g mk ⟨h.1, h.2.1⟩).2, h.2.2.1.call, h.2.2.2⟩, fun U hUh hW => ⟨rfl, ((zW_S (As := As) hP hK hD hN).2 U hUh hW).2, hT.warm hW, hU.at hS hW hUh (zA_sub hD hS hA)⟩⟩
theorem zV_V (hP : va_P (dC, dI) vwCl ws H) (hK : va_K (dC, dI) vwCl tys s) (hD : va_D A0 ws) (hN : zN s) (hT : zS s) (hU : zU A0 s s.heap) (hS : va_S A0 s.heap H locs) (hA : ∀ q, s.heap.size ≤ q → A0 q) (hr : ∃ cell : Cell, H[b]? = some cell ∧ cell.vm.isStatics = false ∧ s.vm.findClass C = some cell.cls) : PreV s H C b (va_Pc (.ref b :: As) (zV dC dI tys ws H.size)) As :=
  ⟨(zV_S (As := .ref b :: As) hP hK hD hN hT hU hS hA).1, hr, (zV_S (As := .ref b :: As) hP hK hD hN hT hU hS hA).2⟩
theorem zThrow {cc : ByteArray} {own text : String} {ik is ic : Nat} {w : va_W} {PX : va_W → Prop} {Qc : Array Value → State → Outcome → State → Prop} (hexec : p.tables.exec = Jvm.exec) (hb : c.code = cc) (hl : l.stackTraces = false) (hown : s.vm.findClass own = some m.cls)
    (hk : (Cond.classLink own ik zE).before args s = true) (hini : (Cond.initialized zE).before args s = true) (hstr : ∃ a, vk_R own is text a s) (hat : ∀ w ∈ vx_atS own ic zE zNm, w.before args s = true) (hgood : ∀ w ∈ vx_atS own ic zE zNm, vx_ot w = true)
    (hU : zU A0 s s.heap) (hsize : ls.size = c.maxLocals) (d0 : decode cc pc = .ok (.new ik, 3)) (d3 : decode cc (pc + 3) = .ok (.dup, 1)) (d4 : decode cc (pc + 4) = .ok (.ldc is, 2)) (d6 : decode cc (pc + 6) = .ok (.invokespecial ic, 3)) (d9 : decode cc (pc + 9) = .ok (.athrow, 1))
    (hEx : ∀ x ∈ c.exceptionTable.toList, False) (hlocks : meth.locks = false) (hRf : 5 < R.frames) (hRl : (rest.map fun v => v.category).sum + 82 ≤ R.locals) (hRc : cells + 1 ≤ R.cells) (hRs : slots + 6 ≤ R.slots)
    (hp : PX w) (hP : va_P (dC, dI) vwCl w H) (hD : va_D A0 w) (hS : va_S A0 s.heap H locs) (hc : cells + 1 ≤ mc) (hs : slots + 6 ≤ ms) :
    W p l e R s m args below meth c H locs cells slots (vx_MQ below Qc (zX dC dI A0 PX) args s mc ms A0) (F0 m pc ls rest) := by
  obtain ⟨sa, hsa⟩ := hstr
  refine vx_throwS (own := own) (cls := zE) (text := text) (names := zNm) (ik := ik) (is := is) (ic := ic) (sa := sa) (A := A0) hexec hb hl hown (by decide +kernel) (by decide +kernel) hk hini hsa hat ?_ hU.1 hU.2 hS hsize d0 d3 d4 d6 d9 (fun x h => (hEx x h).elim) hRf hRl hRc hRs hlocks ?_ hS.2.2 hc hs
  · intro w hw
    rcases List.mem_cons.mp hw with rfl | hw
    · rfl
    · rcases List.mem_cons.mp hw with rfl | hw
      · rfl
      · exact hgood w hw
  · intro t _ hz hq
    refine ⟨rfl, w, hp, hP.kept (fun k q hk => hq q.1 (hP k q hk).lt), hD, Nat.le_trans hS.1 hz, fun q h1 h2 => ?_⟩
    rw [hq q (Nat.lt_of_lt_of_le h1 hS.1)]
    exact hS.2.1 q h1 h2
end ZV
set_option maxRecDepth 20000 in
theorem zx_gA : ∀ w ∈ (vx_atS "ShellSum" 58 zE zNm).filter goodWord, w ∈ lw_tbl := by decide +kernel
set_option maxRecDepth 20000 in
theorem zx_bA : ∀ w ∈ (vx_atS "ShellSum" 58 zE zNm).filter (fun w => !goodWord w), w ∈ zn := by decide +kernel
set_option maxRecDepth 20000 in
theorem zx_oA : ∀ w ∈ vx_atS "ShellSum" 58 zE zNm, vx_ot w = true := by decide +kernel
theorem zx_A {args : Array Value} {s : State} (htz : ∀ w ∈ zw, w.before args s = true) (hN : zN s) : ∀ w ∈ vx_atS "ShellSum" 58 zE zNm, w.before args s = true := vx_hat (B := zn) (fun w hw => htz w (zw_m (zx_gA w hw) (List.mem_filter.mp hw).2)) zx_bA (fun w hw => va_Nw.use (zn_on w hw) (hN w hw))
set_option maxRecDepth 20000 in
theorem zx_gR : ∀ w ∈ (vx_atS "ShellSum$Reckoner" 116 zE zNm).filter goodWord, w ∈ lw_tbl := by decide +kernel
set_option maxRecDepth 20000 in
theorem zx_bR : ∀ w ∈ (vx_atS "ShellSum$Reckoner" 116 zE zNm).filter (fun w => !goodWord w), w ∈ zn := by decide +kernel
set_option maxRecDepth 20000 in
theorem zx_oR : ∀ w ∈ vx_atS "ShellSum$Reckoner" 116 zE zNm, vx_ot w = true := by decide +kernel
theorem zx_R {args : Array Value} {s : State} (htz : ∀ w ∈ zw, w.before args s = true) (hN : zN s) : ∀ w ∈ vx_atS "ShellSum$Reckoner" 116 zE zNm, w.before args s = true := vx_hat (B := zn) (fun w hw => htz w (zw_m (zx_gR w hw) (List.mem_filter.mp hw).2)) zx_bR (fun w hw => va_Nw.use (zn_on w hw) (hN w hw))
set_option maxRecDepth 20000 in
theorem zx_gG : ∀ w ∈ (vx_atS "ShellSum$Signs" 25 zE zNm).filter goodWord, w ∈ lw_tbl := by decide +kernel
set_option maxRecDepth 20000 in
theorem zx_bG : ∀ w ∈ (vx_atS "ShellSum$Signs" 25 zE zNm).filter (fun w => !goodWord w), w ∈ zn := by decide +kernel
set_option maxRecDepth 20000 in
theorem zx_oG : ∀ w ∈ vx_atS "ShellSum$Signs" 25 zE zNm, vx_ot w = true := by decide +kernel
theorem zx_G {args : Array Value} {s : State} (htz : ∀ w ∈ zw, w.before args s = true) (hN : zN s) : ∀ w ∈ vx_atS "ShellSum$Signs" 25 zE zNm, w.before args s = true := vx_hat (B := zn) (fun w hw => htz w (zw_m (zx_gG w hw) (List.mem_filter.mp hw).2)) zx_bG (fun w hw => va_Nw.use (zn_on w hw) (hN w hw))
end
section
def zk {α : Type} (o : Option α) : Nat := match o with
  | none => 1
  | some _ => 0
def sh_div (s : Int32) (a b : Int64) : Option Int64 := if b = 0 then none else if s = 47 then some (a / b) else some (a - a / b * b)
def sh_apply (s : Int32) (a b : Int64) : Option Int64 :=
  if s = 124 then some (a ||| b) else if s = 94 then some (a ^^^ b) else if s = 38 then some (a &&& b)
  else if s = 15420 then some (a <<< ((b &&& 63).toInt32.toInt64 &&& 63)) else if s = 15934 then some (a >>> ((b &&& 63).toInt32.toInt64 &&& 63))
  else if s = 43 then some (a + b) else if s = 45 then some (a - b) else if s = 42 then some (a * b)
  else if s = 47 ∨ s = 37 then sh_div s a b else some (if sh_holds s a b = true then 1 else 0)
end
section
set_option maxHeartbeats 4000000 in
set_option maxRecDepth 100000 in
/-- divide(sign, a, b) -/
theorem k_G_divide (l : Launch) (hl9 : l.stackTraces = false) (dC : Nat → ClassId) (dI : Nat → Nat → Nat) (tys : List (ClassId × FieldType)) (ws : va_W) (sz : Nat) (s0 : Int32) (a0 b0 : Int64) : vx_Met l yG_divide wsG_divide ({ frames := 6, cells := zk (sh_div s0 a0 b0), slots := 6 * zk (sh_div s0 a0 b0), locals := 82 }) (va_Pc [.int s0, .long a0, .long b0] (zV dC dI tys ws sz)) (zQ dC dI (va_A ws sz) (fun v w => ∃ x, sh_div s0 a0 b0 = some x ∧ v = some (.long x) ∧ w = ws)) (zX dC dI (va_A ws sz) (fun w => sh_div s0 a0 b0 = none ∧ w = ws)) (zk (sh_div s0 a0 b0)) (6 * zk (sh_div s0 a0 b0)) (va_A ws sz) := by
  refine vx_ofW (cc := cG_divide) (maxL := 5) (ret := (some .long)) (by decide) rfl ?_
  intro p e s m args below meth c s₁ B hml hEx hv
  obtain ⟨rfl, ⟨hsz, hP, hK, hD0, hN⟩, hT, hU⟩ := hv
  subst hsz
  have hD := hD0.self (sz := s.heap.size)
  generalize hAe : va_A ws s.heap.size = A at hD hU ⊢
  have hA : ∀ q : Nat, s.heap.size ≤ q → A q := fun q h => by rw [← hAe]; exact Or.inr h
  have hS : va_S A s.heap s.heap [] := va_S.rf
  have hx := B.exec
  have hb := B.bytes
  have hr := B.returns
  have htz : ∀ w ∈ zw, w.before _ s = true := fun w h => atoms_spec (ws := wsG_divide) B.pre w (List.mem_cons_of_mem _ h)
  have hown : s.vm.findClass "ShellSum$Signs" = some m.cls := findClass_of_methodNamed B.named
  have hlocks := B.notSynchronized
  have hl := lv_entry ([.int s0, .long a0, .long b0]) (n := 5) (Nat.le_of_ble_eq_true rfl)
  rw [lg_entry_eq]
  generalize (lg_sl ([.int s0, .long a0, .long b0]) ++ List.replicate (5 - (lg_sl ([.int s0, .long a0, .long b0])).length) Slot.unset).toArray = ls at hl ⊢
  have hl : lv_has ls 5 [(0, .int s0), (1, .long a0), (3, .long b0)] := hl
  refine lv_lload_n hx hb dG_divide_0 rfl (lv_at hl 2 rfl) ?_
  refine lv_lconst (v := 0) hx hb dG_divide_1 (by decide) ?_
  refine W.lcmp hx hb dG_divide_2 ?_
  refine lv_if_ne (tgt := 16) hx hb dG_divide_3 (by decide) (fun c_1 => ?_) (fun c_1 => ?_)
  · skip
    rw [lg_cmp_eq] at c_1
    refine lv_iload_n hx hb dG_divide_16 rfl (lv_at hl 0 rfl) ?_
    refine lv_bipush (v := 47) hx hb dG_divide_17 (by decide) ?_
    refine lv_icmp_ne (tgt := 28) hx hb dG_divide_19 (by decide) (fun c_2 => ?_) (fun c_2 => ?_)
    · skip
      refine lv_lload_n hx hb dG_divide_28 rfl (lv_at hl 1 rfl) ?_
      refine lv_lload_n hx hb dG_divide_29 rfl (lv_at hl 2 rfl) ?_
      refine lv_lrem hx hb dG_divide_30 (c_1) ?_
      refine W.widen (k := zk (sh_div s0 a0 b0)) (n := 6 * zk (sh_div s0 a0 b0)) (Nat.zero_le _) (Nat.zero_le _) ?_
      exact vx_ret (W.lret (v := a0 - a0 / b0 * b0) hx hb hr (fun t ht _ => ⟨_, _, rfl, ⟨a0 - a0 / b0 * b0, by simp [sh_div, c_1, c_2], rfl, rfl⟩, by rw [ht]; exact hP, hD, hS.F ht⟩) hS.2.2 dG_divide_31)
    refine lv_lload_n hx hb dG_divide_22 rfl (lv_at hl 1 rfl) ?_
    refine lv_lload_n hx hb dG_divide_23 rfl (lv_at hl 2 rfl) ?_
    refine lv_ldiv hx hb dG_divide_24 (c_1) ?_
    refine lv_goto (tgt := 31) hx hb dG_divide_25 (by decide) ?_
    refine W.widen (k := zk (sh_div s0 a0 b0)) (n := 6 * zk (sh_div s0 a0 b0)) (Nat.zero_le _) (Nat.zero_le _) ?_
    exact vx_ret (W.lret (v := a0 / b0) hx hb hr (fun t ht _ => ⟨_, _, rfl, ⟨a0 / b0, by simp [sh_div, c_1, c_2], rfl, rfl⟩, by rw [ht]; exact hP, hD, hS.F ht⟩) hS.2.2 dG_divide_31)
  rw [lg_cmp_eq] at c_1
  have e_r : sh_div s0 a0 b0 = none := by simp [sh_div, c_1]
  have e_k : zk (sh_div s0 a0 b0) = 1 := by rw [e_r]; rfl
  exact zThrow (own := "ShellSum$Signs") (text := "something divides by 0") (ik := 21) (is := 23) (ic := 25) hx hb hl9 hown (htz _ zw_2_89) (htz _ zw_1_9) (hT _ _ _ zstr_G_23) (zx_G htz hN) zx_oG hU (hl.1.trans hml.symm) dG_divide_6 dG_divide_9 dG_divide_10 dG_divide_12 dG_divide_15 hEx hlocks (Nat.le_of_ble_eq_true rfl) (Nat.le_of_ble_eq_true rfl) (by show 0 + 1 ≤ zk (sh_div s0 a0 b0); omega) (by show 0 + 6 ≤ 6 * zk (sh_div s0 a0 b0); omega) (⟨e_r, rfl⟩) hP hD hS (by omega) (by omega)
set_option maxHeartbeats 4000000 in
set_option maxRecDepth 100000 in
/-- apply(sign, a, b) -/
theorem k_G_apply (l : Launch) (hl9 : l.stackTraces = false) (dC : Nat → ClassId) (dI : Nat → Nat → Nat) (tys : List (ClassId × FieldType)) (ws : va_W) (sz : Nat) (s0 : Int32) (a0 b0 : Int64) : vx_Met l yG_apply wsG_apply ({ frames := 7, cells := zk (sh_apply s0 a0 b0), slots := 6 * zk (sh_apply s0 a0 b0), locals := 110 }) (va_Pc [.int s0, .long a0, .long b0] (zV dC dI tys ws sz)) (zQ dC dI (va_A ws sz) (fun v w => ∃ x, sh_apply s0 a0 b0 = some x ∧ v = some (.long x) ∧ w = ws)) (zX dC dI (va_A ws sz) (fun w => sh_apply s0 a0 b0 = none ∧ w = ws)) (zk (sh_apply s0 a0 b0)) (6 * zk (sh_apply s0 a0 b0)) (va_A ws sz) := by
  refine vx_ofW (cc := cG_apply) (maxL := 5) (ret := (some .long)) (by decide) rfl ?_
  intro p e s m args below meth c s₁ B hml hEx hv
  obtain ⟨rfl, ⟨hsz, hP, hK, hD0, hN⟩, hT, hU⟩ := hv
  subst hsz
  have hD := hD0.self (sz := s.heap.size)
  generalize hAe : va_A ws s.heap.size = A at hD hU ⊢
  have hA : ∀ q : Nat, s.heap.size ≤ q → A q := fun q h => by rw [← hAe]; exact Or.inr h
  have hS : va_S A s.heap s.heap [] := va_S.rf
  have hx := B.exec
  have hb := B.bytes
  have hr := B.returns
  have htz : ∀ w ∈ zw, w.before _ s = true := fun w h => atoms_spec (ws := wsG_apply) B.pre w (List.mem_cons_of_mem _ h)
  have hown : s.vm.findClass "ShellSum$Signs" = some m.cls := findClass_of_methodNamed B.named
  have hlocks := B.notSynchronized
  have hl := lv_entry ([.int s0, .long a0, .long b0]) (n := 5) (Nat.le_of_ble_eq_true rfl)
  rw [lg_entry_eq]
  generalize (lg_sl ([.int s0, .long a0, .long b0]) ++ List.replicate (5 - (lg_sl ([.int s0, .long a0, .long b0])).length) Slot.unset).toArray = ls at hl ⊢
  have hl : lv_has ls 5 [(0, .int s0), (1, .long a0), (3, .long b0)] := hl
  refine lv_iload_n hx hb dG_apply_0 rfl (lv_at hl 0 rfl) ?_
  by_cases c_1 : s0 = 37
  · skip
    refine lv_lookup (off := 133) (tgt := 134) hx hb dG_apply_1 (by decide) (by rw [c_1]; decide) (by decide) ?_
    refine lv_iload_n hx hb dG_apply_134 rfl (lv_at hl 0 rfl) ?_
    refine lv_lload_n hx hb dG_apply_135 rfl (lv_at hl 1 rfl) ?_
    refine lv_lload_n hx hb dG_apply_136 rfl (lv_at hl 2 rfl) ?_
    have e_r : sh_apply s0 a0 b0 = sh_div s0 a0 b0 := by simp [sh_apply, c_1]
    refine zX_call (vx_runS (As := [.int s0, .long a0, .long b0]) (rest := []) ⟨hx, hb, hml, hown, htz⟩ (k_G_divide l hl9 dC dI tys ws _ s0 a0 b0) (cwS 3 htz (zg_S zw_2_86 zw_2_87 zw_1_5 zw_2_88) rfl rfl rfl (by decide +kernel) ⟨Nat.le_of_ble_eq_true rfl, Nat.le_of_ble_eq_true rfl⟩) (zV_S hP hK hD hN hT hU hS hA) rfl rfl hl.1 rfl (lv_room (Nat.le_of_ble_eq_true rfl)) dG_apply_137 ⟨by show 0 + zk _ ≤ zk (sh_apply s0 a0 b0); rw [e_r]; omega, by show 0 + 6 * zk _ ≤ 6 * zk (sh_apply s0 a0 b0); rw [e_r]; omega⟩) hD hS hA (fun ce q9 w H locs hp hP hD hS hce hcv hcl => ?_) (fun v w H locs hp hP hD hS => ?_)
    · obtain ⟨h1, hw⟩ := hp
      rw [hw] at hP hD
      exact zX_out hEx hlocks ⟨by rw [e_r]; exact h1, rfl⟩ hP hD hS hce hcv hcl (by rw [e_r]; omega) (by rw [e_r]; omega)
    obtain ⟨x, h1, rfl, hw⟩ := hp
    rw [hw] at hP hD
    refine W.eq (g2 := F0 m 140 ls [.long x]) rfl ?_
    refine W.widen (k := zk (sh_apply s0 a0 b0)) (n := 6 * zk (sh_apply s0 a0 b0)) (by rw [e_r]; omega) (by rw [e_r]; omega) ?_
    exact vx_ret (W.lret (v := x) hx hb hr (fun t ht _ => ⟨_, _, rfl, ⟨x, by rw [e_r]; exact h1, rfl, rfl⟩, by rw [ht]; exact hP, hD, hS.F ht⟩) hS.2.2 dG_apply_140)
  by_cases c_2 : s0 = 38
  · skip
    refine lv_lookup (off := 99) (tgt := 100) hx hb dG_apply_1 (by decide) (by rw [c_2]; decide) (by decide) ?_
    refine lv_lload_n hx hb dG_apply_100 rfl (lv_at hl 1 rfl) ?_
    refine lv_lload_n hx hb dG_apply_101 rfl (lv_at hl 2 rfl) ?_
    refine lv_land hx hb dG_apply_102 ?_
    refine W.widen (k := zk (sh_apply s0 a0 b0)) (n := 6 * zk (sh_apply s0 a0 b0)) (Nat.zero_le _) (Nat.zero_le _) ?_
    exact vx_ret (W.lret (v := a0 &&& b0) hx hb hr (fun t ht _ => ⟨_, _, rfl, ⟨a0 &&& b0, by simp [sh_apply, c_2], rfl, rfl⟩, by rw [ht]; exact hP, hD, hS.F ht⟩) hS.2.2 dG_apply_103)
  by_cases c_3 : s0 = 42
  · skip
    refine lv_lookup (off := 129) (tgt := 130) hx hb dG_apply_1 (by decide) (by rw [c_3]; decide) (by decide) ?_
    refine lv_lload_n hx hb dG_apply_130 rfl (lv_at hl 1 rfl) ?_
    refine lv_lload_n hx hb dG_apply_131 rfl (lv_at hl 2 rfl) ?_
    refine lv_lmul hx hb dG_apply_132 ?_
    refine W.widen (k := zk (sh_apply s0 a0 b0)) (n := 6 * zk (sh_apply s0 a0 b0)) (Nat.zero_le _) (Nat.zero_le _) ?_
    exact vx_ret (W.lret (v := a0 * b0) hx hb hr (fun t ht _ => ⟨_, _, rfl, ⟨a0 * b0, by simp [sh_apply, c_3], rfl, rfl⟩, by rw [ht]; exact hP, hD, hS.F ht⟩) hS.2.2 dG_apply_133)
  by_cases c_4 : s0 = 43
  · skip
    refine lv_lookup (off := 121) (tgt := 122) hx hb dG_apply_1 (by decide) (by rw [c_4]; decide) (by decide) ?_
    refine lv_lload_n hx hb dG_apply_122 rfl (lv_at hl 1 rfl) ?_
    refine lv_lload_n hx hb dG_apply_123 rfl (lv_at hl 2 rfl) ?_
    refine lv_ladd hx hb dG_apply_124 ?_
    refine W.widen (k := zk (sh_apply s0 a0 b0)) (n := 6 * zk (sh_apply s0 a0 b0)) (Nat.zero_le _) (Nat.zero_le _) ?_
    exact vx_ret (W.lret (v := a0 + b0) hx hb hr (fun t ht _ => ⟨_, _, rfl, ⟨a0 + b0, by simp [sh_apply, c_4], rfl, rfl⟩, by rw [ht]; exact hP, hD, hS.F ht⟩) hS.2.2 dG_apply_125)
  by_cases c_5 : s0 = 45
  · skip
    refine lv_lookup (off := 125) (tgt := 126) hx hb dG_apply_1 (by decide) (by rw [c_5]; decide) (by decide) ?_
    refine lv_lload_n hx hb dG_apply_126 rfl (lv_at hl 1 rfl) ?_
    refine lv_lload_n hx hb dG_apply_127 rfl (lv_at hl 2 rfl) ?_
    refine lv_lsub hx hb dG_apply_128 ?_
    refine W.widen (k := zk (sh_apply s0 a0 b0)) (n := 6 * zk (sh_apply s0 a0 b0)) (Nat.zero_le _) (Nat.zero_le _) ?_
    exact vx_ret (W.lret (v := a0 - b0) hx hb hr (fun t ht _ => ⟨_, _, rfl, ⟨a0 - b0, by simp [sh_apply, c_5], rfl, rfl⟩, by rw [ht]; exact hP, hD, hS.F ht⟩) hS.2.2 dG_apply_129)
  by_cases c_6 : s0 = 47
  · skip
    refine lv_lookup (off := 133) (tgt := 134) hx hb dG_apply_1 (by decide) (by rw [c_6]; decide) (by decide) ?_
    refine lv_iload_n hx hb dG_apply_134 rfl (lv_at hl 0 rfl) ?_
    refine lv_lload_n hx hb dG_apply_135 rfl (lv_at hl 1 rfl) ?_
    refine lv_lload_n hx hb dG_apply_136 rfl (lv_at hl 2 rfl) ?_
    have e_r : sh_apply s0 a0 b0 = sh_div s0 a0 b0 := by simp [sh_apply, c_6]
    refine zX_call (vx_runS (As := [.int s0, .long a0, .long b0]) (rest := []) ⟨hx, hb, hml, hown, htz⟩ (k_G_divide l hl9 dC dI tys ws _ s0 a0 b0) (cwS 3 htz (zg_S zw_2_86 zw_2_87 zw_1_5 zw_2_88) rfl rfl rfl (by decide +kernel) ⟨Nat.le_of_ble_eq_true rfl, Nat.le_of_ble_eq_true rfl⟩) (zV_S hP hK hD hN hT hU hS hA) rfl rfl hl.1 rfl (lv_room (Nat.le_of_ble_eq_true rfl)) dG_apply_137 ⟨by show 0 + zk _ ≤ zk (sh_apply s0 a0 b0); rw [e_r]; omega, by show 0 + 6 * zk _ ≤ 6 * zk (sh_apply s0 a0 b0); rw [e_r]; omega⟩) hD hS hA (fun ce q9 w H locs hp hP hD hS hce hcv hcl => ?_) (fun v w H locs hp hP hD hS => ?_)
    · obtain ⟨h1, hw⟩ := hp
      rw [hw] at hP hD
      exact zX_out hEx hlocks ⟨by rw [e_r]; exact h1, rfl⟩ hP hD hS hce hcv hcl (by rw [e_r]; omega) (by rw [e_r]; omega)
    obtain ⟨x, h1, rfl, hw⟩ := hp
    rw [hw] at hP hD
    refine W.eq (g2 := F0 m 140 ls [.long x]) rfl ?_
    refine W.widen (k := zk (sh_apply s0 a0 b0)) (n := 6 * zk (sh_apply s0 a0 b0)) (by rw [e_r]; omega) (by rw [e_r]; omega) ?_
    exact vx_ret (W.lret (v := x) hx hb hr (fun t ht _ => ⟨_, _, rfl, ⟨x, by rw [e_r]; exact h1, rfl, rfl⟩, by rw [ht]; exact hP, hD, hS.F ht⟩) hS.2.2 dG_apply_140)
  by_cases c_7 : s0 = 94
  · skip
    refine lv_lookup (off := 95) (tgt := 96) hx hb dG_apply_1 (by decide) (by rw [c_7]; decide) (by decide) ?_
    refine lv_lload_n hx hb dG_apply_96 rfl (lv_at hl 1 rfl) ?_
    refine lv_lload_n hx hb dG_apply_97 rfl (lv_at hl 2 rfl) ?_
    refine lv_lxor hx hb dG_apply_98 ?_
    refine W.widen (k := zk (sh_apply s0 a0 b0)) (n := 6 * zk (sh_apply s0 a0 b0)) (Nat.zero_le _) (Nat.zero_le _) ?_
    exact vx_ret (W.lret (v := a0 ^^^ b0) hx hb hr (fun t ht _ => ⟨_, _, rfl, ⟨a0 ^^^ b0, by simp [sh_apply, c_7], rfl, rfl⟩, by rw [ht]; exact hP, hD, hS.F ht⟩) hS.2.2 dG_apply_99)
  by_cases c_8 : s0 = 124
  · skip
    refine lv_lookup (off := 91) (tgt := 92) hx hb dG_apply_1 (by decide) (by rw [c_8]; decide) (by decide) ?_
    refine lv_lload_n hx hb dG_apply_92 rfl (lv_at hl 1 rfl) ?_
    refine lv_lload_n hx hb dG_apply_93 rfl (lv_at hl 2 rfl) ?_
    refine lv_lor hx hb dG_apply_94 ?_
    refine W.widen (k := zk (sh_apply s0 a0 b0)) (n := 6 * zk (sh_apply s0 a0 b0)) (Nat.zero_le _) (Nat.zero_le _) ?_
    exact vx_ret (W.lret (v := a0 ||| b0) hx hb hr (fun t ht _ => ⟨_, _, rfl, ⟨a0 ||| b0, by simp [sh_apply, c_8], rfl, rfl⟩, by rw [ht]; exact hP, hD, hS.F ht⟩) hS.2.2 dG_apply_95)
  by_cases c_9 : s0 = 15420
  · skip
    refine lv_lookup (off := 103) (tgt := 104) hx hb dG_apply_1 (by decide) (by rw [c_9]; decide) (by decide) ?_
    refine lv_lload_n hx hb dG_apply_104 rfl (lv_at hl 1 rfl) ?_
    refine lv_lload_n hx hb dG_apply_105 rfl (lv_at hl 2 rfl) ?_
    refine lv_ldc2 (v := 63) hx hb hown (htz _ zw_2_85) dG_apply_106 ?_
    refine lv_land hx hb dG_apply_109 ?_
    refine lv_l2i hx hb dG_apply_110 rfl ?_
    refine lv_lshl hx hb dG_apply_111 rfl ?_
    refine W.widen (k := zk (sh_apply s0 a0 b0)) (n := 6 * zk (sh_apply s0 a0 b0)) (Nat.zero_le _) (Nat.zero_le _) ?_
    exact vx_ret (W.lret (v := a0 <<< (((b0 &&& 63).toInt32).toInt64 &&& 63)) hx hb hr (fun t ht _ => ⟨_, _, rfl, ⟨a0 <<< (((b0 &&& 63).toInt32).toInt64 &&& 63), by simp [sh_apply, c_9], rfl, rfl⟩, by rw [ht]; exact hP, hD, hS.F ht⟩) hS.2.2 dG_apply_112)
  by_cases c_10 : s0 = 15934
  · skip
    refine lv_lookup (off := 112) (tgt := 113) hx hb dG_apply_1 (by decide) (by rw [c_10]; decide) (by decide) ?_
    refine lv_lload_n hx hb dG_apply_113 rfl (lv_at hl 1 rfl) ?_
    refine lv_lload_n hx hb dG_apply_114 rfl (lv_at hl 2 rfl) ?_
    refine lv_ldc2 (v := 63) hx hb hown (htz _ zw_2_85) dG_apply_115 ?_
    refine lv_land hx hb dG_apply_118 ?_
    refine lv_l2i hx hb dG_apply_119 rfl ?_
    refine lv_lshr hx hb dG_apply_120 rfl ?_
    refine W.widen (k := zk (sh_apply s0 a0 b0)) (n := 6 * zk (sh_apply s0 a0 b0)) (Nat.zero_le _) (Nat.zero_le _) ?_
    exact vx_ret (W.lret (v := a0 >>> (((b0 &&& 63).toInt32).toInt64 &&& 63)) hx hb hr (fun t ht _ => ⟨_, _, rfl, ⟨a0 >>> (((b0 &&& 63).toInt32).toInt64 &&& 63), by simp [sh_apply, c_10], rfl, rfl⟩, by rw [ht]; exact hP, hD, hS.F ht⟩) hS.2.2 dG_apply_121)
  refine lv_lookup (off := 140) (tgt := 141) hx hb dG_apply_1 (by decide) (by rw [lv_osw c_1 (k := 37) (by decide), lv_osw c_2 (k := 38) (by decide), lv_osw c_3 (k := 42) (by decide), lv_osw c_4 (k := 43) (by decide), lv_osw c_5 (k := 45) (by decide), lv_osw c_6 (k := 47) (by decide), lv_osw c_7 (k := 94) (by decide), lv_osw c_8 (k := 124) (by decide), lv_osw c_9 (k := 15420) (by decide), lv_osw c_10 (k := 15934) (by decide)]; rfl) (by decide) ?_
  refine lv_iload_n hx hb dG_apply_141 rfl (lv_at hl 0 rfl) ?_
  refine lv_lload_n hx hb dG_apply_142 rfl (lv_at hl 1 rfl) ?_
  refine lv_lload_n hx hb dG_apply_143 rfl (lv_at hl 2 rfl) ?_
  refine rq_call (va_runS (As := [.int s0, .long a0, .long b0]) (rest := []) ⟨hx, hb, hml, hown, htz⟩ (k_G_holds l s0 a0 b0) (cwS 3 htz (zg_S zw_2_92 zw_2_93 zw_1_5 zw_2_94) rfl rfl rfl (by decide +kernel) ⟨Nat.le_of_ble_eq_true rfl, Nat.le_of_ble_eq_true rfl⟩) rq_pre rfl rfl hl.1 rfl (lv_room (Nat.le_of_ble_eq_true rfl)) dG_apply_144 ⟨Nat.zero_le _, Nat.zero_le _⟩) ?_
  refine W.eq (g2 := F0 m 147 ls [.int (sh_b (sh_holds s0 a0 b0))]) rfl ?_
  refine lv_if_eq (tgt := 154) hx hb dG_apply_147 (by decide) (fun c_11 => ?_) (fun c_11 => ?_)
  · skip
    refine lv_lconst (v := 0) hx hb dG_apply_154 (by decide) ?_
    refine W.widen (k := zk (sh_apply s0 a0 b0)) (n := 6 * zk (sh_apply s0 a0 b0)) (Nat.zero_le _) (Nat.zero_le _) ?_
    exact vx_ret (W.lret (v := 0) hx hb hr (fun t ht _ => ⟨_, _, rfl, ⟨0, by simp [sh_apply, c_1, c_2, c_3, c_4, c_5, c_6, c_7, c_8, c_9, c_10]; grind [sh_b], rfl, rfl⟩, by rw [ht]; exact hP, hD, hS.F ht⟩) hS.2.2 dG_apply_155)
  refine lv_lconst (v := 1) hx hb dG_apply_150 (by decide) ?_
  refine lv_goto (tgt := 155) hx hb dG_apply_151 (by decide) ?_
  refine W.widen (k := zk (sh_apply s0 a0 b0)) (n := 6 * zk (sh_apply s0 a0 b0)) (Nat.zero_le _) (Nat.zero_le _) ?_
  exact vx_ret (W.lret (v := 1) hx hb hr (fun t ht _ => ⟨_, _, rfl, ⟨1, by simp [sh_apply, c_1, c_2, c_3, c_4, c_5, c_6, c_7, c_8, c_9, c_10]; grind [sh_b], rfl, rfl⟩, by rw [ht]; exact hP, hD, hS.F ht⟩) hS.2.2 dG_apply_155)
set_option maxHeartbeats 4000000 in
set_option maxRecDepth 100000 in
/-- deeper(depth) -/
theorem k_R_deeper (l : Launch) (hl9 : l.stackTraces = false) (dC : Nat → ClassId) (dI : Nat → Nat → Nat) (tys : List (ClassId × FieldType)) (ws : va_W) (sz : Nat) (d0 : Nat) (hd : d0 < 1000) : vx_Met l yR_deeper wsR_deeper ({ frames := 6, cells := zk (if d0 < 40 then some (d0 + 1) else none : Option Nat), slots := 6 * zk (if d0 < 40 then some (d0 + 1) else none : Option Nat), locals := 82 }) (va_Pc [.int (nI d0)] (zV dC dI tys ws sz)) (zQ dC dI (va_A ws sz) (fun v w => d0 < 40 ∧ v = some (.int (nI (d0 + 1))) ∧ w = ws)) (zX dC dI (va_A ws sz) (fun w => ¬ d0 < 40 ∧ w = ws)) (zk (if d0 < 40 then some (d0 + 1) else none : Option Nat)) (6 * zk (if d0 < 40 then some (d0 + 1) else none : Option Nat)) (va_A ws sz) := by
  refine vx_ofW (cc := cR_deeper) (maxL := 1) (ret := (some .int)) (by decide) rfl ?_
  intro p e s m args below meth c s₁ B hml hEx hv
  obtain ⟨rfl, ⟨hsz, hP, hK, hD0, hN⟩, hT, hU⟩ := hv
  subst hsz
  have hD := hD0.self (sz := s.heap.size)
  generalize hAe : va_A ws s.heap.size = A at hD hU ⊢
  have hA : ∀ q : Nat, s.heap.size ≤ q → A q := fun q h => by rw [← hAe]; exact Or.inr h
  have hS : va_S A s.heap s.heap [] := va_S.rf
  have hx := B.exec
  have hb := B.bytes
  have hr := B.returns
  have htz : ∀ w ∈ zw, w.before _ s = true := fun w h => atoms_spec (ws := wsR_deeper) B.pre w (List.mem_cons_of_mem _ h)
  have hown : s.vm.findClass "ShellSum$Reckoner" = some m.cls := findClass_of_methodNamed B.named
  have hlocks := B.notSynchronized
  have hl := lv_entry ([.int (nI d0)]) (n := 1) (Nat.le_of_ble_eq_true rfl)
  rw [lg_entry_eq]
  generalize (lg_sl ([.int (nI d0)]) ++ List.replicate (1 - (lg_sl ([.int (nI d0)])).length) Slot.unset).toArray = ls at hl ⊢
  have hl : lv_has ls 1 [(0, .int (nI d0))] := hl
  refine lv_iload_n hx hb dR_deeper_0 rfl (lv_at hl 0 rfl) ?_
  refine lv_bipush (v := 40) hx hb dR_deeper_1 (by decide) ?_
  refine lv_icmp_lt (tgt := 16) hx hb dR_deeper_3 (by decide) (fun c_1 => ?_) (fun c_1 => ?_)
  · skip
    have e_d : d0 < 40 := xi_lt (b := 40) c_1 (by omega) (by decide)
    refine lv_iload_n hx hb dR_deeper_16 rfl (lv_at hl 0 rfl) ?_
    refine lv_iconst (v := 1) hx hb dR_deeper_17 (by decide) ?_
    refine lv_iadd hx hb dR_deeper_18 ?_
    refine xw_topi (y := nI (d0 + 1)) (nI_1 d0) ?_
    refine W.widen (k := zk (if d0 < 40 then some (d0 + 1) else none : Option Nat)) (n := 6 * zk (if d0 < 40 then some (d0 + 1) else none : Option Nat)) (Nat.zero_le _) (Nat.zero_le _) ?_
    exact vx_ret (W.iret (v := nI (d0 + 1)) hx hb hr (fun t ht _ => ⟨_, _, rfl, ⟨e_d, rfl, rfl⟩, by rw [ht]; exact hP, hD, hS.F ht⟩) hS.2.2 dR_deeper_19)
  have e_d : ¬ d0 < 40 := Nat.not_lt.mpr (xi_nlt (b := 40) c_1 (by omega) (by decide))
  have e_k : zk (if d0 < 40 then some (d0 + 1) else none : Option Nat) = 1 := by rw [if_neg e_d]; rfl
  exact zThrow (own := "ShellSum$Reckoner") (text := "too much stands within one another") (ik := 54) (is := 114) (ic := 116) hx hb hl9 hown (htz _ zw_1_201) (htz _ zw_1_9) (hT _ _ _ zstr_R_114) (zx_R htz hN) zx_oR hU (hl.1.trans hml.symm) dR_deeper_6 dR_deeper_9 dR_deeper_10 dR_deeper_12 dR_deeper_15 hEx hlocks (Nat.le_of_ble_eq_true rfl) (Nat.le_of_ble_eq_true rfl) (by show 0 + 1 ≤ zk (if d0 < 40 then some (d0 + 1) else none : Option Nat); omega) (by show 0 + 6 ≤ 6 * zk (if d0 < 40 then some (d0 + 1) else none : Option Nat); omega) (⟨e_d, rfl⟩) hP hD hS (by omega) (by omega)
end
section
/-- characters are bytes -/
def sh_B (tx : List Int32) : Prop := ∀ c ∈ tx, ∃ q : Nat, q < 256 ∧ c = nI q
theorem sh_at_get {tx : List Int32} {i : Nat} (h : i < tx.length) : sh_at tx i = tx[i] := by simp [sh_at, h]
theorem sh_at_out {tx : List Int32} {i : Nat} (h : tx.length ≤ i) : sh_at tx i = 0 := by simp [sh_at, List.getElem?_eq_none h]
theorem sh_at_byte {tx : List Int32} (h : sh_B tx) (i : Nat) : ∃ q : Nat, q < 256 ∧ sh_at tx i = nI q := by
  by_cases hi : i < tx.length
  · rw [sh_at_get hi]; exact h _ (List.getElem_mem hi)
  · exact ⟨0, by decide, by rw [sh_at_out (by omega)]; rfl⟩
theorem sh_at_nar {tx : List Int32} (h : sh_B tx) (i : Nat) : narrow .char (.int (sh_at tx i)) = .int (sh_at tx i) := by
  obtain ⟨q, hq, e⟩ := sh_at_byte h i
  rw [e]; exact (pk_charN (by omega)).1
theorem sh_run_go {p : Int32 → Bool} {tx : List Int32} {i : Nat} (h : i < tx.length) (hp : p (sh_at tx i) = true) : sh_run p tx i = sh_run p tx (i + 1) := by
  unfold sh_run
  rw [List.drop_eq_getElem_cons h, List.takeWhile_cons, if_pos (by rw [← sh_at_get h]; exact hp), List.length_cons]
  omega
theorem sh_run_stop {p : Int32 → Bool} {tx : List Int32} {i : Nat} (h : tx.length ≤ i ∨ p (sh_at tx i) = false) : sh_run p tx i = i := by
  unfold sh_run
  by_cases hi : i < tx.length
  · rcases h with h | h
    · omega
    · rw [List.drop_eq_getElem_cons hi, List.takeWhile_cons, if_neg (by rw [← sh_at_get hi, h]; decide)]; rfl
  · rw [List.drop_eq_nil_of_le (by omega)]; rfl
theorem sh_run_ge (p : Int32 → Bool) (tx : List Int32) (i : Nat) : i ≤ sh_run p tx i := Nat.le_add_right _ _
theorem sh_run_le {p : Int32 → Bool} {tx : List Int32} {i : Nat} (h : i ≤ tx.length) : sh_run p tx i ≤ tx.length := by
  unfold sh_run
  have := List.Sublist.length_le (List.takeWhile_sublist p (l := tx.drop i))
  rw [List.length_drop] at this
  omega
theorem sh_rank_le (s : Int32) : sh_rank s ≤ 10 := by
  unfold sh_rank
  repeat' split
  all_goals decide
theorem sh_skip_le {tx : List Int32} {i : Nat} (h : i ≤ tx.length) : sh_skip tx i ≤ tx.length := sh_run_le h
theorem sh_wend_le {tx : List Int32} {i : Nat} (h : i ≤ tx.length) : sh_wend tx i ≤ tx.length := sh_run_le h
/-- a character that isn't 0 stands within the text -/
theorem sh_at_in {tx : List Int32} {i : Nat} (h : ¬ sh_at tx i = 0) : i < tx.length := by
  rcases Nat.lt_or_ge i tx.length with q | q
  · exact q
  · exact absurd (sh_at_out q) h
end
section
set_option maxHeartbeats 4000000 in
set_option maxRecDepth 100000 in
/-- charAt(i) -/
theorem k_R_charAt (l : Launch) (dC : Nat → ClassId) (dI : Nat → Nat → Nat) (kC kI kJ kQ : ClassId) (a0 aR aN aS aF : Nat) (wt un : Int32) (rs : Int64) (fx : Nat → Int32) (tx : List Int32) (tl : va_W) (hx3 : tx.length ≤ 300) (hB : sh_B tx) (hfx : ∀ j, j < tx.length → fx j = sh_at tx j) (pl : Int32) (i : Nat) (hi : i < 1000) : Met l yR_charAt wsR_charAt ({ frames := 0, cells := 0, slots := 0, locals := 0 }) (va_Pc [.ref a0, .int (nI i)] (zR dC dI [(kC, .char), (kI, .int), (kJ, .long), (kQ, .object "ShellSum$Named")] ((a0, .inr (2, [.ref aR, .ref aN, .ref aS, .ref aF, .int wt, .int (nI tx.length), .int pl, .int un, .long rs])) :: (aR, .inl (kC, 300, .inl fx)) :: tl))) (rq_ (some (.int (sh_at tx i)))) 0 0 (fun _ => False) := by
  refine Met.ofW (cc := cR_charAt) (maxL := 2) (ret := (some .char)) (by decide) rfl ?_
  intro p e s m args below meth c s₁ B hml hv
  obtain ⟨rfl, hP, hK, hN⟩ := hv
  have hx := B.exec
  have hb := B.bytes
  have hr := B.returns
  have htz : ∀ w ∈ zw, w.before _ s = true := fun w h => atoms_spec (ws := wsR_charAt) B.pre w (List.mem_cons_of_mem _ h)
  have hown : s.vm.findClass "ShellSum$Reckoner" = some m.cls := findClass_of_methodNamed B.named
  have hlocks := B.notSynchronized
  have hl := lv_entry ([.ref a0, .int (nI i)]) (n := 2) (Nat.le_of_ble_eq_true rfl)
  rw [lg_entry_eq]
  generalize (lg_sl ([.ref a0, .int (nI i)]) ++ List.replicate (2 - (lg_sl ([.ref a0, .int (nI i)])).length) Slot.unset).toArray = ls at hl ⊢
  have hl : lv_has ls 2 [(0, .ref a0), (1, .int (nI i))] := hl
  refine lv_iload_n hx hb dR_charAt_0 rfl (lv_at hl 1 rfl) ?_
  refine lv_if_lt (tgt := 21) hx hb dR_charAt_1 (by decide) (fun c_1 => ?_) (fun c_1 => ?_)
  · skip
    exact absurd c_1 (nI_pos (by omega))
  refine lv_iload_n hx hb dR_charAt_4 rfl (lv_at hl 1 rfl) ?_
  refine lv_aload_n hx hb dR_charAt_5 rfl (lv_at hl 0 rfl) ?_
  refine va_get (D := (dC, dI)) (ci := 2) (v := .int (nI tx.length)) (C := "ShellSum$Reckoner") (T := TR) (N := 9) hx hb htz zu_R hown hK hP 0 rfl rfl 5 (by decide) (htz _ zw_1_50) (fun _ h9 => h9) rfl dR_charAt_6 ?_
  refine lv_icmp_ge (tgt := 21) hx hb dR_charAt_9 (by decide) (fun c_2 => ?_) (fun c_2 => ?_)
  · skip
    have e_9 : tx.length ≤ i := xi_le c_2 (by omega) (by omega)
    refine lv_iconst (v := 0) hx hb dR_charAt_21 (by decide) ?_
    refine lv_goto (tgt := 31) hx hb dR_charAt_22 (by decide) ?_
    exact W.zret (v := 0) hx hb hr rfl (fun t ht _ => ⟨by rw [sh_at_out e_9], ht⟩) t_nil dR_charAt_31
  have e_9 : i < tx.length := xi_nle c_2 (by omega) (by omega)
  refine lv_iload_n hx hb dR_charAt_12 rfl (lv_at hl 1 rfl) ?_
  refine lv_aload_n hx hb dR_charAt_13 rfl (lv_at hl 0 rfl) ?_
  refine va_get (D := (dC, dI)) (ci := 2) (v := .ref aR) (C := "ShellSum$Reckoner") (T := TR) (N := 9) hx hb htz zu_R hown hK hP 0 rfl rfl 0 (by decide) (htz _ zw_1_43) (fun _ h9 => h9) rfl dR_charAt_14 ?_
  refine va_alen hx hb hK hP 1 0 rfl (ty := .char) rfl (v := nI 300) rfl dR_charAt_17 ?_
  refine lv_icmp_lt (tgt := 25) hx hb dR_charAt_18 (by decide) (fun c_3 => ?_) (fun c_3 => ?_)
  · skip
    refine lv_aload_n hx hb dR_charAt_25 rfl (lv_at hl 0 rfl) ?_
    refine va_get (D := (dC, dI)) (ci := 2) (v := .ref aR) (C := "ShellSum$Reckoner") (T := TR) (N := 9) hx hb htz zu_R hown hK hP 0 rfl rfl 0 (by decide) (htz _ zw_1_43) (fun _ h9 => h9) rfl dR_charAt_26 ?_
    refine lv_iload_n hx hb dR_charAt_29 rfl (lv_at hl 1 rfl) ?_
    refine va_cald hx hb hK hP 1 0 rfl rfl (vp_in_nI (by omega) (by omega)) dR_charAt_30 ?_
    refine xw_topi (y := fx i) (by rw [nI_clamp (by omega)]) ?_
    refine xw_topi (y := sh_at tx i) (hfx i e_9) ?_
    exact W.zret (v := sh_at tx i) hx hb hr (sh_at_nar hB i) (fun t ht _ => ⟨rfl, ht⟩) t_nil dR_charAt_31
  exact absurd (xi_nlt (b := 300) c_3 (by omega) (by decide)) (by omega)
set_option maxHeartbeats 4000000 in
set_option maxRecDepth 100000 in
/-- skipBlanks() -/
theorem k_R_skipBlanks (l : Launch) (dC : Nat → ClassId) (dI : Nat → Nat → Nat) (kC kI kJ kQ : ClassId) (a0 aR aN aS aF : Nat) (wt un : Int32) (rs : Int64) (fx : Nat → Int32) (tx : List Int32) (tl : va_W) (hx3 : tx.length ≤ 300) (hB : sh_B tx) (hfx : ∀ j, j < tx.length → fx j = sh_at tx j) (sz : Nat) (p0 : Nat) (hp0 : p0 ≤ tx.length) : Met l yR_skipBlanks wsR_skipBlanks ({ frames := 1, cells := 0, slots := 0, locals := 21 }) (va_Pc [.ref a0] (zW dC dI ([(kC, .char), (kI, .int), (kJ, .long), (kQ, .object "ShellSum$Named")]) ((a0, .inr (2, [.ref aR, .ref aN, .ref aS, .ref aF, .int wt, .int (nI tx.length), .int (nI p0), .int un, .long rs])) :: (aR, .inl (kC, 300, .inl fx)) :: tl) sz)) (zQ dC dI (va_A ((a0, .inr (2, [.ref aR, .ref aN, .ref aS, .ref aF, .int wt, .int (nI tx.length), .int (nI p0), .int un, .long rs])) :: (aR, .inl (kC, 300, .inl fx)) :: tl) sz) (fun v w => v = none ∧ w = ((a0, .inr (2, [.ref aR, .ref aN, .ref aS, .ref aF, .int wt, .int (nI tx.length), .int (nI (sh_skip tx p0)), .int un, .long rs])) :: (aR, .inl (kC, 300, .inl fx)) :: tl))) 0 0 (va_A ((a0, .inr (2, [.ref aR, .ref aN, .ref aS, .ref aF, .int wt, .int (nI tx.length), .int (nI p0), .int un, .long rs])) :: (aR, .inl (kC, 300, .inl fx)) :: tl) sz) := by
  refine Met.ofW (cc := cR_skipBlanks) (maxL := 2) (ret := none) (by decide) rfl ?_
  intro p e s m args below meth c s₁ B hml hv
  obtain ⟨rfl, hsz, hP, hK, hD0, hN⟩ := hv
  subst hsz
  have hD := hD0.self (sz := s.heap.size)
  generalize hAe : va_A ((a0, .inr (2, [.ref aR, .ref aN, .ref aS, .ref aF, .int wt, .int (nI tx.length), .int (nI p0), .int un, .long rs])) :: (aR, .inl (kC, 300, .inl fx)) :: tl) s.heap.size = A at hD ⊢
  have hA : ∀ q : Nat, s.heap.size ≤ q → A q := fun q h => by rw [← hAe]; exact Or.inr h
  have hS : va_S A s.heap s.heap [] := va_S.rf
  have hx := B.exec
  have hb := B.bytes
  have hr := B.returns
  have htz : ∀ w ∈ zw, w.before _ s = true := fun w h => atoms_spec (ws := wsR_skipBlanks) B.pre w (List.mem_cons_of_mem _ h)
  have hown : s.vm.findClass "ShellSum$Reckoner" = some m.cls := findClass_of_methodNamed B.named
  have hlocks := B.notSynchronized
  have hl := lv_entry ([.ref a0]) (n := 2) (Nat.le_of_ble_eq_true rfl)
  rw [lg_entry_eq]
  generalize (lg_sl ([.ref a0]) ++ List.replicate (2 - (lg_sl ([.ref a0])).length) Slot.unset).toArray = ls at hl ⊢
  have hl : lv_has ls 2 [(0, .ref a0)] := hl
  refine lv_aload_n hx hb dR_skipBlanks_0 rfl (lv_at hl 0 rfl) ?_
  refine va_get (D := (dC, dI)) (ci := 2) (v := .int (nI p0)) (C := "ShellSum$Reckoner") (T := TR) (N := 9) hx hb htz zu_R hown hK hP 0 rfl rfl 6 (by decide) (htz _ zw_1_51) (fun _ h9 => h9) rfl dR_skipBlanks_1 ?_
  refine lv_istore_n (lv' := [(1, .int (nI p0)), (0, .ref a0)]) hx hb dR_skipBlanks_4 rfl hl (by decide) rfl (fun ls hl => ?_)
  have loop_5 : ∀ (f_loop_5 : Nat) (k : Nat), tx.length - k < f_loop_5 → (k ≤ tx.length) → (sh_skip tx k = sh_skip tx p0) → ∀ (H : Heap) (locs : List Loc), va_P (dC, dI) vwCl ((a0, .inr (2, [.ref aR, .ref aN, .ref aS, .ref aF, .int wt, .int (nI tx.length), .int (nI k), .int un, .long rs])) :: (aR, .inl (kC, 300, .inl fx)) :: tl) H → va_D A ((a0, .inr (2, [.ref aR, .ref aN, .ref aS, .ref aF, .int wt, .int (nI tx.length), .int (nI k), .int un, .long rs])) :: (aR, .inl (kC, 300, .inl fx)) :: tl) → va_S A s.heap H locs → ∀ ls : Array Slot, lv_has ls 2 [(1, .int (nI k)), (0, .ref a0)] → W p l e (headSpec wsR_skipBlanks ({ frames := 1, cells := 0, slots := 0, locals := 21 })).room s m ([.ref a0] : List Value).toArray below meth c H locs 0 0 (MQ below (zQ dC dI A (fun v w => v = none ∧ w = ((a0, .inr (2, [.ref aR, .ref aN, .ref aS, .ref aF, .int wt, .int (nI tx.length), .int (nI (sh_skip tx p0)), .int un, .long rs])) :: (aR, .inl (kC, 300, .inl fx)) :: tl))) ([.ref a0] : List Value).toArray s 0 0 A) (F0 m 5 ls []) := by
    intro f_loop_5
    induction f_loop_5 with
    | zero => intro k hf; exact absurd hf (Nat.not_lt_zero _)
    | succ f_loop_5 ih_loop_5 =>
      intro k hf_loop_5 hk he H locs hP hD hS ls hl
      refine lv_iload_n hx hb dR_skipBlanks_5 rfl (lv_at hl 0 rfl) ?_
      refine lv_aload_n hx hb dR_skipBlanks_6 rfl (lv_at hl 1 rfl) ?_
      refine va_get (D := (dC, dI)) (ci := 2) (v := .int (nI tx.length)) (C := "ShellSum$Reckoner") (T := TR) (N := 9) hx hb htz zu_R hown hK hP 0 rfl rfl 5 (by decide) (htz _ zw_1_50) (fun _ h9 => h9) rfl dR_skipBlanks_7 ?_
      refine lv_icmp_ge (tgt := 37) hx hb dR_skipBlanks_10 (by decide) (fun c_1 => ?_) (fun c_1 => ?_)
      · skip
        have e_10 : tx.length ≤ k := xi_le c_1 (by omega) (by omega)
        have e_s : sh_skip tx p0 = k := by rw [← he]; exact sh_run_stop (Or.inl e_10)
        refine W.widen (k := 0) (n := 0) (Nat.le_refl _) (Nat.le_refl _) ?_
        exact W.vret hx hb hr (fun t ht _ => ⟨_, _, rfl, ⟨rfl, by rw [e_s]⟩, by rw [ht]; exact hP, hD, hS.F ht⟩) hS.2.2 dR_skipBlanks_37
      have e_10 : k < tx.length := xi_nle c_1 (by omega) (by omega)
      refine lv_aload_n hx hb dR_skipBlanks_13 rfl (lv_at hl 1 rfl) ?_
      refine lv_iload_n hx hb dR_skipBlanks_14 rfl (lv_at hl 0 rfl) ?_
      refine rq_call (va_runV (As := [.int (nI k)]) (rest := []) ⟨hx, hb, hml, hown, htz⟩ (k_R_charAt l dC dI kC kI kJ kQ a0 aR aN aS aF wt un rs fx tx tl hx3 hB hfx (nI k) k (by omega)) (cwV 1 htz (zg_V zw_1_206 zw_1_208 zs_R_charAt zw_1_2 zw_1_209) rfl rfl rfl (by decide +kernel) ⟨Nat.le_of_ble_eq_true rfl, Nat.le_of_ble_eq_true rfl⟩) (zR_V hP hK hN (va_recv hK hP (ci := 2) (q0 := 0) rfl rfl)) rfl rfl hl.1 rfl (lv_room (Nat.le_of_ble_eq_true rfl)) dR_skipBlanks_15 ⟨Nat.zero_le _, Nat.zero_le _⟩) ?_
      refine W.eq (g2 := F0 m 18 ls [.int (sh_at tx k)]) rfl ?_
      refine rq_call (va_runSN (As := [.int (sh_at tx k)]) (rest := []) ⟨hx, hb, hml, hown, htz⟩ (k_A_isBlank l (sh_at tx k)) ⟨va_cnB 1 htz (zg_c zw_1_114) rfl rfl rfl (hN _ zn_1_210) (htz _ zw_1_1) (by decide +kernel) ⟨Nat.le_of_ble_eq_true rfl, Nat.le_of_ble_eq_true rfl⟩, htz _ zw_1_113, trivial⟩ rq_pre rfl rfl hl.1 rfl (lv_room (Nat.le_of_ble_eq_true rfl)) dR_skipBlanks_18 ⟨Nat.zero_le _, Nat.zero_le _⟩) ?_
      refine W.eq (g2 := F0 m 21 ls [.int (sh_b (sh_blank (sh_at tx k)))]) rfl ?_
      refine lv_if_eq (tgt := 37) hx hb dR_skipBlanks_21 (by decide) (fun c_2 => ?_) (fun c_2 => ?_)
      · skip
        have e_s : sh_skip tx p0 = k := by rw [← he]; exact sh_run_stop (Or.inr (by grind [sh_b]))
        refine W.widen (k := 0) (n := 0) (Nat.le_refl _) (Nat.le_refl _) ?_
        exact W.vret hx hb hr (fun t ht _ => ⟨_, _, rfl, ⟨rfl, by rw [e_s]⟩, by rw [ht]; exact hP, hD, hS.F ht⟩) hS.2.2 dR_skipBlanks_37
      refine lv_aload_n hx hb dR_skipBlanks_24 rfl (lv_at hl 1 rfl) ?_
      refine lv_iload_n hx hb dR_skipBlanks_25 rfl (lv_at hl 0 rfl) ?_
      refine lv_iconst (v := 1) hx hb dR_skipBlanks_26 (by decide) ?_
      refine lv_iadd hx hb dR_skipBlanks_27 ?_
      refine xw_topi (y := nI (k + 1)) (nI_add k 1) ?_
      refine va_put (D := (dC, dI)) (ci := 2) (v := .int (nI (k + 1))) (ty := .int) (C := "ShellSum$Reckoner") (T := TR) (N := 9) hx hb htz zu_R tyR tyR_ok nmR hown hK hP hD hS 0 rfl rfl 6 (by decide) (htz _ zw_1_51) (fun _ h9 => h9) rfl (by decide +kernel) rfl rfl (Nat.le_of_ble_eq_true rfl) dR_skipBlanks_28 (fun H locs hP hD hS => ?_)
      have hP : va_P (dC, dI) vwCl ((a0, .inr (2, [.ref aR, .ref aN, .ref aS, .ref aF, .int wt, .int (nI tx.length), .int (nI (k + 1)), .int un, .long rs])) :: (aR, .inl (kC, 300, .inl fx)) :: tl) H := hP
      have hD : va_D A ((a0, .inr (2, [.ref aR, .ref aN, .ref aS, .ref aF, .int wt, .int (nI tx.length), .int (nI (k + 1)), .int un, .long rs])) :: (aR, .inl (kC, 300, .inl fx)) :: tl) := hD
      refine lv_iinc (v := nI (k + 1)) (lv' := [(1, .int (nI (k + 1))), (0, .ref a0)]) hx hb dR_skipBlanks_31 hl (k := 0) rfl (nI_1 k) (by decide) rfl (fun ls hl => ?_)
      refine lv_goto (tgt := 5) hx hb dR_skipBlanks_34 (by decide) ?_
      exact ih_loop_5 (k + 1) (by omega) (e_10) (by rw [← he]; exact (sh_run_go e_10 (by grind [sh_b])).symm) _ _ hP hD hS ls (lv_sub hl [0, 1] rfl)
  exact loop_5 _ p0 (Nat.lt_succ_self _) (hp0) (rfl) _ _ hP hD hS ls (lv_sub hl [0, 1] rfl)
set_option maxHeartbeats 4000000 in
set_option maxRecDepth 100000 in
/-- wordEnd() -/
theorem k_R_wordEnd (l : Launch) (dC : Nat → ClassId) (dI : Nat → Nat → Nat) (kC kI kJ kQ : ClassId) (a0 aR aN aS aF : Nat) (wt un : Int32) (rs : Int64) (fx : Nat → Int32) (tx : List Int32) (tl : va_W) (hx3 : tx.length ≤ 300) (hB : sh_B tx) (hfx : ∀ j, j < tx.length → fx j = sh_at tx j) (p0 : Nat) (hp0 : p0 ≤ tx.length) : Met l yR_wordEnd wsR_wordEnd ({ frames := 2, cells := 0, slots := 0, locals := 40 }) (va_Pc [.ref a0] (zR dC dI [(kC, .char), (kI, .int), (kJ, .long), (kQ, .object "ShellSum$Named")] ((a0, .inr (2, [.ref aR, .ref aN, .ref aS, .ref aF, .int wt, .int (nI tx.length), .int (nI p0), .int un, .long rs])) :: (aR, .inl (kC, 300, .inl fx)) :: tl))) (rq_ (some (.int (nI (sh_wend tx p0))))) 0 0 (fun _ => False) := by
  refine Met.ofW (cc := cR_wordEnd) (maxL := 3) (ret := (some .int)) (by decide) rfl ?_
  intro p e s m args below meth c s₁ B hml hv
  obtain ⟨rfl, hP, hK, hN⟩ := hv
  have hx := B.exec
  have hb := B.bytes
  have hr := B.returns
  have htz : ∀ w ∈ zw, w.before _ s = true := fun w h => atoms_spec (ws := wsR_wordEnd) B.pre w (List.mem_cons_of_mem _ h)
  have hown : s.vm.findClass "ShellSum$Reckoner" = some m.cls := findClass_of_methodNamed B.named
  have hlocks := B.notSynchronized
  have hl := lv_entry ([.ref a0]) (n := 3) (Nat.le_of_ble_eq_true rfl)
  rw [lg_entry_eq]
  generalize (lg_sl ([.ref a0]) ++ List.replicate (3 - (lg_sl ([.ref a0])).length) Slot.unset).toArray = ls at hl ⊢
  have hl : lv_has ls 3 [(0, .ref a0)] := hl
  refine lv_aload_n hx hb dR_wordEnd_0 rfl (lv_at hl 0 rfl) ?_
  refine va_get (D := (dC, dI)) (ci := 2) (v := .int (nI p0)) (C := "ShellSum$Reckoner") (T := TR) (N := 9) hx hb htz zu_R hown hK hP 0 rfl rfl 6 (by decide) (htz _ zw_1_51) (fun _ h9 => h9) rfl dR_wordEnd_1 ?_
  refine lv_istore_n (lv' := [(1, .int (nI p0)), (0, .ref a0)]) hx hb dR_wordEnd_4 rfl hl (by decide) rfl (fun ls hl => ?_)
  refine lv_aload_n hx hb dR_wordEnd_5 rfl (lv_at hl 1 rfl) ?_
  refine va_get (D := (dC, dI)) (ci := 2) (v := .int (nI p0)) (C := "ShellSum$Reckoner") (T := TR) (N := 9) hx hb htz zu_R hown hK hP 0 rfl rfl 6 (by decide) (htz _ zw_1_51) (fun _ h9 => h9) rfl dR_wordEnd_6 ?_
  refine lv_istore_n (lv' := [(2, .int (nI p0)), (1, .int (nI p0)), (0, .ref a0)]) hx hb dR_wordEnd_9 rfl hl (by decide) rfl (fun ls hl => ?_)
  have loop_10 : ∀ (f_loop_10 : Nat) (k : Nat), tx.length - k < f_loop_10 → (k ≤ tx.length) → (sh_wend tx k = sh_wend tx p0) → ∀ ls : Array Slot, lv_has ls 3 [(1, .int (nI k)), (2, .int (nI k)), (0, .ref a0)] → W p l e (headSpec wsR_wordEnd ({ frames := 2, cells := 0, slots := 0, locals := 40 })).room s m ([.ref a0] : List Value).toArray below meth c s.heap [] 0 0 (MQ below (rq_ (some (.int (nI (sh_wend tx p0))))) ([.ref a0] : List Value).toArray s 0 0 (fun _ => False)) (F0 m 10 ls []) := by
    intro f_loop_10
    induction f_loop_10 with
    | zero => intro k hf; exact absurd hf (Nat.not_lt_zero _)
    | succ f_loop_10 ih_loop_10 =>
      intro k hf_loop_10 hk he ls hl
      refine lv_iload_n hx hb dR_wordEnd_10 rfl (lv_at hl 1 rfl) ?_
      refine lv_aload_n hx hb dR_wordEnd_11 rfl (lv_at hl 2 rfl) ?_
      refine va_get (D := (dC, dI)) (ci := 2) (v := .int (nI tx.length)) (C := "ShellSum$Reckoner") (T := TR) (N := 9) hx hb htz zu_R hown hK hP 0 rfl rfl 5 (by decide) (htz _ zw_1_50) (fun _ h9 => h9) rfl dR_wordEnd_12 ?_
      refine lv_icmp_ge (tgt := 39) hx hb dR_wordEnd_15 (by decide) (fun c_1 => ?_) (fun c_1 => ?_)
      · skip
        have e_10 : tx.length ≤ k := xi_le c_1 (by omega) (by omega)
        refine lv_iload_n hx hb dR_wordEnd_39 rfl (lv_at hl 0 rfl) ?_
        have e_s : sh_wend tx p0 = k := by rw [← he]; exact sh_run_stop (Or.inl e_10)
        exact W.iret (v := nI k) hx hb hr (fun t ht _ => ⟨by rw [e_s], ht⟩) t_nil dR_wordEnd_40
      have e_10 : k < tx.length := xi_nle c_1 (by omega) (by omega)
      refine lv_aload_n hx hb dR_wordEnd_18 rfl (lv_at hl 2 rfl) ?_
      refine lv_iload_n hx hb dR_wordEnd_19 rfl (lv_at hl 1 rfl) ?_
      refine rq_call (va_runV (As := [.int (nI k)]) (rest := []) ⟨hx, hb, hml, hown, htz⟩ (k_R_charAt l dC dI kC kI kJ kQ a0 aR aN aS aF wt un rs fx tx tl hx3 hB hfx (nI p0) k (by omega)) (cwV 1 htz (zg_V zw_1_206 zw_1_208 zs_R_charAt zw_1_2 zw_1_209) rfl rfl rfl (by decide +kernel) ⟨Nat.le_of_ble_eq_true rfl, Nat.le_of_ble_eq_true rfl⟩) (zR_V hP hK hN (va_recv hK hP (ci := 2) (q0 := 0) rfl rfl)) rfl rfl hl.1 rfl (lv_room (Nat.le_of_ble_eq_true rfl)) dR_wordEnd_20 ⟨Nat.zero_le _, Nat.zero_le _⟩) ?_
      refine W.eq (g2 := F0 m 23 ls [.int (sh_at tx k)]) rfl ?_
      refine rq_call (va_runSN (As := [.int (sh_at tx k)]) (rest := []) ⟨hx, hb, hml, hown, htz⟩ (k_A_isOfWord l (sh_at tx k)) ⟨va_cnB 1 htz (zg_c zw_1_130) rfl rfl rfl (hN _ zn_1_220) (htz _ zw_1_1) (by decide +kernel) ⟨Nat.le_of_ble_eq_true rfl, Nat.le_of_ble_eq_true rfl⟩, htz _ zw_1_129, trivial⟩ rq_pre rfl rfl hl.1 rfl (lv_room (Nat.le_of_ble_eq_true rfl)) dR_wordEnd_23 ⟨Nat.zero_le _, Nat.zero_le _⟩) ?_
      refine W.eq (g2 := F0 m 26 ls [.int (sh_b (sh_word (sh_at tx k)))]) rfl ?_
      refine lv_if_eq (tgt := 39) hx hb dR_wordEnd_26 (by decide) (fun c_2 => ?_) (fun c_2 => ?_)
      · skip
        refine lv_iload_n hx hb dR_wordEnd_39 rfl (lv_at hl 0 rfl) ?_
        have e_s : sh_wend tx p0 = k := by rw [← he]; exact sh_run_stop (Or.inr (by grind [sh_b]))
        exact W.iret (v := nI k) hx hb hr (fun t ht _ => ⟨by rw [e_s], ht⟩) t_nil dR_wordEnd_40
      refine lv_iload_n hx hb dR_wordEnd_29 rfl (lv_at hl 1 rfl) ?_
      refine lv_iconst (v := 1) hx hb dR_wordEnd_30 (by decide) ?_
      refine lv_iadd hx hb dR_wordEnd_31 ?_
      refine xw_topi (y := nI (k + 1)) (nI_add k 1) ?_
      refine lv_istore_n (lv' := [(1, .int (nI (k + 1))), (2, .int (nI k)), (0, .ref a0)]) hx hb dR_wordEnd_32 rfl hl (by decide) rfl (fun ls hl => ?_)
      refine lv_iinc (v := nI (k + 1)) (lv' := [(2, .int (nI (k + 1))), (1, .int (nI (k + 1))), (0, .ref a0)]) hx hb dR_wordEnd_33 hl (k := 1) rfl (nI_1 k) (by decide) rfl (fun ls hl => ?_)
      refine lv_goto (tgt := 10) hx hb dR_wordEnd_36 (by decide) ?_
      exact ih_loop_10 (k + 1) (by omega) (e_10) (by rw [← he]; exact (sh_run_go e_10 (by grind [sh_b])).symm) ls (lv_sub hl [1, 0, 2] rfl)
  exact loop_10 _ p0 (Nat.lt_succ_self _) (hp0) (rfl) ls (lv_sub hl [1, 0, 2] rfl)
set_option maxHeartbeats 4000000 in
set_option maxRecDepth 100000 in
/-- signOfTwo() -/
theorem k_R_signOfTwo (l : Launch) (dC : Nat → ClassId) (dI : Nat → Nat → Nat) (kC kI kJ kQ : ClassId) (a0 aR aN aS aF : Nat) (wt un : Int32) (rs : Int64) (fx : Nat → Int32) (tx : List Int32) (tl : va_W) (hx3 : tx.length ≤ 300) (hB : sh_B tx) (hfx : ∀ j, j < tx.length → fx j = sh_at tx j) (sz : Nat) (p0 : Nat) (hp0 : p0 ≤ tx.length) : Met l yR_signOfTwo wsR_signOfTwo ({ frames := 2, cells := 0, slots := 0, locals := 42 }) (va_Pc [.ref a0] (zW dC dI ([(kC, .char), (kI, .int), (kJ, .long), (kQ, .object "ShellSum$Named")]) ((a0, .inr (2, [.ref aR, .ref aN, .ref aS, .ref aF, .int wt, .int (nI tx.length), .int (nI p0), .int un, .long rs])) :: (aR, .inl (kC, 300, .inl fx)) :: tl) sz)) (zQ dC dI (va_A ((a0, .inr (2, [.ref aR, .ref aN, .ref aS, .ref aF, .int wt, .int (nI tx.length), .int (nI p0), .int un, .long rs])) :: (aR, .inl (kC, 300, .inl fx)) :: tl) sz) (fun v w => v = some (.int (sh_sign2 tx p0).1) ∧ w = ((a0, .inr (2, [.ref aR, .ref aN, .ref aS, .ref aF, .int wt, .int (nI tx.length), .int (nI (sh_sign2 tx p0).2), .int un, .long rs])) :: (aR, .inl (kC, 300, .inl fx)) :: tl))) 0 0 (va_A ((a0, .inr (2, [.ref aR, .ref aN, .ref aS, .ref aF, .int wt, .int (nI tx.length), .int (nI p0), .int un, .long rs])) :: (aR, .inl (kC, 300, .inl fx)) :: tl) sz) := by
  refine Met.ofW (cc := cR_signOfTwo) (maxL := 3) (ret := (some .int)) (by decide) rfl ?_
  intro p e s m args below meth c s₁ B hml hv
  obtain ⟨rfl, hsz, hP, hK, hD0, hN⟩ := hv
  subst hsz
  have hD := hD0.self (sz := s.heap.size)
  generalize hAe : va_A ((a0, .inr (2, [.ref aR, .ref aN, .ref aS, .ref aF, .int wt, .int (nI tx.length), .int (nI p0), .int un, .long rs])) :: (aR, .inl (kC, 300, .inl fx)) :: tl) s.heap.size = A at hD ⊢
  have hA : ∀ q : Nat, s.heap.size ≤ q → A q := fun q h => by rw [← hAe]; exact Or.inr h
  have hS : va_S A s.heap s.heap [] := va_S.rf
  have hx := B.exec
  have hb := B.bytes
  have hr := B.returns
  have htz : ∀ w ∈ zw, w.before _ s = true := fun w h => atoms_spec (ws := wsR_signOfTwo) B.pre w (List.mem_cons_of_mem _ h)
  have hown : s.vm.findClass "ShellSum$Reckoner" = some m.cls := findClass_of_methodNamed B.named
  have hlocks := B.notSynchronized
  have hl := lv_entry ([.ref a0]) (n := 3) (Nat.le_of_ble_eq_true rfl)
  rw [lg_entry_eq]
  generalize (lg_sl ([.ref a0]) ++ List.replicate (3 - (lg_sl ([.ref a0])).length) Slot.unset).toArray = ls at hl ⊢
  have hq : sh_skip tx p0 ≤ tx.length := sh_skip_le hp0
  have hl : lv_has ls 3 [(0, .ref a0)] := hl
  refine lv_aload_n hx hb dR_signOfTwo_0 rfl (lv_at hl 0 rfl) ?_
  refine zQ_call (va_runV (As := []) (rest := []) ⟨hx, hb, hml, hown, htz⟩ (k_R_skipBlanks l dC dI kC kI kJ kQ a0 aR aN aS aF wt un rs fx tx tl hx3 hB hfx _ p0 hp0) (cwV 0 htz (zg_V zw_1_202 zw_1_204 zs_R_skipBlanks zw_1_2 zw_1_205) rfl rfl rfl (by decide +kernel) ⟨Nat.le_of_ble_eq_true rfl, Nat.le_of_ble_eq_true rfl⟩) (zW_V hP hK hD hN (va_recv hK hP (ci := 2) (q0 := 0) rfl rfl)) rfl rfl hl.1 rfl (lv_room (Nat.le_of_ble_eq_true rfl)) dR_signOfTwo_1 ⟨Nat.zero_le _, Nat.zero_le _⟩) hD hS hA (fun v w H locs hp hP hD hS => ?_)
  obtain ⟨rfl, hw⟩ := hp
  rw [hw] at hP hD
  have hP : va_P (dC, dI) vwCl ((a0, .inr (2, [.ref aR, .ref aN, .ref aS, .ref aF, .int wt, .int (nI tx.length), .int (nI (sh_skip tx p0)), .int un, .long rs])) :: (aR, .inl (kC, 300, .inl fx)) :: tl) H := hP
  have hD : va_D A ((a0, .inr (2, [.ref aR, .ref aN, .ref aS, .ref aF, .int wt, .int (nI tx.length), .int (nI (sh_skip tx p0)), .int un, .long rs])) :: (aR, .inl (kC, 300, .inl fx)) :: tl) := hD
  refine W.eq (g2 := F0 m 4 ls []) rfl ?_
  refine lv_aload_n hx hb dR_signOfTwo_4 rfl (lv_at hl 0 rfl) ?_
  refine lv_aload_n hx hb dR_signOfTwo_5 rfl (lv_at hl 0 rfl) ?_
  refine va_get (D := (dC, dI)) (ci := 2) (v := .int (nI (sh_skip tx p0))) (C := "ShellSum$Reckoner") (T := TR) (N := 9) hx hb htz zu_R hown hK hP 0 rfl rfl 6 (by decide) (htz _ zw_1_51) (fun _ h9 => h9) rfl dR_signOfTwo_6 ?_
  refine rq_call (va_runV (As := [.int (nI (sh_skip tx p0))]) (rest := []) ⟨hx, hb, hml, hown, htz⟩ (k_R_charAt l dC dI kC kI kJ kQ a0 aR aN aS aF wt un rs fx tx tl hx3 hB hfx (nI (sh_skip tx p0)) (sh_skip tx p0) (by omega)) (cwV 1 htz (zg_V zw_1_206 zw_1_208 zs_R_charAt zw_1_2 zw_1_209) rfl rfl rfl (by decide +kernel) ⟨Nat.le_of_ble_eq_true rfl, Nat.le_of_ble_eq_true rfl⟩) (zR_V hP hK hN (va_recv hK hP (ci := 2) (q0 := 0) rfl rfl)) rfl rfl hl.1 rfl (lv_room (Nat.le_of_ble_eq_true rfl)) dR_signOfTwo_9 ⟨Nat.zero_le _, Nat.zero_le _⟩) ?_
  refine W.eq (g2 := F0 m 12 ls [.int (sh_at tx (sh_skip tx p0))]) rfl ?_
  refine lv_istore_n (lv' := [(1, .int (sh_at tx (sh_skip tx p0))), (0, .ref a0)]) hx hb dR_signOfTwo_12 rfl hl (by decide) rfl (fun ls hl => ?_)
  refine lv_iload_n hx hb dR_signOfTwo_13 rfl (lv_at hl 0 rfl) ?_
  refine lv_bipush (v := 8) hx hb dR_signOfTwo_14 (by decide) ?_
  refine lv_ishl hx hb dR_signOfTwo_16 ?_
  refine lv_aload_n hx hb dR_signOfTwo_17 rfl (lv_at hl 1 rfl) ?_
  refine lv_aload_n hx hb dR_signOfTwo_18 rfl (lv_at hl 1 rfl) ?_
  refine va_get (D := (dC, dI)) (ci := 2) (v := .int (nI (sh_skip tx p0))) (C := "ShellSum$Reckoner") (T := TR) (N := 9) hx hb htz zu_R hown hK hP 0 rfl rfl 6 (by decide) (htz _ zw_1_51) (fun _ h9 => h9) rfl dR_signOfTwo_19 ?_
  refine lv_iconst (v := 1) hx hb dR_signOfTwo_22 (by decide) ?_
  refine lv_iadd hx hb dR_signOfTwo_23 ?_
  refine xw_topi (y := nI (sh_skip tx p0 + 1)) (nI_add (sh_skip tx p0) 1) ?_
  refine rq_call (va_runV (As := [.int (nI (sh_skip tx p0 + 1))]) (rest := [.int ((sh_at tx (sh_skip tx p0)) <<< (8 &&& 31))]) ⟨hx, hb, hml, hown, htz⟩ (k_R_charAt l dC dI kC kI kJ kQ a0 aR aN aS aF wt un rs fx tx tl hx3 hB hfx (nI (sh_skip tx p0)) (sh_skip tx p0 + 1) (by omega)) (cwV 1 htz (zg_V zw_1_206 zw_1_208 zs_R_charAt zw_1_2 zw_1_209) rfl rfl rfl (by decide +kernel) ⟨Nat.le_of_ble_eq_true rfl, Nat.le_of_ble_eq_true rfl⟩) (zR_V hP hK hN (va_recv hK hP (ci := 2) (q0 := 0) rfl rfl)) rfl rfl hl.1 rfl (lv_room (Nat.le_of_ble_eq_true rfl)) dR_signOfTwo_24 ⟨Nat.zero_le _, Nat.zero_le _⟩) ?_
  refine W.eq (g2 := F0 m 27 ls [.int (sh_at tx (sh_skip tx p0 + 1)), .int ((sh_at tx (sh_skip tx p0)) <<< (8 &&& 31))]) rfl ?_
  refine lv_ior hx hb dR_signOfTwo_27 ?_
  refine xw_topi (y := sh_two (sh_at tx (sh_skip tx p0)) (sh_at tx (sh_skip tx p0 + 1))) (rfl) ?_
  refine lv_istore_n (lv' := [(2, .int (sh_two (sh_at tx (sh_skip tx p0)) (sh_at tx (sh_skip tx p0 + 1)))), (1, .int (sh_at tx (sh_skip tx p0))), (0, .ref a0)]) hx hb dR_signOfTwo_28 rfl hl (by decide) rfl (fun ls hl => ?_)
  refine lv_iload_n hx hb dR_signOfTwo_29 rfl (lv_at hl 0 rfl) ?_
  have hr_30 := sh_rank_le (sh_two (sh_at tx (sh_skip tx p0)) (sh_at tx (sh_skip tx p0 + 1)))
  refine rq_call (va_runSN (As := [.int (sh_two (sh_at tx (sh_skip tx p0)) (sh_at tx (sh_skip tx p0 + 1)))]) (rest := []) ⟨hx, hb, hml, hown, htz⟩ (k_G_rankOf l (sh_two (sh_at tx (sh_skip tx p0)) (sh_at tx (sh_skip tx p0 + 1)))) ⟨va_cnB 1 htz (zg_c zw_1_230) rfl rfl rfl (hN _ zn_1_228) (htz _ zw_1_5) (by decide +kernel) ⟨Nat.le_of_ble_eq_true rfl, Nat.le_of_ble_eq_true rfl⟩, htz _ zw_1_229, trivial⟩ rq_pre rfl rfl hl.1 rfl (lv_room (Nat.le_of_ble_eq_true rfl)) dR_signOfTwo_30 ⟨Nat.zero_le _, Nat.zero_le _⟩) ?_
  refine W.eq (g2 := F0 m 33 ls [.int (nI (sh_rank (sh_two (sh_at tx (sh_skip tx p0)) (sh_at tx (sh_skip tx p0 + 1)))))]) rfl ?_
  refine lv_if_le (tgt := 72) hx hb dR_signOfTwo_33 (by decide) (fun c_1 => ?_) (fun c_1 => ?_)
  · skip
    have e_33 : sh_rank (sh_two (sh_at tx (sh_skip tx p0)) (sh_at tx (sh_skip tx p0 + 1))) = 0 := Nat.le_zero.mp (xi_le (b := 0) c_1 (by omega) (by decide))
    refine lv_iload_n hx hb dR_signOfTwo_72 rfl (lv_at hl 1 rfl) ?_
    have hr_73 := sh_rank_le (sh_at tx (sh_skip tx p0))
    refine rq_call (va_runSN (As := [.int (sh_at tx (sh_skip tx p0))]) (rest := []) ⟨hx, hb, hml, hown, htz⟩ (k_G_rankOf l (sh_at tx (sh_skip tx p0))) ⟨va_cnB 1 htz (zg_c zw_1_230) rfl rfl rfl (hN _ zn_1_228) (htz _ zw_1_5) (by decide +kernel) ⟨Nat.le_of_ble_eq_true rfl, Nat.le_of_ble_eq_true rfl⟩, htz _ zw_1_229, trivial⟩ rq_pre rfl rfl hl.1 rfl (lv_room (Nat.le_of_ble_eq_true rfl)) dR_signOfTwo_73 ⟨Nat.zero_le _, Nat.zero_le _⟩) ?_
    refine W.eq (g2 := F0 m 76 ls [.int (nI (sh_rank (sh_at tx (sh_skip tx p0))))]) rfl ?_
    refine lv_if_eq (tgt := 94) hx hb dR_signOfTwo_76 (by decide) (fun c_2 => ?_) (fun c_2 => ?_)
    · skip
      have e_76 : sh_rank (sh_at tx (sh_skip tx p0)) = 0 := xi_eq (b := 0) c_2 (by omega) (by decide)
      refine lv_iconst (v := 0) hx hb dR_signOfTwo_94 (by decide) ?_
      have e_s : sh_sign2 tx p0 = (0, sh_skip tx p0) := by grind [sh_sign2]
      refine W.widen (k := 0) (n := 0) (Nat.le_refl _) (Nat.le_refl _) ?_
      exact W.iret (v := 0) hx hb hr (fun t ht _ => ⟨_, _, rfl, ⟨by rw [e_s], by rw [e_s]⟩, by rw [ht]; exact hP, hD, hS.F ht⟩) hS.2.2 dR_signOfTwo_95
    have e_76 : ¬ sh_rank (sh_at tx (sh_skip tx p0)) = 0 := xi_ne (b := 0) c_2 (by omega) (by decide)
    refine lv_aload_n hx hb dR_signOfTwo_79 rfl (lv_at hl 2 rfl) ?_
    refine lv_aload_n hx hb dR_signOfTwo_80 rfl (lv_at hl 2 rfl) ?_
    refine va_get (D := (dC, dI)) (ci := 2) (v := .int (nI (sh_skip tx p0))) (C := "ShellSum$Reckoner") (T := TR) (N := 9) hx hb htz zu_R hown hK hP 0 rfl rfl 6 (by decide) (htz _ zw_1_51) (fun _ h9 => h9) rfl dR_signOfTwo_81 ?_
    refine lv_iconst (v := 1) hx hb dR_signOfTwo_84 (by decide) ?_
    refine lv_iadd hx hb dR_signOfTwo_85 ?_
    refine xw_topi (y := nI (sh_skip tx p0 + 1)) (nI_add (sh_skip tx p0) 1) ?_
    refine rq_call (va_runV (As := [.int (nI (sh_skip tx p0 + 1))]) (rest := []) ⟨hx, hb, hml, hown, htz⟩ (k_R_charAt l dC dI kC kI kJ kQ a0 aR aN aS aF wt un rs fx tx tl hx3 hB hfx (nI (sh_skip tx p0)) (sh_skip tx p0 + 1) (by omega)) (cwV 1 htz (zg_V zw_1_206 zw_1_208 zs_R_charAt zw_1_2 zw_1_209) rfl rfl rfl (by decide +kernel) ⟨Nat.le_of_ble_eq_true rfl, Nat.le_of_ble_eq_true rfl⟩) (zR_V hP hK hN (va_recv hK hP (ci := 2) (q0 := 0) rfl rfl)) rfl rfl hl.1 rfl (lv_room (Nat.le_of_ble_eq_true rfl)) dR_signOfTwo_86 ⟨Nat.zero_le _, Nat.zero_le _⟩) ?_
    refine W.eq (g2 := F0 m 89 ls [.int (sh_at tx (sh_skip tx p0 + 1))]) rfl ?_
    refine lv_bipush (v := 61) hx hb dR_signOfTwo_89 (by decide) ?_
    refine lv_icmp_ne (tgt := 96) hx hb dR_signOfTwo_91 (by decide) (fun c_3 => ?_) (fun c_3 => ?_)
    · skip
      refine lv_aload_n hx hb dR_signOfTwo_96 rfl (lv_at hl 2 rfl) ?_
      refine lv_dup hx hb dR_signOfTwo_97 rfl ?_
      refine va_get (D := (dC, dI)) (ci := 2) (v := .int (nI (sh_skip tx p0))) (C := "ShellSum$Reckoner") (T := TR) (N := 9) hx hb htz zu_R hown hK hP 0 rfl rfl 6 (by decide) (htz _ zw_1_51) (fun _ h9 => h9) rfl dR_signOfTwo_98 ?_
      refine lv_iconst (v := 1) hx hb dR_signOfTwo_101 (by decide) ?_
      refine lv_iadd hx hb dR_signOfTwo_102 ?_
      refine xw_topi (y := nI (sh_skip tx p0 + 1)) (nI_add (sh_skip tx p0) 1) ?_
      refine va_put (D := (dC, dI)) (ci := 2) (v := .int (nI (sh_skip tx p0 + 1))) (ty := .int) (C := "ShellSum$Reckoner") (T := TR) (N := 9) hx hb htz zu_R tyR tyR_ok nmR hown hK hP hD hS 0 rfl rfl 6 (by decide) (htz _ zw_1_51) (fun _ h9 => h9) rfl (by decide +kernel) rfl rfl (Nat.le_of_ble_eq_true rfl) dR_signOfTwo_103 (fun H locs hP hD hS => ?_)
      have hP : va_P (dC, dI) vwCl ((a0, .inr (2, [.ref aR, .ref aN, .ref aS, .ref aF, .int wt, .int (nI tx.length), .int (nI (sh_skip tx p0 + 1)), .int un, .long rs])) :: (aR, .inl (kC, 300, .inl fx)) :: tl) H := hP
      have hD : va_D A ((a0, .inr (2, [.ref aR, .ref aN, .ref aS, .ref aF, .int wt, .int (nI tx.length), .int (nI (sh_skip tx p0 + 1)), .int un, .long rs])) :: (aR, .inl (kC, 300, .inl fx)) :: tl) := hD
      refine lv_iload_n hx hb dR_signOfTwo_106 rfl (lv_at hl 1 rfl) ?_
      have e_s : sh_sign2 tx p0 = (sh_at tx (sh_skip tx p0), sh_skip tx p0 + 1) := by grind [sh_sign2]
      refine W.widen (k := 0) (n := 0) (Nat.le_refl _) (Nat.le_refl _) ?_
      exact W.iret (v := sh_at tx (sh_skip tx p0)) hx hb hr (fun t ht _ => ⟨_, _, rfl, ⟨by rw [e_s], by rw [e_s]⟩, by rw [ht]; exact hP, hD, hS.F ht⟩) hS.2.2 dR_signOfTwo_107
    refine lv_iconst (v := 0) hx hb dR_signOfTwo_94 (by decide) ?_
    have e_s : sh_sign2 tx p0 = (0, sh_skip tx p0) := by grind [sh_sign2]
    refine W.widen (k := 0) (n := 0) (Nat.le_refl _) (Nat.le_refl _) ?_
    exact W.iret (v := 0) hx hb hr (fun t ht _ => ⟨_, _, rfl, ⟨by rw [e_s], by rw [e_s]⟩, by rw [ht]; exact hP, hD, hS.F ht⟩) hS.2.2 dR_signOfTwo_95
  have e_33 : 0 < sh_rank (sh_two (sh_at tx (sh_skip tx p0)) (sh_at tx (sh_skip tx p0 + 1))) := xi_nle (b := 0) c_1 (by omega) (by decide)
  refine lv_iload_n hx hb dR_signOfTwo_36 rfl (lv_at hl 0 rfl) ?_
  refine rq_call (va_runS (As := [.int (sh_two (sh_at tx (sh_skip tx p0)) (sh_at tx (sh_skip tx p0 + 1)))]) (rest := []) ⟨hx, hb, hml, hown, htz⟩ (k_R_isShift l (sh_two (sh_at tx (sh_skip tx p0)) (sh_at tx (sh_skip tx p0 + 1)))) (cwS 1 htz (zg_S zw_1_225 zw_1_226 zw_1_2 zw_1_227) rfl rfl rfl (by decide +kernel) ⟨Nat.le_of_ble_eq_true rfl, Nat.le_of_ble_eq_true rfl⟩) rq_pre rfl rfl hl.1 rfl (lv_room (Nat.le_of_ble_eq_true rfl)) dR_signOfTwo_37 ⟨Nat.zero_le _, Nat.zero_le _⟩) ?_
  refine W.eq (g2 := F0 m 40 ls [.int (sh_b (sh_shift (sh_two (sh_at tx (sh_skip tx p0)) (sh_at tx (sh_skip tx p0 + 1)))))]) rfl ?_
  refine lv_if_eq (tgt := 60) hx hb dR_signOfTwo_40 (by decide) (fun c_4 => ?_) (fun c_4 => ?_)
  · skip
    have e_40 : sh_shift (sh_two (sh_at tx (sh_skip tx p0)) (sh_at tx (sh_skip tx p0 + 1))) = false := by grind [sh_b]
    refine lv_aload_n hx hb dR_signOfTwo_60 rfl (lv_at hl 2 rfl) ?_
    refine lv_dup hx hb dR_signOfTwo_61 rfl ?_
    refine va_get (D := (dC, dI)) (ci := 2) (v := .int (nI (sh_skip tx p0))) (C := "ShellSum$Reckoner") (T := TR) (N := 9) hx hb htz zu_R hown hK hP 0 rfl rfl 6 (by decide) (htz _ zw_1_51) (fun _ h9 => h9) rfl dR_signOfTwo_62 ?_
    refine lv_iconst (v := 2) hx hb dR_signOfTwo_65 (by decide) ?_
    refine lv_iadd hx hb dR_signOfTwo_66 ?_
    refine xw_topi (y := nI (sh_skip tx p0 + 2)) (nI_add (sh_skip tx p0) 2) ?_
    refine va_put (D := (dC, dI)) (ci := 2) (v := .int (nI (sh_skip tx p0 + 2))) (ty := .int) (C := "ShellSum$Reckoner") (T := TR) (N := 9) hx hb htz zu_R tyR tyR_ok nmR hown hK hP hD hS 0 rfl rfl 6 (by decide) (htz _ zw_1_51) (fun _ h9 => h9) rfl (by decide +kernel) rfl rfl (Nat.le_of_ble_eq_true rfl) dR_signOfTwo_67 (fun H locs hP hD hS => ?_)
    have hP : va_P (dC, dI) vwCl ((a0, .inr (2, [.ref aR, .ref aN, .ref aS, .ref aF, .int wt, .int (nI tx.length), .int (nI (sh_skip tx p0 + 2)), .int un, .long rs])) :: (aR, .inl (kC, 300, .inl fx)) :: tl) H := hP
    have hD : va_D A ((a0, .inr (2, [.ref aR, .ref aN, .ref aS, .ref aF, .int wt, .int (nI tx.length), .int (nI (sh_skip tx p0 + 2)), .int un, .long rs])) :: (aR, .inl (kC, 300, .inl fx)) :: tl) := hD
    refine lv_iload_n hx hb dR_signOfTwo_70 rfl (lv_at hl 0 rfl) ?_
    have e_s : sh_sign2 tx p0 = (sh_two (sh_at tx (sh_skip tx p0)) (sh_at tx (sh_skip tx p0 + 1)), sh_skip tx p0 + 2) := by grind [sh_sign2]
    refine W.widen (k := 0) (n := 0) (Nat.le_refl _) (Nat.le_refl _) ?_
    exact W.iret (v := sh_two (sh_at tx (sh_skip tx p0)) (sh_at tx (sh_skip tx p0 + 1))) hx hb hr (fun t ht _ => ⟨_, _, rfl, ⟨by rw [e_s], by rw [e_s]⟩, by rw [ht]; exact hP, hD, hS.F ht⟩) hS.2.2 dR_signOfTwo_71
  have e_40 : sh_shift (sh_two (sh_at tx (sh_skip tx p0)) (sh_at tx (sh_skip tx p0 + 1))) = true := by grind [sh_b]
  refine lv_aload_n hx hb dR_signOfTwo_43 rfl (lv_at hl 2 rfl) ?_
  refine lv_aload_n hx hb dR_signOfTwo_44 rfl (lv_at hl 2 rfl) ?_
  refine va_get (D := (dC, dI)) (ci := 2) (v := .int (nI (sh_skip tx p0))) (C := "ShellSum$Reckoner") (T := TR) (N := 9) hx hb htz zu_R hown hK hP 0 rfl rfl 6 (by decide) (htz _ zw_1_51) (fun _ h9 => h9) rfl dR_signOfTwo_45 ?_
  refine lv_iconst (v := 2) hx hb dR_signOfTwo_48 (by decide) ?_
  refine lv_iadd hx hb dR_signOfTwo_49 ?_
  refine xw_topi (y := nI (sh_skip tx p0 + 2)) (nI_add (sh_skip tx p0) 2) ?_
  refine rq_call (va_runV (As := [.int (nI (sh_skip tx p0 + 2))]) (rest := []) ⟨hx, hb, hml, hown, htz⟩ (k_R_charAt l dC dI kC kI kJ kQ a0 aR aN aS aF wt un rs fx tx tl hx3 hB hfx (nI (sh_skip tx p0)) (sh_skip tx p0 + 2) (by omega)) (cwV 1 htz (zg_V zw_1_206 zw_1_208 zs_R_charAt zw_1_2 zw_1_209) rfl rfl rfl (by decide +kernel) ⟨Nat.le_of_ble_eq_true rfl, Nat.le_of_ble_eq_true rfl⟩) (zR_V hP hK hN (va_recv hK hP (ci := 2) (q0 := 0) rfl rfl)) rfl rfl hl.1 rfl (lv_room (Nat.le_of_ble_eq_true rfl)) dR_signOfTwo_50 ⟨Nat.zero_le _, Nat.zero_le _⟩) ?_
  refine W.eq (g2 := F0 m 53 ls [.int (sh_at tx (sh_skip tx p0 + 2))]) rfl ?_
  refine lv_bipush (v := 61) hx hb dR_signOfTwo_53 (by decide) ?_
  refine lv_icmp_ne (tgt := 60) hx hb dR_signOfTwo_55 (by decide) (fun c_5 => ?_) (fun c_5 => ?_)
  · skip
    refine lv_aload_n hx hb dR_signOfTwo_60 rfl (lv_at hl 2 rfl) ?_
    refine lv_dup hx hb dR_signOfTwo_61 rfl ?_
    refine va_get (D := (dC, dI)) (ci := 2) (v := .int (nI (sh_skip tx p0))) (C := "ShellSum$Reckoner") (T := TR) (N := 9) hx hb htz zu_R hown hK hP 0 rfl rfl 6 (by decide) (htz _ zw_1_51) (fun _ h9 => h9) rfl dR_signOfTwo_62 ?_
    refine lv_iconst (v := 2) hx hb dR_signOfTwo_65 (by decide) ?_
    refine lv_iadd hx hb dR_signOfTwo_66 ?_
    refine xw_topi (y := nI (sh_skip tx p0 + 2)) (nI_add (sh_skip tx p0) 2) ?_
    refine va_put (D := (dC, dI)) (ci := 2) (v := .int (nI (sh_skip tx p0 + 2))) (ty := .int) (C := "ShellSum$Reckoner") (T := TR) (N := 9) hx hb htz zu_R tyR tyR_ok nmR hown hK hP hD hS 0 rfl rfl 6 (by decide) (htz _ zw_1_51) (fun _ h9 => h9) rfl (by decide +kernel) rfl rfl (Nat.le_of_ble_eq_true rfl) dR_signOfTwo_67 (fun H locs hP hD hS => ?_)
    have hP : va_P (dC, dI) vwCl ((a0, .inr (2, [.ref aR, .ref aN, .ref aS, .ref aF, .int wt, .int (nI tx.length), .int (nI (sh_skip tx p0 + 2)), .int un, .long rs])) :: (aR, .inl (kC, 300, .inl fx)) :: tl) H := hP
    have hD : va_D A ((a0, .inr (2, [.ref aR, .ref aN, .ref aS, .ref aF, .int wt, .int (nI tx.length), .int (nI (sh_skip tx p0 + 2)), .int un, .long rs])) :: (aR, .inl (kC, 300, .inl fx)) :: tl) := hD
    refine lv_iload_n hx hb dR_signOfTwo_70 rfl (lv_at hl 0 rfl) ?_
    have e_s : sh_sign2 tx p0 = (sh_two (sh_at tx (sh_skip tx p0)) (sh_at tx (sh_skip tx p0 + 1)), sh_skip tx p0 + 2) := by grind [sh_sign2]
    refine W.widen (k := 0) (n := 0) (Nat.le_refl _) (Nat.le_refl _) ?_
    exact W.iret (v := sh_two (sh_at tx (sh_skip tx p0)) (sh_at tx (sh_skip tx p0 + 1))) hx hb hr (fun t ht _ => ⟨_, _, rfl, ⟨by rw [e_s], by rw [e_s]⟩, by rw [ht]; exact hP, hD, hS.F ht⟩) hS.2.2 dR_signOfTwo_71
  refine lv_iconst (v := 0) hx hb dR_signOfTwo_58 (by decide) ?_
  have e_s : sh_sign2 tx p0 = (0, sh_skip tx p0) := by grind [sh_sign2]
  refine W.widen (k := 0) (n := 0) (Nat.le_refl _) (Nat.le_refl _) ?_
  exact W.iret (v := 0) hx hb hr (fun t ht _ => ⟨_, _, rfl, ⟨by rw [e_s], by rw [e_s]⟩, by rw [ht]; exact hP, hD, hS.F ht⟩) hS.2.2 dR_signOfTwo_59
set_option maxHeartbeats 4000000 in
set_option maxRecDepth 100000 in
/-- assignmentSign() -/
theorem k_R_assignmentSign (l : Launch) (dC : Nat → ClassId) (dI : Nat → Nat → Nat) (kC kI kJ kQ : ClassId) (a0 aR aN aS aF : Nat) (wt un : Int32) (rs : Int64) (fx : Nat → Int32) (tx : List Int32) (tl : va_W) (hx3 : tx.length ≤ 300) (hB : sh_B tx) (hfx : ∀ j, j < tx.length → fx j = sh_at tx j) (sz : Nat) (p0 : Nat) (hp0 : p0 ≤ tx.length) : Met l yR_assignmentSign wsR_assignmentSign ({ frames := 2, cells := 0, slots := 0, locals := 42 }) (va_Pc [.ref a0] (zW dC dI ([(kC, .char), (kI, .int), (kJ, .long), (kQ, .object "ShellSum$Named")]) ((a0, .inr (2, [.ref aR, .ref aN, .ref aS, .ref aF, .int wt, .int (nI tx.length), .int (nI p0), .int un, .long rs])) :: (aR, .inl (kC, 300, .inl fx)) :: tl) sz)) (zQ dC dI (va_A ((a0, .inr (2, [.ref aR, .ref aN, .ref aS, .ref aF, .int wt, .int (nI tx.length), .int (nI p0), .int un, .long rs])) :: (aR, .inl (kC, 300, .inl fx)) :: tl) sz) (fun v w => v = some (.int (sh_signA tx p0).1) ∧ w = ((a0, .inr (2, [.ref aR, .ref aN, .ref aS, .ref aF, .int wt, .int (nI tx.length), .int (nI (sh_signA tx p0).2), .int un, .long rs])) :: (aR, .inl (kC, 300, .inl fx)) :: tl))) 0 0 (va_A ((a0, .inr (2, [.ref aR, .ref aN, .ref aS, .ref aF, .int wt, .int (nI tx.length), .int (nI p0), .int un, .long rs])) :: (aR, .inl (kC, 300, .inl fx)) :: tl) sz) := by
  refine Met.ofW (cc := cR_assignmentSign) (maxL := 4) (ret := (some .int)) (by decide) rfl ?_
  intro p e s m args below meth c s₁ B hml hv
  obtain ⟨rfl, hsz, hP, hK, hD0, hN⟩ := hv
  subst hsz
  have hD := hD0.self (sz := s.heap.size)
  generalize hAe : va_A ((a0, .inr (2, [.ref aR, .ref aN, .ref aS, .ref aF, .int wt, .int (nI tx.length), .int (nI p0), .int un, .long rs])) :: (aR, .inl (kC, 300, .inl fx)) :: tl) s.heap.size = A at hD ⊢
  have hA : ∀ q : Nat, s.heap.size ≤ q → A q := fun q h => by rw [← hAe]; exact Or.inr h
  have hS : va_S A s.heap s.heap [] := va_S.rf
  have hx := B.exec
  have hb := B.bytes
  have hr := B.returns
  have htz : ∀ w ∈ zw, w.before _ s = true := fun w h => atoms_spec (ws := wsR_assignmentSign) B.pre w (List.mem_cons_of_mem _ h)
  have hown : s.vm.findClass "ShellSum$Reckoner" = some m.cls := findClass_of_methodNamed B.named
  have hlocks := B.notSynchronized
  have hl := lv_entry ([.ref a0]) (n := 4) (Nat.le_of_ble_eq_true rfl)
  rw [lg_entry_eq]
  generalize (lg_sl ([.ref a0]) ++ List.replicate (4 - (lg_sl ([.ref a0])).length) Slot.unset).toArray = ls at hl ⊢
  have hq : sh_skip tx p0 ≤ tx.length := sh_skip_le hp0
  have hl : lv_has ls 4 [(0, .ref a0)] := hl
  refine lv_aload_n hx hb dR_assignmentSign_0 rfl (lv_at hl 0 rfl) ?_
  refine zQ_call (va_runV (As := []) (rest := []) ⟨hx, hb, hml, hown, htz⟩ (k_R_skipBlanks l dC dI kC kI kJ kQ a0 aR aN aS aF wt un rs fx tx tl hx3 hB hfx _ p0 hp0) (cwV 0 htz (zg_V zw_1_202 zw_1_204 zs_R_skipBlanks zw_1_2 zw_1_205) rfl rfl rfl (by decide +kernel) ⟨Nat.le_of_ble_eq_true rfl, Nat.le_of_ble_eq_true rfl⟩) (zW_V hP hK hD hN (va_recv hK hP (ci := 2) (q0 := 0) rfl rfl)) rfl rfl hl.1 rfl (lv_room (Nat.le_of_ble_eq_true rfl)) dR_assignmentSign_1 ⟨Nat.zero_le _, Nat.zero_le _⟩) hD hS hA (fun v w H locs hp hP hD hS => ?_)
  obtain ⟨rfl, hw⟩ := hp
  rw [hw] at hP hD
  have hP : va_P (dC, dI) vwCl ((a0, .inr (2, [.ref aR, .ref aN, .ref aS, .ref aF, .int wt, .int (nI tx.length), .int (nI (sh_skip tx p0)), .int un, .long rs])) :: (aR, .inl (kC, 300, .inl fx)) :: tl) H := hP
  have hD : va_D A ((a0, .inr (2, [.ref aR, .ref aN, .ref aS, .ref aF, .int wt, .int (nI tx.length), .int (nI (sh_skip tx p0)), .int un, .long rs])) :: (aR, .inl (kC, 300, .inl fx)) :: tl) := hD
  refine W.eq (g2 := F0 m 4 ls []) rfl ?_
  refine lv_aload_n hx hb dR_assignmentSign_4 rfl (lv_at hl 0 rfl) ?_
  refine lv_aload_n hx hb dR_assignmentSign_5 rfl (lv_at hl 0 rfl) ?_
  refine va_get (D := (dC, dI)) (ci := 2) (v := .int (nI (sh_skip tx p0))) (C := "ShellSum$Reckoner") (T := TR) (N := 9) hx hb htz zu_R hown hK hP 0 rfl rfl 6 (by decide) (htz _ zw_1_51) (fun _ h9 => h9) rfl dR_assignmentSign_6 ?_
  refine rq_call (va_runV (As := [.int (nI (sh_skip tx p0))]) (rest := []) ⟨hx, hb, hml, hown, htz⟩ (k_R_charAt l dC dI kC kI kJ kQ a0 aR aN aS aF wt un rs fx tx tl hx3 hB hfx (nI (sh_skip tx p0)) (sh_skip tx p0) (by omega)) (cwV 1 htz (zg_V zw_1_206 zw_1_208 zs_R_charAt zw_1_2 zw_1_209) rfl rfl rfl (by decide +kernel) ⟨Nat.le_of_ble_eq_true rfl, Nat.le_of_ble_eq_true rfl⟩) (zR_V hP hK hN (va_recv hK hP (ci := 2) (q0 := 0) rfl rfl)) rfl rfl hl.1 rfl (lv_room (Nat.le_of_ble_eq_true rfl)) dR_assignmentSign_9 ⟨Nat.zero_le _, Nat.zero_le _⟩) ?_
  refine W.eq (g2 := F0 m 12 ls [.int (sh_at tx (sh_skip tx p0))]) rfl ?_
  refine lv_istore_n (lv' := [(1, .int (sh_at tx (sh_skip tx p0))), (0, .ref a0)]) hx hb dR_assignmentSign_12 rfl hl (by decide) rfl (fun ls hl => ?_)
  refine lv_aload_n hx hb dR_assignmentSign_13 rfl (lv_at hl 1 rfl) ?_
  refine lv_aload_n hx hb dR_assignmentSign_14 rfl (lv_at hl 1 rfl) ?_
  refine va_get (D := (dC, dI)) (ci := 2) (v := .int (nI (sh_skip tx p0))) (C := "ShellSum$Reckoner") (T := TR) (N := 9) hx hb htz zu_R hown hK hP 0 rfl rfl 6 (by decide) (htz _ zw_1_51) (fun _ h9 => h9) rfl dR_assignmentSign_15 ?_
  refine lv_iconst (v := 1) hx hb dR_assignmentSign_18 (by decide) ?_
  refine lv_iadd hx hb dR_assignmentSign_19 ?_
  refine xw_topi (y := nI (sh_skip tx p0 + 1)) (nI_add (sh_skip tx p0) 1) ?_
  refine rq_call (va_runV (As := [.int (nI (sh_skip tx p0 + 1))]) (rest := []) ⟨hx, hb, hml, hown, htz⟩ (k_R_charAt l dC dI kC kI kJ kQ a0 aR aN aS aF wt un rs fx tx tl hx3 hB hfx (nI (sh_skip tx p0)) (sh_skip tx p0 + 1) (by omega)) (cwV 1 htz (zg_V zw_1_206 zw_1_208 zs_R_charAt zw_1_2 zw_1_209) rfl rfl rfl (by decide +kernel) ⟨Nat.le_of_ble_eq_true rfl, Nat.le_of_ble_eq_true rfl⟩) (zR_V hP hK hN (va_recv hK hP (ci := 2) (q0 := 0) rfl rfl)) rfl rfl hl.1 rfl (lv_room (Nat.le_of_ble_eq_true rfl)) dR_assignmentSign_20 ⟨Nat.zero_le _, Nat.zero_le _⟩) ?_
  refine W.eq (g2 := F0 m 23 ls [.int (sh_at tx (sh_skip tx p0 + 1))]) rfl ?_
  refine lv_istore_n (lv' := [(2, .int (sh_at tx (sh_skip tx p0 + 1))), (1, .int (sh_at tx (sh_skip tx p0))), (0, .ref a0)]) hx hb dR_assignmentSign_23 rfl hl (by decide) rfl (fun ls hl => ?_)
  refine lv_iload_n hx hb dR_assignmentSign_24 rfl (lv_at hl 1 rfl) ?_
  refine lv_bipush (v := 8) hx hb dR_assignmentSign_25 (by decide) ?_
  refine lv_ishl hx hb dR_assignmentSign_27 ?_
  refine lv_iload_n hx hb dR_assignmentSign_28 rfl (lv_at hl 0 rfl) ?_
  refine lv_ior hx hb dR_assignmentSign_29 ?_
  refine xw_topi (y := sh_two (sh_at tx (sh_skip tx p0)) (sh_at tx (sh_skip tx p0 + 1))) (rfl) ?_
  refine lv_istore_n (lv' := [(3, .int (sh_two (sh_at tx (sh_skip tx p0)) (sh_at tx (sh_skip tx p0 + 1)))), (2, .int (sh_at tx (sh_skip tx p0 + 1))), (1, .int (sh_at tx (sh_skip tx p0))), (0, .ref a0)]) hx hb dR_assignmentSign_30 rfl hl (by decide) rfl (fun ls hl => ?_)
  refine lv_iload_n hx hb dR_assignmentSign_31 rfl (lv_at hl 2 rfl) ?_
  refine lv_bipush (v := 61) hx hb dR_assignmentSign_32 (by decide) ?_
  refine lv_icmp_ne (tgt := 55) hx hb dR_assignmentSign_34 (by decide) (fun c_1 => ?_) (fun c_1 => ?_)
  · skip
    refine lv_iload_n hx hb dR_assignmentSign_55 rfl (lv_at hl 0 rfl) ?_
    refine rq_call (va_runS (As := [.int (sh_two (sh_at tx (sh_skip tx p0)) (sh_at tx (sh_skip tx p0 + 1)))]) (rest := []) ⟨hx, hb, hml, hown, htz⟩ (k_R_isShift l (sh_two (sh_at tx (sh_skip tx p0)) (sh_at tx (sh_skip tx p0 + 1)))) (cwS 1 htz (zg_S zw_1_225 zw_1_226 zw_1_2 zw_1_227) rfl rfl rfl (by decide +kernel) ⟨Nat.le_of_ble_eq_true rfl, Nat.le_of_ble_eq_true rfl⟩) rq_pre rfl rfl hl.1 rfl (lv_room (Nat.le_of_ble_eq_true rfl)) dR_assignmentSign_56 ⟨Nat.zero_le _, Nat.zero_le _⟩) ?_
    refine W.eq (g2 := F0 m 59 ls [.int (sh_b (sh_shift (sh_two (sh_at tx (sh_skip tx p0)) (sh_at tx (sh_skip tx p0 + 1)))))]) rfl ?_
    refine lv_if_eq (tgt := 89) hx hb dR_assignmentSign_59 (by decide) (fun c_2 => ?_) (fun c_2 => ?_)
    · skip
      have e_59 : sh_shift (sh_two (sh_at tx (sh_skip tx p0)) (sh_at tx (sh_skip tx p0 + 1))) = false := by grind [sh_b]
      refine lv_iload_n hx hb dR_assignmentSign_89 rfl (lv_at hl 1 rfl) ?_
      refine lv_bipush (v := 61) hx hb dR_assignmentSign_90 (by decide) ?_
      refine lv_icmp_ne (tgt := 126) hx hb dR_assignmentSign_92 (by decide) (fun c_3 => ?_) (fun c_3 => ?_)
      · skip
        refine lv_iconst (v := 0) hx hb dR_assignmentSign_126 (by decide) ?_
        have e_s : sh_signA tx p0 = (0, sh_skip tx p0) := by grind [sh_signA]
        refine W.widen (k := 0) (n := 0) (Nat.le_refl _) (Nat.le_refl _) ?_
        exact W.iret (v := 0) hx hb hr (fun t ht _ => ⟨_, _, rfl, ⟨by rw [e_s], by rw [e_s]⟩, by rw [ht]; exact hP, hD, hS.F ht⟩) hS.2.2 dR_assignmentSign_127
      refine lv_iload_n hx hb dR_assignmentSign_95 rfl (lv_at hl 2 rfl) ?_
      refine lv_bipush (v := 60) hx hb dR_assignmentSign_96 (by decide) ?_
      refine lv_icmp_eq (tgt := 126) hx hb dR_assignmentSign_98 (by decide) (fun c_4 => ?_) (fun c_4 => ?_)
      · skip
        refine lv_iconst (v := 0) hx hb dR_assignmentSign_126 (by decide) ?_
        have e_s : sh_signA tx p0 = (0, sh_skip tx p0) := by grind [sh_signA]
        refine W.widen (k := 0) (n := 0) (Nat.le_refl _) (Nat.le_refl _) ?_
        exact W.iret (v := 0) hx hb hr (fun t ht _ => ⟨_, _, rfl, ⟨by rw [e_s], by rw [e_s]⟩, by rw [ht]; exact hP, hD, hS.F ht⟩) hS.2.2 dR_assignmentSign_127
      refine lv_iload_n hx hb dR_assignmentSign_101 rfl (lv_at hl 2 rfl) ?_
      refine lv_bipush (v := 62) hx hb dR_assignmentSign_102 (by decide) ?_
      refine lv_icmp_eq (tgt := 126) hx hb dR_assignmentSign_104 (by decide) (fun c_5 => ?_) (fun c_5 => ?_)
      · skip
        refine lv_iconst (v := 0) hx hb dR_assignmentSign_126 (by decide) ?_
        have e_s : sh_signA tx p0 = (0, sh_skip tx p0) := by grind [sh_signA]
        refine W.widen (k := 0) (n := 0) (Nat.le_refl _) (Nat.le_refl _) ?_
        exact W.iret (v := 0) hx hb hr (fun t ht _ => ⟨_, _, rfl, ⟨by rw [e_s], by rw [e_s]⟩, by rw [ht]; exact hP, hD, hS.F ht⟩) hS.2.2 dR_assignmentSign_127
      refine lv_iload_n hx hb dR_assignmentSign_107 rfl (lv_at hl 2 rfl) ?_
      have hr_108 := sh_rank_le (sh_at tx (sh_skip tx p0))
      refine rq_call (va_runSN (As := [.int (sh_at tx (sh_skip tx p0))]) (rest := []) ⟨hx, hb, hml, hown, htz⟩ (k_G_rankOf l (sh_at tx (sh_skip tx p0))) ⟨va_cnB 1 htz (zg_c zw_1_230) rfl rfl rfl (hN _ zn_1_228) (htz _ zw_1_5) (by decide +kernel) ⟨Nat.le_of_ble_eq_true rfl, Nat.le_of_ble_eq_true rfl⟩, htz _ zw_1_229, trivial⟩ rq_pre rfl rfl hl.1 rfl (lv_room (Nat.le_of_ble_eq_true rfl)) dR_assignmentSign_108 ⟨Nat.zero_le _, Nat.zero_le _⟩) ?_
      refine W.eq (g2 := F0 m 111 ls [.int (nI (sh_rank (sh_at tx (sh_skip tx p0))))]) rfl ?_
      refine lv_if_le (tgt := 126) hx hb dR_assignmentSign_111 (by decide) (fun c_6 => ?_) (fun c_6 => ?_)
      · skip
        have e_111 : sh_rank (sh_at tx (sh_skip tx p0)) = 0 := Nat.le_zero.mp (xi_le (b := 0) c_6 (by omega) (by decide))
        refine lv_iconst (v := 0) hx hb dR_assignmentSign_126 (by decide) ?_
        have e_s : sh_signA tx p0 = (0, sh_skip tx p0) := by grind [sh_signA]
        refine W.widen (k := 0) (n := 0) (Nat.le_refl _) (Nat.le_refl _) ?_
        exact W.iret (v := 0) hx hb hr (fun t ht _ => ⟨_, _, rfl, ⟨by rw [e_s], by rw [e_s]⟩, by rw [ht]; exact hP, hD, hS.F ht⟩) hS.2.2 dR_assignmentSign_127
      have e_111 : 0 < sh_rank (sh_at tx (sh_skip tx p0)) := xi_nle (b := 0) c_6 (by omega) (by decide)
      refine lv_aload_n hx hb dR_assignmentSign_114 rfl (lv_at hl 3 rfl) ?_
      refine lv_dup hx hb dR_assignmentSign_115 rfl ?_
      refine va_get (D := (dC, dI)) (ci := 2) (v := .int (nI (sh_skip tx p0))) (C := "ShellSum$Reckoner") (T := TR) (N := 9) hx hb htz zu_R hown hK hP 0 rfl rfl 6 (by decide) (htz _ zw_1_51) (fun _ h9 => h9) rfl dR_assignmentSign_116 ?_
      refine lv_iconst (v := 2) hx hb dR_assignmentSign_119 (by decide) ?_
      refine lv_iadd hx hb dR_assignmentSign_120 ?_
      refine xw_topi (y := nI (sh_skip tx p0 + 2)) (nI_add (sh_skip tx p0) 2) ?_
      refine va_put (D := (dC, dI)) (ci := 2) (v := .int (nI (sh_skip tx p0 + 2))) (ty := .int) (C := "ShellSum$Reckoner") (T := TR) (N := 9) hx hb htz zu_R tyR tyR_ok nmR hown hK hP hD hS 0 rfl rfl 6 (by decide) (htz _ zw_1_51) (fun _ h9 => h9) rfl (by decide +kernel) rfl rfl (Nat.le_of_ble_eq_true rfl) dR_assignmentSign_121 (fun H locs hP hD hS => ?_)
      have hP : va_P (dC, dI) vwCl ((a0, .inr (2, [.ref aR, .ref aN, .ref aS, .ref aF, .int wt, .int (nI tx.length), .int (nI (sh_skip tx p0 + 2)), .int un, .long rs])) :: (aR, .inl (kC, 300, .inl fx)) :: tl) H := hP
      have hD : va_D A ((a0, .inr (2, [.ref aR, .ref aN, .ref aS, .ref aF, .int wt, .int (nI tx.length), .int (nI (sh_skip tx p0 + 2)), .int un, .long rs])) :: (aR, .inl (kC, 300, .inl fx)) :: tl) := hD
      refine lv_iload_n hx hb dR_assignmentSign_124 rfl (lv_at hl 2 rfl) ?_
      have e_s : sh_signA tx p0 = (sh_at tx (sh_skip tx p0), sh_skip tx p0 + 2) := by grind [sh_signA]
      refine W.widen (k := 0) (n := 0) (Nat.le_refl _) (Nat.le_refl _) ?_
      exact W.iret (v := sh_at tx (sh_skip tx p0)) hx hb hr (fun t ht _ => ⟨_, _, rfl, ⟨by rw [e_s], by rw [e_s]⟩, by rw [ht]; exact hP, hD, hS.F ht⟩) hS.2.2 dR_assignmentSign_125
    have e_59 : sh_shift (sh_two (sh_at tx (sh_skip tx p0)) (sh_at tx (sh_skip tx p0 + 1))) = true := by grind [sh_b]
    refine lv_aload_n hx hb dR_assignmentSign_62 rfl (lv_at hl 3 rfl) ?_
    refine lv_aload_n hx hb dR_assignmentSign_63 rfl (lv_at hl 3 rfl) ?_
    refine va_get (D := (dC, dI)) (ci := 2) (v := .int (nI (sh_skip tx p0))) (C := "ShellSum$Reckoner") (T := TR) (N := 9) hx hb htz zu_R hown hK hP 0 rfl rfl 6 (by decide) (htz _ zw_1_51) (fun _ h9 => h9) rfl dR_assignmentSign_64 ?_
    refine lv_iconst (v := 2) hx hb dR_assignmentSign_67 (by decide) ?_
    refine lv_iadd hx hb dR_assignmentSign_68 ?_
    refine xw_topi (y := nI (sh_skip tx p0 + 2)) (nI_add (sh_skip tx p0) 2) ?_
    refine rq_call (va_runV (As := [.int (nI (sh_skip tx p0 + 2))]) (rest := []) ⟨hx, hb, hml, hown, htz⟩ (k_R_charAt l dC dI kC kI kJ kQ a0 aR aN aS aF wt un rs fx tx tl hx3 hB hfx (nI (sh_skip tx p0)) (sh_skip tx p0 + 2) (by omega)) (cwV 1 htz (zg_V zw_1_206 zw_1_208 zs_R_charAt zw_1_2 zw_1_209) rfl rfl rfl (by decide +kernel) ⟨Nat.le_of_ble_eq_true rfl, Nat.le_of_ble_eq_true rfl⟩) (zR_V hP hK hN (va_recv hK hP (ci := 2) (q0 := 0) rfl rfl)) rfl rfl hl.1 rfl (lv_room (Nat.le_of_ble_eq_true rfl)) dR_assignmentSign_69 ⟨Nat.zero_le _, Nat.zero_le _⟩) ?_
    refine W.eq (g2 := F0 m 72 ls [.int (sh_at tx (sh_skip tx p0 + 2))]) rfl ?_
    refine lv_bipush (v := 61) hx hb dR_assignmentSign_72 (by decide) ?_
    refine lv_icmp_ne (tgt := 89) hx hb dR_assignmentSign_74 (by decide) (fun c_7 => ?_) (fun c_7 => ?_)
    · skip
      refine lv_iload_n hx hb dR_assignmentSign_89 rfl (lv_at hl 1 rfl) ?_
      refine lv_bipush (v := 61) hx hb dR_assignmentSign_90 (by decide) ?_
      refine lv_icmp_ne (tgt := 126) hx hb dR_assignmentSign_92 (by decide) (fun c_8 => ?_) (fun c_8 => ?_)
      · skip
        refine lv_iconst (v := 0) hx hb dR_assignmentSign_126 (by decide) ?_
        have e_s : sh_signA tx p0 = (0, sh_skip tx p0) := by grind [sh_signA]
        refine W.widen (k := 0) (n := 0) (Nat.le_refl _) (Nat.le_refl _) ?_
        exact W.iret (v := 0) hx hb hr (fun t ht _ => ⟨_, _, rfl, ⟨by rw [e_s], by rw [e_s]⟩, by rw [ht]; exact hP, hD, hS.F ht⟩) hS.2.2 dR_assignmentSign_127
      refine lv_iload_n hx hb dR_assignmentSign_95 rfl (lv_at hl 2 rfl) ?_
      refine lv_bipush (v := 60) hx hb dR_assignmentSign_96 (by decide) ?_
      refine lv_icmp_eq (tgt := 126) hx hb dR_assignmentSign_98 (by decide) (fun c_9 => ?_) (fun c_9 => ?_)
      · skip
        refine lv_iconst (v := 0) hx hb dR_assignmentSign_126 (by decide) ?_
        have e_s : sh_signA tx p0 = (0, sh_skip tx p0) := by grind [sh_signA]
        refine W.widen (k := 0) (n := 0) (Nat.le_refl _) (Nat.le_refl _) ?_
        exact W.iret (v := 0) hx hb hr (fun t ht _ => ⟨_, _, rfl, ⟨by rw [e_s], by rw [e_s]⟩, by rw [ht]; exact hP, hD, hS.F ht⟩) hS.2.2 dR_assignmentSign_127
      refine lv_iload_n hx hb dR_assignmentSign_101 rfl (lv_at hl 2 rfl) ?_
      refine lv_bipush (v := 62) hx hb dR_assignmentSign_102 (by decide) ?_
      refine lv_icmp_eq (tgt := 126) hx hb dR_assignmentSign_104 (by decide) (fun c_10 => ?_) (fun c_10 => ?_)
      · skip
        refine lv_iconst (v := 0) hx hb dR_assignmentSign_126 (by decide) ?_
        have e_s : sh_signA tx p0 = (0, sh_skip tx p0) := by grind [sh_signA]
        refine W.widen (k := 0) (n := 0) (Nat.le_refl _) (Nat.le_refl _) ?_
        exact W.iret (v := 0) hx hb hr (fun t ht _ => ⟨_, _, rfl, ⟨by rw [e_s], by rw [e_s]⟩, by rw [ht]; exact hP, hD, hS.F ht⟩) hS.2.2 dR_assignmentSign_127
      refine lv_iload_n hx hb dR_assignmentSign_107 rfl (lv_at hl 2 rfl) ?_
      have hr_108 := sh_rank_le (sh_at tx (sh_skip tx p0))
      refine rq_call (va_runSN (As := [.int (sh_at tx (sh_skip tx p0))]) (rest := []) ⟨hx, hb, hml, hown, htz⟩ (k_G_rankOf l (sh_at tx (sh_skip tx p0))) ⟨va_cnB 1 htz (zg_c zw_1_230) rfl rfl rfl (hN _ zn_1_228) (htz _ zw_1_5) (by decide +kernel) ⟨Nat.le_of_ble_eq_true rfl, Nat.le_of_ble_eq_true rfl⟩, htz _ zw_1_229, trivial⟩ rq_pre rfl rfl hl.1 rfl (lv_room (Nat.le_of_ble_eq_true rfl)) dR_assignmentSign_108 ⟨Nat.zero_le _, Nat.zero_le _⟩) ?_
      refine W.eq (g2 := F0 m 111 ls [.int (nI (sh_rank (sh_at tx (sh_skip tx p0))))]) rfl ?_
      refine lv_if_le (tgt := 126) hx hb dR_assignmentSign_111 (by decide) (fun c_11 => ?_) (fun c_11 => ?_)
      · skip
        have e_111 : sh_rank (sh_at tx (sh_skip tx p0)) = 0 := Nat.le_zero.mp (xi_le (b := 0) c_11 (by omega) (by decide))
        refine lv_iconst (v := 0) hx hb dR_assignmentSign_126 (by decide) ?_
        have e_s : sh_signA tx p0 = (0, sh_skip tx p0) := by grind [sh_signA]
        refine W.widen (k := 0) (n := 0) (Nat.le_refl _) (Nat.le_refl _) ?_
        exact W.iret (v := 0) hx hb hr (fun t ht _ => ⟨_, _, rfl, ⟨by rw [e_s], by rw [e_s]⟩, by rw [ht]; exact hP, hD, hS.F ht⟩) hS.2.2 dR_assignmentSign_127
      have e_111 : 0 < sh_rank (sh_at tx (sh_skip tx p0)) := xi_nle (b := 0) c_11 (by omega) (by decide)
      refine lv_aload_n hx hb dR_assignmentSign_114 rfl (lv_at hl 3 rfl) ?_
      refine lv_dup hx hb dR_assignmentSign_115 rfl ?_
      refine va_get (D := (dC, dI)) (ci := 2) (v := .int (nI (sh_skip tx p0))) (C := "ShellSum$Reckoner") (T := TR) (N := 9) hx hb htz zu_R hown hK hP 0 rfl rfl 6 (by decide) (htz _ zw_1_51) (fun _ h9 => h9) rfl dR_assignmentSign_116 ?_
      refine lv_iconst (v := 2) hx hb dR_assignmentSign_119 (by decide) ?_
      refine lv_iadd hx hb dR_assignmentSign_120 ?_
      refine xw_topi (y := nI (sh_skip tx p0 + 2)) (nI_add (sh_skip tx p0) 2) ?_
      refine va_put (D := (dC, dI)) (ci := 2) (v := .int (nI (sh_skip tx p0 + 2))) (ty := .int) (C := "ShellSum$Reckoner") (T := TR) (N := 9) hx hb htz zu_R tyR tyR_ok nmR hown hK hP hD hS 0 rfl rfl 6 (by decide) (htz _ zw_1_51) (fun _ h9 => h9) rfl (by decide +kernel) rfl rfl (Nat.le_of_ble_eq_true rfl) dR_assignmentSign_121 (fun H locs hP hD hS => ?_)
      have hP : va_P (dC, dI) vwCl ((a0, .inr (2, [.ref aR, .ref aN, .ref aS, .ref aF, .int wt, .int (nI tx.length), .int (nI (sh_skip tx p0 + 2)), .int un, .long rs])) :: (aR, .inl (kC, 300, .inl fx)) :: tl) H := hP
      have hD : va_D A ((a0, .inr (2, [.ref aR, .ref aN, .ref aS, .ref aF, .int wt, .int (nI tx.length), .int (nI (sh_skip tx p0 + 2)), .int un, .long rs])) :: (aR, .inl (kC, 300, .inl fx)) :: tl) := hD
      refine lv_iload_n hx hb dR_assignmentSign_124 rfl (lv_at hl 2 rfl) ?_
      have e_s : sh_signA tx p0 = (sh_at tx (sh_skip tx p0), sh_skip tx p0 + 2) := by grind [sh_signA]
      refine W.widen (k := 0) (n := 0) (Nat.le_refl _) (Nat.le_refl _) ?_
      exact W.iret (v := sh_at tx (sh_skip tx p0)) hx hb hr (fun t ht _ => ⟨_, _, rfl, ⟨by rw [e_s], by rw [e_s]⟩, by rw [ht]; exact hP, hD, hS.F ht⟩) hS.2.2 dR_assignmentSign_125
    refine lv_aload_n hx hb dR_assignmentSign_77 rfl (lv_at hl 3 rfl) ?_
    refine lv_dup hx hb dR_assignmentSign_78 rfl ?_
    refine va_get (D := (dC, dI)) (ci := 2) (v := .int (nI (sh_skip tx p0))) (C := "ShellSum$Reckoner") (T := TR) (N := 9) hx hb htz zu_R hown hK hP 0 rfl rfl 6 (by decide) (htz _ zw_1_51) (fun _ h9 => h9) rfl dR_assignmentSign_79 ?_
    refine lv_iconst (v := 3) hx hb dR_assignmentSign_82 (by decide) ?_
    refine lv_iadd hx hb dR_assignmentSign_83 ?_
    refine xw_topi (y := nI (sh_skip tx p0 + 3)) (nI_add (sh_skip tx p0) 3) ?_
    refine va_put (D := (dC, dI)) (ci := 2) (v := .int (nI (sh_skip tx p0 + 3))) (ty := .int) (C := "ShellSum$Reckoner") (T := TR) (N := 9) hx hb htz zu_R tyR tyR_ok nmR hown hK hP hD hS 0 rfl rfl 6 (by decide) (htz _ zw_1_51) (fun _ h9 => h9) rfl (by decide +kernel) rfl rfl (Nat.le_of_ble_eq_true rfl) dR_assignmentSign_84 (fun H locs hP hD hS => ?_)
    have hP : va_P (dC, dI) vwCl ((a0, .inr (2, [.ref aR, .ref aN, .ref aS, .ref aF, .int wt, .int (nI tx.length), .int (nI (sh_skip tx p0 + 3)), .int un, .long rs])) :: (aR, .inl (kC, 300, .inl fx)) :: tl) H := hP
    have hD : va_D A ((a0, .inr (2, [.ref aR, .ref aN, .ref aS, .ref aF, .int wt, .int (nI tx.length), .int (nI (sh_skip tx p0 + 3)), .int un, .long rs])) :: (aR, .inl (kC, 300, .inl fx)) :: tl) := hD
    refine lv_iload_n hx hb dR_assignmentSign_87 rfl (lv_at hl 0 rfl) ?_
    have e_s : sh_signA tx p0 = (sh_two (sh_at tx (sh_skip tx p0)) (sh_at tx (sh_skip tx p0 + 1)), sh_skip tx p0 + 3) := by grind [sh_signA]
    refine W.widen (k := 0) (n := 0) (Nat.le_refl _) (Nat.le_refl _) ?_
    exact W.iret (v := sh_two (sh_at tx (sh_skip tx p0)) (sh_at tx (sh_skip tx p0 + 1))) hx hb hr (fun t ht _ => ⟨_, _, rfl, ⟨by rw [e_s], by rw [e_s]⟩, by rw [ht]; exact hP, hD, hS.F ht⟩) hS.2.2 dR_assignmentSign_88
  refine lv_iload_n hx hb dR_assignmentSign_37 rfl (lv_at hl 1 rfl) ?_
  refine lv_bipush (v := 61) hx hb dR_assignmentSign_38 (by decide) ?_
  refine lv_icmp_eq (tgt := 55) hx hb dR_assignmentSign_40 (by decide) (fun c_12 => ?_) (fun c_12 => ?_)
  · skip
    refine lv_iload_n hx hb dR_assignmentSign_55 rfl (lv_at hl 0 rfl) ?_
    refine rq_call (va_runS (As := [.int (sh_two (sh_at tx (sh_skip tx p0)) (sh_at tx (sh_skip tx p0 + 1)))]) (rest := []) ⟨hx, hb, hml, hown, htz⟩ (k_R_isShift l (sh_two (sh_at tx (sh_skip tx p0)) (sh_at tx (sh_skip tx p0 + 1)))) (cwS 1 htz (zg_S zw_1_225 zw_1_226 zw_1_2 zw_1_227) rfl rfl rfl (by decide +kernel) ⟨Nat.le_of_ble_eq_true rfl, Nat.le_of_ble_eq_true rfl⟩) rq_pre rfl rfl hl.1 rfl (lv_room (Nat.le_of_ble_eq_true rfl)) dR_assignmentSign_56 ⟨Nat.zero_le _, Nat.zero_le _⟩) ?_
    refine W.eq (g2 := F0 m 59 ls [.int (sh_b (sh_shift (sh_two (sh_at tx (sh_skip tx p0)) (sh_at tx (sh_skip tx p0 + 1)))))]) rfl ?_
    refine lv_if_eq (tgt := 89) hx hb dR_assignmentSign_59 (by decide) (fun c_13 => ?_) (fun c_13 => ?_)
    · skip
      have e_59 : sh_shift (sh_two (sh_at tx (sh_skip tx p0)) (sh_at tx (sh_skip tx p0 + 1))) = false := by grind [sh_b]
      refine lv_iload_n hx hb dR_assignmentSign_89 rfl (lv_at hl 1 rfl) ?_
      refine lv_bipush (v := 61) hx hb dR_assignmentSign_90 (by decide) ?_
      refine lv_icmp_ne (tgt := 126) hx hb dR_assignmentSign_92 (by decide) (fun c_14 => ?_) (fun c_14 => ?_)
      · skip
        refine lv_iconst (v := 0) hx hb dR_assignmentSign_126 (by decide) ?_
        have e_s : sh_signA tx p0 = (0, sh_skip tx p0) := by grind [sh_signA]
        refine W.widen (k := 0) (n := 0) (Nat.le_refl _) (Nat.le_refl _) ?_
        exact W.iret (v := 0) hx hb hr (fun t ht _ => ⟨_, _, rfl, ⟨by rw [e_s], by rw [e_s]⟩, by rw [ht]; exact hP, hD, hS.F ht⟩) hS.2.2 dR_assignmentSign_127
      refine lv_iload_n hx hb dR_assignmentSign_95 rfl (lv_at hl 2 rfl) ?_
      refine lv_bipush (v := 60) hx hb dR_assignmentSign_96 (by decide) ?_
      refine lv_icmp_eq (tgt := 126) hx hb dR_assignmentSign_98 (by decide) (fun c_15 => ?_) (fun c_15 => ?_)
      · skip
        refine lv_iconst (v := 0) hx hb dR_assignmentSign_126 (by decide) ?_
        have e_s : sh_signA tx p0 = (0, sh_skip tx p0) := by grind [sh_signA]
        refine W.widen (k := 0) (n := 0) (Nat.le_refl _) (Nat.le_refl _) ?_
        exact W.iret (v := 0) hx hb hr (fun t ht _ => ⟨_, _, rfl, ⟨by rw [e_s], by rw [e_s]⟩, by rw [ht]; exact hP, hD, hS.F ht⟩) hS.2.2 dR_assignmentSign_127
      refine lv_iload_n hx hb dR_assignmentSign_101 rfl (lv_at hl 2 rfl) ?_
      refine lv_bipush (v := 62) hx hb dR_assignmentSign_102 (by decide) ?_
      refine lv_icmp_eq (tgt := 126) hx hb dR_assignmentSign_104 (by decide) (fun c_16 => ?_) (fun c_16 => ?_)
      · skip
        refine lv_iconst (v := 0) hx hb dR_assignmentSign_126 (by decide) ?_
        have e_s : sh_signA tx p0 = (0, sh_skip tx p0) := by grind [sh_signA]
        refine W.widen (k := 0) (n := 0) (Nat.le_refl _) (Nat.le_refl _) ?_
        exact W.iret (v := 0) hx hb hr (fun t ht _ => ⟨_, _, rfl, ⟨by rw [e_s], by rw [e_s]⟩, by rw [ht]; exact hP, hD, hS.F ht⟩) hS.2.2 dR_assignmentSign_127
      refine lv_iload_n hx hb dR_assignmentSign_107 rfl (lv_at hl 2 rfl) ?_
      have hr_108 := sh_rank_le (sh_at tx (sh_skip tx p0))
      refine rq_call (va_runSN (As := [.int (sh_at tx (sh_skip tx p0))]) (rest := []) ⟨hx, hb, hml, hown, htz⟩ (k_G_rankOf l (sh_at tx (sh_skip tx p0))) ⟨va_cnB 1 htz (zg_c zw_1_230) rfl rfl rfl (hN _ zn_1_228) (htz _ zw_1_5) (by decide +kernel) ⟨Nat.le_of_ble_eq_true rfl, Nat.le_of_ble_eq_true rfl⟩, htz _ zw_1_229, trivial⟩ rq_pre rfl rfl hl.1 rfl (lv_room (Nat.le_of_ble_eq_true rfl)) dR_assignmentSign_108 ⟨Nat.zero_le _, Nat.zero_le _⟩) ?_
      refine W.eq (g2 := F0 m 111 ls [.int (nI (sh_rank (sh_at tx (sh_skip tx p0))))]) rfl ?_
      refine lv_if_le (tgt := 126) hx hb dR_assignmentSign_111 (by decide) (fun c_17 => ?_) (fun c_17 => ?_)
      · skip
        have e_111 : sh_rank (sh_at tx (sh_skip tx p0)) = 0 := Nat.le_zero.mp (xi_le (b := 0) c_17 (by omega) (by decide))
        refine lv_iconst (v := 0) hx hb dR_assignmentSign_126 (by decide) ?_
        have e_s : sh_signA tx p0 = (0, sh_skip tx p0) := by grind [sh_signA]
        refine W.widen (k := 0) (n := 0) (Nat.le_refl _) (Nat.le_refl _) ?_
        exact W.iret (v := 0) hx hb hr (fun t ht _ => ⟨_, _, rfl, ⟨by rw [e_s], by rw [e_s]⟩, by rw [ht]; exact hP, hD, hS.F ht⟩) hS.2.2 dR_assignmentSign_127
      have e_111 : 0 < sh_rank (sh_at tx (sh_skip tx p0)) := xi_nle (b := 0) c_17 (by omega) (by decide)
      refine lv_aload_n hx hb dR_assignmentSign_114 rfl (lv_at hl 3 rfl) ?_
      refine lv_dup hx hb dR_assignmentSign_115 rfl ?_
      refine va_get (D := (dC, dI)) (ci := 2) (v := .int (nI (sh_skip tx p0))) (C := "ShellSum$Reckoner") (T := TR) (N := 9) hx hb htz zu_R hown hK hP 0 rfl rfl 6 (by decide) (htz _ zw_1_51) (fun _ h9 => h9) rfl dR_assignmentSign_116 ?_
      refine lv_iconst (v := 2) hx hb dR_assignmentSign_119 (by decide) ?_
      refine lv_iadd hx hb dR_assignmentSign_120 ?_
      refine xw_topi (y := nI (sh_skip tx p0 + 2)) (nI_add (sh_skip tx p0) 2) ?_
      refine va_put (D := (dC, dI)) (ci := 2) (v := .int (nI (sh_skip tx p0 + 2))) (ty := .int) (C := "ShellSum$Reckoner") (T := TR) (N := 9) hx hb htz zu_R tyR tyR_ok nmR hown hK hP hD hS 0 rfl rfl 6 (by decide) (htz _ zw_1_51) (fun _ h9 => h9) rfl (by decide +kernel) rfl rfl (Nat.le_of_ble_eq_true rfl) dR_assignmentSign_121 (fun H locs hP hD hS => ?_)
      have hP : va_P (dC, dI) vwCl ((a0, .inr (2, [.ref aR, .ref aN, .ref aS, .ref aF, .int wt, .int (nI tx.length), .int (nI (sh_skip tx p0 + 2)), .int un, .long rs])) :: (aR, .inl (kC, 300, .inl fx)) :: tl) H := hP
      have hD : va_D A ((a0, .inr (2, [.ref aR, .ref aN, .ref aS, .ref aF, .int wt, .int (nI tx.length), .int (nI (sh_skip tx p0 + 2)), .int un, .long rs])) :: (aR, .inl (kC, 300, .inl fx)) :: tl) := hD
      refine lv_iload_n hx hb dR_assignmentSign_124 rfl (lv_at hl 2 rfl) ?_
      have e_s : sh_signA tx p0 = (sh_at tx (sh_skip tx p0), sh_skip tx p0 + 2) := by grind [sh_signA]
      refine W.widen (k := 0) (n := 0) (Nat.le_refl _) (Nat.le_refl _) ?_
      exact W.iret (v := sh_at tx (sh_skip tx p0)) hx hb hr (fun t ht _ => ⟨_, _, rfl, ⟨by rw [e_s], by rw [e_s]⟩, by rw [ht]; exact hP, hD, hS.F ht⟩) hS.2.2 dR_assignmentSign_125
    have e_59 : sh_shift (sh_two (sh_at tx (sh_skip tx p0)) (sh_at tx (sh_skip tx p0 + 1))) = true := by grind [sh_b]
    refine lv_aload_n hx hb dR_assignmentSign_62 rfl (lv_at hl 3 rfl) ?_
    refine lv_aload_n hx hb dR_assignmentSign_63 rfl (lv_at hl 3 rfl) ?_
    refine va_get (D := (dC, dI)) (ci := 2) (v := .int (nI (sh_skip tx p0))) (C := "ShellSum$Reckoner") (T := TR) (N := 9) hx hb htz zu_R hown hK hP 0 rfl rfl 6 (by decide) (htz _ zw_1_51) (fun _ h9 => h9) rfl dR_assignmentSign_64 ?_
    refine lv_iconst (v := 2) hx hb dR_assignmentSign_67 (by decide) ?_
    refine lv_iadd hx hb dR_assignmentSign_68 ?_
    refine xw_topi (y := nI (sh_skip tx p0 + 2)) (nI_add (sh_skip tx p0) 2) ?_
    refine rq_call (va_runV (As := [.int (nI (sh_skip tx p0 + 2))]) (rest := []) ⟨hx, hb, hml, hown, htz⟩ (k_R_charAt l dC dI kC kI kJ kQ a0 aR aN aS aF wt un rs fx tx tl hx3 hB hfx (nI (sh_skip tx p0)) (sh_skip tx p0 + 2) (by omega)) (cwV 1 htz (zg_V zw_1_206 zw_1_208 zs_R_charAt zw_1_2 zw_1_209) rfl rfl rfl (by decide +kernel) ⟨Nat.le_of_ble_eq_true rfl, Nat.le_of_ble_eq_true rfl⟩) (zR_V hP hK hN (va_recv hK hP (ci := 2) (q0 := 0) rfl rfl)) rfl rfl hl.1 rfl (lv_room (Nat.le_of_ble_eq_true rfl)) dR_assignmentSign_69 ⟨Nat.zero_le _, Nat.zero_le _⟩) ?_
    refine W.eq (g2 := F0 m 72 ls [.int (sh_at tx (sh_skip tx p0 + 2))]) rfl ?_
    refine lv_bipush (v := 61) hx hb dR_assignmentSign_72 (by decide) ?_
    refine lv_icmp_ne (tgt := 89) hx hb dR_assignmentSign_74 (by decide) (fun c_18 => ?_) (fun c_18 => ?_)
    · skip
      refine lv_iload_n hx hb dR_assignmentSign_89 rfl (lv_at hl 1 rfl) ?_
      refine lv_bipush (v := 61) hx hb dR_assignmentSign_90 (by decide) ?_
      refine lv_icmp_ne (tgt := 126) hx hb dR_assignmentSign_92 (by decide) (fun c_19 => ?_) (fun c_19 => ?_)
      · skip
        refine lv_iconst (v := 0) hx hb dR_assignmentSign_126 (by decide) ?_
        have e_s : sh_signA tx p0 = (0, sh_skip tx p0) := by grind [sh_signA]
        refine W.widen (k := 0) (n := 0) (Nat.le_refl _) (Nat.le_refl _) ?_
        exact W.iret (v := 0) hx hb hr (fun t ht _ => ⟨_, _, rfl, ⟨by rw [e_s], by rw [e_s]⟩, by rw [ht]; exact hP, hD, hS.F ht⟩) hS.2.2 dR_assignmentSign_127
      refine lv_iload_n hx hb dR_assignmentSign_95 rfl (lv_at hl 2 rfl) ?_
      refine lv_bipush (v := 60) hx hb dR_assignmentSign_96 (by decide) ?_
      refine lv_icmp_eq (tgt := 126) hx hb dR_assignmentSign_98 (by decide) (fun c_20 => ?_) (fun c_20 => ?_)
      · skip
        refine lv_iconst (v := 0) hx hb dR_assignmentSign_126 (by decide) ?_
        have e_s : sh_signA tx p0 = (0, sh_skip tx p0) := by grind [sh_signA]
        refine W.widen (k := 0) (n := 0) (Nat.le_refl _) (Nat.le_refl _) ?_
        exact W.iret (v := 0) hx hb hr (fun t ht _ => ⟨_, _, rfl, ⟨by rw [e_s], by rw [e_s]⟩, by rw [ht]; exact hP, hD, hS.F ht⟩) hS.2.2 dR_assignmentSign_127
      refine lv_iload_n hx hb dR_assignmentSign_101 rfl (lv_at hl 2 rfl) ?_
      refine lv_bipush (v := 62) hx hb dR_assignmentSign_102 (by decide) ?_
      refine lv_icmp_eq (tgt := 126) hx hb dR_assignmentSign_104 (by decide) (fun c_21 => ?_) (fun c_21 => ?_)
      · skip
        refine lv_iconst (v := 0) hx hb dR_assignmentSign_126 (by decide) ?_
        have e_s : sh_signA tx p0 = (0, sh_skip tx p0) := by grind [sh_signA]
        refine W.widen (k := 0) (n := 0) (Nat.le_refl _) (Nat.le_refl _) ?_
        exact W.iret (v := 0) hx hb hr (fun t ht _ => ⟨_, _, rfl, ⟨by rw [e_s], by rw [e_s]⟩, by rw [ht]; exact hP, hD, hS.F ht⟩) hS.2.2 dR_assignmentSign_127
      refine lv_iload_n hx hb dR_assignmentSign_107 rfl (lv_at hl 2 rfl) ?_
      have hr_108 := sh_rank_le (sh_at tx (sh_skip tx p0))
      refine rq_call (va_runSN (As := [.int (sh_at tx (sh_skip tx p0))]) (rest := []) ⟨hx, hb, hml, hown, htz⟩ (k_G_rankOf l (sh_at tx (sh_skip tx p0))) ⟨va_cnB 1 htz (zg_c zw_1_230) rfl rfl rfl (hN _ zn_1_228) (htz _ zw_1_5) (by decide +kernel) ⟨Nat.le_of_ble_eq_true rfl, Nat.le_of_ble_eq_true rfl⟩, htz _ zw_1_229, trivial⟩ rq_pre rfl rfl hl.1 rfl (lv_room (Nat.le_of_ble_eq_true rfl)) dR_assignmentSign_108 ⟨Nat.zero_le _, Nat.zero_le _⟩) ?_
      refine W.eq (g2 := F0 m 111 ls [.int (nI (sh_rank (sh_at tx (sh_skip tx p0))))]) rfl ?_
      refine lv_if_le (tgt := 126) hx hb dR_assignmentSign_111 (by decide) (fun c_22 => ?_) (fun c_22 => ?_)
      · skip
        have e_111 : sh_rank (sh_at tx (sh_skip tx p0)) = 0 := Nat.le_zero.mp (xi_le (b := 0) c_22 (by omega) (by decide))
        refine lv_iconst (v := 0) hx hb dR_assignmentSign_126 (by decide) ?_
        have e_s : sh_signA tx p0 = (0, sh_skip tx p0) := by grind [sh_signA]
        refine W.widen (k := 0) (n := 0) (Nat.le_refl _) (Nat.le_refl _) ?_
        exact W.iret (v := 0) hx hb hr (fun t ht _ => ⟨_, _, rfl, ⟨by rw [e_s], by rw [e_s]⟩, by rw [ht]; exact hP, hD, hS.F ht⟩) hS.2.2 dR_assignmentSign_127
      have e_111 : 0 < sh_rank (sh_at tx (sh_skip tx p0)) := xi_nle (b := 0) c_22 (by omega) (by decide)
      refine lv_aload_n hx hb dR_assignmentSign_114 rfl (lv_at hl 3 rfl) ?_
      refine lv_dup hx hb dR_assignmentSign_115 rfl ?_
      refine va_get (D := (dC, dI)) (ci := 2) (v := .int (nI (sh_skip tx p0))) (C := "ShellSum$Reckoner") (T := TR) (N := 9) hx hb htz zu_R hown hK hP 0 rfl rfl 6 (by decide) (htz _ zw_1_51) (fun _ h9 => h9) rfl dR_assignmentSign_116 ?_
      refine lv_iconst (v := 2) hx hb dR_assignmentSign_119 (by decide) ?_
      refine lv_iadd hx hb dR_assignmentSign_120 ?_
      refine xw_topi (y := nI (sh_skip tx p0 + 2)) (nI_add (sh_skip tx p0) 2) ?_
      refine va_put (D := (dC, dI)) (ci := 2) (v := .int (nI (sh_skip tx p0 + 2))) (ty := .int) (C := "ShellSum$Reckoner") (T := TR) (N := 9) hx hb htz zu_R tyR tyR_ok nmR hown hK hP hD hS 0 rfl rfl 6 (by decide) (htz _ zw_1_51) (fun _ h9 => h9) rfl (by decide +kernel) rfl rfl (Nat.le_of_ble_eq_true rfl) dR_assignmentSign_121 (fun H locs hP hD hS => ?_)
      have hP : va_P (dC, dI) vwCl ((a0, .inr (2, [.ref aR, .ref aN, .ref aS, .ref aF, .int wt, .int (nI tx.length), .int (nI (sh_skip tx p0 + 2)), .int un, .long rs])) :: (aR, .inl (kC, 300, .inl fx)) :: tl) H := hP
      have hD : va_D A ((a0, .inr (2, [.ref aR, .ref aN, .ref aS, .ref aF, .int wt, .int (nI tx.length), .int (nI (sh_skip tx p0 + 2)), .int un, .long rs])) :: (aR, .inl (kC, 300, .inl fx)) :: tl) := hD
      refine lv_iload_n hx hb dR_assignmentSign_124 rfl (lv_at hl 2 rfl) ?_
      have e_s : sh_signA tx p0 = (sh_at tx (sh_skip tx p0), sh_skip tx p0 + 2) := by grind [sh_signA]
      refine W.widen (k := 0) (n := 0) (Nat.le_refl _) (Nat.le_refl _) ?_
      exact W.iret (v := sh_at tx (sh_skip tx p0)) hx hb hr (fun t ht _ => ⟨_, _, rfl, ⟨by rw [e_s], by rw [e_s]⟩, by rw [ht]; exact hP, hD, hS.F ht⟩) hS.2.2 dR_assignmentSign_125
    refine lv_aload_n hx hb dR_assignmentSign_77 rfl (lv_at hl 3 rfl) ?_
    refine lv_dup hx hb dR_assignmentSign_78 rfl ?_
    refine va_get (D := (dC, dI)) (ci := 2) (v := .int (nI (sh_skip tx p0))) (C := "ShellSum$Reckoner") (T := TR) (N := 9) hx hb htz zu_R hown hK hP 0 rfl rfl 6 (by decide) (htz _ zw_1_51) (fun _ h9 => h9) rfl dR_assignmentSign_79 ?_
    refine lv_iconst (v := 3) hx hb dR_assignmentSign_82 (by decide) ?_
    refine lv_iadd hx hb dR_assignmentSign_83 ?_
    refine xw_topi (y := nI (sh_skip tx p0 + 3)) (nI_add (sh_skip tx p0) 3) ?_
    refine va_put (D := (dC, dI)) (ci := 2) (v := .int (nI (sh_skip tx p0 + 3))) (ty := .int) (C := "ShellSum$Reckoner") (T := TR) (N := 9) hx hb htz zu_R tyR tyR_ok nmR hown hK hP hD hS 0 rfl rfl 6 (by decide) (htz _ zw_1_51) (fun _ h9 => h9) rfl (by decide +kernel) rfl rfl (Nat.le_of_ble_eq_true rfl) dR_assignmentSign_84 (fun H locs hP hD hS => ?_)
    have hP : va_P (dC, dI) vwCl ((a0, .inr (2, [.ref aR, .ref aN, .ref aS, .ref aF, .int wt, .int (nI tx.length), .int (nI (sh_skip tx p0 + 3)), .int un, .long rs])) :: (aR, .inl (kC, 300, .inl fx)) :: tl) H := hP
    have hD : va_D A ((a0, .inr (2, [.ref aR, .ref aN, .ref aS, .ref aF, .int wt, .int (nI tx.length), .int (nI (sh_skip tx p0 + 3)), .int un, .long rs])) :: (aR, .inl (kC, 300, .inl fx)) :: tl) := hD
    refine lv_iload_n hx hb dR_assignmentSign_87 rfl (lv_at hl 0 rfl) ?_
    have e_s : sh_signA tx p0 = (sh_two (sh_at tx (sh_skip tx p0)) (sh_at tx (sh_skip tx p0 + 1)), sh_skip tx p0 + 3) := by grind [sh_signA]
    refine W.widen (k := 0) (n := 0) (Nat.le_refl _) (Nat.le_refl _) ?_
    exact W.iret (v := sh_two (sh_at tx (sh_skip tx p0)) (sh_at tx (sh_skip tx p0 + 1))) hx hb hr (fun t ht _ => ⟨_, _, rfl, ⟨by rw [e_s], by rw [e_s]⟩, by rw [ht]; exact hP, hD, hS.F ht⟩) hS.2.2 dR_assignmentSign_88
  refine lv_aload_n hx hb dR_assignmentSign_43 rfl (lv_at hl 3 rfl) ?_
  refine lv_dup hx hb dR_assignmentSign_44 rfl ?_
  refine va_get (D := (dC, dI)) (ci := 2) (v := .int (nI (sh_skip tx p0))) (C := "ShellSum$Reckoner") (T := TR) (N := 9) hx hb htz zu_R hown hK hP 0 rfl rfl 6 (by decide) (htz _ zw_1_51) (fun _ h9 => h9) rfl dR_assignmentSign_45 ?_
  refine lv_iconst (v := 1) hx hb dR_assignmentSign_48 (by decide) ?_
  refine lv_iadd hx hb dR_assignmentSign_49 ?_
  refine xw_topi (y := nI (sh_skip tx p0 + 1)) (nI_add (sh_skip tx p0) 1) ?_
  refine va_put (D := (dC, dI)) (ci := 2) (v := .int (nI (sh_skip tx p0 + 1))) (ty := .int) (C := "ShellSum$Reckoner") (T := TR) (N := 9) hx hb htz zu_R tyR tyR_ok nmR hown hK hP hD hS 0 rfl rfl 6 (by decide) (htz _ zw_1_51) (fun _ h9 => h9) rfl (by decide +kernel) rfl rfl (Nat.le_of_ble_eq_true rfl) dR_assignmentSign_50 (fun H locs hP hD hS => ?_)
  have hP : va_P (dC, dI) vwCl ((a0, .inr (2, [.ref aR, .ref aN, .ref aS, .ref aF, .int wt, .int (nI tx.length), .int (nI (sh_skip tx p0 + 1)), .int un, .long rs])) :: (aR, .inl (kC, 300, .inl fx)) :: tl) H := hP
  have hD : va_D A ((a0, .inr (2, [.ref aR, .ref aN, .ref aS, .ref aF, .int wt, .int (nI tx.length), .int (nI (sh_skip tx p0 + 1)), .int un, .long rs])) :: (aR, .inl (kC, 300, .inl fx)) :: tl) := hD
  refine lv_iload_n hx hb dR_assignmentSign_53 rfl (lv_at hl 2 rfl) ?_
  have e_s : sh_signA tx p0 = (sh_at tx (sh_skip tx p0), sh_skip tx p0 + 1) := by grind [sh_signA]
  refine W.widen (k := 0) (n := 0) (Nat.le_refl _) (Nat.le_refl _) ?_
  exact W.iret (v := sh_at tx (sh_skip tx p0)) hx hb hr (fun t ht _ => ⟨_, _, rfl, ⟨by rw [e_s], by rw [e_s]⟩, by rw [ht]; exact hP, hD, hS.F ht⟩) hS.2.2 dR_assignmentSign_54
set_option maxHeartbeats 4000000 in
set_option maxRecDepth 100000 in
/-- expect(c) -/
theorem k_R_expect (l : Launch) (hl9 : l.stackTraces = false) (dC : Nat → ClassId) (dI : Nat → Nat → Nat) (kC kI kJ kQ : ClassId) (a0 aR aN aS aF : Nat) (wt un : Int32) (rs : Int64) (fx : Nat → Int32) (tx : List Int32) (tl : va_W) (hx3 : tx.length ≤ 300) (hB : sh_B tx) (hfx : ∀ j, j < tx.length → fx j = sh_at tx j) (sz : Nat) (p0 : Nat) (hp0 : p0 ≤ tx.length) (k0 : Int32) : vx_Met l yR_expect wsR_expect ({ frames := 6, cells := zk (if sh_at tx (sh_skip tx p0) = k0 then some () else none), slots := 6 * zk (if sh_at tx (sh_skip tx p0) = k0 then some () else none), locals := 82 }) (va_Pc [.ref a0, .int k0] (zV dC dI ([(kC, .char), (kI, .int), (kJ, .long), (kQ, .object "ShellSum$Named")]) ((a0, .inr (2, [.ref aR, .ref aN, .ref aS, .ref aF, .int wt, .int (nI tx.length), .int (nI p0), .int un, .long rs])) :: (aR, .inl (kC, 300, .inl fx)) :: tl) sz)) (zQ dC dI (va_A ((a0, .inr (2, [.ref aR, .ref aN, .ref aS, .ref aF, .int wt, .int (nI tx.length), .int (nI p0), .int un, .long rs])) :: (aR, .inl (kC, 300, .inl fx)) :: tl) sz) (fun v w => sh_at tx (sh_skip tx p0) = k0 ∧ v = none ∧ w = ((a0, .inr (2, [.ref aR, .ref aN, .ref aS, .ref aF, .int wt, .int (nI tx.length), .int (nI (sh_skip tx p0 + 1)), .int un, .long rs])) :: (aR, .inl (kC, 300, .inl fx)) :: tl))) (zX dC dI (va_A ((a0, .inr (2, [.ref aR, .ref aN, .ref aS, .ref aF, .int wt, .int (nI tx.length), .int (nI p0), .int un, .long rs])) :: (aR, .inl (kC, 300, .inl fx)) :: tl) sz) (fun w => ¬ sh_at tx (sh_skip tx p0) = k0 ∧ w = ((a0, .inr (2, [.ref aR, .ref aN, .ref aS, .ref aF, .int wt, .int (nI tx.length), .int (nI (sh_skip tx p0)), .int un, .long rs])) :: (aR, .inl (kC, 300, .inl fx)) :: tl))) (zk (if sh_at tx (sh_skip tx p0) = k0 then some () else none)) (6 * zk (if sh_at tx (sh_skip tx p0) = k0 then some () else none)) (va_A ((a0, .inr (2, [.ref aR, .ref aN, .ref aS, .ref aF, .int wt, .int (nI tx.length), .int (nI p0), .int un, .long rs])) :: (aR, .inl (kC, 300, .inl fx)) :: tl) sz) := by
  refine vx_ofW (cc := cR_expect) (maxL := 2) (ret := none) (by decide) rfl ?_
  intro p e s m args below meth c s₁ B hml hEx hv
  obtain ⟨rfl, ⟨hsz, hP, hK, hD0, hN⟩, hT, hU⟩ := hv
  subst hsz
  have hD := hD0.self (sz := s.heap.size)
  generalize hAe : va_A ((a0, .inr (2, [.ref aR, .ref aN, .ref aS, .ref aF, .int wt, .int (nI tx.length), .int (nI p0), .int un, .long rs])) :: (aR, .inl (kC, 300, .inl fx)) :: tl) s.heap.size = A at hD hU ⊢
  have hA : ∀ q : Nat, s.heap.size ≤ q → A q := fun q h => by rw [← hAe]; exact Or.inr h
  have hS : va_S A s.heap s.heap [] := va_S.rf
  have hx := B.exec
  have hb := B.bytes
  have hr := B.returns
  have htz : ∀ w ∈ zw, w.before _ s = true := fun w h => atoms_spec (ws := wsR_expect) B.pre w (List.mem_cons_of_mem _ h)
  have hown : s.vm.findClass "ShellSum$Reckoner" = some m.cls := findClass_of_methodNamed B.named
  have hlocks := B.notSynchronized
  have hl := lv_entry ([.ref a0, .int k0]) (n := 2) (Nat.le_of_ble_eq_true rfl)
  rw [lg_entry_eq]
  generalize (lg_sl ([.ref a0, .int k0]) ++ List.replicate (2 - (lg_sl ([.ref a0, .int k0])).length) Slot.unset).toArray = ls at hl ⊢
  have hq : sh_skip tx p0 ≤ tx.length := sh_skip_le hp0
  have hl : lv_has ls 2 [(0, .ref a0), (1, .int k0)] := hl
  refine lv_aload_n hx hb dR_expect_0 rfl (lv_at hl 0 rfl) ?_
  refine zQ_call (va_runV (As := []) (rest := []) ⟨hx, hb, hml, hown, htz⟩ (k_R_skipBlanks l dC dI kC kI kJ kQ a0 aR aN aS aF wt un rs fx tx tl hx3 hB hfx _ p0 hp0) (cwV 0 htz (zg_V zw_1_202 zw_1_204 zs_R_skipBlanks zw_1_2 zw_1_205) rfl rfl rfl (by decide +kernel) ⟨Nat.le_of_ble_eq_true rfl, Nat.le_of_ble_eq_true rfl⟩) (zW_V hP hK hD hN (va_recv hK hP (ci := 2) (q0 := 0) rfl rfl)) rfl rfl hl.1 rfl (lv_room (Nat.le_of_ble_eq_true rfl)) dR_expect_1 ⟨Nat.zero_le _, Nat.zero_le _⟩) hD hS hA (fun v w H locs hp hP hD hS => ?_)
  obtain ⟨rfl, hw⟩ := hp
  rw [hw] at hP hD
  have hP : va_P (dC, dI) vwCl ((a0, .inr (2, [.ref aR, .ref aN, .ref aS, .ref aF, .int wt, .int (nI tx.length), .int (nI (sh_skip tx p0)), .int un, .long rs])) :: (aR, .inl (kC, 300, .inl fx)) :: tl) H := hP
  have hD : va_D A ((a0, .inr (2, [.ref aR, .ref aN, .ref aS, .ref aF, .int wt, .int (nI tx.length), .int (nI (sh_skip tx p0)), .int un, .long rs])) :: (aR, .inl (kC, 300, .inl fx)) :: tl) := hD
  refine W.eq (g2 := F0 m 4 ls []) rfl ?_
  refine lv_aload_n hx hb dR_expect_4 rfl (lv_at hl 0 rfl) ?_
  refine lv_aload_n hx hb dR_expect_5 rfl (lv_at hl 0 rfl) ?_
  refine va_get (D := (dC, dI)) (ci := 2) (v := .int (nI (sh_skip tx p0))) (C := "ShellSum$Reckoner") (T := TR) (N := 9) hx hb htz zu_R hown hK hP 0 rfl rfl 6 (by decide) (htz _ zw_1_51) (fun _ h9 => h9) rfl dR_expect_6 ?_
  refine rq_call (va_runV (As := [.int (nI (sh_skip tx p0))]) (rest := []) ⟨hx, hb, hml, hown, htz⟩ (k_R_charAt l dC dI kC kI kJ kQ a0 aR aN aS aF wt un rs fx tx tl hx3 hB hfx (nI (sh_skip tx p0)) (sh_skip tx p0) (by omega)) (cwV 1 htz (zg_V zw_1_206 zw_1_208 zs_R_charAt zw_1_2 zw_1_209) rfl rfl rfl (by decide +kernel) ⟨Nat.le_of_ble_eq_true rfl, Nat.le_of_ble_eq_true rfl⟩) (zR_V hP hK hN (va_recv hK hP (ci := 2) (q0 := 0) rfl rfl)) rfl rfl hl.1 rfl (lv_room (Nat.le_of_ble_eq_true rfl)) dR_expect_9 ⟨Nat.zero_le _, Nat.zero_le _⟩) ?_
  refine W.eq (g2 := F0 m 12 ls [.int (sh_at tx (sh_skip tx p0))]) rfl ?_
  refine lv_iload_n hx hb dR_expect_12 rfl (lv_at hl 1 rfl) ?_
  refine lv_icmp_eq (tgt := 26) hx hb dR_expect_13 (by decide) (fun c_1 => ?_) (fun c_1 => ?_)
  · skip
    refine lv_aload_n hx hb dR_expect_26 rfl (lv_at hl 0 rfl) ?_
    refine lv_dup hx hb dR_expect_27 rfl ?_
    refine va_get (D := (dC, dI)) (ci := 2) (v := .int (nI (sh_skip tx p0))) (C := "ShellSum$Reckoner") (T := TR) (N := 9) hx hb htz zu_R hown hK hP 0 rfl rfl 6 (by decide) (htz _ zw_1_51) (fun _ h9 => h9) rfl dR_expect_28 ?_
    refine lv_iconst (v := 1) hx hb dR_expect_31 (by decide) ?_
    refine lv_iadd hx hb dR_expect_32 ?_
    refine xw_topi (y := nI (sh_skip tx p0 + 1)) (nI_add (sh_skip tx p0) 1) ?_
    refine va_put (D := (dC, dI)) (ci := 2) (v := .int (nI (sh_skip tx p0 + 1))) (ty := .int) (C := "ShellSum$Reckoner") (T := TR) (N := 9) hx hb htz zu_R tyR tyR_ok nmR hown hK hP hD hS 0 rfl rfl 6 (by decide) (htz _ zw_1_51) (fun _ h9 => h9) rfl (by decide +kernel) rfl rfl (Nat.le_of_ble_eq_true rfl) dR_expect_33 (fun H locs hP hD hS => ?_)
    have hP : va_P (dC, dI) vwCl ((a0, .inr (2, [.ref aR, .ref aN, .ref aS, .ref aF, .int wt, .int (nI tx.length), .int (nI (sh_skip tx p0 + 1)), .int un, .long rs])) :: (aR, .inl (kC, 300, .inl fx)) :: tl) H := hP
    have hD : va_D A ((a0, .inr (2, [.ref aR, .ref aN, .ref aS, .ref aF, .int wt, .int (nI tx.length), .int (nI (sh_skip tx p0 + 1)), .int un, .long rs])) :: (aR, .inl (kC, 300, .inl fx)) :: tl) := hD
    refine W.widen (k := zk (if sh_at tx (sh_skip tx p0) = k0 then some () else none)) (n := 6 * zk (if sh_at tx (sh_skip tx p0) = k0 then some () else none)) (Nat.zero_le _) (Nat.zero_le _) ?_
    exact vx_ret (W.vret hx hb hr (fun t ht _ => ⟨_, _, rfl, ⟨c_1, rfl, rfl⟩, by rw [ht]; exact hP, hD, hS.F ht⟩) hS.2.2 dR_expect_36)
  have e_k : zk (if sh_at tx (sh_skip tx p0) = k0 then some () else none) = 1 := by rw [if_neg c_1]; rfl
  exact zThrow (own := "ShellSum$Reckoner") (text := "a bracket or a choice has no end") (ik := 54) (is := 166) (ic := 116) hx hb hl9 hown (htz _ zw_1_201) (htz _ zw_1_9) (hT _ _ _ zstr_R_166) (zx_R htz hN) zx_oR hU (hl.1.trans hml.symm) dR_expect_16 dR_expect_19 dR_expect_20 dR_expect_22 dR_expect_25 hEx hlocks (Nat.le_of_ble_eq_true rfl) (Nat.le_of_ble_eq_true rfl) (by show 0 + 0 + 1 ≤ zk (if sh_at tx (sh_skip tx p0) = k0 then some () else none); omega) (by show 0 + 0 + 6 ≤ 6 * zk (if sh_at tx (sh_skip tx p0) = k0 then some () else none); omega) (⟨c_1, rfl⟩) hP hD hS (by omega) (by omega)
end
section
def sh_nb (l : List Int32) : Int32 := sh_base (sh_at l 0) (if l.length ≤ 1 then 48 else sh_at l 1)
theorem sh_num_nil {l : List Int32} (h : l.length = 0) : sh_num l = none := by
  rw [List.length_eq_zero_iff.mp h]; rfl
theorem sh_num_eq {l : List Int32} (h : 0 < l.length) : sh_num l = if sh_nb l = 16 then (if l.length ≤ 2 then none else sh_digs 16 (l.drop 2) 0) else sh_digs (sh_nb l) l 0 := by
  match l, h with
  | [a], _ => rfl
  | a :: b :: [], _ => rfl
  | a :: b :: c :: r, _ => rfl
theorem sh_base_le (a b : Int32) : sh_base a b = 16 ∨ sh_base a b = 8 ∨ sh_base a b = 10 := by
  unfold sh_base
  split
  · split
    · exact Or.inl rfl
    · exact Or.inr (Or.inl rfl)
  · exact Or.inr (Or.inr rfl)
theorem sh_digs_step {b : Int32} {l : List Int32} {i : Nat} {v : Int64} (h : i < l.length) : sh_digs b (l.drop i) v = if sh_digOf (sh_at l i) < 0 ∨ b ≤ sh_digOf (sh_at l i) then none else sh_digs b (l.drop (i + 1)) (v * b.toInt64 + (sh_digOf (sh_at l i)).toInt64) := by
  rw [List.drop_eq_getElem_cons h, sh_at_get h]; rfl
theorem sh_digs_end {b : Int32} {l : List Int32} {i : Nat} {v : Int64} (h : l.length ≤ i) : sh_digs b (l.drop i) v = some v := by
  rw [List.drop_eq_nil_of_le h]; rfl
end
section
set_option maxHeartbeats 4000000 in
set_option maxRecDepth 100000 in
/-- numberIn(from, start, end) -/
theorem k_A_numberIn (l : Launch) (hl9 : l.stackTraces = false) (dC : Nat → ClassId) (dI : Nat → Nat → Nat) (kC kI kJ kQ : ClassId) (ws : va_W) (sz : Nat) (kf N a fr : Nat) (f : Nat → Int32) (nl : List Int32) (hk : ws[kf]? = some (fr, .inl (kC, N, .inl f))) (hnl : ∀ j, j < nl.length → f (a + j) = sh_at nl j) (hN1 : a + nl.length ≤ N) (hN3 : N ≤ 1000) : vx_Met l yA_numberIn wsA_numberIn ({ frames := 6, cells := zk (sh_num nl), slots := 6 * zk (sh_num nl), locals := 82 }) (va_Pc [.ref fr, .int (nI a), .int (nI (a + nl.length))] (zV dC dI ([(kC, .char), (kI, .int), (kJ, .long), (kQ, .object "ShellSum$Named")]) ws sz)) (zQ dC dI (va_A ws sz) (fun v w => ∃ x, sh_num nl = some x ∧ v = some (.long x) ∧ w = ws)) (zX dC dI (va_A ws sz) (fun w => sh_num nl = none ∧ w = ws)) (zk (sh_num nl)) (6 * zk (sh_num nl)) (va_A ws sz) := by
  refine vx_ofW (cc := cA_numberIn) (maxL := 9) (ret := (some .long)) (by decide) rfl ?_
  intro p e s m args below meth c s₁ B hml hEx hv
  obtain ⟨rfl, ⟨hsz, hP, hK, hD0, hN⟩, hT, hU⟩ := hv
  subst hsz
  have hD := hD0.self (sz := s.heap.size)
  generalize hAe : va_A ws s.heap.size = A at hD hU ⊢
  have hA : ∀ q : Nat, s.heap.size ≤ q → A q := fun q h => by rw [← hAe]; exact Or.inr h
  have hS : va_S A s.heap s.heap [] := va_S.rf
  have hx := B.exec
  have hb := B.bytes
  have hr := B.returns
  have htz : ∀ w ∈ zw, w.before _ s = true := fun w h => atoms_spec (ws := wsA_numberIn) B.pre w (List.mem_cons_of_mem _ h)
  have hown : s.vm.findClass "ShellSum" = some m.cls := findClass_of_methodNamed B.named
  have hlocks := B.notSynchronized
  have hl := lv_entry ([.ref fr, .int (nI a), .int (nI (a + nl.length))]) (n := 9) (Nat.le_of_ble_eq_true rfl)
  rw [lg_entry_eq]
  generalize (lg_sl ([.ref fr, .int (nI a), .int (nI (a + nl.length))]) ++ List.replicate (9 - (lg_sl ([.ref fr, .int (nI a), .int (nI (a + nl.length))])).length) Slot.unset).toArray = ls at hl ⊢
  have hl : lv_has ls 9 [(0, .ref fr), (1, .int (nI a)), (2, .int (nI (a + nl.length)))] := hl
  refine lv_iload_n hx hb dA_numberIn_0 rfl (lv_at hl 1 rfl) ?_
  refine lv_if_lt (tgt := 15) hx hb dA_numberIn_1 (by decide) (fun c_1 => ?_) (fun c_1 => ?_)
  · skip
    exact absurd c_1 (nI_pos (by omega))
  refine lv_iload_n hx hb dA_numberIn_4 rfl (lv_at hl 1 rfl) ?_
  refine lv_iload_n hx hb dA_numberIn_5 rfl (lv_at hl 2 rfl) ?_
  refine lv_icmp_ge (tgt := 15) hx hb dA_numberIn_6 (by decide) (fun c_2 => ?_) (fun c_2 => ?_)
  · skip
    have e_6 : a + nl.length ≤ a := xi_le c_2 (by omega) (by omega)
    have e_r : sh_num nl = none := sh_num_nil (by omega)
    have e_k : zk (sh_num nl) = 1 := by rw [e_r]; rfl
    exact zThrow (own := "ShellSum") (text := "a number has no digit") (ik := 54) (is := 107) (ic := 58) hx hb hl9 hown (htz _ zw_2_71) (htz _ zw_1_9) (hT _ _ _ zstr_A_107) (zx_A htz hN) zx_oA hU (hl.1.trans hml.symm) dA_numberIn_15 dA_numberIn_18 dA_numberIn_19 dA_numberIn_21 dA_numberIn_24 hEx hlocks (Nat.le_of_ble_eq_true rfl) (Nat.le_of_ble_eq_true rfl) (by show 0 + 1 ≤ zk (sh_num nl); omega) (by show 0 + 6 ≤ 6 * zk (sh_num nl); omega) (⟨e_r, rfl⟩) hP hD hS (by omega) (by omega)
  have e_6 : a < a + nl.length := xi_nle c_2 (by omega) (by omega)
  refine lv_iload_n hx hb dA_numberIn_9 rfl (lv_at hl 2 rfl) ?_
  refine lv_aload_n hx hb dA_numberIn_10 rfl (lv_at hl 0 rfl) ?_
  refine va_alen hx hb hK hP kf 0 hk (ty := .char) rfl (v := nI N) rfl dA_numberIn_11 ?_
  refine lv_icmp_le (tgt := 25) hx hb dA_numberIn_12 (by decide) (fun c_3 => ?_) (fun c_3 => ?_)
  · skip
    refine lv_aload_n hx hb dA_numberIn_25 rfl (lv_at hl 0 rfl) ?_
    refine lv_iload_n hx hb dA_numberIn_26 rfl (lv_at hl 1 rfl) ?_
    refine va_cald hx hb hK hP kf 0 hk rfl (vp_in_nI (by omega) (by omega)) dA_numberIn_27 ?_
    refine xw_topi (y := f a) (by rw [nI_clamp (by omega)]) ?_
    refine xw_topi (y := sh_at nl 0) (hnl 0 (by omega)) ?_
    have j_45 : ∀ (x1 : Int32), (x1 = (if nl.length ≤ 1 then 48 else sh_at nl 1)) → ∀ (H : Heap) (locs : List Loc), va_P (dC, dI) vwCl ws H → va_D A ws → va_S A s.heap H locs → ∀ ls : Array Slot, lv_has ls 9 [(0, .ref fr), (1, .int (nI a)), (2, .int (nI (a + nl.length)))] → W p l e (headSpec wsA_numberIn ({ frames := 6, cells := zk (sh_num nl), slots := 6 * zk (sh_num nl), locals := 82 })).room s m ([.ref fr, .int (nI a), .int (nI (a + nl.length))] : List Value).toArray below meth c H locs 0 0 (vx_MQ below (zQ dC dI A (fun v w => ∃ x, sh_num nl = some x ∧ v = some (.long x) ∧ w = ws)) (zX dC dI A (fun w => sh_num nl = none ∧ w = ws)) ([.ref fr, .int (nI a), .int (nI (a + nl.length))] : List Value).toArray s (zk (sh_num nl)) (6 * zk (sh_num nl)) A) (F0 m 45 ls [.int x1, .int (sh_at nl 0)]) := by
      intro x1 hx1 H locs hP hD hS ls hl
      refine rq_call (va_runS (As := [.int (sh_at nl 0), .int x1]) (rest := []) ⟨hx, hb, hml, hown, htz⟩ (k_A_baseOf l (sh_at nl 0) x1) (cwS 2 htz (zg_S zw_2_74 zw_2_75 zw_1_1 zw_2_76) rfl rfl rfl (by decide +kernel) ⟨Nat.le_of_ble_eq_true rfl, Nat.le_of_ble_eq_true rfl⟩) rq_pre rfl rfl hl.1 rfl (lv_room (Nat.le_of_ble_eq_true rfl)) dA_numberIn_45 ⟨Nat.zero_le _, Nat.zero_le _⟩) ?_
      refine W.eq (g2 := F0 m 48 ls [.int (sh_base (sh_at nl 0) x1)]) rfl ?_
      refine xw_topi (y := sh_nb nl) (by rw [hx1]; rfl) ?_
      have e_b := sh_base_le (sh_at nl 0) (if nl.length ≤ 1 then 48 else sh_at nl 1)
      refine lv_istore_n (lv' := [(3, .int (sh_nb nl)), (0, .ref fr), (1, .int (nI a)), (2, .int (nI (a + nl.length)))]) hx hb dA_numberIn_48 rfl hl (by decide) rfl (fun ls hl => ?_)
      have j_62 : ∀ (i0 : Nat), (i0 ≤ 2) → (sh_num nl = if nl.length ≤ i0 then none else sh_digs (sh_nb nl) (nl.drop i0) 0) → ∀ (H : Heap) (locs : List Loc), va_P (dC, dI) vwCl ws H → va_D A ws → va_S A s.heap H locs → ∀ ls : Array Slot, lv_has ls 9 [(3, .int (sh_nb nl)), (0, .ref fr), (1, .int (nI a)), (2, .int (nI (a + nl.length)))] → W p l e (headSpec wsA_numberIn ({ frames := 6, cells := zk (sh_num nl), slots := 6 * zk (sh_num nl), locals := 82 })).room s m ([.ref fr, .int (nI a), .int (nI (a + nl.length))] : List Value).toArray below meth c H locs 0 0 (vx_MQ below (zQ dC dI A (fun v w => ∃ x, sh_num nl = some x ∧ v = some (.long x) ∧ w = ws)) (zX dC dI A (fun w => sh_num nl = none ∧ w = ws)) ([.ref fr, .int (nI a), .int (nI (a + nl.length))] : List Value).toArray s (zk (sh_num nl)) (6 * zk (sh_num nl)) A) (F0 m 62 ls [.int (nI (a + i0))]) := by
        intro i0 h0 hd H locs hP hD hS ls hl
        refine lv_istore (lv' := [(4, .int (nI (a + i0))), (3, .int (sh_nb nl)), (0, .ref fr), (1, .int (nI a)), (2, .int (nI (a + nl.length)))]) hx hb dA_numberIn_62 hl (by decide) rfl (fun ls hl => ?_)
        refine lv_iload hx hb dA_numberIn_64 (lv_at hl 0 rfl) ?_
        refine lv_iload_n hx hb dA_numberIn_66 rfl (lv_at hl 4 rfl) ?_
        refine lv_icmp_lt (tgt := 80) hx hb dA_numberIn_67 (by decide) (fun c_4 => ?_) (fun c_4 => ?_)
        · skip
          have e_67 : a + i0 < a + nl.length := xi_lt c_4 (by omega) (by omega)
          refine lv_lconst (v := 0) hx hb dA_numberIn_80 (by decide) ?_
          refine lv_lstore (lv' := [(5, .long 0), (4, .int (nI (a + i0))), (3, .int (sh_nb nl)), (0, .ref fr), (1, .int (nI a)), (2, .int (nI (a + nl.length)))]) hx hb dA_numberIn_81 hl (by decide) rfl (fun ls hl => ?_)
          refine lv_iload hx hb dA_numberIn_83 (lv_at hl 1 rfl) ?_
          refine lv_istore (lv' := [(7, .int (nI (a + i0))), (5, .long 0), (4, .int (nI (a + i0))), (3, .int (sh_nb nl)), (0, .ref fr), (1, .int (nI a)), (2, .int (nI (a + nl.length)))]) hx hb dA_numberIn_85 hl (by decide) rfl (fun ls hl => ?_)
          have loop_87 : ∀ (f_loop_87 : Nat) (k : Nat) (v : Int64), nl.length - k < f_loop_87 → (k ≤ nl.length) → (sh_num nl = sh_digs (sh_nb nl) (nl.drop k) v) → ∀ (H : Heap) (locs : List Loc), va_P (dC, dI) vwCl ws H → va_D A ws → va_S A s.heap H locs → ∀ ls : Array Slot, lv_has ls 9 [(7, .int (nI (a + k))), (5, .long v), (3, .int (sh_nb nl)), (0, .ref fr), (1, .int (nI a)), (2, .int (nI (a + nl.length)))] → W p l e (headSpec wsA_numberIn ({ frames := 6, cells := zk (sh_num nl), slots := 6 * zk (sh_num nl), locals := 82 })).room s m ([.ref fr, .int (nI a), .int (nI (a + nl.length))] : List Value).toArray below meth c H locs 0 0 (vx_MQ below (zQ dC dI A (fun v w => ∃ x, sh_num nl = some x ∧ v = some (.long x) ∧ w = ws)) (zX dC dI A (fun w => sh_num nl = none ∧ w = ws)) ([.ref fr, .int (nI a), .int (nI (a + nl.length))] : List Value).toArray s (zk (sh_num nl)) (6 * zk (sh_num nl)) A) (F0 m 87 ls []) := by
            intro f_loop_87
            induction f_loop_87 with
            | zero => intro k v hf; exact absurd hf (Nat.not_lt_zero _)
            | succ f_loop_87 ih_loop_87 =>
              intro k v hf_loop_87 hk7 he H locs hP hD hS ls hl
              refine lv_iload hx hb dA_numberIn_87 (lv_at hl 0 rfl) ?_
              refine lv_iload_n hx hb dA_numberIn_89 rfl (lv_at hl 5 rfl) ?_
              refine lv_icmp_ge (tgt := 140) hx hb dA_numberIn_90 (by decide) (fun c_5 => ?_) (fun c_5 => ?_)
              · skip
                have e_90 : a + nl.length ≤ a + k := xi_le c_5 (by omega) (by omega)
                refine lv_lload hx hb dA_numberIn_140 (lv_at hl 1 rfl) ?_
                refine W.widen (k := zk (sh_num nl)) (n := 6 * zk (sh_num nl)) (Nat.zero_le _) (Nat.zero_le _) ?_
                exact vx_ret (W.lret (v := v) hx hb hr (fun t ht _ => ⟨_, _, rfl, ⟨v, by rw [he, sh_digs_end (by omega)], rfl, rfl⟩, by rw [ht]; exact hP, hD, hS.F ht⟩) hS.2.2 dA_numberIn_142)
              have e_90 : a + k < a + nl.length := xi_nle c_5 (by omega) (by omega)
              refine lv_aload_n hx hb dA_numberIn_93 rfl (lv_at hl 3 rfl) ?_
              refine lv_iload hx hb dA_numberIn_94 (lv_at hl 0 rfl) ?_
              refine va_cald hx hb hK hP kf 0 hk rfl (vp_in_nI (by omega) (by omega)) dA_numberIn_96 ?_
              refine xw_topi (y := f (a + k)) (by rw [nI_clamp (by omega)]) ?_
              refine xw_topi (y := sh_at nl k) (hnl k (by omega)) ?_
              refine rq_call (va_runS (As := [.int (sh_at nl k)]) (rest := []) ⟨hx, hb, hml, hown, htz⟩ (k_A_digitOf l (sh_at nl k)) (cwS 1 htz (zg_S zw_2_78 zw_2_79 zw_1_1 zw_2_80) rfl rfl rfl (by decide +kernel) ⟨Nat.le_of_ble_eq_true rfl, Nat.le_of_ble_eq_true rfl⟩) rq_pre rfl rfl hl.1 rfl (lv_room (Nat.le_of_ble_eq_true rfl)) dA_numberIn_97 ⟨Nat.zero_le _, Nat.zero_le _⟩) ?_
              refine W.eq (g2 := F0 m 100 ls [.int (sh_digOf (sh_at nl k))]) rfl ?_
              refine lv_istore (lv' := [(8, .int (sh_digOf (sh_at nl k))), (7, .int (nI (a + k))), (5, .long v), (3, .int (sh_nb nl)), (0, .ref fr), (1, .int (nI a)), (2, .int (nI (a + nl.length)))]) hx hb dA_numberIn_100 hl (by decide) rfl (fun ls hl => ?_)
              refine lv_iload hx hb dA_numberIn_102 (lv_at hl 0 rfl) ?_
              refine lv_if_lt (tgt := 113) hx hb dA_numberIn_104 (by decide) (fun c_6 => ?_) (fun c_6 => ?_)
              · skip
                have e_r : sh_num nl = none := by rw [he, sh_digs_step (by omega), if_pos (by grind)]
                have e_k : zk (sh_num nl) = 1 := by rw [e_r]; rfl
                exact zThrow (own := "ShellSum") (text := "a number has a wrong digit") (ik := 54) (is := 119) (ic := 58) hx hb hl9 hown (htz _ zw_2_71) (htz _ zw_1_9) (hT _ _ _ zstr_A_119) (zx_A htz hN) zx_oA hU (hl.1.trans hml.symm) dA_numberIn_113 dA_numberIn_116 dA_numberIn_117 dA_numberIn_119 dA_numberIn_122 hEx hlocks (Nat.le_of_ble_eq_true rfl) (Nat.le_of_ble_eq_true rfl) (by show 0 + 1 ≤ zk (sh_num nl); omega) (by show 0 + 6 ≤ 6 * zk (sh_num nl); omega) (⟨e_r, rfl⟩) hP hD hS (by omega) (by omega)
              refine lv_iload hx hb dA_numberIn_107 (lv_at hl 0 rfl) ?_
              refine lv_iload_n hx hb dA_numberIn_109 rfl (lv_at hl 3 rfl) ?_
              refine lv_icmp_lt (tgt := 123) hx hb dA_numberIn_110 (by decide) (fun c_7 => ?_) (fun c_7 => ?_)
              · skip
                refine lv_lload hx hb dA_numberIn_123 (lv_at hl 2 rfl) ?_
                refine lv_iload_n hx hb dA_numberIn_125 rfl (lv_at hl 3 rfl) ?_
                refine lv_i2l hx hb dA_numberIn_126 rfl ?_
                refine lv_lmul hx hb dA_numberIn_127 ?_
                refine lv_iload hx hb dA_numberIn_128 (lv_at hl 0 rfl) ?_
                refine lv_i2l hx hb dA_numberIn_130 rfl ?_
                refine lv_ladd hx hb dA_numberIn_131 ?_
                refine xw_topl (y := v * (sh_nb nl).toInt64 + (sh_digOf (sh_at nl k)).toInt64) (rfl) ?_
                refine lv_lstore (lv' := [(5, .long (v * (sh_nb nl).toInt64 + (sh_digOf (sh_at nl k)).toInt64)), (8, .int (sh_digOf (sh_at nl k))), (7, .int (nI (a + k))), (3, .int (sh_nb nl)), (0, .ref fr), (1, .int (nI a)), (2, .int (nI (a + nl.length)))]) hx hb dA_numberIn_132 hl (by decide) rfl (fun ls hl => ?_)
                refine lv_iinc (v := nI (a + (k + 1))) (lv' := [(7, .int (nI (a + (k + 1)))), (5, .long (v * (sh_nb nl).toInt64 + (sh_digOf (sh_at nl k)).toInt64)), (8, .int (sh_digOf (sh_at nl k))), (3, .int (sh_nb nl)), (0, .ref fr), (1, .int (nI a)), (2, .int (nI (a + nl.length)))]) hx hb dA_numberIn_134 hl (k := 2) rfl (nI_1 (a + k)) (by decide) rfl (fun ls hl => ?_)
                refine lv_goto (tgt := 87) hx hb dA_numberIn_137 (by decide) ?_
                exact ih_loop_87 (k + 1) (v * (sh_nb nl).toInt64 + (sh_digOf (sh_at nl k)).toInt64) (by omega) (by omega) (by rw [he, sh_digs_step (by omega), if_neg (by grind)]) _ _ hP hD hS ls (lv_sub hl [0, 1, 3, 4, 5, 6] rfl)
              have e_r : sh_num nl = none := by rw [he, sh_digs_step (by omega), if_pos (by grind)]
              have e_k : zk (sh_num nl) = 1 := by rw [e_r]; rfl
              exact zThrow (own := "ShellSum") (text := "a number has a wrong digit") (ik := 54) (is := 119) (ic := 58) hx hb hl9 hown (htz _ zw_2_71) (htz _ zw_1_9) (hT _ _ _ zstr_A_119) (zx_A htz hN) zx_oA hU (hl.1.trans hml.symm) dA_numberIn_113 dA_numberIn_116 dA_numberIn_117 dA_numberIn_119 dA_numberIn_122 hEx hlocks (Nat.le_of_ble_eq_true rfl) (Nat.le_of_ble_eq_true rfl) (by show 0 + 1 ≤ zk (sh_num nl); omega) (by show 0 + 6 ≤ 6 * zk (sh_num nl); omega) (⟨e_r, rfl⟩) hP hD hS (by omega) (by omega)
          exact loop_87 _ i0 0 (Nat.lt_succ_self _) (by omega) (by rw [hd, if_neg (by omega)]) _ _ hP hD hS ls (lv_sub hl [0, 1, 3, 4, 5, 6] rfl)
        have e_67 : a + nl.length ≤ a + i0 := xi_nlt c_4 (by omega) (by omega)
        have e_r : sh_num nl = none := by rw [hd, if_pos (by omega)]
        have e_k : zk (sh_num nl) = 1 := by rw [e_r]; rfl
        exact zThrow (own := "ShellSum") (text := "a number of sixteen has no digit") (ik := 54) (is := 113) (ic := 58) hx hb hl9 hown (htz _ zw_2_71) (htz _ zw_1_9) (hT _ _ _ zstr_A_113) (zx_A htz hN) zx_oA hU (hl.1.trans hml.symm) dA_numberIn_70 dA_numberIn_73 dA_numberIn_74 dA_numberIn_76 dA_numberIn_79 hEx hlocks (Nat.le_of_ble_eq_true rfl) (Nat.le_of_ble_eq_true rfl) (by show 0 + 1 ≤ zk (sh_num nl); omega) (by show 0 + 6 ≤ 6 * zk (sh_num nl); omega) (⟨e_r, rfl⟩) hP hD hS (by omega) (by omega)
      refine lv_iload_n hx hb dA_numberIn_49 rfl (lv_at hl 0 rfl) ?_
      refine lv_bipush (v := 16) hx hb dA_numberIn_50 (by decide) ?_
      refine lv_icmp_ne (tgt := 61) hx hb dA_numberIn_52 (by decide) (fun c_8 => ?_) (fun c_8 => ?_)
      · skip
        refine lv_iload_n hx hb dA_numberIn_61 rfl (lv_at hl 2 rfl) ?_
        refine xw_topi (y := nI (a + 0)) (rfl) ?_
        exact j_62 0 (by omega) (by rw [sh_num_eq (by omega), if_neg c_8, if_neg (by omega)]; rfl) _ _ hP hD hS ls (lv_sub hl [0, 1, 2, 3] rfl)
      refine lv_iload_n hx hb dA_numberIn_55 rfl (lv_at hl 2 rfl) ?_
      refine lv_iconst (v := 2) hx hb dA_numberIn_56 (by decide) ?_
      refine lv_iadd hx hb dA_numberIn_57 ?_
      refine xw_topi (y := nI (a + 2)) (nI_add a 2) ?_
      refine lv_goto (tgt := 62) hx hb dA_numberIn_58 (by decide) ?_
      exact j_62 2 (by omega) (by rw [sh_num_eq (by omega), if_pos c_8, c_8]) _ _ hP hD hS ls (lv_sub hl [0, 1, 2, 3] rfl)
    refine lv_iload_n hx hb dA_numberIn_28 rfl (lv_at hl 1 rfl) ?_
    refine lv_iconst (v := 1) hx hb dA_numberIn_29 (by decide) ?_
    refine lv_iadd hx hb dA_numberIn_30 ?_
    refine xw_topi (y := nI (a + 1)) (nI_add a 1) ?_
    refine lv_iload_n hx hb dA_numberIn_31 rfl (lv_at hl 2 rfl) ?_
    refine lv_icmp_ge (tgt := 43) hx hb dA_numberIn_32 (by decide) (fun c_9 => ?_) (fun c_9 => ?_)
    · skip
      have e_32 : a + nl.length ≤ a + 1 := xi_le c_9 (by omega) (by omega)
      refine lv_bipush (v := 48) hx hb dA_numberIn_43 (by decide) ?_
      exact j_45 48 (by rw [if_pos (by omega)]) _ _ hP hD hS ls (lv_sub hl [0, 1, 2] rfl)
    have e_32 : a + 1 < a + nl.length := xi_nle c_9 (by omega) (by omega)
    refine lv_aload_n hx hb dA_numberIn_35 rfl (lv_at hl 0 rfl) ?_
    refine lv_iload_n hx hb dA_numberIn_36 rfl (lv_at hl 1 rfl) ?_
    refine lv_iconst (v := 1) hx hb dA_numberIn_37 (by decide) ?_
    refine lv_iadd hx hb dA_numberIn_38 ?_
    refine xw_topi (y := nI (a + 1)) (nI_add a 1) ?_
    refine va_cald hx hb hK hP kf 0 hk rfl (vp_in_nI (by omega) (by omega)) dA_numberIn_39 ?_
    refine xw_topi (y := f (a + 1)) (by rw [nI_clamp (by omega)]) ?_
    refine xw_topi (y := sh_at nl 1) (hnl 1 (by omega)) ?_
    refine lv_goto (tgt := 45) hx hb dA_numberIn_40 (by decide) ?_
    exact j_45 (sh_at nl 1) (by rw [if_neg (by omega)]) _ _ hP hD hS ls (lv_sub hl [0, 1, 2] rfl)
  exact absurd (xi_nle c_3 (by omega) (by omega)) (by omega)
end
section
theorem sh_ext {a b : List Int32} (hl : a.length = b.length) (h : ∀ j, j < a.length → sh_at a j = sh_at b j) : a = b := by
  apply List.ext_getElem hl
  intro i h1 h2
  have := h i h1
  rw [sh_at_get h1, sh_at_get h2] at this
  exact this
/-- the named thing with these letters -/
def sh_fi (ns : List rw_N) (ql : List Int32) : Option rw_N := ns.find? (fun x => decide (x.2.1 = ql))
theorem sh_fi_none {ns : List rw_N} {ql : List Int32} (h : ∀ j, j < ns.length → ∀ x, ns[j]? = some x → ¬ x.2.1 = ql) : sh_fi ns ql = none := by
  unfold sh_fi
  rw [List.find?_eq_none]
  intro x hx
  obtain ⟨j, hj⟩ := List.getElem?_of_mem hx
  simpa using h j (List.getElem?_eq_some_iff.mp hj).1 x hj
theorem sh_fi_some {ns : List rw_N} {ql : List Int32} {k : Nat} {y : rw_N} (hk : ns[k]? = some y) (hy : y.2.1 = ql) (h : ∀ j, j < k → ∀ x, ns[j]? = some x → ¬ x.2.1 = ql) : sh_fi ns ql = some y := by
  unfold sh_fi
  rw [List.find?_eq_some_iff_getElem]
  obtain ⟨hl, e⟩ := List.getElem?_eq_some_iff.mp hk
  refine ⟨by simpa using hy, k, hl, e, fun j hj => ?_⟩
  have := h j hj _ (List.getElem?_eq_getElem (by omega))
  simpa using this
/-- what a list of names is on the heap: the row of their objects, and each one's cells -/
def sh_pool (ws : va_W) (kp : Nat) (kC : ClassId) (q : Nat → Option Nat) (ns : List rw_N) : Prop := ∀ (i : Nat) (x : rw_N), ns[i]? = some x → q i = some x.1.1 ∧ ws[kp + 3 * i]? = some (x.1.1, .inr (0, [.ref x.1.2.1, .ref x.1.2.2, .int x.2.2.2])) ∧ ws[kp + 3 * i + 1]? = some (x.1.2.1, .inl (kC, x.2.1.length, .inl (fun i => x.2.1.getD i 0))) ∧ ws[kp + 3 * i + 2]? = some (x.1.2.2, .inl (kC, 20, .inl x.2.2.1)) ∧ x.2.1.length ≤ 300
end
section
set_option maxHeartbeats 4000000 in
set_option maxRecDepth 100000 in
/-- isCalled(other, start, end) -/
theorem k_N_isCalled (l : Launch) (dC : Nat → ClassId) (dI : Nat → Nat → Nat) (kC kI kJ kQ : ClassId) (ws : va_W) (a la ra k0 k1 : Nat) (len : Int32) (nm : List Int32) (h0 : ws[k0]? = some (a, .inr (0, [.ref la, .ref ra, .int len]))) (h1 : ws[k1]? = some (la, .inl (kC, nm.length, .inl (fun i => nm.getD i 0)))) (hnm : nm.length ≤ 300) (fr kf N b0 : Nat) (f : Nat → Int32) (ql : List Int32) (hfr : ws[kf]? = some (fr, .inl (kC, N, .inl f))) (hql : ∀ j, j < ql.length → f (b0 + j) = sh_at ql j) (hN1 : b0 + ql.length ≤ N) (hN3 : N ≤ 1000) : Met l yN_isCalled wsN_isCalled ({ frames := 0, cells := 0, slots := 0, locals := 0 }) (va_Pc [.ref a, .ref fr, .int (nI b0), .int (nI (b0 + ql.length))] (zR dC dI [(kC, .char), (kI, .int), (kJ, .long), (kQ, .object "ShellSum$Named")] ws)) (rq_ (some (.int (sh_b (decide (nm = ql)))))) 0 0 (fun _ => False) := by
  refine Met.ofW (cc := cN_isCalled) (maxL := 5) (ret := (some .boolean)) (by decide) rfl ?_
  intro p e s m args below meth c s₁ B hml hv
  obtain ⟨rfl, hP, hK, hN⟩ := hv
  have hx := B.exec
  have hb := B.bytes
  have hr := B.returns
  have htz : ∀ w ∈ zw, w.before _ s = true := fun w h => atoms_spec (ws := wsN_isCalled) B.pre w (List.mem_cons_of_mem _ h)
  have hown : s.vm.findClass "ShellSum$Named" = some m.cls := findClass_of_methodNamed B.named
  have hlocks := B.notSynchronized
  have hl := lv_entry ([.ref a, .ref fr, .int (nI b0), .int (nI (b0 + ql.length))]) (n := 5) (Nat.le_of_ble_eq_true rfl)
  rw [lg_entry_eq]
  generalize (lg_sl ([.ref a, .ref fr, .int (nI b0), .int (nI (b0 + ql.length))]) ++ List.replicate (5 - (lg_sl ([.ref a, .ref fr, .int (nI b0), .int (nI (b0 + ql.length))])).length) Slot.unset).toArray = ls at hl ⊢
  have hl : lv_has ls 5 [(0, .ref a), (1, .ref fr), (2, .int (nI b0)), (3, .int (nI (b0 + ql.length)))] := hl
  refine lv_iload_n hx hb dN_isCalled_0 rfl (lv_at hl 2 rfl) ?_
  refine lv_if_lt (tgt := 21) hx hb dN_isCalled_1 (by decide) (fun c_1 => ?_) (fun c_1 => ?_)
  · skip
    exact absurd c_1 (nI_pos (by omega))
  refine lv_iload_n hx hb dN_isCalled_4 rfl (lv_at hl 3 rfl) ?_
  refine lv_aload_n hx hb dN_isCalled_5 rfl (lv_at hl 1 rfl) ?_
  refine va_alen hx hb hK hP kf 0 hfr (ty := .char) rfl (v := nI N) rfl dN_isCalled_6 ?_
  refine lv_icmp_gt (tgt := 21) hx hb dN_isCalled_7 (by decide) (fun c_2 => ?_) (fun c_2 => ?_)
  · skip
    exact absurd (xi_lt c_2 (by omega) (by omega)) (by omega)
  refine lv_iload_n hx hb dN_isCalled_10 rfl (lv_at hl 3 rfl) ?_
  refine lv_iload_n hx hb dN_isCalled_11 rfl (lv_at hl 2 rfl) ?_
  refine lv_isub hx hb dN_isCalled_12 ?_
  refine xw_topi (y := nI ql.length) (by rw [pk_sub (by omega)]; congr 1; omega) ?_
  refine lv_aload_n hx hb dN_isCalled_13 rfl (lv_at hl 0 rfl) ?_
  refine va_get (D := (dC, dI)) (ci := 0) (v := .ref la) (C := "ShellSum$Named") (T := TN) (N := 3) hx hb htz zu_N hown hK hP k0 h0 rfl 0 (by decide) (htz _ zw_1_158) (fun _ h9 => h9) rfl dN_isCalled_14 ?_
  refine va_alen hx hb hK hP k1 0 h1 (ty := .char) rfl (v := nI nm.length) rfl dN_isCalled_17 ?_
  refine lv_icmp_eq (tgt := 23) hx hb dN_isCalled_18 (by decide) (fun c_3 => ?_) (fun c_3 => ?_)
  · skip
    have e_18 : ql.length = nm.length := xi_eq c_3 (by omega) (by omega)
    refine lv_iconst (v := 0) hx hb dN_isCalled_23 (by decide) ?_
    refine xw_topi (y := nI 0) (nI_0.symm) ?_
    refine lv_istore (lv' := [(4, .int (nI 0)), (0, .ref a), (1, .ref fr), (2, .int (nI b0)), (3, .int (nI (b0 + ql.length)))]) hx hb dN_isCalled_24 hl (by decide) rfl (fun ls hl => ?_)
    have loop_26 : ∀ (f_loop_26 : Nat) (k : Nat), nm.length - k < f_loop_26 → (k ≤ nm.length) → (∀ j, j < k → sh_at nm j = sh_at ql j) → ∀ ls : Array Slot, lv_has ls 5 [(4, .int (nI k)), (0, .ref a), (1, .ref fr), (2, .int (nI b0)), (3, .int (nI (b0 + ql.length)))] → W p l e (headSpec wsN_isCalled ({ frames := 0, cells := 0, slots := 0, locals := 0 })).room s m ([.ref a, .ref fr, .int (nI b0), .int (nI (b0 + ql.length))] : List Value).toArray below meth c s.heap [] 0 0 (MQ below (rq_ (some (.int (sh_b (decide (nm = ql)))))) ([.ref a, .ref fr, .int (nI b0), .int (nI (b0 + ql.length))] : List Value).toArray s 0 0 (fun _ => False)) (F0 m 26 ls []) := by
      intro f_loop_26
      induction f_loop_26 with
      | zero => intro k hf; exact absurd hf (Nat.not_lt_zero _)
      | succ f_loop_26 ih_loop_26 =>
        intro k hf_loop_26 hk hj ls hl
        refine lv_iload hx hb dN_isCalled_26 (lv_at hl 0 rfl) ?_
        refine lv_aload_n hx hb dN_isCalled_28 rfl (lv_at hl 1 rfl) ?_
        refine va_get (D := (dC, dI)) (ci := 0) (v := .ref la) (C := "ShellSum$Named") (T := TN) (N := 3) hx hb htz zu_N hown hK hP k0 h0 rfl 0 (by decide) (htz _ zw_1_158) (fun _ h9 => h9) rfl dN_isCalled_29 ?_
        refine va_alen hx hb hK hP k1 0 h1 (ty := .char) rfl (v := nI nm.length) rfl dN_isCalled_32 ?_
        refine lv_icmp_ge (tgt := 60) hx hb dN_isCalled_33 (by decide) (fun c_4 => ?_) (fun c_4 => ?_)
        · skip
          have e_33 : nm.length ≤ k := xi_le c_4 (by omega) (by omega)
          refine lv_iconst (v := 1) hx hb dN_isCalled_60 (by decide) ?_
          exact W.zret (v := 1) hx hb hr rfl (fun t ht _ => ⟨by rw [decide_eq_true (sh_ext e_18.symm (fun j h => hj j (by omega)))]; rfl, ht⟩) t_nil dN_isCalled_61
        have e_33 : k < nm.length := xi_nle c_4 (by omega) (by omega)
        refine lv_aload_n hx hb dN_isCalled_36 rfl (lv_at hl 1 rfl) ?_
        refine va_get (D := (dC, dI)) (ci := 0) (v := .ref la) (C := "ShellSum$Named") (T := TN) (N := 3) hx hb htz zu_N hown hK hP k0 h0 rfl 0 (by decide) (htz _ zw_1_158) (fun _ h9 => h9) rfl dN_isCalled_37 ?_
        refine lv_iload hx hb dN_isCalled_40 (lv_at hl 0 rfl) ?_
        refine va_cald hx hb hK hP k1 0 h1 rfl (vp_in_nI (by omega) (by omega)) dN_isCalled_42 ?_
        refine xw_topi (y := (fun i => nm.getD i 0) k) (by rw [nI_clamp (by omega)]) ?_
        refine xw_topi (y := sh_at nm k) (rfl) ?_
        refine lv_aload_n hx hb dN_isCalled_43 rfl (lv_at hl 2 rfl) ?_
        refine lv_iload_n hx hb dN_isCalled_44 rfl (lv_at hl 3 rfl) ?_
        refine lv_iload hx hb dN_isCalled_45 (lv_at hl 0 rfl) ?_
        refine lv_iadd hx hb dN_isCalled_47 ?_
        refine xw_topi (y := nI (b0 + k)) (nI_add b0 k) ?_
        refine va_cald hx hb hK hP kf 0 hfr rfl (vp_in_nI (by omega) (by omega)) dN_isCalled_48 ?_
        refine xw_topi (y := f (b0 + k)) (by rw [nI_clamp (by omega)]) ?_
        refine xw_topi (y := sh_at ql k) (hql k (by omega)) ?_
        refine lv_icmp_eq (tgt := 54) hx hb dN_isCalled_49 (by decide) (fun c_5 => ?_) (fun c_5 => ?_)
        · skip
          refine lv_iinc (v := nI (k + 1)) (lv' := [(4, .int (nI (k + 1))), (0, .ref a), (1, .ref fr), (2, .int (nI b0)), (3, .int (nI (b0 + ql.length)))]) hx hb dN_isCalled_54 hl (k := 0) rfl (nI_1 k) (by decide) rfl (fun ls hl => ?_)
          refine lv_goto (tgt := 26) hx hb dN_isCalled_57 (by decide) ?_
          exact ih_loop_26 (k + 1) (by omega) (by omega) (lt_s hj c_5) ls (lv_sub hl [0, 1, 2, 3, 4] rfl)
        refine lv_iconst (v := 0) hx hb dN_isCalled_52 (by decide) ?_
        exact W.zret (v := 0) hx hb hr rfl (fun t ht _ => ⟨by rw [decide_eq_false (fun e => c_5 (by rw [e]))]; rfl, ht⟩) t_nil dN_isCalled_53
    exact loop_26 _ 0 (Nat.lt_succ_self _) (Nat.zero_le _) (fun j h => absurd h (Nat.not_lt_zero _)) ls (lv_sub hl [0, 1, 2, 3, 4] rfl)
  have e_18 : ql.length ≠ nm.length := xi_ne c_3 (by omega) (by omega)
  refine lv_iconst (v := 0) hx hb dN_isCalled_21 (by decide) ?_
  exact W.zret (v := 0) hx hb hr rfl (fun t ht _ => ⟨by rw [decide_eq_false (fun e => e_18 (by rw [e]))]; rfl, ht⟩) t_nil dN_isCalled_22
set_option maxHeartbeats 4000000 in
set_option maxRecDepth 100000 in
/-- find(from, start, end) -/
theorem k_S_find (l : Launch) (dC : Nat → ClassId) (dI : Nat → Nat → Nat) (kC kI kJ kQ : ClassId) (ws : va_W) (aN aK kn kk kp : Nat) (q : Nat → Option Nat) (ns : List rw_N) (hn : ws[kn]? = some (aN, .inr (1, [.ref aK, .int (nI ns.length)]))) (hkk : ws[kk]? = some (aK, .inl (kQ, 64, .inr (.inr (.inr (.inr q)))))) (hpo : sh_pool ws kp kC q ns) (hns : ns.length ≤ 64) (fr kf N b0 : Nat) (f : Nat → Int32) (ql : List Int32) (hfr : ws[kf]? = some (fr, .inl (kC, N, .inl f))) (hql : ∀ j, j < ql.length → f (b0 + j) = sh_at ql j) (hN1 : b0 + ql.length ≤ N) (hN3 : N ≤ 1000) : Met l yS_find wsS_find ({ frames := 1, cells := 0, slots := 0, locals := 30 }) (va_Pc [.ref aN, .ref fr, .int (nI b0), .int (nI (b0 + ql.length))] (zR dC dI [(kC, .char), (kI, .int), (kJ, .long), (kQ, .object "ShellSum$Named")] ws)) (rq_ (some (va_rf ((sh_fi ns ql).map (fun x => x.1.1))))) 0 0 (fun _ => False) := by
  refine Met.ofW (cc := cS_find) (maxL := 6) (ret := (some (.object "ShellSum$Named"))) (by decide) rfl ?_
  intro p e s m args below meth c s₁ B hml hv
  obtain ⟨rfl, hP, hK, hN⟩ := hv
  have hx := B.exec
  have hb := B.bytes
  have hr := B.returns
  have htz : ∀ w ∈ zw, w.before _ s = true := fun w h => atoms_spec (ws := wsS_find) B.pre w (List.mem_cons_of_mem _ h)
  have hown : s.vm.findClass "ShellSum$Names" = some m.cls := findClass_of_methodNamed B.named
  have hlocks := B.notSynchronized
  have hl := lv_entry ([.ref aN, .ref fr, .int (nI b0), .int (nI (b0 + ql.length))]) (n := 6) (Nat.le_of_ble_eq_true rfl)
  rw [lg_entry_eq]
  generalize (lg_sl ([.ref aN, .ref fr, .int (nI b0), .int (nI (b0 + ql.length))]) ++ List.replicate (6 - (lg_sl ([.ref aN, .ref fr, .int (nI b0), .int (nI (b0 + ql.length))])).length) Slot.unset).toArray = ls at hl ⊢
  have hl : lv_has ls 6 [(0, .ref aN), (1, .ref fr), (2, .int (nI b0)), (3, .int (nI (b0 + ql.length)))] := hl
  refine lv_iconst (v := 0) hx hb dS_find_0 (by decide) ?_
  refine xw_topi (y := nI 0) (nI_0.symm) ?_
  refine lv_istore (lv' := [(4, .int (nI 0)), (0, .ref aN), (1, .ref fr), (2, .int (nI b0)), (3, .int (nI (b0 + ql.length)))]) hx hb dS_find_1 hl (by decide) rfl (fun ls hl => ?_)
  have loop_3 : ∀ (f_loop_3 : Nat) (k : Nat), ns.length - k < f_loop_3 → (k ≤ ns.length) → (∀ j, j < k → ∀ x, ns[j]? = some x → ¬ x.2.1 = ql) → ∀ ls : Array Slot, lv_has ls 6 [(4, .int (nI k)), (0, .ref aN), (1, .ref fr), (2, .int (nI b0)), (3, .int (nI (b0 + ql.length)))] → W p l e (headSpec wsS_find ({ frames := 1, cells := 0, slots := 0, locals := 30 })).room s m ([.ref aN, .ref fr, .int (nI b0), .int (nI (b0 + ql.length))] : List Value).toArray below meth c s.heap [] 0 0 (MQ below (rq_ (some (va_rf ((sh_fi ns ql).map (fun x => x.1.1))))) ([.ref aN, .ref fr, .int (nI b0), .int (nI (b0 + ql.length))] : List Value).toArray s 0 0 (fun _ => False)) (F0 m 3 ls []) := by
    intro f_loop_3
    induction f_loop_3 with
    | zero => intro k hf; exact absurd hf (Nat.not_lt_zero _)
    | succ f_loop_3 ih_loop_3 =>
      intro k hf_loop_3 hk hj ls hl
      refine lv_iload hx hb dS_find_3 (lv_at hl 0 rfl) ?_
      refine lv_aload_n hx hb dS_find_5 rfl (lv_at hl 1 rfl) ?_
      refine va_get (D := (dC, dI)) (ci := 1) (v := .int (nI ns.length)) (C := "ShellSum$Names") (T := TS) (N := 2) hx hb htz zu_S hown hK hP kn hn rfl 1 (by decide) (htz _ zw_1_35) (fun _ h9 => h9) rfl dS_find_6 ?_
      refine lv_icmp_ge (tgt := 56) hx hb dS_find_9 (by decide) (fun c_1 => ?_) (fun c_1 => ?_)
      · skip
        have e_9 : ns.length ≤ k := xi_le c_1 (by omega) (by omega)
        refine lv_null hx hb dS_find_56 ?_
        exact W.aret (v := .null) hx hb hr (Or.inl ⟨_, rfl⟩) (Or.inl rfl) (fun t ht _ => ⟨by rw [sh_fi_none (fun j h => hj j (by omega))]; rfl, ht⟩) t_nil dS_find_57
      have e_9 : k < ns.length := xi_nle c_1 (by omega) (by omega)
      refine lv_iload hx hb dS_find_12 (lv_at hl 0 rfl) ?_
      refine lv_aload_n hx hb dS_find_14 rfl (lv_at hl 1 rfl) ?_
      refine va_get (D := (dC, dI)) (ci := 1) (v := .ref aK) (C := "ShellSum$Names") (T := TS) (N := 2) hx hb htz zu_S hown hK hP kn hn rfl 0 (by decide) (htz _ zw_1_34) (fun _ h9 => h9) rfl dS_find_15 ?_
      refine va_alen hx hb hK hP kk 3 hkk (ty := (.object "ShellSum$Named")) rfl (v := nI 64) rfl dS_find_18 ?_
      refine lv_icmp_ge (tgt := 56) hx hb dS_find_19 (by decide) (fun c_2 => ?_) (fun c_2 => ?_)
      · skip
        exact absurd (xi_le (a := 64) c_2 (by decide) (by omega)) (by omega)
      obtain ⟨x, hxk⟩ : ∃ x, ns[k]? = some x := ⟨_, List.getElem?_eq_getElem e_9⟩
      obtain ⟨hq, ho, hlt, -, hx9⟩ := hpo k x hxk
      refine lv_aload_n hx hb dS_find_22 rfl (lv_at hl 1 rfl) ?_
      refine va_get (D := (dC, dI)) (ci := 1) (v := .ref aK) (C := "ShellSum$Names") (T := TS) (N := 2) hx hb htz zu_S hown hK hP kn hn rfl 0 (by decide) (htz _ zw_1_34) (fun _ h9 => h9) rfl dS_find_23 ?_
      refine lv_iload hx hb dS_find_26 (lv_at hl 0 rfl) ?_
      refine va_aldq hx hb hK hP kk 3 hkk rfl (vp_in_nI (by omega) (by omega)) dS_find_28 ?_
      refine xw_topv (y := .ref x.1.1) (by rw [nI_clamp (by omega), hq]; rfl) ?_
      refine lv_astore (lv' := [(5, .ref x.1.1), (4, .int (nI k)), (0, .ref aN), (1, .ref fr), (2, .int (nI b0)), (3, .int (nI (b0 + ql.length)))]) hx hb dS_find_29 hl (by decide) rfl (fun ls hl => ?_)
      refine lv_aload hx hb dS_find_31 (lv_at hl 0 rfl) ?_
      refine lv_ifnull hx hb dS_find_33 ?_
      refine lv_aload hx hb dS_find_36 (lv_at hl 0 rfl) ?_
      refine lv_aload_n hx hb dS_find_38 rfl (lv_at hl 3 rfl) ?_
      refine lv_iload_n hx hb dS_find_39 rfl (lv_at hl 4 rfl) ?_
      refine lv_iload_n hx hb dS_find_40 rfl (lv_at hl 5 rfl) ?_
      refine rq_call (va_runVN (As := [.ref fr, .int (nI b0), .int (nI (b0 + ql.length))]) (rest := []) ⟨hx, hb, hml, hown, htz⟩ (k_N_isCalled l dC dI kC kI kJ kQ ws x.1.1 x.1.2.1 x.1.2.2 (kp + 3 * k) (kp + 3 * k + 1) x.2.2.2 x.2.1 ho hlt hx9 fr kf N b0 f ql hfr hql hN1 hN3) ⟨va_cnB 3 htz (zg_c zw_1_150) rfl rfl rfl (hN _ zn_1_146) (htz _ zw_1_10) (by decide +kernel) ⟨Nat.le_of_ble_eq_true rfl, Nat.le_of_ble_eq_true rfl⟩, htz _ zw_1_148, htz _ zs_N_isCalled⟩ (zR_V hP hK hN (va_recv hK hP (ci := 0) (q0 := kp + 3 * k) rfl ho)) rfl rfl hl.1 rfl (lv_room (Nat.le_of_ble_eq_true rfl)) dS_find_41 ⟨Nat.zero_le _, Nat.zero_le _⟩) ?_
      refine W.eq (g2 := F0 m 44 ls [.int (sh_b (decide (x.2.1 = ql)))]) rfl ?_
      refine lv_if_eq (tgt := 50) hx hb dS_find_44 (by decide) (fun c_3 => ?_) (fun c_3 => ?_)
      · skip
        refine lv_iinc (v := nI (k + 1)) (lv' := [(4, .int (nI (k + 1))), (5, .ref x.1.1), (0, .ref aN), (1, .ref fr), (2, .int (nI b0)), (3, .int (nI (b0 + ql.length)))]) hx hb dS_find_50 hl (k := 1) rfl (nI_1 k) (by decide) rfl (fun ls hl => ?_)
        refine lv_goto (tgt := 3) hx hb dS_find_53 (by decide) ?_
        exact ih_loop_3 (k + 1) (by omega) (by omega) (lt_s hj (fun z hz => by rw [hxk] at hz; cases hz; grind [sh_b])) ls (lv_sub hl [0, 2, 3, 4, 5] rfl)
      refine lv_aload hx hb dS_find_47 (lv_at hl 0 rfl) ?_
      exact W.aret (v := .ref x.1.1) hx hb hr (Or.inl ⟨_, rfl⟩) (Or.inr ⟨_, rfl⟩) (fun t ht _ => ⟨by rw [sh_fi_some hxk (by grind [sh_b]) hj]; rfl, ht⟩) t_nil dS_find_49
  exact loop_3 _ 0 (Nat.lt_succ_self _) (Nat.zero_le _) (fun j h => absurd h (Nat.not_lt_zero _)) ls (lv_sub hl [0, 1, 2, 3, 4] rfl)
end
section
/-! decimal texts -/
def sh_rd : Nat → Nat → List Int32
  | 0, _ => []
  | f + 1, n => nI (48 + n % 10) :: (if n / 10 = 0 then [] else sh_rd f (n / 10))
def sh_dec (v : Int64) : List Int32 := (if v < 0 then [45] else []) ++ (sh_rd 20 v.toInt.natAbs).reverse
theorem dz_div (r : Int64) : (r / 10).toInt = r.toInt.tdiv 10 := by
  rw [Int64.toInt_div_of_ne_right r 10 (by decide)]; rfl
theorem dz_nd (r : Int64) : (r / 10).toInt.natAbs = r.toInt.natAbs / 10 := by
  rw [dz_div, Int.natAbs_tdiv]; rfl
theorem dz_lt (r : Int64) : r.toInt.natAbs < 10 ^ 19 := by
  have h1 := Int64.le_toInt r
  have h2 := Int64.toInt_lt r
  omega
theorem dz_zero {r : Int64} : r = 0 ↔ r.toInt.natAbs = 0 := by
  rw [← Int64.toInt_inj, Int64.toInt_zero]; omega
theorem dz_rem (r : Int64) : (r - r / 10 * 10).toInt = r.toInt.tmod 10 := by
  have e : (r / 10 * 10).toInt = r.toInt.tdiv 10 * 10 := by
    rw [Int64.toInt_mul, dz_div, show (10 : Int64).toInt = 10 from rfl]
    have h1 := Int64.le_toInt r
    have h2 := Int64.toInt_lt r
    have h3 := Int.tmod_def r.toInt 10
    have h4 := Int.tmod_lt_of_pos r.toInt (show (0 : Int) < 10 by decide)
    have h5 : -10 < r.toInt.tmod 10 := by
      have h6 : (r.toInt.tmod 10).natAbs < 10 := by rw [Int.natAbs_tmod]; exact Nat.mod_lt _ (by decide)
      omega
    have h7 : (r.toInt.tdiv 10).natAbs = r.toInt.natAbs / 10 := by rw [Int.natAbs_tdiv]; rfl
    apply Int.bmod_eq_of_le
    · omega
    · omega
  rw [Int64.toInt_sub, e]
  have h3 := Int.tmod_def r.toInt 10
  have h6 : (r.toInt.tmod 10).natAbs < 10 := by rw [Int.natAbs_tmod]; exact Nat.mod_lt _ (by decide)
  rw [show r.toInt - r.toInt.tdiv 10 * 10 = r.toInt.tmod 10 by omega]
  apply Int.bmod_eq_of_le
  · omega
  · omega
theorem dz_remA (r : Int64) : (r - r / 10 * 10).toInt.natAbs = r.toInt.natAbs % 10 := by
  rw [dz_rem, Int.natAbs_tmod]; rfl
def sh_abs (x : Int64) : Int64 := if 0 ≤ x then x else -x
theorem dz_abs {x : Int64} (h : x.toInt.natAbs < 10) : sh_abs x = lN x.toInt.natAbs := by
  rw [← Int64.toInt_inj, lN_toInt (by omega)]
  unfold sh_abs
  split
  · rename_i h0
    rw [Int64.le_iff_toInt_le, Int64.toInt_zero] at h0
    omega
  · rename_i h0
    rw [Int64.le_iff_toInt_le, Int64.toInt_zero] at h0
    rw [Int64.toInt_neg]
    rw [Int.bmod_eq_of_le (by omega) (by omega)]
    omega
/-- the digit that the class writes -/
theorem dz_dig (r : Int64) : ((48 + sh_abs (r - r / 10 * 10)).toInt32.toUInt32 % 65536).toInt32 = nI (48 + r.toInt.natAbs % 10) := by
  have h : (r - r / 10 * 10).toInt.natAbs < 10 := by rw [dz_remA]; exact Nat.mod_lt _ (by decide)
  rw [dz_abs h, dz_remA, show (48 : Int64) = lN 48 from rfl, lN_add, lN_i, pk_char, pk_tn (by omega), Nat.mod_eq_of_lt (by omega)]
theorem sh_rd_len {f n : Nat} (h : n < 10 ^ f) : (sh_rd (f + 1) n).length ≤ f + 1 ∧ 1 ≤ (sh_rd (f + 1) n).length := by
  induction f generalizing n with
  | zero => rw [show n = 0 by omega]; exact ⟨Nat.le_refl _, Nat.le_refl _⟩
  | succ f ih =>
    unfold sh_rd
    rw [List.length_cons]
    split
    · simp
    · have := ih (n := n / 10) (by rw [Nat.pow_succ] at h; omega)
      omega
end
section
abbrev cJ_abs : ByteArray := prog_10_method_61_code
def yJ_abs : MethodName := ⟨"java/lang/Math", "abs", "(J)J"⟩
abbrev wsJ_abs : List Cond := .code yJ_abs cJ_abs 2 (some .long) :: zw
theorem dJ_abs_0 : decode cJ_abs 0 = .ok (.lload_n 0, 1) := by decide +kernel
theorem dJ_abs_1 : decode cJ_abs 1 = .ok (.lconst 0, 1) := by decide +kernel
theorem dJ_abs_2 : decode cJ_abs 2 = .ok (.lcmp, 1) := by decide +kernel
theorem dJ_abs_3 : decode cJ_abs 3 = .ok (.ifCond .ge 8, 3) := by decide +kernel
theorem dJ_abs_6 : decode cJ_abs 6 = .ok (.lload_n 0, 1) := by decide +kernel
theorem dJ_abs_7 : decode cJ_abs 7 = .ok (.lneg, 1) := by decide +kernel
theorem dJ_abs_8 : decode cJ_abs 8 = .ok (.goto 4, 3) := by decide +kernel
theorem dJ_abs_11 : decode cJ_abs 11 = .ok (.lload_n 0, 1) := by decide +kernel
theorem dJ_abs_12 : decode cJ_abs 12 = .ok (.lreturn, 1) := by decide +kernel
theorem sh_rd_step (f n : Nat) : (sh_rd (f + 1) n).length = 1 + (if n / 10 = 0 then 0 else (sh_rd f (n / 10)).length) := by
  show (nI (48 + n % 10) :: (if n / 10 = 0 then [] else sh_rd f (n / 10))).length = _
  rw [List.length_cons]
  split
  · rfl
  · omega
theorem sh_rd_get : ∀ (f n i : Nat), i < (sh_rd f n).length → sh_at (sh_rd f n) i = nI (48 + n / 10 ^ i % 10)
  | 0, n, i, h => by simp [sh_rd] at h
  | f + 1, n, 0, h => by simp [sh_at, sh_rd]
  | f + 1, n, i + 1, h => by
    have h1 : sh_rd (f + 1) n = nI (48 + n % 10) :: (if n / 10 = 0 then [] else sh_rd f (n / 10)) := rfl
    rw [h1] at h ⊢
    by_cases hz : n / 10 = 0
    · rw [if_pos hz] at h; simp at h
    · rw [if_neg hz] at h ⊢
      rw [List.length_cons] at h
      show sh_at (sh_rd f (n / 10)) i = _
      rw [sh_rd_get f (n / 10) i (by omega), Nat.div_div_eq_div_mul, Nat.pow_succ, Nat.mul_comm (10 ^ i)]
theorem sh_dec_len (v : Int64) : (sh_dec v).length = (if v < 0 then 1 else 0) + (sh_rd 20 v.toInt.natAbs).length := by
  unfold sh_dec
  rw [List.length_append, List.length_reverse]
  split <;> rfl
theorem sh_rd_bd : ∀ (f n k : Nat), n < 10 ^ (k + 1) → (sh_rd f n).length ≤ k + 1
  | 0, n, k, h => Nat.zero_le _
  | f + 1, n, k, h => by
    rw [sh_rd_step]
    split
    · omega
    · rename_i hz
      cases k with
      | zero => omega
      | succ k =>
        have := sh_rd_bd f (n / 10) k (by rw [Nat.pow_succ] at h; omega)
        omega
theorem sh_dec_le (v : Int64) : (sh_dec v).length ≤ 20 ∧ 1 ≤ (sh_dec v).length := by
  rw [sh_dec_len]
  have h1 := sh_rd_bd 20 v.toInt.natAbs 18 (dz_lt v)
  have h2 : 1 ≤ (sh_rd 20 v.toInt.natAbs).length := by
    have e := sh_rd_step 19 v.toInt.natAbs
    rw [show (19 + 1 : Nat) = 20 from rfl] at e
    rw [e]
    exact Nat.le_add_right _ _
  constructor <;> split <;> omega
theorem sh_dec_get {v : Int64} {j : Nat} (h : j < (sh_dec v).length) : sh_at (sh_dec v) j = if v < 0 ∧ j = 0 then 45 else nI (48 + v.toInt.natAbs / 10 ^ ((sh_dec v).length - 1 - j) % 10) := by
  have hl := sh_dec_len v
  by_cases hv : v < 0
  · rw [if_pos hv] at hl
    by_cases hj : j = 0
    · rw [if_pos ⟨hv, hj⟩, hj]; simp [sh_dec, hv, sh_at]
    · rw [if_neg (fun q => hj q.2)]
      obtain ⟨i, rfl⟩ : ∃ i, j = i + 1 := ⟨j - 1, by omega⟩
      have e : sh_at (sh_dec v) (i + 1) = sh_at (sh_rd 20 v.toInt.natAbs).reverse i := by simp [sh_dec, hv, sh_at]
      rw [e, sh_at_get (by rw [List.length_reverse]; omega), List.getElem_reverse, ← sh_at_get, sh_rd_get _ _ _ (by omega)]
      congr 5
      omega
  · rw [if_neg hv] at hl
    rw [if_neg (fun q => hv q.1)]
    have e : sh_at (sh_dec v) j = sh_at (sh_rd 20 v.toInt.natAbs).reverse j := by simp [sh_dec, hv, sh_at]
    rw [e, sh_at_get (by rw [List.length_reverse]; omega), List.getElem_reverse, ← sh_at_get, sh_rd_get _ _ _ (by omega)]
    congr 5
    omega
/-- a named thing among other cells: its object and its row -/
def nw (ws : va_W) (k0 k2 a la ra : Nat) (kC : ClassId) (len : Int32) (g : Nat → Int32) : va_W := (ws.set k0 (a, .inr (0, [.ref la, .ref ra, .int len]))).set k2 (ra, .inl (kC, 20, .inl g))
section NW
variable {ws : va_W} {k0 k2 a la ra : Nat} {kC : ClassId} {len len' : Int32} {g g' : Nat → Int32}
theorem nw_0 (hk : k0 ≠ k2) (h0 : k0 < ws.length) : (nw ws k0 k2 a la ra kC len g)[k0]? = some (a, .inr (0, [.ref la, .ref ra, .int len])) := by
  unfold nw
  rw [List.getElem?_set_ne (Ne.symm hk), List.getElem?_set_self h0]
theorem nw_2 (h2 : k2 < ws.length) : (nw ws k0 k2 a la ra kC len g)[k2]? = some (ra, .inl (kC, 20, .inl g)) := by
  unfold nw
  rw [List.getElem?_set_self (by rw [List.length_set]; exact h2)]
theorem nw_s0 (hk : k0 ≠ k2) : (nw ws k0 k2 a la ra kC len g).set k0 (a, .inr (0, [.ref la, .ref ra, .int len'])) = nw ws k0 k2 a la ra kC len' g := by
  unfold nw
  rw [List.set_comm _ _ (Ne.symm hk), List.set_set]
theorem nw_s2 : (nw ws k0 k2 a la ra kC len g).set k2 (ra, .inl (kC, 20, .inl g')) = nw ws k0 k2 a la ra kC len g' := by
  unfold nw
  rw [List.set_set]
theorem nw_id (h0 : ws[k0]? = some (a, .inr (0, [.ref la, .ref ra, .int len]))) (h2 : ws[k2]? = some (ra, .inl (kC, 20, .inl g))) : nw ws k0 k2 a la ra kC len g = ws := by
  unfold nw
  obtain ⟨q0, e0⟩ := List.getElem?_eq_some_iff.mp h0
  obtain ⟨q2, e2⟩ := List.getElem?_eq_some_iff.mp h2
  rw [← e0, List.set_getElem_self, ← e2, List.set_getElem_self]
end NW
end
section
set_option maxHeartbeats 4000000 in
set_option maxRecDepth 100000 in
/-- Math.abs(x) -/
theorem k_J_abs (l : Launch) (x0 : Int64) : Met l yJ_abs wsJ_abs ({ frames := 0, cells := 0, slots := 0, locals := 0 }) (va_Pc [.long x0] (fun _ => True)) (rq_ (some (.long (sh_abs x0)))) 0 0 (fun _ => False) := by
  refine va_MetF (cc := cJ_abs) (maxL := 2) (ret := (some .long)) (by decide +kernel) rfl ?_
  intro p e s m args below meth c s₁ B hml hv
  obtain ⟨rfl, -⟩ := hv
  have hx := B.exec
  have hb := B.bytes
  have hr := B.returns
  have htz : ∀ w ∈ zw, w.before _ s = true := fun w h => atoms_spec (ws := wsJ_abs) B.pre w (List.mem_cons_of_mem _ h)
  have hown : s.vm.findClass "java/lang/Math" = some m.cls := findClass_of_methodNamed B.named
  have hlocks := B.notSynchronized
  have hl := lv_entry ([.long x0]) (n := 2) (Nat.le_of_ble_eq_true rfl)
  rw [lg_entry_eq]
  generalize (lg_sl ([.long x0]) ++ List.replicate (2 - (lg_sl ([.long x0])).length) Slot.unset).toArray = ls at hl ⊢
  have hl : lv_has ls 2 [(0, .long x0)] := hl
  refine lv_lload_n hx hb dJ_abs_0 rfl (lv_at hl 0 rfl) ?_
  refine lv_lconst (v := 0) hx hb dJ_abs_1 (by decide) ?_
  refine W.lcmp hx hb dJ_abs_2 ?_
  refine lv_if_ge (tgt := 11) hx hb dJ_abs_3 (by decide) (fun c_1 => ?_) (fun c_1 => ?_)
  · skip
    rw [lg_cmp_ge] at c_1
    refine lv_lload_n hx hb dJ_abs_11 rfl (lv_at hl 0 rfl) ?_
    exact W.lret (v := x0) hx hb hr (fun t ht _ => ⟨by rw [show sh_abs x0 = x0 from by first | (simp [sh_abs, c_1]; done) | grind [sh_abs]], ht⟩) t_nil dJ_abs_12
  rw [lg_cmp_ge] at c_1
  refine lv_lload_n hx hb dJ_abs_6 rfl (lv_at hl 0 rfl) ?_
  refine lv_lneg hx hb dJ_abs_7 ?_
  refine lv_goto (tgt := 12) hx hb dJ_abs_8 (by decide) ?_
  exact W.lret (v := -x0) hx hb hr (fun t ht _ => ⟨by rw [show sh_abs x0 = -x0 from by first | (simp [sh_abs, c_1]; done) | grind [sh_abs]], ht⟩) t_nil dJ_abs_12
set_option maxHeartbeats 4000000 in
set_option maxRecDepth 100000 in
/-- decimalLength(value) -/
theorem k_N_decimalLength (l : Launch) (v0 : Int64) : Met l yN_decimalLength wsN_decimalLength ({ frames := 0, cells := 0, slots := 0, locals := 0 }) (va_Pc [.long v0] (fun _ => True)) (rq_ (some (.int (nI (sh_dec v0).length)))) 0 0 (fun _ => False) := by
  refine Met.ofW (cc := cN_decimalLength) (maxL := 5) (ret := (some .int)) (by decide) rfl ?_
  intro p e s m args below meth c s₁ B hml hv
  obtain ⟨rfl, -⟩ := hv
  have hx := B.exec
  have hb := B.bytes
  have hr := B.returns
  have htz : ∀ w ∈ zw, w.before _ s = true := fun w h => atoms_spec (ws := wsN_decimalLength) B.pre w (List.mem_cons_of_mem _ h)
  have hown : s.vm.findClass "ShellSum$Named" = some m.cls := findClass_of_methodNamed B.named
  have hlocks := B.notSynchronized
  have hl := lv_entry ([.long v0]) (n := 5) (Nat.le_of_ble_eq_true rfl)
  rw [lg_entry_eq]
  generalize (lg_sl ([.long v0]) ++ List.replicate (5 - (lg_sl ([.long v0])).length) Slot.unset).toArray = ls at hl ⊢
  have hl : lv_has ls 5 [(0, .long v0)] := hl
  have hle := sh_dec_le v0
  have hln := sh_dec_len v0
  refine lv_iconst (v := 1) hx hb dN_decimalLength_0 (by decide) ?_
  refine xw_topi (y := nI 1) (rfl) ?_
  refine lv_istore_n (lv' := [(2, .int (nI 1)), (0, .long v0)]) hx hb dN_decimalLength_1 rfl hl (by decide) rfl (fun ls hl => ?_)
  refine lv_lload_n hx hb dN_decimalLength_2 rfl (lv_at hl 1 rfl) ?_
  refine lv_ldc2 (v := 10) hx hb hown (htz _ zw_2_104) dN_decimalLength_3 ?_
  refine lv_ldiv hx hb dN_decimalLength_6 (by decide) ?_
  refine lv_lstore_n (lv' := [(3, .long (v0 / 10)), (2, .int (nI 1)), (0, .long v0)]) hx hb dN_decimalLength_7 rfl hl (by decide) rfl (fun ls hl => ?_)
  have loop_8 : ∀ (f_loop_8 : Nat) (d : Nat) (r : Int64), 20 - d < f_loop_8 → (1 ≤ d) → (d ≤ 20) → (r.toInt.natAbs < 10 ^ (20 - d)) → (d + (if r.toInt.natAbs = 0 then 0 else (sh_rd (20 - d) r.toInt.natAbs).length) = (sh_rd 20 v0.toInt.natAbs).length) → ∀ ls : Array Slot, lv_has ls 5 [(3, .long r), (2, .int (nI d)), (0, .long v0)] → W p l e (headSpec wsN_decimalLength ({ frames := 0, cells := 0, slots := 0, locals := 0 })).room s m ([.long v0] : List Value).toArray below meth c s.heap [] 0 0 (MQ below (rq_ (some (.int (nI (sh_dec v0).length)))) ([.long v0] : List Value).toArray s 0 0 (fun _ => False)) (F0 m 8 ls []) := by
    intro f_loop_8
    induction f_loop_8 with
    | zero => intro d r hf; exact absurd hf (Nat.not_lt_zero _)
    | succ f_loop_8 ih_loop_8 =>
      intro d r hf_loop_8 h1 h20 hm he ls hl
      refine lv_lload_n hx hb dN_decimalLength_8 rfl (lv_at hl 0 rfl) ?_
      refine lv_lconst (v := 0) hx hb dN_decimalLength_9 (by decide) ?_
      refine W.lcmp hx hb dN_decimalLength_10 ?_
      refine lv_if_eq (tgt := 32) hx hb dN_decimalLength_11 (by decide) (fun c_1 => ?_) (fun c_1 => ?_)
      · skip
        rw [lg_cmp_eq] at c_1
        have e_0 : r.toInt.natAbs = 0 := dz_zero.mp c_1
        refine lv_lload_n hx hb dN_decimalLength_32 rfl (lv_at hl 2 rfl) ?_
        refine lv_lconst (v := 0) hx hb dN_decimalLength_33 (by decide) ?_
        refine W.lcmp hx hb dN_decimalLength_34 ?_
        refine lv_if_ge (tgt := 44) hx hb dN_decimalLength_35 (by decide) (fun c_2 => ?_) (fun c_2 => ?_)
        · skip
          rw [lg_cmp_ge] at c_2
          refine lv_iload_n hx hb dN_decimalLength_44 rfl (lv_at hl 1 rfl) ?_
          rw [if_pos e_0] at he
          exact W.iret (v := nI d) hx hb hr (fun t ht _ => ⟨by rw [hln, if_neg (by grind), ← he]; congr 4; omega, ht⟩) t_nil dN_decimalLength_45
        rw [lg_cmp_ge] at c_2
        refine lv_iload_n hx hb dN_decimalLength_38 rfl (lv_at hl 1 rfl) ?_
        refine lv_iconst (v := 1) hx hb dN_decimalLength_39 (by decide) ?_
        refine lv_iadd hx hb dN_decimalLength_40 ?_
        refine xw_topi (y := nI (d + 1)) (nI_add d 1) ?_
        refine lv_goto (tgt := 45) hx hb dN_decimalLength_41 (by decide) ?_
        rw [if_pos e_0] at he
        exact W.iret (v := nI (d + 1)) hx hb hr (fun t ht _ => ⟨by rw [hln, if_pos (by grind), ← he]; congr 4; omega, ht⟩) t_nil dN_decimalLength_45
      rw [lg_cmp_eq] at c_1
      have e_0 : ¬ r.toInt.natAbs = 0 := mt dz_zero.mpr c_1
      refine lv_iload_n hx hb dN_decimalLength_14 rfl (lv_at hl 1 rfl) ?_
      refine lv_bipush (v := 20) hx hb dN_decimalLength_15 (by decide) ?_
      refine lv_icmp_ge (tgt := 32) hx hb dN_decimalLength_17 (by decide) (fun c_3 => ?_) (fun c_3 => ?_)
      · skip
        have e_17 : 20 ≤ d := xi_le (a := 20) c_3 (by decide) (by omega)
        rw [show 20 - d = 0 by omega] at hm
        exact absurd (show r.toInt.natAbs = 0 by omega) e_0
      have e_17 : d < 20 := xi_nle (a := 20) c_3 (by decide) (by omega)
      refine lv_iinc (v := nI (d + 1)) (lv' := [(2, .int (nI (d + 1))), (3, .long r), (0, .long v0)]) hx hb dN_decimalLength_20 hl (k := 1) rfl (nI_1 d) (by decide) rfl (fun ls hl => ?_)
      refine lv_lload_n hx hb dN_decimalLength_23 rfl (lv_at hl 1 rfl) ?_
      refine lv_ldc2 (v := 10) hx hb hown (htz _ zw_2_104) dN_decimalLength_24 ?_
      refine lv_ldiv hx hb dN_decimalLength_27 (by decide) ?_
      refine lv_lstore_n (lv' := [(3, .long (r / 10)), (2, .int (nI (d + 1))), (0, .long v0)]) hx hb dN_decimalLength_28 rfl hl (by decide) rfl (fun ls hl => ?_)
      refine lv_goto (tgt := 8) hx hb dN_decimalLength_29 (by decide) ?_
      exact ih_loop_8 (d + 1) (r / 10) (by omega) (by omega) (by omega) (by rw [dz_nd]; rw [show 20 - d = (20 - (d + 1)) + 1 by omega, Nat.pow_succ] at hm; omega) (by rw [dz_nd, ← he, if_neg e_0, show 20 - d = (20 - (d + 1)) + 1 by omega, sh_rd_step]; omega) ls (lv_sub hl [0, 1, 2] rfl)
  exact loop_8 _ 1 (v0 / 10) (Nat.lt_succ_self _) (by decide) (by decide) (by rw [dz_nd]; have := dz_lt v0; omega) (by rw [dz_nd]; exact (sh_rd_step 19 _).symm) ls (lv_sub hl [0, 1, 2] rfl)
set_option maxHeartbeats 4000000 in
set_option maxRecDepth 100000 in
/-- writeDecimal(value) -/
theorem k_N_writeDecimal (l : Launch) (dC : Nat → ClassId) (dI : Nat → Nat → Nat) (kC kI kJ kQ : ClassId) (ws : va_W) (sz : Nat) (k0 k2 a la ra : Nat) (len0 : Int32) (g0 : Nat → Int32) (v0 : Int64) (hk : k0 ≠ k2) (h0 : k0 < ws.length) (h2 : k2 < ws.length) : Met l yN_writeDecimal wsN_writeDecimal ({ frames := 1, cells := 0, slots := 0, locals := 30 }) (va_Pc [.ref a, .long v0] (zW dC dI ([(kC, .char), (kI, .int), (kJ, .long), (kQ, .object "ShellSum$Named")]) (nw ws k0 k2 a la ra kC len0 g0) sz)) (zQ dC dI (va_A (nw ws k0 k2 a la ra kC len0 g0) sz) (fun v w => v = none ∧ ∃ g, (∀ j, j < (sh_dec v0).length → g j = sh_at (sh_dec v0) j) ∧ w = nw ws k0 k2 a la ra kC (nI (sh_dec v0).length) g)) 0 0 (va_A (nw ws k0 k2 a la ra kC len0 g0) sz) := by
  refine Met.ofW (cc := cN_writeDecimal) (maxL := 6) (ret := none) (by decide) rfl ?_
  intro p e s m args below meth c s₁ B hml hv
  obtain ⟨rfl, hsz, hP, hK, hD0, hN⟩ := hv
  subst hsz
  have hD := hD0.self (sz := s.heap.size)
  generalize hAe : va_A (nw ws k0 k2 a la ra kC len0 g0) s.heap.size = A at hD ⊢
  have hA : ∀ q : Nat, s.heap.size ≤ q → A q := fun q h => by rw [← hAe]; exact Or.inr h
  have hS : va_S A s.heap s.heap [] := va_S.rf
  have hx := B.exec
  have hb := B.bytes
  have hr := B.returns
  have htz : ∀ w ∈ zw, w.before _ s = true := fun w h => atoms_spec (ws := wsN_writeDecimal) B.pre w (List.mem_cons_of_mem _ h)
  have hown : s.vm.findClass "ShellSum$Named" = some m.cls := findClass_of_methodNamed B.named
  have hlocks := B.notSynchronized
  have hl := lv_entry ([.ref a, .long v0]) (n := 6) (Nat.le_of_ble_eq_true rfl)
  rw [lg_entry_eq]
  generalize (lg_sl ([.ref a, .long v0]) ++ List.replicate (6 - (lg_sl ([.ref a, .long v0])).length) Slot.unset).toArray = ls at hl ⊢
  have hle := sh_dec_le v0
  have hd9 := fun j (h : j < (sh_dec v0).length) => sh_dec_get (v := v0) h
  have hl : lv_has ls 6 [(0, .ref a), (1, .long v0)] := hl
  refine lv_aload_n hx hb dN_writeDecimal_0 rfl (lv_at hl 0 rfl) ?_
  refine lv_lload_n hx hb dN_writeDecimal_1 rfl (lv_at hl 1 rfl) ?_
  refine rq_call (va_runS (As := [.long v0]) (rest := [.ref a]) ⟨hx, hb, hml, hown, htz⟩ (k_N_decimalLength l v0) (cwS 1 htz (zg_S zw_2_101 zw_2_102 zw_1_10 zw_2_103) rfl rfl rfl (by decide +kernel) ⟨Nat.le_of_ble_eq_true rfl, Nat.le_of_ble_eq_true rfl⟩) rq_pre rfl rfl hl.1 rfl (lv_room (Nat.le_of_ble_eq_true rfl)) dN_writeDecimal_2 ⟨Nat.zero_le _, Nat.zero_le _⟩) ?_
  refine W.eq (g2 := F0 m 5 ls [.int (nI (sh_dec v0).length), .ref a]) rfl ?_
  refine va_put (D := (dC, dI)) (ci := 0) (v := .int (nI (sh_dec v0).length)) (ty := .int) (C := "ShellSum$Named") (T := TN) (N := 3) hx hb htz zu_N tyN tyN_ok nmN hown hK hP hD hS k0 (nw_0 hk h0) rfl 2 (by decide) (htz _ zw_1_162) (fun _ h9 => h9) rfl (by decide +kernel) rfl rfl (Nat.le_of_ble_eq_true rfl) dN_writeDecimal_5 (fun H locs hP hD hS => ?_)
  have hP : va_P (dC, dI) vwCl (List.set (nw ws k0 k2 a la ra kC len0 g0) k0 (a, .inr (0, [.ref la, .ref ra, .int (nI (sh_dec v0).length)]))) H := hP
  have hD : va_D A (List.set (nw ws k0 k2 a la ra kC len0 g0) k0 (a, .inr (0, [.ref la, .ref ra, .int (nI (sh_dec v0).length)]))) := hD
  rw [nw_s0 hk] at hP hD
  have hP : va_P (dC, dI) vwCl (nw ws k0 k2 a la ra kC (nI (sh_dec v0).length) g0) H := hP
  have hD : va_D A (nw ws k0 k2 a la ra kC (nI (sh_dec v0).length) g0) := hD
  refine lv_lload_n hx hb dN_writeDecimal_8 rfl (lv_at hl 1 rfl) ?_
  refine lv_lstore_n (lv' := [(3, .long v0), (0, .ref a), (1, .long v0)]) hx hb dN_writeDecimal_9 rfl hl (by decide) rfl (fun ls hl => ?_)
  refine lv_aload_n hx hb dN_writeDecimal_10 rfl (lv_at hl 1 rfl) ?_
  refine va_get (D := (dC, dI)) (ci := 0) (v := .int (nI (sh_dec v0).length)) (C := "ShellSum$Named") (T := TN) (N := 3) hx hb htz zu_N hown hK hP k0 (nw_0 hk h0) rfl 2 (by decide) (htz _ zw_1_162) (fun _ h9 => h9) rfl dN_writeDecimal_11 ?_
  refine lv_iconst (v := 1) hx hb dN_writeDecimal_14 (by decide) ?_
  refine lv_isub hx hb dN_writeDecimal_15 ?_
  refine xw_topi (y := nI ((sh_dec v0).length) - 1) (rfl) ?_
  refine lv_istore (lv' := [(5, .int (nI ((sh_dec v0).length) - 1)), (3, .long v0), (0, .ref a), (1, .long v0)]) hx hb dN_writeDecimal_16 hl (by decide) rfl (fun ls hl => ?_)
  have loop_18 : ∀ (f_loop_18 : Nat) (k : Nat) (r : Int64) (g : Nat → Int32), k < f_loop_18 → (k ≤ (sh_dec v0).length) → (r.toInt.natAbs = v0.toInt.natAbs / 10 ^ ((sh_dec v0).length - k)) → (∀ j, k ≤ j → j < (sh_dec v0).length → g j = nI (48 + v0.toInt.natAbs / 10 ^ ((sh_dec v0).length - 1 - j) % 10)) → ∀ (H : Heap) (locs : List Loc), va_P (dC, dI) vwCl (nw ws k0 k2 a la ra kC (nI (sh_dec v0).length) g) H → va_D A (nw ws k0 k2 a la ra kC (nI (sh_dec v0).length) g) → va_S A s.heap H locs → ∀ ls : Array Slot, lv_has ls 6 [(5, .int (nI k - 1)), (3, .long r), (0, .ref a), (1, .long v0)] → W p l e (headSpec wsN_writeDecimal ({ frames := 1, cells := 0, slots := 0, locals := 30 })).room s m ([.ref a, .long v0] : List Value).toArray below meth c H locs 0 0 (MQ below (zQ dC dI A (fun v w => v = none ∧ ∃ g, (∀ j, j < (sh_dec v0).length → g j = sh_at (sh_dec v0) j) ∧ w = nw ws k0 k2 a la ra kC (nI (sh_dec v0).length) g)) ([.ref a, .long v0] : List Value).toArray s 0 0 A) (F0 m 18 ls []) := by
    intro f_loop_18
    induction f_loop_18 with
    | zero => intro k r g hf; exact absurd hf (Nat.not_lt_zero _)
    | succ f_loop_18 ih_loop_18 =>
      intro k r g hf_loop_18 hk7 hr7 hg H locs hP hD hS ls hl
      refine lv_iload hx hb dN_writeDecimal_18 (lv_at hl 0 rfl) ?_
      refine lv_if_lt (tgt := 66) hx hb dN_writeDecimal_20 (by decide) (fun c_1 => ?_) (fun c_1 => ?_)
      · skip
        have e_20 : k = 0 := by
          rcases Nat.eq_zero_or_pos k with q | q
          · exact q
          · exact absurd c_1 (by rw [show nI k - 1 = nI (k - 1) from pk_sub (b := 1) q]; exact nI_pos (by omega))
        refine lv_lload_n hx hb dN_writeDecimal_66 rfl (lv_at hl 3 rfl) ?_
        refine lv_lconst (v := 0) hx hb dN_writeDecimal_67 (by decide) ?_
        refine W.lcmp hx hb dN_writeDecimal_68 ?_
        refine lv_if_ge (tgt := 80) hx hb dN_writeDecimal_69 (by decide) (fun c_2 => ?_) (fun c_2 => ?_)
        · skip
          rw [lg_cmp_ge] at c_2
          refine W.widen (k := 0) (n := 0) (Nat.le_refl _) (Nat.le_refl _) ?_
          exact W.vret hx hb hr (fun t ht _ => ⟨_, _, rfl, ⟨rfl, g, fun j h => by rw [hd9 j h, if_neg (by grind)]; exact hg j (by omega) h, rfl⟩, by rw [ht]; exact hP, hD, hS.F ht⟩) hS.2.2 dN_writeDecimal_80
        rw [lg_cmp_ge] at c_2
        refine lv_aload_n hx hb dN_writeDecimal_72 rfl (lv_at hl 2 rfl) ?_
        refine va_get (D := (dC, dI)) (ci := 0) (v := .ref ra) (C := "ShellSum$Named") (T := TN) (N := 3) hx hb htz zu_N hown hK hP k0 (nw_0 hk h0) rfl 1 (by decide) (htz _ zw_1_159) (fun _ h9 => h9) rfl dN_writeDecimal_73 ?_
        refine lv_iconst (v := 0) hx hb dN_writeDecimal_76 (by decide) ?_
        refine xw_topi (y := nI 0) (nI_0.symm) ?_
        refine lv_bipush (v := 45) hx hb dN_writeDecimal_77 (by decide) ?_
        refine va_cast hx hb hK hP hD hS k2 0 (nw_2 h2) rfl (vp_in_nI (n := 0) (by decide) (by decide)) dN_writeDecimal_79 (fun H locs hP hD hS => ?_)
        rw [nw_s2] at hP hD
        have hP : va_P (dC, dI) vwCl (nw ws k0 k2 a la ra kC (nI (sh_dec v0).length) (upd g (nI 0).toNatClampNeg (vp_nar .char 45))) H := hP
        have hD : va_D A (nw ws k0 k2 a la ra kC (nI (sh_dec v0).length) (upd g (nI 0).toNatClampNeg (vp_nar .char 45))) := hD
        have e_f : upd g (nI 0).toNatClampNeg (vp_nar .char 45) = upd g 0 45 := by rw [nI_clamp (by decide), show vp_nar .char 45 = 45 from rfl]
        rw [e_f] at hP hD
        refine W.widen (k := 0) (n := 0) (Nat.le_refl _) (Nat.le_refl _) ?_
        exact W.vret hx hb hr (fun t ht _ => ⟨_, _, rfl, ⟨rfl, (upd g 0 45), fun j h => if hj : j = 0 then (by subst hj; rw [hd9 0 h, if_pos ⟨by grind, rfl⟩]; rfl) else (by rw [hd9 j h, if_neg (fun q => hj q.2)]; exact (pk_un hj).trans (hg j (by omega) h)), rfl⟩, by rw [ht]; exact hP, hD, hS.F ht⟩) hS.2.2 dN_writeDecimal_80
      have e_20 : 0 < k := by
        rcases Nat.eq_zero_or_pos k with q | q
        · exact absurd (by rw [q]; decide) c_1
        · exact q
      have e_i : nI k - 1 = nI (k - 1) := pk_sub (b := 1) e_20
      rw [e_i] at hl
      refine lv_iload hx hb dN_writeDecimal_23 (lv_at hl 0 rfl) ?_
      refine lv_aload_n hx hb dN_writeDecimal_25 rfl (lv_at hl 2 rfl) ?_
      refine va_get (D := (dC, dI)) (ci := 0) (v := .ref ra) (C := "ShellSum$Named") (T := TN) (N := 3) hx hb htz zu_N hown hK hP k0 (nw_0 hk h0) rfl 1 (by decide) (htz _ zw_1_159) (fun _ h9 => h9) rfl dN_writeDecimal_26 ?_
      refine va_alen hx hb hK hP k2 0 (nw_2 h2) (ty := .char) rfl (v := nI 20) rfl dN_writeDecimal_29 ?_
      refine lv_icmp_ge (tgt := 66) hx hb dN_writeDecimal_30 (by decide) (fun c_3 => ?_) (fun c_3 => ?_)
      · skip
        exact absurd (xi_le (a := 20) c_3 (by decide) (by omega)) (by omega)
      refine lv_aload_n hx hb dN_writeDecimal_33 rfl (lv_at hl 2 rfl) ?_
      refine va_get (D := (dC, dI)) (ci := 0) (v := .ref ra) (C := "ShellSum$Named") (T := TN) (N := 3) hx hb htz zu_N hown hK hP k0 (nw_0 hk h0) rfl 1 (by decide) (htz _ zw_1_159) (fun _ h9 => h9) rfl dN_writeDecimal_34 ?_
      refine lv_iload hx hb dN_writeDecimal_37 (lv_at hl 0 rfl) ?_
      refine lv_ldc2 (v := 48) hx hb hown (htz _ zw_2_105) dN_writeDecimal_39 ?_
      refine lv_lload_n hx hb dN_writeDecimal_42 rfl (lv_at hl 1 rfl) ?_
      refine lv_ldc2 (v := 10) hx hb hown (htz _ zw_2_104) dN_writeDecimal_43 ?_
      refine lv_lrem hx hb dN_writeDecimal_46 (by decide) ?_
      refine rq_call (va_runS (As := [.long (r - r / 10 * 10)]) (rest := [.long 48, .int (nI (k - 1)), .ref ra]) ⟨hx, hb, hml, hown, htz⟩ (k_J_abs l (r - r / 10 * 10)) (va_cwS 1 htz (zg_S zw_2_106 zw_2_107 zw_1_11 zw_2_108) rfl rfl rfl (by decide +kernel) ⟨Nat.le_of_ble_eq_true rfl, Nat.le_of_ble_eq_true rfl⟩) rq_pre rfl rfl hl.1 rfl (lv_room (Nat.le_of_ble_eq_true rfl)) dN_writeDecimal_47 ⟨Nat.zero_le _, Nat.zero_le _⟩) ?_
      refine W.eq (g2 := F0 m 50 ls [.long (sh_abs (r - r / 10 * 10)), .long 48, .int (nI (k - 1)), .ref ra]) rfl ?_
      refine lv_ladd hx hb dN_writeDecimal_50 ?_
      refine lv_l2i hx hb dN_writeDecimal_51 rfl ?_
      refine lv_i2c hx hb dN_writeDecimal_52 rfl ?_
      refine xw_topi (y := nI (48 + r.toInt.natAbs % 10)) (dz_dig r) ?_
      refine va_cast hx hb hK hP hD hS k2 0 (nw_2 h2) rfl (vp_in_nI (by omega) (by omega)) dN_writeDecimal_53 (fun H locs hP hD hS => ?_)
      rw [nw_s2] at hP hD
      have hP : va_P (dC, dI) vwCl (nw ws k0 k2 a la ra kC (nI (sh_dec v0).length) (upd g (nI (k - 1)).toNatClampNeg (vp_nar .char (nI (48 + r.toInt.natAbs % 10))))) H := hP
      have hD : va_D A (nw ws k0 k2 a la ra kC (nI (sh_dec v0).length) (upd g (nI (k - 1)).toNatClampNeg (vp_nar .char (nI (48 + r.toInt.natAbs % 10))))) := hD
      have e_f : upd g (nI (k - 1)).toNatClampNeg (vp_nar .char (nI (48 + r.toInt.natAbs % 10))) = upd g (k - 1) (nI (48 + r.toInt.natAbs % 10)) := by rw [nI_clamp (by omega), show vp_nar .char (nI (48 + r.toInt.natAbs % 10)) = nI (48 + r.toInt.natAbs % 10) from by unfold vp_nar; rw [(pk_charN (by omega)).1]]
      rw [e_f] at hP hD
      refine lv_lload_n hx hb dN_writeDecimal_54 rfl (lv_at hl 1 rfl) ?_
      refine lv_ldc2 (v := 10) hx hb hown (htz _ zw_2_104) dN_writeDecimal_55 ?_
      refine lv_ldiv hx hb dN_writeDecimal_58 (by decide) ?_
      refine lv_lstore_n (lv' := [(3, .long (r / 10)), (5, .int (nI (k - 1))), (0, .ref a), (1, .long v0)]) hx hb dN_writeDecimal_59 rfl hl (by decide) rfl (fun ls hl => ?_)
      refine lv_iinc (v := nI (k - 1) - 1) (lv' := [(5, .int (nI (k - 1) - 1)), (3, .long (r / 10)), (0, .ref a), (1, .long v0)]) hx hb dN_writeDecimal_60 hl (k := 1) rfl (by rw [Int32.sub_eq_add_neg]; congr 1) (by decide) rfl (fun ls hl => ?_)
      refine lv_goto (tgt := 18) hx hb dN_writeDecimal_63 (by decide) ?_
      exact ih_loop_18 (k - 1) (r / 10) (upd g (k - 1) (nI (48 + r.toInt.natAbs % 10))) (by omega) (by omega) (by rw [dz_nd, hr7, Nat.div_div_eq_div_mul, ← Nat.pow_succ]; congr 2; omega) (fun j h1 h2 => if hj : j = k - 1 then (by rw [hj, pk_us, hr7]; congr 5; omega) else (by rw [pk_un hj]; exact hg j (by omega) h2)) _ _ hP hD hS ls (lv_sub hl [0, 1, 2, 3] rfl)
  exact loop_18 _ ((sh_dec v0).length) v0 g0 (Nat.lt_succ_self _) (Nat.le_refl _) (by rw [Nat.sub_self]; simp) (fun j h1 h2 => absurd h1 (by omega)) _ _ hP hD hS ls (lv_sub hl [0, 1, 2, 3] rfl)
end
section
abbrev cJ_max : ByteArray := prog_10_method_65_code
def yJ_max : MethodName := ⟨"java/lang/Math", "max", "(II)I"⟩
abbrev wsJ_max : List Cond := .code yJ_max cJ_max 2 (some .int) :: zw
theorem dJ_max_0 : decode cJ_max 0 = .ok (.iload_n 0, 1) := by decide +kernel
theorem dJ_max_1 : decode cJ_max 1 = .ok (.iload_n 1, 1) := by decide +kernel
theorem dJ_max_2 : decode cJ_max 2 = .ok (.if_icmp .lt 7, 3) := by decide +kernel
theorem dJ_max_5 : decode cJ_max 5 = .ok (.iload_n 0, 1) := by decide +kernel
theorem dJ_max_6 : decode cJ_max 6 = .ok (.goto 4, 3) := by decide +kernel
theorem dJ_max_9 : decode cJ_max 9 = .ok (.iload_n 1, 1) := by decide +kernel
theorem dJ_max_10 : decode cJ_max 10 = .ok (.ireturn, 1) := by decide +kernel
section XA
variable {α : Type}
theorem xa_get (a b : List α) (i : Nat) : (a ++ b)[a.length + i]? = b[i]? := by
  rw [List.getElem?_append_right (Nat.le_add_right _ _), Nat.add_sub_cancel_left]
theorem xa_set (a b : List α) (i : Nat) (x : α) : (a ++ b).set (a.length + i) x = a ++ b.set i x := by
  rw [List.set_append_right _ _ (Nat.le_add_right _ _), Nat.add_sub_cancel_left]
theorem xa_old {a b : List α} {k : Nat} {x : α} (h : a[k]? = some x) : (a ++ b)[k]? = some x := by
  rw [List.getElem?_append_left (List.getElem?_eq_some_iff.mp h).1]; exact h
end XA
/-- an array is what it holds within its bounds -/
theorem na_cell {cA : ClassId} {n : Nat} {f g : Nat → Int32} (h : ∀ j, j < n → f j = g j) : vp_cell cA (n, .inl f) = vp_cell cA (n, .inl g) := by
  show arrV cA n (fun j => .int (f j)) = arrV cA n (fun j => .int (g j))
  unfold arrV
  congr 2
  funext j
  show Value.int (f j.val) = Value.int (g j.val)
  rw [h j.val j.isLt]
theorem na_P {D : va_G} {cl : List vw_C} {ws : va_W} {x y : Nat × va_E} {la : Nat} {cA : ClassId} {n : Nat} {g g2 : Nat → Int32} {H : Heap} (hP : va_P D cl (ws ++ [x, (la, .inl (cA, n, .inl g)), y]) H) (h : ∀ j, j < n → g j = g2 j) : va_P D cl (ws ++ [x, (la, .inl (cA, n, .inl g2)), y]) H := by
  refine va_P.app (fun k q hk => hP k q (xa_old hk)) (fun k q hk => ?_)
  have h1 := hP (ws.length + k)
  rw [xa_get] at h1
  match k, hk with
  | 0, hk => cases hk; exact h1 _ rfl
  | 1, hk =>
    cases hk
    have h2 := h1 _ rfl
    show H[la]? = some (vp_cell cA (n, .inl g2))
    rw [← na_cell h]; exact h2
  | 2, hk => cases hk; exact h1 _ rfl
  | k + 3, hk => simp at hk
theorem na_D {A : Nat → Prop} {ws : va_W} {x y : Nat × va_E} {la : Nat} {cA : ClassId} {n : Nat} {g g2 : Nat → Int32} (hD : va_D A (ws ++ [x, (la, .inl (cA, n, .inl g)), y])) : va_D A (ws ++ [x, (la, .inl (cA, n, .inl g2)), y]) := by
  rw [xw_Dnd] at hD ⊢
  obtain ⟨h1, h2⟩ := hD
  refine ⟨by simpa using h1, fun q hq => ?_⟩
  rcases List.mem_append.mp hq with h | h
  · exact h2 q (List.mem_append_left _ h)
  · rcases List.mem_cons.mp h with h | h
    · exact h2 q (List.mem_append_right _ (by rw [h]; exact List.mem_cons_self))
    · rcases List.mem_cons.mp h with h | h
      · rw [h]; exact h2 (la, .inl (cA, n, .inl g)) (List.mem_append_right _ (List.mem_cons_of_mem _ List.mem_cons_self))
      · exact h2 q (List.mem_append_right _ (List.mem_cons_of_mem _ (List.mem_cons_of_mem _ h)))
end
section
set_option maxHeartbeats 4000000 in
set_option maxRecDepth 100000 in
/-- Math.max(x, y) -/
theorem k_J_max (l : Launch) (x0 y0 : Int32) : Met l yJ_max wsJ_max ({ frames := 0, cells := 0, slots := 0, locals := 0 }) (va_Pc [.int x0, .int y0] (fun _ => True)) (rq_ (some (.int ((if x0 < y0 then y0 else x0))))) 0 0 (fun _ => False) := by
  refine va_MetF (cc := cJ_max) (maxL := 2) (ret := (some .int)) (by decide +kernel) rfl ?_
  intro p e s m args below meth c s₁ B hml hv
  obtain ⟨rfl, -⟩ := hv
  have hx := B.exec
  have hb := B.bytes
  have hr := B.returns
  have htz : ∀ w ∈ zw, w.before _ s = true := fun w h => atoms_spec (ws := wsJ_max) B.pre w (List.mem_cons_of_mem _ h)
  have hown : s.vm.findClass "java/lang/Math" = some m.cls := findClass_of_methodNamed B.named
  have hlocks := B.notSynchronized
  have hl := lv_entry ([.int x0, .int y0]) (n := 2) (Nat.le_of_ble_eq_true rfl)
  rw [lg_entry_eq]
  generalize (lg_sl ([.int x0, .int y0]) ++ List.replicate (2 - (lg_sl ([.int x0, .int y0])).length) Slot.unset).toArray = ls at hl ⊢
  have hl : lv_has ls 2 [(0, .int x0), (1, .int y0)] := hl
  refine lv_iload_n hx hb dJ_max_0 rfl (lv_at hl 0 rfl) ?_
  refine lv_iload_n hx hb dJ_max_1 rfl (lv_at hl 1 rfl) ?_
  refine lv_icmp_lt (tgt := 9) hx hb dJ_max_2 (by decide) (fun c_1 => ?_) (fun c_1 => ?_)
  · skip
    refine lv_iload_n hx hb dJ_max_9 rfl (lv_at hl 1 rfl) ?_
    exact W.iret (v := y0) hx hb hr (fun t ht _ => ⟨by rw [show (if x0 < y0 then y0 else x0) = y0 from by first | (simp [c_1]; done) | grind []], ht⟩) t_nil dJ_max_10
  refine lv_iload_n hx hb dJ_max_5 rfl (lv_at hl 0 rfl) ?_
  refine lv_goto (tgt := 10) hx hb dJ_max_6 (by decide) ?_
  exact W.iret (v := x0) hx hb hr (fun t ht _ => ⟨by rw [show (if x0 < y0 then y0 else x0) = x0 from by first | (simp [c_1]; done) | grind []], ht⟩) t_nil dJ_max_10
set_option maxHeartbeats 4000000 in
set_option maxRecDepth 100000 in
/-- Named(from, start, end) -/
theorem k_N_init (l : Launch) (dC : Nat → ClassId) (dI : Nat → Nat → Nat) (kC kI kJ kQ : ClassId) (ws : va_W) (sz : Nat) (a : Nat) (fr kf N b0 : Nat) (f : Nat → Int32) (ql : List Int32) (hfr : ws[kf]? = some (fr, .inl (kC, N, .inl f))) (hql : ∀ j, j < ql.length → f (b0 + j) = sh_at ql j) (hN1 : b0 + ql.length ≤ N) (hN3 : N ≤ 1000) (hBq : sh_B ql) : Met l yN_init wsN_init ({ frames := 1, cells := 2, slots := 20 + ql.length, locals := 30 }) (va_Pc [.ref a, .ref fr, .int (nI b0), .int (nI (b0 + ql.length))] (zW dC dI ([(kC, .char), (kI, .int), (kJ, .long), (kQ, .object "ShellSum$Named")]) (ws ++ [(a, .inr (0, [.null, .null, .int 0]))]) sz)) (zQ dC dI (va_A (ws ++ [(a, .inr (0, [.null, .null, .int 0]))]) sz) (fun v w => v = none ∧ ∃ (la ra : Nat) (g : Nat → Int32), w = ws ++ rw_c 0 kC ((a, la, ra), ql, g, 0))) 2 (20 + ql.length) (va_A (ws ++ [(a, .inr (0, [.null, .null, .int 0]))]) sz) := by
  refine Met.ofW (cc := cN_init) (maxL := 5) (ret := none) (by decide) rfl ?_
  intro p e s m args below meth c s₁ B hml hv
  obtain ⟨rfl, hsz, hP, hK, hD0, hN⟩ := hv
  subst hsz
  have hD := hD0.self (sz := s.heap.size)
  generalize hAe : va_A (ws ++ [(a, .inr (0, [.null, .null, .int 0]))]) s.heap.size = A at hD ⊢
  have hA : ∀ q : Nat, s.heap.size ≤ q → A q := fun q h => by rw [← hAe]; exact Or.inr h
  have hS : va_S A s.heap s.heap [] := va_S.rf
  have hx := B.exec
  have hb := B.bytes
  have hr := B.returns
  have htz : ∀ w ∈ zw, w.before _ s = true := fun w h => atoms_spec (ws := wsN_init) B.pre w (List.mem_cons_of_mem _ h)
  have hown : s.vm.findClass "ShellSum$Named" = some m.cls := findClass_of_methodNamed B.named
  have hlocks := B.notSynchronized
  have hl := lv_entry ([.ref a, .ref fr, .int (nI b0), .int (nI (b0 + ql.length))]) (n := 5) (Nat.le_of_ble_eq_true rfl)
  rw [lg_entry_eq]
  generalize (lg_sl ([.ref a, .ref fr, .int (nI b0), .int (nI (b0 + ql.length))]) ++ List.replicate (5 - (lg_sl ([.ref a, .ref fr, .int (nI b0), .int (nI (b0 + ql.length))])).length) Slot.unset).toArray = ls at hl ⊢
  have hin : meth.name = "<init>" := (name_of_methodNamed B.named B.method).1
  have hl : lv_has ls 5 [(0, .ref a), (1, .ref fr), (2, .int (nI b0)), (3, .int (nI (b0 + ql.length)))] := hl
  refine lv_aload_n hx hb dN_init_0 rfl (lv_at hl 0 rfl) ?_
  refine W.objInit hx hb hown (htz _ zw_1_154) (htz _ zw_1_18) (htz _ zw_1_19) rfl (by rw [hml]; exact hl.1) rfl dN_init_1 (Nat.le_of_ble_eq_true rfl) (Nat.le_of_ble_eq_true rfl) ?_
  refine W.eq (g2 := F0 m 4 ls []) rfl ?_
  refine lv_aload_n hx hb dN_init_4 rfl (lv_at hl 0 rfl) ?_
  refine lv_bipush (v := 20) hx hb dN_init_5 (by decide) ?_
  refine va_newa (atype := .char) (N' := 20) (a0 := (20, .inl (fun _ => 0))) (ty := .char) (n := 20) hx hb (htz _ zw_1_42) rfl hK hP hD hS hA (fun _ => rfl) (by decide) (rfl) (by show 20 * 2 ≤ 536870912; omega) (by show 0 + 1 ≤ 2; decide) (by show 0 + 20 ≤ 20 + ql.length; omega) dN_init_7 (fun ra cA H hK hP hD hS => ?_)
  have e9 : cA = kC := Option.some.inj ((va_nm_char (hK.2 4 _ rfl).2).symm.trans (va_nm_char (hK.2 0 _ rfl).2))
  rw [e9] at hK hP hD
  have hK := hK.sub (tys' := [(kC, .char), (kI, .int), (kJ, .long), (kQ, .object "ShellSum$Named")]) [0, 1, 2, 3] rfl
  rw [List.append_assoc] at hP hD
  have hP : va_P (dC, dI) vwCl (ws ++ [(a, .inr (0, [.null, .null, .int 0])), (ra, .inl (kC, 20, .inl (fun _ => 0)))]) H := hP
  have hD : va_D A (ws ++ [(a, .inr (0, [.null, .null, .int 0])), (ra, .inl (kC, 20, .inl (fun _ => 0)))]) := hD
  refine va_putF (D := (dC, dI)) (ci := 0) (v := .ref ra) (ty := .array .char) (C := "ShellSum$Named") (T := TN) (N := 3) hx hb htz zu_N tyN tyN_ok nmN hown hK hP hD hS (ws.length + 0) ((xa_get _ _ 0).trans rfl) rfl 1 (by decide) (htz _ zw_1_159) (fun _ h9 => h9) rfl hin rfl (by decide +kernel) rfl rfl (Nat.le_of_ble_eq_true rfl) dN_init_9 (fun H locs hP hD hS => ?_)
  rw [xa_set] at hP hD
  have hP : va_P (dC, dI) vwCl (ws ++ [(a, .inr (0, [.null, .ref ra, .int 0])), (ra, .inl (kC, 20, .inl (fun _ => 0)))]) H := hP
  have hD : va_D A (ws ++ [(a, .inr (0, [.null, .ref ra, .int 0])), (ra, .inl (kC, 20, .inl (fun _ => 0)))]) := hD
  refine lv_aload_n hx hb dN_init_12 rfl (lv_at hl 0 rfl) ?_
  refine lv_iconst (v := 0) hx hb dN_init_13 (by decide) ?_
  refine va_put (D := (dC, dI)) (ci := 0) (v := .int 0) (ty := .int) (C := "ShellSum$Named") (T := TN) (N := 3) hx hb htz zu_N tyN tyN_ok nmN hown hK hP hD hS (ws.length + 0) ((xa_get _ _ 0).trans rfl) rfl 2 (by decide) (htz _ zw_1_162) (fun _ h9 => h9) rfl (by decide +kernel) rfl rfl (Nat.le_of_ble_eq_true rfl) dN_init_14 (fun H locs hP hD hS => ?_)
  rw [xa_set] at hP hD
  have hP : va_P (dC, dI) vwCl (ws ++ [(a, .inr (0, [.null, .ref ra, .int 0])), (ra, .inl (kC, 20, .inl (fun _ => 0)))]) H := hP
  have hD : va_D A (ws ++ [(a, .inr (0, [.null, .ref ra, .int 0])), (ra, .inl (kC, 20, .inl (fun _ => 0)))]) := hD
  refine lv_aload_n hx hb dN_init_17 rfl (lv_at hl 0 rfl) ?_
  refine lv_iload_n hx hb dN_init_18 rfl (lv_at hl 3 rfl) ?_
  refine lv_iload_n hx hb dN_init_19 rfl (lv_at hl 2 rfl) ?_
  refine lv_isub hx hb dN_init_20 ?_
  refine xw_topi (y := nI ql.length) (by rw [pk_sub (by omega)]; congr 1; omega) ?_
  refine lv_iconst (v := 0) hx hb dN_init_21 (by decide) ?_
  refine rq_call (va_runS (As := [.int (nI ql.length), .int 0]) (rest := [.ref a]) ⟨hx, hb, hml, hown, htz⟩ (k_J_max l (nI ql.length) 0) (va_cwS 2 htz (zg_S zw_1_155 zw_1_156 zw_1_11 zw_1_157) rfl rfl rfl (by decide +kernel) ⟨Nat.le_of_ble_eq_true rfl, Nat.le_of_ble_eq_true rfl⟩) rq_pre rfl rfl hl.1 rfl (lv_room (Nat.le_of_ble_eq_true rfl)) dN_init_22 ⟨by show 0 + 1 + 0 ≤ 2; decide, by show 0 + 20 + 0 ≤ 20 + ql.length; omega⟩) ?_
  refine W.eq (g2 := F0 m 25 ls [.int (if nI ql.length < 0 then 0 else nI ql.length), .ref a]) rfl ?_
  refine xw_topi (y := nI ql.length) (if_neg (nI_pos (by omega))) ?_
  refine va_newa (atype := .char) (N' := ql.length) (a0 := (ql.length, .inl (fun _ => 0))) (ty := .char) (n := (nI ql.length)) hx hb (htz _ zw_1_42) rfl hK hP hD hS hA (fun _ => rfl) (nI_pos (by omega)) (nI_clamp (by omega)) (by show ql.length * 2 ≤ 536870912; omega) (by show 0 + 1 + 1 ≤ 2; decide) (by show 0 + 20 + ql.length ≤ 20 + ql.length; omega) dN_init_25 (fun la cA H hK hP hD hS => ?_)
  have e9 : cA = kC := Option.some.inj ((va_nm_char (hK.2 4 _ rfl).2).symm.trans (va_nm_char (hK.2 0 _ rfl).2))
  rw [e9] at hK hP hD
  have hK := hK.sub (tys' := [(kC, .char), (kI, .int), (kJ, .long), (kQ, .object "ShellSum$Named")]) [0, 1, 2, 3] rfl
  rw [List.append_assoc] at hP hD
  have hP : va_P (dC, dI) vwCl (ws ++ [(a, .inr (0, [.null, .ref ra, .int 0])), (ra, .inl (kC, 20, .inl (fun _ => 0))), (la, .inl (kC, ql.length, .inl (fun _ => 0)))]) H := hP
  have hD : va_D A (ws ++ [(a, .inr (0, [.null, .ref ra, .int 0])), (ra, .inl (kC, 20, .inl (fun _ => 0))), (la, .inl (kC, ql.length, .inl (fun _ => 0)))]) := hD
  refine va_putF (D := (dC, dI)) (ci := 0) (v := .ref la) (ty := .array .char) (C := "ShellSum$Named") (T := TN) (N := 3) hx hb htz zu_N tyN tyN_ok nmN hown hK hP hD hS (ws.length + 0) ((xa_get _ _ 0).trans rfl) rfl 0 (by decide) (htz _ zw_1_158) (fun _ h9 => h9) rfl hin rfl (by decide +kernel) rfl rfl (Nat.le_of_ble_eq_true rfl) dN_init_27 (fun H locs hP hD hS => ?_)
  rw [xa_set] at hP hD
  have hP : va_P (dC, dI) vwCl (ws ++ [(a, .inr (0, [.ref la, .ref ra, .int 0])), (ra, .inl (kC, 20, .inl (fun _ => 0))), (la, .inl (kC, ql.length, .inl (fun _ => 0)))]) H := hP
  have hD : va_D A (ws ++ [(a, .inr (0, [.ref la, .ref ra, .int 0])), (ra, .inl (kC, 20, .inl (fun _ => 0))), (la, .inl (kC, ql.length, .inl (fun _ => 0)))]) := hD
  refine lv_iconst (v := 0) hx hb dN_init_30 (by decide) ?_
  refine xw_topi (y := nI 0) (nI_0.symm) ?_
  refine lv_istore (lv' := [(4, .int (nI 0)), (0, .ref a), (1, .ref fr), (2, .int (nI b0)), (3, .int (nI (b0 + ql.length)))]) hx hb dN_init_31 hl (by decide) rfl (fun ls hl => ?_)
  have loop_33 : ∀ (f_loop_33 : Nat) (k : Nat) (g : Nat → Int32), ql.length - k < f_loop_33 → (k ≤ ql.length) → (∀ j, j < k → g j = sh_at ql j) → ∀ (H : Heap) (locs : List Loc), va_P (dC, dI) vwCl (ws ++ [(a, .inr (0, [.ref la, .ref ra, .int 0])), (ra, .inl (kC, 20, .inl (fun _ => 0))), (la, .inl (kC, ql.length, .inl g))]) H → va_D A (ws ++ [(a, .inr (0, [.ref la, .ref ra, .int 0])), (ra, .inl (kC, 20, .inl (fun _ => 0))), (la, .inl (kC, ql.length, .inl g))]) → va_S A s.heap H locs → ∀ ls : Array Slot, lv_has ls 5 [(4, .int (nI k)), (0, .ref a), (1, .ref fr), (2, .int (nI b0)), (3, .int (nI (b0 + ql.length)))] → W p l e (headSpec wsN_init ({ frames := 1, cells := 2, slots := 20 + ql.length, locals := 30 })).room s m ([.ref a, .ref fr, .int (nI b0), .int (nI (b0 + ql.length))] : List Value).toArray below meth c H locs (0 + 1 + 1) (0 + 20 + ql.length) (MQ below (zQ dC dI A (fun v w => v = none ∧ ∃ (la ra : Nat) (g : Nat → Int32), w = ws ++ rw_c 0 kC ((a, la, ra), ql, g, 0))) ([.ref a, .ref fr, .int (nI b0), .int (nI (b0 + ql.length))] : List Value).toArray s 2 (20 + ql.length) A) (F0 m 33 ls []) := by
    intro f_loop_33
    induction f_loop_33 with
    | zero => intro k g hf; exact absurd hf (Nat.not_lt_zero _)
    | succ f_loop_33 ih_loop_33 =>
      intro k g hf_loop_33 hk hg H locs hP hD hS ls hl
      refine lv_iload hx hb dN_init_33 (lv_at hl 0 rfl) ?_
      refine lv_aload_n hx hb dN_init_35 rfl (lv_at hl 1 rfl) ?_
      refine va_get (D := (dC, dI)) (ci := 0) (v := .ref la) (C := "ShellSum$Named") (T := TN) (N := 3) hx hb htz zu_N hown hK hP (ws.length + 0) ((xa_get _ _ 0).trans rfl) rfl 0 (by decide) (htz _ zw_1_158) (fun _ h9 => h9) rfl dN_init_36 ?_
      refine va_alen hx hb hK hP (ws.length + 2) 0 ((xa_get _ _ 2).trans rfl) (ty := .char) rfl (v := nI ql.length) rfl dN_init_39 ?_
      refine lv_icmp_ge (tgt := 71) hx hb dN_init_40 (by decide) (fun c_1 => ?_) (fun c_1 => ?_)
      · skip
        have e_40 : ql.length ≤ k := xi_le c_1 (by omega) (by omega)
        have e_g : g = g := rfl
        have hP : va_P (dC, dI) vwCl (ws ++ [(a, .inr (0, [.ref la, .ref ra, .int 0])), (la, .inl (kC, ql.length, .inl g)), (ra, .inl (kC, 20, .inl (fun _ => 0)))]) H := xw_Pmem hP (fun q hq => by simp only [List.mem_append, List.mem_cons, List.not_mem_nil, or_false] at hq ⊢; grind)
        have hD : va_D A (ws ++ [(a, .inr (0, [.ref la, .ref ra, .int 0])), (la, .inl (kC, ql.length, .inl g)), (ra, .inl (kC, 20, .inl (fun _ => 0)))]) := xw_Dperm hD (List.Perm.append_left _ (List.Perm.cons _ (List.Perm.swap _ _ _)))
        have hP := na_P hP (g2 := fun i => ql.getD i 0) (fun j h => hg j (by omega))
        have hD := na_D hD (g2 := fun i => ql.getD i 0)
        refine W.widen (k := 2) (n := 20 + ql.length) (by omega) (by omega) ?_
        exact W.vret hx hb hr (fun t ht _ => ⟨_, _, rfl, ⟨rfl, la, ra, fun _ => 0, rfl⟩, by rw [ht]; exact hP, hD, hS.F ht⟩) hS.2.2 dN_init_71
      have e_40 : k < ql.length := xi_nle c_1 (by omega) (by omega)
      refine lv_iload_n hx hb dN_init_43 rfl (lv_at hl 3 rfl) ?_
      refine lv_iload hx hb dN_init_44 (lv_at hl 0 rfl) ?_
      refine lv_iadd hx hb dN_init_46 ?_
      refine xw_topi (y := nI (b0 + k)) (nI_add b0 k) ?_
      refine lv_aload_n hx hb dN_init_47 rfl (lv_at hl 2 rfl) ?_
      refine va_alen hx hb hK hP kf 0 (xa_old hfr) (ty := .char) rfl (v := nI N) rfl dN_init_48 ?_
      refine lv_icmp_ge (tgt := 71) hx hb dN_init_49 (by decide) (fun c_2 => ?_) (fun c_2 => ?_)
      · skip
        exact absurd (xi_le c_2 (by omega) (by omega)) (by omega)
      refine lv_aload_n hx hb dN_init_52 rfl (lv_at hl 1 rfl) ?_
      refine va_get (D := (dC, dI)) (ci := 0) (v := .ref la) (C := "ShellSum$Named") (T := TN) (N := 3) hx hb htz zu_N hown hK hP (ws.length + 0) ((xa_get _ _ 0).trans rfl) rfl 0 (by decide) (htz _ zw_1_158) (fun _ h9 => h9) rfl dN_init_53 ?_
      refine lv_iload hx hb dN_init_56 (lv_at hl 0 rfl) ?_
      refine lv_aload_n hx hb dN_init_58 rfl (lv_at hl 2 rfl) ?_
      refine lv_iload_n hx hb dN_init_59 rfl (lv_at hl 3 rfl) ?_
      refine lv_iload hx hb dN_init_60 (lv_at hl 0 rfl) ?_
      refine lv_iadd hx hb dN_init_62 ?_
      refine xw_topi (y := nI (b0 + k)) (nI_add b0 k) ?_
      refine va_cald hx hb hK hP kf 0 (xa_old hfr) rfl (vp_in_nI (by omega) (by omega)) dN_init_63 ?_
      refine xw_topi (y := f (b0 + k)) (by rw [nI_clamp (by omega)]) ?_
      refine xw_topi (y := sh_at ql k) (hql k (by omega)) ?_
      refine va_cast hx hb hK hP hD hS (ws.length + 2) 0 ((xa_get _ _ 2).trans rfl) rfl (vp_in_nI (by omega) (by omega)) dN_init_64 (fun H locs hP hD hS => ?_)
      rw [xa_set] at hP hD
      have hP : va_P (dC, dI) vwCl (ws ++ [(a, .inr (0, [.ref la, .ref ra, .int 0])), (ra, .inl (kC, 20, .inl (fun _ => 0))), (la, .inl (kC, ql.length, .inl (upd g (nI k).toNatClampNeg (vp_nar .char (sh_at ql k)))))]) H := hP
      have hD : va_D A (ws ++ [(a, .inr (0, [.ref la, .ref ra, .int 0])), (ra, .inl (kC, 20, .inl (fun _ => 0))), (la, .inl (kC, ql.length, .inl (upd g (nI k).toNatClampNeg (vp_nar .char (sh_at ql k)))))]) := hD
      have e_f : upd g (nI k).toNatClampNeg (vp_nar .char (sh_at ql k)) = upd g k (sh_at ql k) := by rw [nI_clamp (by omega), show vp_nar .char (sh_at ql k) = sh_at ql k from by unfold vp_nar; rw [sh_at_nar hBq k]]
      rw [e_f] at hP hD
      refine lv_iinc (v := nI (k + 1)) (lv' := [(4, .int (nI (k + 1))), (0, .ref a), (1, .ref fr), (2, .int (nI b0)), (3, .int (nI (b0 + ql.length)))]) hx hb dN_init_65 hl (k := 0) rfl (nI_1 k) (by decide) rfl (fun ls hl => ?_)
      refine lv_goto (tgt := 33) hx hb dN_init_68 (by decide) ?_
      exact ih_loop_33 (k + 1) (upd g k (sh_at ql k)) (by omega) (by omega) (lt_s (fun j h => (pk_un (by omega)).trans (hg j h)) pk_us) _ _ hP hD hS ls (lv_sub hl [0, 1, 2, 3, 4] rfl)
  exact loop_33 _ 0 (fun _ => 0) (Nat.lt_succ_self _) (Nat.zero_le _) (fun j h => absurd h (Nat.not_lt_zero _)) _ _ hP hD hS ls (lv_sub hl [0, 1, 2, 3, 4] rfl)
end
section
def sh_ac (ns : List rw_N) (ql : List Int32) : Nat := if sh_fi ns ql = none ∧ ns.length < 64 then 1 else 0
theorem xa_setl {α : Type} {a b : List α} {k : Nat} {x : α} (h : k < a.length) : (a ++ b).set k x = a.set k x ++ b := List.set_append_left _ _ h
theorem xo_or {α : Type} (o : Option α) : o = none ∨ ∃ x, o = some x := by cases o with
  | none => exact Or.inl rfl
  | some x => exact Or.inr ⟨x, rfl⟩
theorem xl_of {α : Type} {a : List α} {k : Nat} {x : α} (h : a[k]? = some x) : k < a.length := (List.getElem?_eq_some_iff.mp h).1
end
section
theorem sh_fi_mem {ns : List rw_N} {ql : List Int32} {x : rw_N} (h : sh_fi ns ql = some x) : (∃ j : Nat, ns[j]? = some x) ∧ x.2.1 = ql := by
  unfold sh_fi at h
  exact ⟨List.getElem?_of_mem (List.mem_of_find?_eq_some h), by simpa using List.find?_some h⟩
/-- two places of the pool with one address are one place -/
theorem sh_pool_inj {A : Nat → Prop} {ws : va_W} {kp : Nat} {kC : ClassId} {q : Nat → Option Nat} {ns : List rw_N} (hD : va_D A ws) (hpo : sh_pool ws kp kC q ns) {i j : Nat} {x y : rw_N} (hi : ns[i]? = some x) (hj : ns[j]? = some y) (h : x.1.1 = y.1.1) : i = j := by
  have := hD.1 _ _ _ _ (hpo i x hi).2.1 (hpo j y hj).2.1 h
  omega
end
section
set_option maxHeartbeats 4000000 in
set_option maxRecDepth 100000 in
/-- findOrAdd(from, start, end) -/
theorem k_S_findOrAdd (l : Launch) (dC : Nat → ClassId) (dI : Nat → Nat → Nat) (kC kI kJ kQ : ClassId) (ws : va_W) (sz : Nat) (aN aK kn kk kp : Nat) (q : Nat → Option Nat) (ns : List rw_N) (hn : ws[kn]? = some (aN, .inr (1, [.ref aK, .int (nI ns.length)]))) (hkk : ws[kk]? = some (aK, .inl (kQ, 64, .inr (.inr (.inr (.inr q)))))) (hpo : sh_pool ws kp kC q ns) (hns : ns.length ≤ 64) (fr kf N b0 : Nat) (f : Nat → Int32) (ql : List Int32) (hfr : ws[kf]? = some (fr, .inl (kC, N, .inl f))) (hql : ∀ j, j < ql.length → f (b0 + j) = sh_at ql j) (hN1 : b0 + ql.length ≤ N) (hN3 : N ≤ 1000) (hBq : sh_B ql) (hnk : kn ≠ kk) : Met l yS_findOrAdd wsS_findOrAdd ({ frames := 2, cells := 3 * sh_ac ns ql, slots := (23 + ql.length) * sh_ac ns ql, locals := 60 }) (va_Pc [.ref aN, .ref fr, .int (nI b0), .int (nI (b0 + ql.length))] (zW dC dI ([(kC, .char), (kI, .int), (kJ, .long), (kQ, .object "ShellSum$Named")]) ws sz)) (zQ dC dI (va_A ws sz) (fun v w => (∃ x, sh_fi ns ql = some x ∧ v = some (.ref x.1.1) ∧ w = ws) ∨ (sh_fi ns ql = none ∧ 64 ≤ ns.length ∧ v = some .null ∧ w = ws) ∨ (sh_fi ns ql = none ∧ ns.length < 64 ∧ ∃ (a la ra : Nat) (g : Nat → Int32), v = some (.ref a) ∧ w = ((ws.set kk (aK, .inl (kQ, 64, .inr (.inr (.inr (.inr (va_up q ns.length (some a)))))))).set kn (aN, .inr (1, [.ref aK, .int (nI (ns.length + 1))]))) ++ rw_c 0 kC ((a, la, ra), ql, g, 0)))) (3 * sh_ac ns ql) ((23 + ql.length) * sh_ac ns ql) (va_A ws sz) := by
  refine Met.ofW (cc := cS_findOrAdd) (maxL := 6) (ret := (some (.object "ShellSum$Named"))) (by decide) rfl ?_
  intro p e s m args below meth c s₁ B hml hv
  obtain ⟨rfl, hsz, hP, hK, hD0, hN⟩ := hv
  subst hsz
  have hD := hD0.self (sz := s.heap.size)
  generalize hAe : va_A ws s.heap.size = A at hD ⊢
  have hA : ∀ q : Nat, s.heap.size ≤ q → A q := fun q h => by rw [← hAe]; exact Or.inr h
  have hS : va_S A s.heap s.heap [] := va_S.rf
  have hx := B.exec
  have hb := B.bytes
  have hr := B.returns
  have htz : ∀ w ∈ zw, w.before _ s = true := fun w h => atoms_spec (ws := wsS_findOrAdd) B.pre w (List.mem_cons_of_mem _ h)
  have hown : s.vm.findClass "ShellSum$Names" = some m.cls := findClass_of_methodNamed B.named
  have hlocks := B.notSynchronized
  have hl := lv_entry ([.ref aN, .ref fr, .int (nI b0), .int (nI (b0 + ql.length))]) (n := 6) (Nat.le_of_ble_eq_true rfl)
  rw [lg_entry_eq]
  generalize (lg_sl ([.ref aN, .ref fr, .int (nI b0), .int (nI (b0 + ql.length))]) ++ List.replicate (6 - (lg_sl ([.ref aN, .ref fr, .int (nI b0), .int (nI (b0 + ql.length))])).length) Slot.unset).toArray = ls at hl ⊢
  have hl : lv_has ls 6 [(0, .ref aN), (1, .ref fr), (2, .int (nI b0)), (3, .int (nI (b0 + ql.length)))] := hl
  refine lv_aload_n hx hb dS_findOrAdd_0 rfl (lv_at hl 0 rfl) ?_
  refine lv_aload_n hx hb dS_findOrAdd_1 rfl (lv_at hl 1 rfl) ?_
  refine lv_iload_n hx hb dS_findOrAdd_2 rfl (lv_at hl 2 rfl) ?_
  refine lv_iload_n hx hb dS_findOrAdd_3 rfl (lv_at hl 3 rfl) ?_
  refine rq_call (va_runV (As := [.ref fr, .int (nI b0), .int (nI (b0 + ql.length))]) (rest := []) ⟨hx, hb, hml, hown, htz⟩ (k_S_find l dC dI kC kI kJ kQ ws aN aK kn kk kp q ns hn hkk hpo hns fr kf N b0 f ql hfr hql hN1 hN3) (cwV 3 htz (zg_V zw_1_142 zw_1_144 zs_S_find zw_1_3 zw_1_145) rfl rfl rfl (by decide +kernel) ⟨Nat.le_of_ble_eq_true rfl, Nat.le_of_ble_eq_true rfl⟩) (zR_V hP hK hN (va_recv hK hP (ci := 1) (q0 := kn) rfl hn)) rfl rfl hl.1 rfl (lv_room (Nat.le_of_ble_eq_true rfl)) dS_findOrAdd_4 ⟨Nat.zero_le _, Nat.zero_le _⟩) ?_
  refine W.eq (g2 := F0 m 7 ls [va_rf ((sh_fi ns ql).map (fun x => x.1.1))]) rfl ?_
  rcases xo_or (sh_fi ns ql) with hfi | ⟨x, hfi⟩
  · skip
    have e_c : sh_fi ns ql = none := hfi
    refine W.eq (g2 := F0 m 7 ls [.null]) (by rw [hfi]; rfl) ?_
    refine lv_astoreN (lv' := [(4, .null), (0, .ref aN), (1, .ref fr), (2, .int (nI b0)), (3, .int (nI (b0 + ql.length)))]) hx hb dS_findOrAdd_7 hl (by decide) rfl (fun ls hl => ?_)
    refine lv_aloadN hx hb dS_findOrAdd_9 (lv_at hl 0 rfl) ?_
    refine lv_ifnonnullN hx hb dS_findOrAdd_11 ?_
    refine lv_aload_n hx hb dS_findOrAdd_14 rfl (lv_at hl 1 rfl) ?_
    refine va_get (D := (dC, dI)) (ci := 1) (v := .int (nI ns.length)) (C := "ShellSum$Names") (T := TS) (N := 2) hx hb htz zu_S hown hK hP kn hn rfl 1 (by decide) (htz _ zw_1_35) (fun _ h9 => h9) rfl dS_findOrAdd_15 ?_
    refine lv_aload_n hx hb dS_findOrAdd_18 rfl (lv_at hl 1 rfl) ?_
    refine va_get (D := (dC, dI)) (ci := 1) (v := .ref aK) (C := "ShellSum$Names") (T := TS) (N := 2) hx hb htz zu_S hown hK hP kn hn rfl 0 (by decide) (htz _ zw_1_34) (fun _ h9 => h9) rfl dS_findOrAdd_19 ?_
    refine va_alen hx hb hK hP kk 3 hkk (ty := (.object "ShellSum$Named")) rfl (v := nI 64) rfl dS_findOrAdd_22 ?_
    refine lv_icmp_lt (tgt := 29) hx hb dS_findOrAdd_23 (by decide) (fun c_1 => ?_) (fun c_1 => ?_)
    · skip
      have e_23 : ns.length < 64 := xi_lt (b := 64) c_1 (by omega) (by decide)
      have e_ac : sh_ac ns ql = 1 := if_pos ⟨hfi, e_23⟩
      refine va_new (ci := 0) (fs := [.null, .null, .int 0]) (C := "ShellSum$Named") (T := TN) (N := 3) hx hb htz zu_N tyN tyN_ok hown (htz _ zw_1_32) (htz _ zw_1_149) (htz _ zw_1_10) hK hP hD hS hA rfl (fun j hj => by rcases (show j = 0 ∨ j = 1 ∨ j = 2 by omega) with rfl | rfl | rfl <;> rfl) (by show 0 + 1 ≤ 3 * sh_ac ns ql; omega) (by show 0 + 3 ≤ (23 + ql.length) * sh_ac ns ql; rw [e_ac]; omega) dS_findOrAdd_29 (fun a H hP hD hS => ?_)
      refine lv_dup hx hb dS_findOrAdd_32 rfl ?_
      refine lv_aload_n hx hb dS_findOrAdd_33 rfl (lv_at hl 2 rfl) ?_
      refine lv_iload_n hx hb dS_findOrAdd_34 rfl (lv_at hl 3 rfl) ?_
      refine lv_iload_n hx hb dS_findOrAdd_35 rfl (lv_at hl 4 rfl) ?_
      refine zQ_call (va_runIN (As := [.ref fr, .int (nI b0), .int (nI (b0 + ql.length))]) (rest := [.ref a]) ⟨hx, hb, hml, hown, htz⟩ (k_N_init l dC dI kC kI kJ kQ ws _ a fr kf N b0 f ql hfr hql hN1 hN3 hBq) ⟨va_cnB 3 htz (zg_c zw_1_153) rfl rfl rfl (hN _ zn_1_151) (htz _ zw_1_10) (by decide +kernel) ⟨Nat.le_of_ble_eq_true rfl, Nat.le_of_ble_eq_true rfl⟩, rfl, htz _ zw_1_152⟩ (zW_S hP hK hD hN) rfl rfl hl.1 rfl (lv_room (Nat.le_of_ble_eq_true rfl)) dS_findOrAdd_36 ⟨by show 0 + 1 + 2 ≤ 3 * sh_ac ns ql; omega, by show 0 + 3 + (20 + ql.length) ≤ (23 + ql.length) * sh_ac ns ql; rw [e_ac]; omega⟩) hD hS hA (fun v w H locs hp hP hD hS => ?_)
      obtain ⟨rfl, la, ra, g, hw⟩ := hp
      rw [hw] at hP hD
      refine W.eq (g2 := F0 m 39 ls [.ref a]) rfl ?_
      refine lv_astore (lv' := [(5, .ref a), (4, .null), (0, .ref aN), (1, .ref fr), (2, .int (nI b0)), (3, .int (nI (b0 + ql.length)))]) hx hb dS_findOrAdd_39 hl (by decide) rfl (fun ls hl => ?_)
      refine lv_aload_n hx hb dS_findOrAdd_41 rfl (lv_at hl 2 rfl) ?_
      refine va_get (D := (dC, dI)) (ci := 1) (v := .ref aK) (C := "ShellSum$Names") (T := TS) (N := 2) hx hb htz zu_S hown hK hP kn (xa_old hn) rfl 0 (by decide) (htz _ zw_1_34) (fun _ h9 => h9) rfl dS_findOrAdd_42 ?_
      refine lv_aload_n hx hb dS_findOrAdd_45 rfl (lv_at hl 2 rfl) ?_
      refine va_get (D := (dC, dI)) (ci := 1) (v := .int (nI ns.length)) (C := "ShellSum$Names") (T := TS) (N := 2) hx hb htz zu_S hown hK hP kn (xa_old hn) rfl 1 (by decide) (htz _ zw_1_35) (fun _ h9 => h9) rfl dS_findOrAdd_46 ?_
      refine lv_aload hx hb dS_findOrAdd_49 (lv_at hl 0 rfl) ?_
      refine va_astq hx hb hK hP hD hS kk 3 (ws.length + 0) 0 (xa_old hkk) rfl ((xa_get _ _ 0).trans rfl) rfl (vp_in_nI (by omega) (by decide)) dS_findOrAdd_51 (fun H locs hP hD hS => ?_)
      rw [nI_clamp (by omega), xa_setl (xl_of hkk)] at hP hD
      refine lv_aload_n hx hb dS_findOrAdd_52 rfl (lv_at hl 2 rfl) ?_
      refine lv_dup hx hb dS_findOrAdd_53 rfl ?_
      refine va_get (D := (dC, dI)) (ci := 1) (v := .int (nI ns.length)) (C := "ShellSum$Names") (T := TS) (N := 2) hx hb htz zu_S hown hK hP kn (xa_old ((List.getElem?_set_ne (Ne.symm hnk)).trans hn)) rfl 1 (by decide) (htz _ zw_1_35) (fun _ h9 => h9) rfl dS_findOrAdd_54 ?_
      refine lv_iconst (v := 1) hx hb dS_findOrAdd_57 (by decide) ?_
      refine lv_iadd hx hb dS_findOrAdd_58 ?_
      refine xw_topi (y := nI (ns.length + 1)) (nI_add ns.length 1) ?_
      refine va_put (D := (dC, dI)) (ci := 1) (v := .int (nI (ns.length + 1))) (ty := .int) (C := "ShellSum$Names") (T := TS) (N := 2) hx hb htz zu_S tyS tyS_ok nmS hown hK hP hD hS kn (xa_old ((List.getElem?_set_ne (Ne.symm hnk)).trans hn)) rfl 1 (by decide) (htz _ zw_1_35) (fun _ h9 => h9) rfl (by decide +kernel) rfl rfl (Nat.le_of_ble_eq_true rfl) dS_findOrAdd_59 (fun H locs hP hD hS => ?_)
      have hP : va_P (dC, dI) vwCl (List.set (ws.set kk (aK, .inl (kQ, 64, .inr (.inr (.inr (.inr (va_up q ns.length (some a))))))) ++ rw_c 0 kC ((a, la, ra), ql, g, 0)) kn (aN, .inr (1, [.ref aK, .int (nI (ns.length + 1))]))) H := hP
      have hD : va_D A (List.set (ws.set kk (aK, .inl (kQ, 64, .inr (.inr (.inr (.inr (va_up q ns.length (some a))))))) ++ rw_c 0 kC ((a, la, ra), ql, g, 0)) kn (aN, .inr (1, [.ref aK, .int (nI (ns.length + 1))]))) := hD
      rw [xa_setl (by rw [List.length_set]; exact xl_of hn)] at hP hD
      refine lv_aload hx hb dS_findOrAdd_62 (lv_at hl 0 rfl) ?_
      refine W.widen (k := 3 * sh_ac ns ql) (n := (23 + ql.length) * sh_ac ns ql) (by omega) (by rw [e_ac]; omega) ?_
      exact W.aret (v := .ref a) hx hb hr (Or.inl ⟨_, rfl⟩) (Or.inr ⟨_, rfl⟩) (fun t ht _ => ⟨_, _, rfl, Or.inr (Or.inr ⟨hfi, e_23, a, la, ra, g, rfl, rfl⟩), by rw [ht]; exact hP, hD, hS.F ht⟩) hS.2.2 dS_findOrAdd_64
    have e_23 : 64 ≤ ns.length := xi_nlt (b := 64) c_1 (by omega) (by decide)
    refine lv_aloadN hx hb dS_findOrAdd_26 (lv_at hl 0 rfl) ?_
    refine W.widen (k := 3 * sh_ac ns ql) (n := (23 + ql.length) * sh_ac ns ql) (Nat.zero_le _) (Nat.zero_le _) ?_
    exact W.aret (v := .null) hx hb hr (Or.inl ⟨_, rfl⟩) (Or.inl rfl) (fun t ht _ => ⟨_, _, rfl, Or.inr (Or.inl ⟨hfi, e_23, rfl, rfl⟩), by rw [ht]; exact hP, hD, hS.F ht⟩) hS.2.2 dS_findOrAdd_28
  refine W.eq (g2 := F0 m 7 ls [.ref x.1.1]) (by rw [hfi]; rfl) ?_
  refine lv_astore (lv' := [(4, .ref x.1.1), (0, .ref aN), (1, .ref fr), (2, .int (nI b0)), (3, .int (nI (b0 + ql.length)))]) hx hb dS_findOrAdd_7 hl (by decide) rfl (fun ls hl => ?_)
  refine lv_aload hx hb dS_findOrAdd_9 (lv_at hl 0 rfl) ?_
  refine lv_ifnonnull (tgt := 26) hx hb dS_findOrAdd_11 (by decide) ?_
  refine lv_aload hx hb dS_findOrAdd_26 (lv_at hl 0 rfl) ?_
  refine W.widen (k := 3 * sh_ac ns ql) (n := (23 + ql.length) * sh_ac ns ql) (Nat.zero_le _) (Nat.zero_le _) ?_
  exact W.aret (v := .ref x.1.1) hx hb hr (Or.inl ⟨_, rfl⟩) (Or.inr ⟨_, rfl⟩) (fun t ht _ => ⟨_, _, rfl, Or.inl ⟨x, hfi, rfl, rfl⟩, by rw [ht]; exact hP, hD, hS.F ht⟩) hS.2.2 dS_findOrAdd_28
set_option maxHeartbeats 4000000 in
set_option maxRecDepth 100000 in
/-- remove(from, start, end) -/
theorem k_S_remove (l : Launch) (dC : Nat → ClassId) (dI : Nat → Nat → Nat) (kC kI kJ kQ : ClassId) (ws : va_W) (sz : Nat) (aN aK kn kk kp : Nat) (q : Nat → Option Nat) (ns : List rw_N) (hn : ws[kn]? = some (aN, .inr (1, [.ref aK, .int (nI ns.length)]))) (hkk : ws[kk]? = some (aK, .inl (kQ, 64, .inr (.inr (.inr (.inr q)))))) (hpo : sh_pool ws kp kC q ns) (hns : ns.length ≤ 64) (fr kf N b0 : Nat) (f : Nat → Int32) (ql : List Int32) (hfr : ws[kf]? = some (fr, .inl (kC, N, .inl f))) (hql : ∀ j, j < ql.length → f (b0 + j) = sh_at ql j) (hN1 : b0 + ql.length ≤ N) (hN3 : N ≤ 1000) (hnk : kn ≠ kk) (hkp : kn < kp ∧ kk < kp) : Met l yS_remove wsS_remove ({ frames := 2, cells := 0, slots := 0, locals := 60 }) (va_Pc [.ref aN, .ref fr, .int (nI b0), .int (nI (b0 + ql.length))] (zW dC dI ([(kC, .char), (kI, .int), (kJ, .long), (kQ, .object "ShellSum$Named")]) ws sz)) (zQ dC dI (va_A ws sz) (fun v w => (sh_fi ns ql = none ∧ v = some (.int 0) ∧ w = ws) ∨ (∃ (x : rw_N) (j : Nat) (q2 : Nat → Option Nat), sh_fi ns ql = some x ∧ ns[j]? = some x ∧ v = some (.int 1) ∧ (∀ i, i < ns.length - 1 → q2 i = if i = j then q (ns.length - 1) else q i) ∧ w = ((ws.set kn (aN, .inr (1, [.ref aK, .int (nI (ns.length - 1))]))).set kk (aK, .inl (kQ, 64, .inr (.inr (.inr (.inr q2))))))))) 0 0 (va_A ws sz) := by
  refine Met.ofW (cc := cS_remove) (maxL := 6) (ret := (some .boolean)) (by decide) rfl ?_
  intro p e s m args below meth c s₁ B hml hv
  obtain ⟨rfl, hsz, hP, hK, hD0, hN⟩ := hv
  subst hsz
  have hD := hD0.self (sz := s.heap.size)
  generalize hAe : va_A ws s.heap.size = A at hD ⊢
  have hA : ∀ q : Nat, s.heap.size ≤ q → A q := fun q h => by rw [← hAe]; exact Or.inr h
  have hS : va_S A s.heap s.heap [] := va_S.rf
  have hx := B.exec
  have hb := B.bytes
  have hr := B.returns
  have htz : ∀ w ∈ zw, w.before _ s = true := fun w h => atoms_spec (ws := wsS_remove) B.pre w (List.mem_cons_of_mem _ h)
  have hown : s.vm.findClass "ShellSum$Names" = some m.cls := findClass_of_methodNamed B.named
  have hlocks := B.notSynchronized
  have hl := lv_entry ([.ref aN, .ref fr, .int (nI b0), .int (nI (b0 + ql.length))]) (n := 6) (Nat.le_of_ble_eq_true rfl)
  rw [lg_entry_eq]
  generalize (lg_sl ([.ref aN, .ref fr, .int (nI b0), .int (nI (b0 + ql.length))]) ++ List.replicate (6 - (lg_sl ([.ref aN, .ref fr, .int (nI b0), .int (nI (b0 + ql.length))])).length) Slot.unset).toArray = ls at hl ⊢
  have hl : lv_has ls 6 [(0, .ref aN), (1, .ref fr), (2, .int (nI b0)), (3, .int (nI (b0 + ql.length)))] := hl
  refine lv_aload_n hx hb dS_remove_0 rfl (lv_at hl 0 rfl) ?_
  refine lv_aload_n hx hb dS_remove_1 rfl (lv_at hl 1 rfl) ?_
  refine lv_iload_n hx hb dS_remove_2 rfl (lv_at hl 2 rfl) ?_
  refine lv_iload_n hx hb dS_remove_3 rfl (lv_at hl 3 rfl) ?_
  refine rq_call (va_runV (As := [.ref fr, .int (nI b0), .int (nI (b0 + ql.length))]) (rest := []) ⟨hx, hb, hml, hown, htz⟩ (k_S_find l dC dI kC kI kJ kQ ws aN aK kn kk kp q ns hn hkk hpo hns fr kf N b0 f ql hfr hql hN1 hN3) (cwV 3 htz (zg_V zw_1_142 zw_1_144 zs_S_find zw_1_3 zw_1_145) rfl rfl rfl (by decide +kernel) ⟨Nat.le_of_ble_eq_true rfl, Nat.le_of_ble_eq_true rfl⟩) (zR_V hP hK hN (va_recv hK hP (ci := 1) (q0 := kn) rfl hn)) rfl rfl hl.1 rfl (lv_room (Nat.le_of_ble_eq_true rfl)) dS_remove_4 ⟨Nat.zero_le _, Nat.zero_le _⟩) ?_
  refine W.eq (g2 := F0 m 7 ls [va_rf ((sh_fi ns ql).map (fun x => x.1.1))]) rfl ?_
  rcases xo_or (sh_fi ns ql) with hfi | ⟨x, hfi⟩
  · skip
    refine W.eq (g2 := F0 m 7 ls [.null]) (by rw [hfi]; rfl) ?_
    refine lv_astoreN (lv' := [(4, .null), (0, .ref aN), (1, .ref fr), (2, .int (nI b0)), (3, .int (nI (b0 + ql.length)))]) hx hb dS_remove_7 hl (by decide) rfl (fun ls hl => ?_)
    refine lv_aloadN hx hb dS_remove_9 (lv_at hl 0 rfl) ?_
    refine lv_ifnonnullN hx hb dS_remove_11 ?_
    refine lv_iconst (v := 0) hx hb dS_remove_14 (by decide) ?_
    refine W.widen (k := 0) (n := 0) (Nat.zero_le _) (Nat.zero_le _) ?_
    exact W.zret (v := 0) hx hb hr (rfl) (fun t ht _ => ⟨_, _, rfl, Or.inl ⟨hfi, rfl, rfl⟩, by rw [ht]; exact hP, hD, hS.F ht⟩) hS.2.2 dS_remove_15
  refine W.eq (g2 := F0 m 7 ls [.ref x.1.1]) (by rw [hfi]; rfl) ?_
  obtain ⟨⟨j, hxj⟩, -⟩ := sh_fi_mem hfi
  have hjn := xl_of hxj
  have hDw := hD
  refine lv_astore (lv' := [(4, .ref x.1.1), (0, .ref aN), (1, .ref fr), (2, .int (nI b0)), (3, .int (nI (b0 + ql.length)))]) hx hb dS_remove_7 hl (by decide) rfl (fun ls hl => ?_)
  refine lv_aload hx hb dS_remove_9 (lv_at hl 0 rfl) ?_
  refine lv_ifnonnull (tgt := 16) hx hb dS_remove_11 (by decide) ?_
  refine lv_aload_n hx hb dS_remove_16 rfl (lv_at hl 1 rfl) ?_
  refine lv_dup hx hb dS_remove_17 rfl ?_
  refine va_get (D := (dC, dI)) (ci := 1) (v := .int (nI ns.length)) (C := "ShellSum$Names") (T := TS) (N := 2) hx hb htz zu_S hown hK hP kn hn rfl 1 (by decide) (htz _ zw_1_35) (fun _ h9 => h9) rfl dS_remove_18 ?_
  refine lv_iconst (v := 1) hx hb dS_remove_21 (by decide) ?_
  refine lv_isub hx hb dS_remove_22 ?_
  refine xw_topi (y := nI (ns.length - 1)) (pk_sub (b := 1) (by omega)) ?_
  refine va_put (D := (dC, dI)) (ci := 1) (v := .int (nI (ns.length - 1))) (ty := .int) (C := "ShellSum$Names") (T := TS) (N := 2) hx hb htz zu_S tyS tyS_ok nmS hown hK hP hD hS kn hn rfl 1 (by decide) (htz _ zw_1_35) (fun _ h9 => h9) rfl (by decide +kernel) rfl rfl (Nat.le_of_ble_eq_true rfl) dS_remove_23 (fun H locs hP hD hS => ?_)
  have hP : va_P (dC, dI) vwCl (ws.set kn (aN, .inr (1, [.ref aK, .int (nI (ns.length - 1))]))) H := hP
  have hD : va_D A (ws.set kn (aN, .inr (1, [.ref aK, .int (nI (ns.length - 1))]))) := hD
  have e_w : (ws.set kn (aN, .inr (1, [.ref aK, .int (nI (ns.length - 1))]))) = ((ws.set kn (aN, .inr (1, [.ref aK, .int (nI (ns.length - 1))]))).set kk (aK, .inl (kQ, 64, .inr (.inr (.inr (.inr q)))))) := by rw [List.set_comm _ _ hnk, (show ws.set kk (aK, .inl (kQ, 64, .inr (.inr (.inr (.inr q))))) = ws from by obtain ⟨h1, h2⟩ := List.getElem?_eq_some_iff.mp hkk; rw [← h2, List.set_getElem_self])]
  rw [e_w] at hP hD
  refine lv_iconst (v := 0) hx hb dS_remove_26 (by decide) ?_
  refine xw_topi (y := nI 0) (nI_0.symm) ?_
  refine lv_istore (lv' := [(5, .int (nI 0)), (4, .ref x.1.1), (0, .ref aN), (1, .ref fr), (2, .int (nI b0)), (3, .int (nI (b0 + ql.length)))]) hx hb dS_remove_27 hl (by decide) rfl (fun ls hl => ?_)
  have loop_29 : ∀ (f_loop_29 : Nat) (k : Nat) (q2 : Nat → Option Nat), ns.length - 1 - k < f_loop_29 → (k ≤ ns.length - 1) → (∀ i, i < ns.length → q2 i = if i < k ∧ i = j then q (ns.length - 1) else q i) → ∀ (H : Heap) (locs : List Loc), va_P (dC, dI) vwCl ((ws.set kn (aN, .inr (1, [.ref aK, .int (nI (ns.length - 1))]))).set kk (aK, .inl (kQ, 64, .inr (.inr (.inr (.inr q2)))))) H → va_D A ((ws.set kn (aN, .inr (1, [.ref aK, .int (nI (ns.length - 1))]))).set kk (aK, .inl (kQ, 64, .inr (.inr (.inr (.inr q2)))))) → va_S A s.heap H locs → ∀ ls : Array Slot, lv_has ls 6 [(5, .int (nI k)), (4, .ref x.1.1), (0, .ref aN), (1, .ref fr), (2, .int (nI b0)), (3, .int (nI (b0 + ql.length)))] → W p l e (headSpec wsS_remove ({ frames := 2, cells := 0, slots := 0, locals := 60 })).room s m ([.ref aN, .ref fr, .int (nI b0), .int (nI (b0 + ql.length))] : List Value).toArray below meth c H locs 0 0 (MQ below (zQ dC dI A (fun v w => (sh_fi ns ql = none ∧ v = some (.int 0) ∧ w = ws) ∨ (∃ (x : rw_N) (j : Nat) (q2 : Nat → Option Nat), sh_fi ns ql = some x ∧ ns[j]? = some x ∧ v = some (.int 1) ∧ (∀ i, i < ns.length - 1 → q2 i = if i = j then q (ns.length - 1) else q i) ∧ w = ((ws.set kn (aN, .inr (1, [.ref aK, .int (nI (ns.length - 1))]))).set kk (aK, .inl (kQ, 64, .inr (.inr (.inr (.inr q2))))))))) ([.ref aN, .ref fr, .int (nI b0), .int (nI (b0 + ql.length))] : List Value).toArray s 0 0 A) (F0 m 29 ls []) := by
    intro f_loop_29
    induction f_loop_29 with
    | zero => intro k q2 hf; exact absurd hf (Nat.not_lt_zero _)
    | succ f_loop_29 ih_loop_29 =>
      intro k q2 hf_loop_29 hk hq2 H locs hP hD hS ls hl
      refine lv_iload hx hb dS_remove_29 (lv_at hl 0 rfl) ?_
      refine lv_aload_n hx hb dS_remove_31 rfl (lv_at hl 2 rfl) ?_
      refine va_get (D := (dC, dI)) (ci := 1) (v := .int (nI (ns.length - 1))) (C := "ShellSum$Names") (T := TS) (N := 2) hx hb htz zu_S hown hK hP kn ((List.getElem?_set_ne (Ne.symm hnk)).trans (List.getElem?_set_self (xl_of hn))) rfl 1 (by decide) (htz _ zw_1_35) (fun _ h9 => h9) rfl dS_remove_32 ?_
      refine lv_icmp_ge (tgt := 84) hx hb dS_remove_35 (by decide) (fun c_1 => ?_) (fun c_1 => ?_)
      · skip
        have e_35 : ns.length - 1 ≤ k := xi_le c_1 (by omega) (by omega)
        refine lv_iconst (v := 1) hx hb dS_remove_84 (by decide) ?_
        refine W.widen (k := 0) (n := 0) (Nat.le_refl _) (Nat.le_refl _) ?_
        exact W.zret (v := 1) hx hb hr (rfl) (fun t ht _ => ⟨_, _, rfl, Or.inr ⟨x, j, q2, hfi, hxj, rfl, fun i h => by rw [hq2 i (by omega)]; grind, rfl⟩, by rw [ht]; exact hP, hD, hS.F ht⟩) hS.2.2 dS_remove_85
      have e_35 : k < ns.length - 1 := xi_nle c_1 (by omega) (by omega)
      refine lv_aload_n hx hb dS_remove_38 rfl (lv_at hl 2 rfl) ?_
      refine va_get (D := (dC, dI)) (ci := 1) (v := .int (nI (ns.length - 1))) (C := "ShellSum$Names") (T := TS) (N := 2) hx hb htz zu_S hown hK hP kn ((List.getElem?_set_ne (Ne.symm hnk)).trans (List.getElem?_set_self (xl_of hn))) rfl 1 (by decide) (htz _ zw_1_35) (fun _ h9 => h9) rfl dS_remove_39 ?_
      refine lv_aload_n hx hb dS_remove_42 rfl (lv_at hl 2 rfl) ?_
      refine va_get (D := (dC, dI)) (ci := 1) (v := .ref aK) (C := "ShellSum$Names") (T := TS) (N := 2) hx hb htz zu_S hown hK hP kn ((List.getElem?_set_ne (Ne.symm hnk)).trans (List.getElem?_set_self (xl_of hn))) rfl 0 (by decide) (htz _ zw_1_34) (fun _ h9 => h9) rfl dS_remove_43 ?_
      refine va_alen hx hb hK hP kk 3 (List.getElem?_set_self (by rw [List.length_set]; exact xl_of hkk)) (ty := (.object "ShellSum$Named")) rfl (v := nI 64) rfl dS_remove_46 ?_
      refine lv_icmp_ge (tgt := 84) hx hb dS_remove_47 (by decide) (fun c_2 => ?_) (fun c_2 => ?_)
      · skip
        exact absurd (xi_le (a := 64) c_2 (by decide) (by omega)) (by omega)
      obtain ⟨y, hyk⟩ : ∃ y, ns[k]? = some y := ⟨_, List.getElem?_eq_getElem (by omega)⟩
      have hqk : q2 k = some y.1.1 := by rw [hq2 k (by omega), if_neg (by omega)]; exact (hpo k y hyk).1
      refine lv_aload_n hx hb dS_remove_50 rfl (lv_at hl 2 rfl) ?_
      refine va_get (D := (dC, dI)) (ci := 1) (v := .ref aK) (C := "ShellSum$Names") (T := TS) (N := 2) hx hb htz zu_S hown hK hP kn ((List.getElem?_set_ne (Ne.symm hnk)).trans (List.getElem?_set_self (xl_of hn))) rfl 0 (by decide) (htz _ zw_1_34) (fun _ h9 => h9) rfl dS_remove_51 ?_
      refine lv_iload hx hb dS_remove_54 (lv_at hl 0 rfl) ?_
      refine va_aldq hx hb hK hP kk 3 (List.getElem?_set_self (by rw [List.length_set]; exact xl_of hkk)) rfl (vp_in_nI (by omega) (by omega)) dS_remove_56 ?_
      refine xw_topv (y := va_rf (some y.1.1)) (by rw [nI_clamp (by omega), hqk]) ?_
      refine lv_aload hx hb dS_remove_57 (lv_at hl 1 rfl) ?_
      refine lv_acmp_ne (rx := some y.1.1) (ry := some x.1.1) (tgt := 78) hx hb dS_remove_59 (by decide) (fun c_a => ?_) (fun c_a => ?_)
      · skip
        have e_j : k ≠ j := fun e => c_a (by rw [e] at hyk; rw [hxj] at hyk; cases hyk; rfl)
        refine lv_iinc (v := nI (k + 1)) (lv' := [(5, .int (nI (k + 1))), (4, .ref x.1.1), (0, .ref aN), (1, .ref fr), (2, .int (nI b0)), (3, .int (nI (b0 + ql.length)))]) hx hb dS_remove_78 hl (k := 0) rfl (nI_1 k) (by decide) rfl (fun ls hl => ?_)
        refine lv_goto (tgt := 29) hx hb dS_remove_81 (by decide) ?_
        exact ih_loop_29 (k + 1) q2 (by omega) (by omega) (fun i h => by rw [hq2 i h]; grind) _ _ hP hD hS ls (lv_sub hl [0, 1, 2, 3, 4, 5] rfl)
      have e_j : k = j := sh_pool_inj hDw hpo hyk hxj (Option.some.inj c_a)
      obtain ⟨z, hzk⟩ : ∃ z, ns[ns.length - 1]? = some z := ⟨_, List.getElem?_eq_getElem (by omega)⟩
      have hqz : q2 (ns.length - 1) = some z.1.1 := by rw [hq2 _ (by omega), if_neg (by omega)]; exact (hpo _ z hzk).1
      refine lv_aload_n hx hb dS_remove_62 rfl (lv_at hl 2 rfl) ?_
      refine va_get (D := (dC, dI)) (ci := 1) (v := .ref aK) (C := "ShellSum$Names") (T := TS) (N := 2) hx hb htz zu_S hown hK hP kn ((List.getElem?_set_ne (Ne.symm hnk)).trans (List.getElem?_set_self (xl_of hn))) rfl 0 (by decide) (htz _ zw_1_34) (fun _ h9 => h9) rfl dS_remove_63 ?_
      refine lv_iload hx hb dS_remove_66 (lv_at hl 0 rfl) ?_
      refine lv_aload_n hx hb dS_remove_68 rfl (lv_at hl 2 rfl) ?_
      refine va_get (D := (dC, dI)) (ci := 1) (v := .ref aK) (C := "ShellSum$Names") (T := TS) (N := 2) hx hb htz zu_S hown hK hP kn ((List.getElem?_set_ne (Ne.symm hnk)).trans (List.getElem?_set_self (xl_of hn))) rfl 0 (by decide) (htz _ zw_1_34) (fun _ h9 => h9) rfl dS_remove_69 ?_
      refine lv_aload_n hx hb dS_remove_72 rfl (lv_at hl 2 rfl) ?_
      refine va_get (D := (dC, dI)) (ci := 1) (v := .int (nI (ns.length - 1))) (C := "ShellSum$Names") (T := TS) (N := 2) hx hb htz zu_S hown hK hP kn ((List.getElem?_set_ne (Ne.symm hnk)).trans (List.getElem?_set_self (xl_of hn))) rfl 1 (by decide) (htz _ zw_1_35) (fun _ h9 => h9) rfl dS_remove_73 ?_
      refine va_aldq hx hb hK hP kk 3 (List.getElem?_set_self (by rw [List.length_set]; exact xl_of hkk)) rfl (vp_in_nI (by omega) (by omega)) dS_remove_76 ?_
      refine xw_topv (y := .ref z.1.1) (by rw [nI_clamp (by omega), hqz]; rfl) ?_
      refine va_astq hx hb hK hP hD hS kk 3 (kp + 3 * (ns.length - 1)) 0 (List.getElem?_set_self (by rw [List.length_set]; exact xl_of hkk)) rfl ((List.getElem?_set_ne (by omega)).trans ((List.getElem?_set_ne (by omega)).trans (hpo _ z hzk).2.1)) rfl (vp_in_nI (by omega) (by decide)) dS_remove_77 (fun H locs hP hD hS => ?_)
      rw [nI_clamp (by omega), List.set_set] at hP hD
      have hqz9 := (hpo _ z hzk).1
      refine lv_iinc (v := nI (k + 1)) (lv' := [(5, .int (nI (k + 1))), (4, .ref x.1.1), (0, .ref aN), (1, .ref fr), (2, .int (nI b0)), (3, .int (nI (b0 + ql.length)))]) hx hb dS_remove_78 hl (k := 0) rfl (nI_1 k) (by decide) rfl (fun ls hl => ?_)
      refine lv_goto (tgt := 29) hx hb dS_remove_81 (by decide) ?_
      exact ih_loop_29 (k + 1) (va_up q2 k (some z.1.1)) (by omega) (by omega) (fun i h => by unfold va_up; have := hq2 i h; grind) _ _ hP hD hS ls (lv_sub hl [0, 1, 2, 3, 4, 5] rfl)
  exact loop_29 _ 0 q (Nat.lt_succ_self _) (Nat.zero_le _) (fun i h => by rw [if_neg (by omega)]) _ _ hP hD hS ls (lv_sub hl [0, 1, 2, 3, 4, 5] rfl)
end
section
/-- the text of a named thing -/
def rw_tx (x : rw_N) : List Int32 := (List.range x.2.2.2.toNatClampNeg).map x.2.2.1
def rw_ok (x : rw_N) : Prop := (∃ L : Nat, L ≤ 20 ∧ x.2.2.2 = nI L) ∧ sh_B (rw_tx x) ∧ x.2.1.length ≤ 300
/-- the names of the class: on the heap, and as pairs of texts -/
def zEn (q : Nat → Option Nat) (ns : List rw_N) (env : sh_Env) : Prop := env = ns.map (fun x => (x.2.1, rw_tx x)) ∧ (∀ (i : Nat) (x : rw_N), ns[i]? = some x → q i = some x.1.1) ∧ (∀ x ∈ ns, rw_ok x) ∧ ns.length ≤ 64 ∧ (env.map (·.1)).Nodup
theorem zEn_pool {q : Nat → Option Nat} {ns : List rw_N} {env : sh_Env} {kC : ClassId} (pre : va_W) (h : zEn q ns env) : sh_pool (pre ++ rw_p 0 kC ns) pre.length kC q ns := by
  intro i x hi
  have e0 := rw_p_get (ci := 0) (cA := kC) 0 (by decide) hi
  have e1 := rw_p_get (ci := 0) (cA := kC) 1 (by decide) hi
  have e2 := rw_p_get (ci := 0) (cA := kC) 2 (by decide) hi
  refine ⟨h.2.1 i x hi, ?_, ?_, ?_, (h.2.2.1 x (List.mem_of_getElem? hi)).2.2⟩
  · rw [xa_get]; exact e0
  · rw [Nat.add_assoc, xa_get]; exact e1
  · rw [Nat.add_assoc, xa_get]; exact e2
theorem zEn_find {q : Nat → Option Nat} {ns : List rw_N} {env : sh_Env} (h : zEn q ns env) (nm : List Int32) : sh_find env nm = (sh_fi ns nm).map rw_tx := by
  rw [h.1]
  unfold sh_find sh_fi
  rw [List.find?_map, Option.map_map]
  rfl
theorem rw_tx_len {x : rw_N} {L : Nat} (hL : L ≤ 20) (h : x.2.2.2 = nI L) : (rw_tx x).length = L := by
  unfold rw_tx
  rw [List.length_map, List.length_range, h, nI_clamp (by omega)]
theorem rw_tx_at {x : rw_N} {L j : Nat} (hL : L ≤ 20) (h : x.2.2.2 = nI L) (hj : j < L) : x.2.2.1 j = sh_at (rw_tx x) j := by
  rw [sh_at_get (by rw [rw_tx_len hL h]; exact hj)]
  simp [rw_tx]
theorem nv_none {env : sh_Env} {nm : List Int32} (h : sh_find env nm = none) : sh_nameVal env nm = some 0 := by
  unfold sh_nameVal; rw [h]
theorem nv_some {env : sh_Env} {nm t : List Int32} (h : sh_find env nm = some t) : sh_nameVal env nm = if t.length = 0 then some 0 else if sh_at t 0 = 45 then (sh_num t.tail).map (fun v => -v) else sh_num t := by
  unfold sh_nameVal; rw [h]
  cases t with
  | nil => rfl
  | cons c r => rfl
theorem zk_map {α β : Type} (o : Option α) (f : α → β) : zk (o.map f) = zk o := by cases o <;> rfl
end
section
/-! calls of nestmates that may throw; of one with a table of handlers -/
section VXN
variable {p : Program} {l : Launch} {e : Env} {R : Room} {s : State} {m : MethodId} {args : Array Value} {below : List Frame} {meth : Method} {c : Code} {T : State} {locs : List Loc} {cells slots : Nat}
theorem vx_callVN (X : Stand p l e R s m args below meth c T locs cells slots) (hexec : p.tables.exec = Jvm.exec) {own C : String} {index : Nat} {host : String} {y : MethodName} {bytes : ByteArray} {maxL : Nat} {ret : Option FieldType}
    (hown : s.vm.findClass own = some m.cls) (hlink : (Cond.methodLinkNest own index y host).before args s = true) (hinst : (Cond.instanceMethod y).before args s = true) (hsel : (Cond.selects C y y).before args s = true)
    (hcode : (Cond.code y bytes maxL ret).before args s = true) (hy : y.cls ≠ "java/lang/invoke/MethodHandle" ∧ y.cls ≠ "java/lang/invoke/VarHandle")
    {W9 : Nat} {Pre : Pt → Array Value → Prop} {Post : Pt → Array Value → Option Value → Pt → Prop} {PostX : Pt → Array Value → Addr → Pt → Prop} (hK : vx_Back l R p e below s args y 3 W9 Pre Post PostX)
    {b : Addr} {cellB : Cell} (hcell : T.heap[b]? = some cellB) (hobj : cellB.vm.isStatics = false) (hcls : s.vm.findClass C = some cellB.cls)
    {g : JFrame} (hg : g.method = m) (hsize : g.locals.size = c.maxLocals) {argsL rest : List Value} (hlen : ∀ sig, parseMethodDescriptor y.desc = some sig → argsL.length = sig.parameters.length)
    (hstack : g.stack = argsL.reverse ++ .ref b :: rest) (hW : 2 * g.monitorRoom + (rest.map fun v => v.category).sum ≤ W9) (hdg : decode c.code g.pc = .ok (.invokevirtual index, 3))
    (hpre : ∀ vm₁, s.WarmedH vm₁ → Pre ⟨T.setVm vm₁, locs, cells, slots⟩ (Value.ref b :: argsL).toArray) :
    (∃ (v : Option Value) (vm₁ : Vm) (B : Pt), s.WarmedH vm₁ ∧ Stand p l e R s m args below meth c B.U B.locs B.cells B.slots ∧ Post ⟨T.setVm vm₁, locs, cells, slots⟩ (Value.ref b :: argsL).toArray v B ∧
      ∀ target, Steps p.tables e below (B.U.setTop { g with pc := g.pc + 3, stack := v.toList ++ rest }) target → Steps p.tables e below (T.setTop g) target) ∨
    (∃ (q : Addr) (vm₁ : Vm) (B : Pt), s.WarmedH vm₁ ∧ Stand p l e R s m args below meth c B.U B.locs B.cells B.slots ∧ PostX ⟨T.setVm vm₁, locs, cells, slots⟩ (Value.ref b :: argsL).toArray q B ∧
      Steps p.tables e below (T.setTop g) ((B.U.setTop { g with stack := rest }).pushFrame (.throwing q))) := by
  obtain ⟨mk, methM, hnamed, hmethM, hstM, habM⟩ := Cond.instanceMethod_spec hinst
  obtain ⟨methM', cM, hmethM', -, -, -, -, -, -, hsigM⟩ := Cond.code_spec hnamed hcode
  cases hmethM.symm.trans hmethM'
  obtain ⟨c2, r2, m2, q1, q2, q3, q4, kP, hkP, hkPi⟩ := Cond.selects_spec hsel
  cases hcls.symm.trans q1
  cases (State.methodFound?_of_named hnamed hy).symm.trans q2
  cases hnamed.symm.trans q3
  have hselP : selectMethod e.platform s.vm cellB.cls mk = .method mk := by rw [Launch.admits_selectMethod X.admits]; exact q4
  obtain ⟨vm₁, X₁, hstep₁⟩ := X.invokevirtualNest hexec hown hlink hnamed hmethM hstM hkP hkPi hy (a := b) (cell := cellB) hcell
    (fun z h => by rw [h] at hobj; cases hobj) hselP hmethM habM hkP hkPi (g := g) hg (argsL := argsL) (rest := rest) (hlen _ hsigM) hstack hdg
  rcases hK m meth c ⟨T.setVm vm₁, locs, cells, slots⟩ { g with stack := rest } (.invokevirtual index) mk (Value.ref b :: argsL).toArray X₁ hg hsize hdg hW (X₁.named hnamed) (hpre vm₁ X₁.warmed) with ⟨v, B, X', hpost, hsteps⟩ | ⟨q, B, X', hpost, hsteps⟩
  · exact Or.inl ⟨v, vm₁, B, X₁.warmed, X', hpost, fun target h => hstep₁ _ fun acts => by rw [doInvoke_state]; exact hsteps.trans h⟩
  · exact Or.inr ⟨q, vm₁, B, X₁.warmed, X', hpost, hstep₁ _ fun acts => by rw [doInvoke_state]; exact hsteps⟩
theorem vx_callSN (X : Stand p l e R s m args below meth c T locs cells slots) (hexec : p.tables.exec = Jvm.exec) {own : String} {index : Nat} {host : String} {y : MethodName} {bytes : ByteArray} {maxL : Nat} {ret : Option FieldType}
    (hown : s.vm.findClass own = some m.cls) (hlink : (Cond.methodLinkNest own index y host).before args s = true) (hstat : (Cond.static y).before args s = true) (hinit : (Cond.initialized y.cls).before args s = true)
    (hcode : (Cond.code y bytes maxL ret).before args s = true) (hy : y.cls ≠ "java/lang/invoke/MethodHandle" ∧ y.cls ≠ "java/lang/invoke/VarHandle")
    {W9 : Nat} {Pre : Pt → Array Value → Prop} {Post : Pt → Array Value → Option Value → Pt → Prop} {PostX : Pt → Array Value → Addr → Pt → Prop} (hK : vx_Back l R p e below s args y 3 W9 Pre Post PostX)
    {g : JFrame} (hg : g.method = m) (hsize : g.locals.size = c.maxLocals) {argsL rest : List Value} (hlen : ∀ sig, parseMethodDescriptor y.desc = some sig → argsL.length = sig.parameters.length)
    (hstack : g.stack = argsL.reverse ++ rest) (hW : 2 * g.monitorRoom + (rest.map fun v => v.category).sum ≤ W9) (hdg : decode c.code g.pc = .ok (.invokestatic index, 3))
    (hpre : ∀ vm₁, s.WarmedH vm₁ → Pre ⟨T.setVm vm₁, locs, cells, slots⟩ argsL.toArray) :
    (∃ (v : Option Value) (vm₁ : Vm) (B : Pt), s.WarmedH vm₁ ∧ Stand p l e R s m args below meth c B.U B.locs B.cells B.slots ∧ Post ⟨T.setVm vm₁, locs, cells, slots⟩ argsL.toArray v B ∧
      ∀ target, Steps p.tables e below (B.U.setTop { g with pc := g.pc + 3, stack := v.toList ++ rest }) target → Steps p.tables e below (T.setTop g) target) ∨
    (∃ (q : Addr) (vm₁ : Vm) (B : Pt), s.WarmedH vm₁ ∧ Stand p l e R s m args below meth c B.U B.locs B.cells B.slots ∧ PostX ⟨T.setVm vm₁, locs, cells, slots⟩ argsL.toArray q B ∧
      Steps p.tables e below (T.setTop g) ((B.U.setTop { g with stack := rest }).pushFrame (.throwing q))) := by
  obtain ⟨mk, hnamed⟩ := Cond.code_named hcode
  obtain ⟨methM, cM, hmethM, -, -, -, -, -, -, hsigM⟩ := Cond.code_spec hnamed hcode
  have hstatic : methM.isStatic = true := Cond.static_spec hnamed hmethM hstat
  obtain ⟨kP, hkP, -⟩ := className_of_methodNamed hnamed
  have hinitP : kP.init = .initialized := Cond.initialized_spec (findClass_of_methodNamed hnamed) hkP hinit
  obtain ⟨vm₁, X₁, hstep₁⟩ := X.invokestaticNest hexec hown hlink hnamed hmethM hstatic hkP hinitP hy (g := g) hg (argsL := argsL) (rest := rest) (hlen _ hsigM) hstack hdg
  rcases hK m meth c ⟨T.setVm vm₁, locs, cells, slots⟩ { g with stack := rest } (.invokestatic index) mk argsL.toArray X₁ hg hsize hdg hW (X₁.named hnamed) (hpre vm₁ X₁.warmed) with ⟨v, B, X', hpost, hsteps⟩ | ⟨q, B, X', hpost, hsteps⟩
  · exact Or.inl ⟨v, vm₁, B, X₁.warmed, X', hpost, fun target h => hstep₁ _ fun acts => by rw [doInvoke_state]; exact hsteps.trans h⟩
  · exact Or.inr ⟨q, vm₁, B, X₁.warmed, X', hpost, hstep₁ _ fun acts => by rw [doInvoke_state]; exact hsteps⟩
theorem vx_callVNW (X : Stand p l e R s m args below meth c T locs cells slots) (hexec : p.tables.exec = Jvm.exec) {own C : String} {index : Nat} {host : String} {y : MethodName} {bytes : ByteArray} {maxL : Nat} {ret : Option FieldType} {hh : List (Nat × Nat × Nat × Nat)}
    (hown : s.vm.findClass own = some m.cls) (hlink : (Cond.methodLinkNest own index y host).before args s = true) (hinst : (Cond.instanceMethod y).before args s = true) (hsel : (Cond.selects C y y).before args s = true)
    (hcode : (Cond.codeWith y bytes maxL ret hh).before args s = true) (hy : y.cls ≠ "java/lang/invoke/MethodHandle" ∧ y.cls ≠ "java/lang/invoke/VarHandle")
    {W9 : Nat} {Pre : Pt → Array Value → Prop} {Post : Pt → Array Value → Option Value → Pt → Prop} (hK : Back l R p e below s args y 3 W9 Pre Post)
    {b : Addr} {cellB : Cell} (hcell : T.heap[b]? = some cellB) (hobj : cellB.vm.isStatics = false) (hcls : s.vm.findClass C = some cellB.cls)
    {g : JFrame} (hg : g.method = m) (hsize : g.locals.size = c.maxLocals) {argsL rest : List Value} (hlen : ∀ sig, parseMethodDescriptor y.desc = some sig → argsL.length = sig.parameters.length)
    (hstack : g.stack = argsL.reverse ++ .ref b :: rest) (hW : 2 * g.monitorRoom + (rest.map fun v => v.category).sum ≤ W9) (hdg : decode c.code g.pc = .ok (.invokevirtual index, 3))
    (hpre : ∀ vm₁, s.WarmedH vm₁ → Pre ⟨T.setVm vm₁, locs, cells, slots⟩ (Value.ref b :: argsL).toArray) :
    ∃ (v : Option Value) (vm₁ : Vm) (B : Pt), s.WarmedH vm₁ ∧ Stand p l e R s m args below meth c B.U B.locs B.cells B.slots ∧ Post ⟨T.setVm vm₁, locs, cells, slots⟩ (Value.ref b :: argsL).toArray v B ∧
      ∀ target, Steps p.tables e below (B.U.setTop { g with pc := g.pc + 3, stack := v.toList ++ rest }) target → Steps p.tables e below (T.setTop g) target := by
  obtain ⟨mk, methM, hnamed, hmethM, hstM, habM⟩ := Cond.instanceMethod_spec hinst
  obtain ⟨m8, methM', cM, hn8, hmethM', -, -, -, -, -, -, hsigM⟩ := Cond.codeWith_spec hcode
  cases Option.some.inj (hn8.symm.trans hnamed)
  cases hmethM.symm.trans hmethM'
  obtain ⟨c2, r2, m2, q1, q2, q3, q4, kP, hkP, hkPi⟩ := Cond.selects_spec hsel
  cases hcls.symm.trans q1
  cases (State.methodFound?_of_named hnamed hy).symm.trans q2
  cases hnamed.symm.trans q3
  have hselP : selectMethod e.platform s.vm cellB.cls mk = .method mk := by rw [Launch.admits_selectMethod X.admits]; exact q4
  obtain ⟨vm₁, X₁, hstep₁⟩ := X.invokevirtualNest hexec hown hlink hnamed hmethM hstM hkP hkPi hy (a := b) (cell := cellB) hcell
    (fun z h => by rw [h] at hobj; cases hobj) hselP hmethM habM hkP hkPi (g := g) hg (argsL := argsL) (rest := rest) (hlen _ hsigM) hstack hdg
  obtain ⟨v, B, X', hpost, hsteps⟩ := hK m meth c ⟨T.setVm vm₁, locs, cells, slots⟩ { g with stack := rest } (.invokevirtual index) mk (Value.ref b :: argsL).toArray X₁ hg hsize hdg hW (X₁.named hnamed) (hpre vm₁ X₁.warmed)
  exact ⟨v, vm₁, B, X₁.warmed, X', hpost, fun target h => hstep₁ _ fun acts => by rw [doInvoke_state]; exact hsteps.trans h⟩
end VXN
section VXR
variable {p : Program} {l : Launch} {e : Env} {R : Room} {s : State} {m : MethodId} {args : Array Value} {below : List Frame} {meth : Method} {c : Code} {H : Heap} {locs : List Loc} {cells slots : Nat}
theorem vx_runVN {y : MethodName} {bytes cc : ByteArray} {maxL nL mc ms n index : Nat} {ret : Option FieldType} {ws : List Cond} {rm : Room} {Pc : Array Value → State → Prop} {Qc : Array Value → State → Outcome → State → Prop} {XC : String → State → State → Prop} {free : Addr → Prop} {Ts : List Cond} {own C host : String} {b : Addr} {As rest : List Value} {g : JFrame} (S : CallFix p m c cc nL s args Ts own) (hM : vx_Met l y ws rm Pc Qc XC mc ms free) (cw : va_CN R s args own index y host bytes maxL ret ws rm mc ms n ∧ (Cond.instanceMethod y).before args s = true ∧ (Cond.selects C y y).before args s = true) (hp : PreV s H C b Pc As)
    (hg : g.method = m) (hn : As.length = n) (hsize : g.locals.size = nL) (hstack : g.stack = As.reverse ++ .ref b :: rest) (hW : 2 * g.monitorRoom + (rest.map fun v => v.category).sum ≤ 8) (hdg : decode cc g.pc = .ok (.invokevirtual index, 3)) (hf : cells + mc ≤ R.cells ∧ slots + ms ≤ R.slots) :
    vx_Run p l e R s m args below meth c H locs cells slots mc ms g rest (Qc (Value.ref b :: As).toArray) XC free := by
  obtain ⟨⟨⟨hrc, hrs, hfr, hlo, hws, hcw⟩, hcode, hini, hy, hlen, hl⟩, hin, hse⟩ := cw
  have hK : vx_Back l R p e below s args y 3 8 (PreOf R mc ms Pc) (PostOf Qc mc ms free) (vx_Post XC mc ms free) := vx_back (bytes := bytes) (maxL := maxL) (ret := ret) hM hp.1 hrc hrs hfr hlo hws hcw (fun a' U hW => word_at hW (Or.inl (by first | rfl | simp [Cond.onTables, Cond.keeps, Cond.steady])) hini)
  obtain ⟨hx, hb, hml, ho, -⟩ := S
  obtain ⟨-, ⟨cellB, hcB, hoB, hclB⟩, hPc⟩ := hp
  intro T hT X
  rcases vx_callVN X hx (C := C) (bytes := bytes) (maxL := maxL) (ret := ret) ho hl hin hse hcode hy hK (by rw [hT]; exact hcB) hoB hclB hg (hsize.trans hml.symm) (argsL := As) (rest := rest) (fun sig h => hn.trans (hlen sig h)) hstack hW (by rw [hb]; exact hdg)
    (fun vm₁ hW₁ => ⟨hf.1, hf.2, hPc (T.setVm vm₁) hT hW₁⟩) with ⟨v, vm₁, ⟨U', l2, c2, s2⟩, hW₁, X', ⟨g', mk, t, L, e1, e2, hq, h1, hL, h2, h3⟩, st⟩ | ⟨q, vm₁, ⟨U', l2, c2, s2⟩, hW₁, X', ⟨g', mk, t, L, E, ce, e1, e2, hq, hce, hcv, hcl, h1, hL, h2, h3⟩, st⟩
  · dsimp only [Pt.U, Pt.locs, Pt.cells, Pt.slots] at X' e1 e2 h1 h2 h3 st
    subst h1; subst h2; subst h3
    exact Or.inl ⟨v, (T.setVm vm₁).calling g' mk (Value.ref b :: As).toArray, t, U', L, hT, X', hL, e1, e2, hq, st⟩
  · dsimp only [Pt.U, Pt.locs, Pt.cells, Pt.slots] at X' e1 e2 h1 h2 h3 st hcl
    subst h1; subst h2; subst h3
    exact Or.inr ⟨q, (T.setVm vm₁).calling g' mk (Value.ref b :: As).toArray, t, U', L, E, ce, hT, X', hL, e1, e2, hq, hce, hcv, vx_cls hW₁ hcl, st⟩
theorem vx_runSN {y : MethodName} {bytes cc : ByteArray} {maxL nL mc ms n index : Nat} {ret : Option FieldType} {ws : List Cond} {rm : Room} {Pc : Array Value → State → Prop} {Qc : Array Value → State → Outcome → State → Prop} {XC : String → State → State → Prop} {free : Addr → Prop} {Ts : List Cond} {own host : String} {As rest : List Value} {g : JFrame} (S : CallFix p m c cc nL s args Ts own) (hM : vx_Met l y ws rm Pc Qc XC mc ms free) (cw : va_CN R s args own index y host bytes maxL ret ws rm mc ms n ∧ (Cond.static y).before args s = true ∧ True) (hp : PreS s H Pc As)
    (hg : g.method = m) (hn : As.length = n) (hsize : g.locals.size = nL) (hstack : g.stack = As.reverse ++ rest) (hW : 2 * g.monitorRoom + (rest.map fun v => v.category).sum ≤ 8) (hdg : decode cc g.pc = .ok (.invokestatic index, 3)) (hf : cells + mc ≤ R.cells ∧ slots + ms ≤ R.slots) :
    vx_Run p l e R s m args below meth c H locs cells slots mc ms g rest (Qc As.toArray) XC free := by
  obtain ⟨⟨⟨hrc, hrs, hfr, hlo, hws, hcw⟩, hcode, hini, hy, hlen, hl⟩, hstt, -⟩ := cw
  have hK : vx_Back l R p e below s args y 3 8 (PreOf R mc ms Pc) (PostOf Qc mc ms free) (vx_Post XC mc ms free) := vx_back (bytes := bytes) (maxL := maxL) (ret := ret) hM hp.1 hrc hrs hfr hlo hws hcw (fun a' U hW => word_at hW (Or.inl (by first | rfl | simp [Cond.onTables, Cond.keeps, Cond.steady])) hini)
  obtain ⟨hx, hb, hml, ho, -⟩ := S
  intro T hT X
  rcases vx_callSN X hx (bytes := bytes) (maxL := maxL) (ret := ret) ho hl hstt hini hcode hy hK hg (hsize.trans hml.symm) (argsL := As) (rest := rest) (fun sig h => hn.trans (hlen sig h)) hstack hW (by rw [hb]; exact hdg)
    (fun vm₁ hW₁ => ⟨hf.1, hf.2, hp.2 (T.setVm vm₁) hT hW₁⟩) with ⟨v, vm₁, ⟨U', l2, c2, s2⟩, hW₁, X', ⟨g', mk, t, L, e1, e2, hq, h1, hL, h2, h3⟩, st⟩ | ⟨q, vm₁, ⟨U', l2, c2, s2⟩, hW₁, X', ⟨g', mk, t, L, E, ce, e1, e2, hq, hce, hcv, hcl, h1, hL, h2, h3⟩, st⟩
  · dsimp only [Pt.U, Pt.locs, Pt.cells, Pt.slots] at X' e1 e2 h1 h2 h3 st
    subst h1; subst h2; subst h3
    exact Or.inl ⟨v, (T.setVm vm₁).calling g' mk As.toArray, t, U', L, hT, X', hL, e1, e2, hq, st⟩
  · dsimp only [Pt.U, Pt.locs, Pt.cells, Pt.slots] at X' e1 e2 h1 h2 h3 st hcl
    subst h1; subst h2; subst h3
    exact Or.inr ⟨q, (T.setVm vm₁).calling g' mk As.toArray, t, U', L, E, ce, hT, X', hL, e1, e2, hq, hce, hcv, vx_cls hW₁ hcl, st⟩
theorem vx_runVNW {y : MethodName} {bytes cc : ByteArray} {maxL nL mc ms n index : Nat} {ret : Option FieldType} {hh : List (Nat × Nat × Nat × Nat)} {ws : List Cond} {rm : Room} {Pc : Array Value → State → Prop} {Qc : Array Value → State → Outcome → State → Prop} {free : Addr → Prop} {Ts : List Cond} {own C host : String} {b : Addr} {As rest : List Value} {g : JFrame}
    (S : CallFix p m c cc nL s args Ts own) (hM : Met l y ws rm Pc Qc mc ms free) (cw : ((rm.cells = mc ∧ rm.slots = ms ∧ rm.frames + 1 ≤ R.frames ∧ 8 + (maxL + 11) + rm.locals ≤ R.locals ∧ (∀ w ∈ ws, ∀ (a' : Array Value) (U : State), s.WarmedH U.vm → w.before a' U = true) ∧ Cond.codeWith y bytes maxL ret hh ∈ ws) ∧ (Cond.codeWith y bytes maxL ret hh).before args s = true ∧ (Cond.initialized y.cls).before args s = true ∧ (y.cls ≠ "java/lang/invoke/MethodHandle" ∧ y.cls ≠ "java/lang/invoke/VarHandle") ∧ (∀ sig, parseMethodDescriptor y.desc = some sig → n = sig.parameters.length) ∧ (Cond.methodLinkNest own index y host).before args s = true) ∧ (Cond.instanceMethod y).before args s = true ∧ (Cond.selects C y y).before args s = true) (hp : PreV s H C b Pc As)
    (hg : g.method = m) (hn : As.length = n) (hsize : g.locals.size = nL) (hstack : g.stack = As.reverse ++ .ref b :: rest) (hW : 2 * g.monitorRoom + (rest.map fun v => v.category).sum ≤ 8) (hdg : decode cc g.pc = .ok (.invokevirtual index, 3)) (hf : cells + mc ≤ R.cells ∧ slots + ms ≤ R.slots) :
    va_Run p l e R s m args below meth c H locs cells slots mc ms g rest (Qc (Value.ref b :: As).toArray) free := by
  obtain ⟨⟨⟨hrc, hrs, hfr, hlo, hws, hcw⟩, hcode, hini, hy, hlen, hl⟩, hin, hse⟩ := cw
  have hK : Back l R p e below s args y 3 8 (PreOf R mc ms Pc) (PostOf Qc mc ms free) := va_backW (hh := hh) (bytes := bytes) (maxL := maxL) (ret := ret) hM hp.1 hrc hrs hfr hlo hws hcw (fun a' U hW => word_at hW (Or.inl (by first | rfl | simp [Cond.onTables, Cond.keeps, Cond.steady])) hini)
  obtain ⟨hx, hb, hml, ho, -⟩ := S
  obtain ⟨-, ⟨cellB, hcB, hoB, hclB⟩, hPc⟩ := hp
  intro T hT X
  obtain ⟨v, vm₁, ⟨U', l2, c2, s2⟩, hW₁, X', ⟨g', mk, t, L, e1, e2, hq, h1, hL, h2, h3⟩, st⟩ := vx_callVNW X hx (C := C) (hh := hh) (bytes := bytes) (maxL := maxL) (ret := ret) ho hl hin hse hcode hy hK (by rw [hT]; exact hcB) hoB hclB hg (hsize.trans hml.symm) (argsL := As) (rest := rest) (fun sig h => hn.trans (hlen sig h)) hstack hW (by rw [hb]; exact hdg)
    (fun vm₁ hW₁ => ⟨hf.1, hf.2, hPc (T.setVm vm₁) hT hW₁⟩)
  dsimp only [Pt.U, Pt.locs, Pt.cells, Pt.slots] at X' e1 e2 h1 h2 h3 st
  subst h1; subst h2; subst h3
  exact ⟨v, (T.setVm vm₁).calling g' mk (Value.ref b :: As).toArray, t, U', L, hT, X', hL, e1, e2, hq, st⟩
theorem vx_cnBW {own host : String} {index maxL mc ms : Nat} {y : MethodName} {bytes : ByteArray} {ret : Option FieldType} {hh : List (Nat × Nat × Nat × Nat)} {Ts ws ws' : List Cond} {rm : Room} (n : Nat) (ht : ∀ w ∈ Ts, w.before args s = true) (hG : GoodIn Ts ws) (hw : ws = Cond.codeWith y bytes maxL ret hh :: ws') (hrc : rm.cells = mc) (hrs : rm.slots = ms) (hl : va_Nw (.methodLinkNest own index y host) s) (hini : (Cond.initialized y.cls).before args s = true)
    (hd : y.cls ≠ "java/lang/invoke/MethodHandle" ∧ y.cls ≠ "java/lang/invoke/VarHandle" ∧ (parseMethodDescriptor y.desc).map (fun d => d.parameters.length) = some n) (hR : rm.frames + 1 ≤ R.frames ∧ 8 + (maxL + 11) + rm.locals ≤ R.locals) : (rm.cells = mc ∧ rm.slots = ms ∧ rm.frames + 1 ≤ R.frames ∧ 8 + (maxL + 11) + rm.locals ≤ R.locals ∧ (∀ w ∈ ws, ∀ (a' : Array Value) (U : State), s.WarmedH U.vm → w.before a' U = true) ∧ Cond.codeWith y bytes maxL ret hh ∈ ws) ∧ (Cond.codeWith y bytes maxL ret hh).before args s = true ∧ (Cond.initialized y.cls).before args s = true ∧ (y.cls ≠ "java/lang/invoke/MethodHandle" ∧ y.cls ≠ "java/lang/invoke/VarHandle") ∧ (∀ sig, parseMethodDescriptor y.desc = some sig → n = sig.parameters.length) ∧ (Cond.methodLinkNest own index y host).before args s = true := by
  have hc : Cond.codeWith y bytes maxL ret hh ∈ ws := by rw [hw]; exact List.mem_cons_self
  refine ⟨⟨hrc, hrs, hR.1, hR.2, pay_in ht hG, hc⟩, ht _ (hG _ hc).1, hini, ⟨hd.1, hd.2.1⟩, fun sig h => ?_, va_Nw.use rfl hl⟩
  have h2 := hd.2.2
  rw [h] at h2
  exact (Option.some.inj h2).symm
end VXR
end
section
set_option maxHeartbeats 4000000 in
set_option maxRecDepth 100000 in
/-- nameValue(start, end) -/
theorem k_R_nameValue (l : Launch) (hl9 : l.stackTraces = false) (dC : Nat → ClassId) (dI : Nat → Nat → Nat) (kC kI kJ kQ : ClassId) (a0 aR aN aS aF aK : Nat) (wt un : Int32) (rs : Int64) (fx sg : Nat → Int32) (ff : Nat → Int64) (q : Nat → Option Nat) (tx : List Int32) (ns : List rw_N) (env : sh_Env) (fr : va_W) (hx3 : tx.length ≤ 300) (hB : sh_B tx) (hfx : ∀ j, j < tx.length → fx j = sh_at tx j) (hE : zEn q ns env) (sz : Nat) (pl : Int32) (b0 : Nat) (ql : List Int32) (hql : ∀ j, j < ql.length → sh_at tx (b0 + j) = sh_at ql j) (hb1 : b0 + ql.length ≤ tx.length) : vx_Met l yR_nameValue wsR_nameValue ({ frames := 7, cells := zk (sh_nameVal env ql), slots := 6 * zk (sh_nameVal env ql), locals := 110 }) (va_Pc [.ref a0, .int (nI b0), .int (nI (b0 + ql.length))] (zV dC dI ([(kC, .char), (kI, .int), (kJ, .long), (kQ, .object "ShellSum$Named")]) ((a0, .inr (2, [.ref aR, .ref aN, .ref aS, .ref aF, .int wt, .int (nI tx.length), .int pl, .int un, .long rs])) :: (aR, .inl (kC, 300, .inl fx)) :: (aN, .inr (1, [.ref aK, .int (nI ns.length)])) :: (aK, .inl (kQ, 64, .inr (.inr (.inr (.inr q))))) :: (aS, .inl (kI, 150, .inl sg)) :: (aF, .inl (kJ, 150, .inr (.inl ff))) :: (fr ++ rw_p 0 kC ns)) sz)) (zQ dC dI (va_A ((a0, .inr (2, [.ref aR, .ref aN, .ref aS, .ref aF, .int wt, .int (nI tx.length), .int pl, .int un, .long rs])) :: (aR, .inl (kC, 300, .inl fx)) :: (aN, .inr (1, [.ref aK, .int (nI ns.length)])) :: (aK, .inl (kQ, 64, .inr (.inr (.inr (.inr q))))) :: (aS, .inl (kI, 150, .inl sg)) :: (aF, .inl (kJ, 150, .inr (.inl ff))) :: (fr ++ rw_p 0 kC ns)) sz) (fun v w => ∃ x, sh_nameVal env ql = some x ∧ v = some (.long x) ∧ w = ((a0, .inr (2, [.ref aR, .ref aN, .ref aS, .ref aF, .int wt, .int (nI tx.length), .int pl, .int un, .long rs])) :: (aR, .inl (kC, 300, .inl fx)) :: (aN, .inr (1, [.ref aK, .int (nI ns.length)])) :: (aK, .inl (kQ, 64, .inr (.inr (.inr (.inr q))))) :: (aS, .inl (kI, 150, .inl sg)) :: (aF, .inl (kJ, 150, .inr (.inl ff))) :: (fr ++ rw_p 0 kC ns)))) (zX dC dI (va_A ((a0, .inr (2, [.ref aR, .ref aN, .ref aS, .ref aF, .int wt, .int (nI tx.length), .int pl, .int un, .long rs])) :: (aR, .inl (kC, 300, .inl fx)) :: (aN, .inr (1, [.ref aK, .int (nI ns.length)])) :: (aK, .inl (kQ, 64, .inr (.inr (.inr (.inr q))))) :: (aS, .inl (kI, 150, .inl sg)) :: (aF, .inl (kJ, 150, .inr (.inl ff))) :: (fr ++ rw_p 0 kC ns)) sz) (fun w => sh_nameVal env ql = none ∧ w = ((a0, .inr (2, [.ref aR, .ref aN, .ref aS, .ref aF, .int wt, .int (nI tx.length), .int pl, .int un, .long rs])) :: (aR, .inl (kC, 300, .inl fx)) :: (aN, .inr (1, [.ref aK, .int (nI ns.length)])) :: (aK, .inl (kQ, 64, .inr (.inr (.inr (.inr q))))) :: (aS, .inl (kI, 150, .inl sg)) :: (aF, .inl (kJ, 150, .inr (.inl ff))) :: (fr ++ rw_p 0 kC ns)))) (zk (sh_nameVal env ql)) (6 * zk (sh_nameVal env ql)) (va_A ((a0, .inr (2, [.ref aR, .ref aN, .ref aS, .ref aF, .int wt, .int (nI tx.length), .int pl, .int un, .long rs])) :: (aR, .inl (kC, 300, .inl fx)) :: (aN, .inr (1, [.ref aK, .int (nI ns.length)])) :: (aK, .inl (kQ, 64, .inr (.inr (.inr (.inr q))))) :: (aS, .inl (kI, 150, .inl sg)) :: (aF, .inl (kJ, 150, .inr (.inl ff))) :: (fr ++ rw_p 0 kC ns)) sz) := by
  refine vx_ofW (cc := cR_nameValue) (maxL := 4) (ret := (some .long)) (by decide) rfl ?_
  intro p e s m args below meth c s₁ B hml hEx hv
  obtain ⟨rfl, ⟨hsz, hP, hK, hD0, hN⟩, hT, hU⟩ := hv
  subst hsz
  have hD := hD0.self (sz := s.heap.size)
  generalize hAe : va_A ((a0, .inr (2, [.ref aR, .ref aN, .ref aS, .ref aF, .int wt, .int (nI tx.length), .int pl, .int un, .long rs])) :: (aR, .inl (kC, 300, .inl fx)) :: (aN, .inr (1, [.ref aK, .int (nI ns.length)])) :: (aK, .inl (kQ, 64, .inr (.inr (.inr (.inr q))))) :: (aS, .inl (kI, 150, .inl sg)) :: (aF, .inl (kJ, 150, .inr (.inl ff))) :: (fr ++ rw_p 0 kC ns)) s.heap.size = A at hD hU ⊢
  have hA : ∀ q : Nat, s.heap.size ≤ q → A q := fun q h => by rw [← hAe]; exact Or.inr h
  have hS : va_S A s.heap s.heap [] := va_S.rf
  have hx := B.exec
  have hb := B.bytes
  have hr := B.returns
  have htz : ∀ w ∈ zw, w.before _ s = true := fun w h => atoms_spec (ws := wsR_nameValue) B.pre w (List.mem_cons_of_mem _ h)
  have hown : s.vm.findClass "ShellSum$Reckoner" = some m.cls := findClass_of_methodNamed B.named
  have hlocks := B.notSynchronized
  have hl := lv_entry ([.ref a0, .int (nI b0), .int (nI (b0 + ql.length))]) (n := 4) (Nat.le_of_ble_eq_true rfl)
  rw [lg_entry_eq]
  generalize (lg_sl ([.ref a0, .int (nI b0), .int (nI (b0 + ql.length))]) ++ List.replicate (4 - (lg_sl ([.ref a0, .int (nI b0), .int (nI (b0 + ql.length))])).length) Slot.unset).toArray = ls at hl ⊢
  have hl : lv_has ls 4 [(0, .ref a0), (1, .int (nI b0)), (2, .int (nI (b0 + ql.length)))] := hl
  refine lv_aload_n hx hb dR_nameValue_0 rfl (lv_at hl 0 rfl) ?_
  refine va_get (D := (dC, dI)) (ci := 2) (v := .ref aN) (C := "ShellSum$Reckoner") (T := TR) (N := 9) hx hb htz zu_R hown hK hP 0 rfl rfl 1 (by decide) (htz _ zw_1_45) (fun _ h9 => h9) rfl dR_nameValue_1 ?_
  refine lv_aload_n hx hb dR_nameValue_4 rfl (lv_at hl 0 rfl) ?_
  refine va_get (D := (dC, dI)) (ci := 2) (v := .ref aR) (C := "ShellSum$Reckoner") (T := TR) (N := 9) hx hb htz zu_R hown hK hP 0 rfl rfl 0 (by decide) (htz _ zw_1_43) (fun _ h9 => h9) rfl dR_nameValue_5 ?_
  refine lv_iload_n hx hb dR_nameValue_8 rfl (lv_at hl 1 rfl) ?_
  refine lv_iload_n hx hb dR_nameValue_9 rfl (lv_at hl 2 rfl) ?_
  have hpo : sh_pool ((a0, .inr (2, [.ref aR, .ref aN, .ref aS, .ref aF, .int wt, .int (nI tx.length), .int pl, .int un, .long rs])) :: (aR, .inl (kC, 300, .inl fx)) :: (aN, .inr (1, [.ref aK, .int (nI ns.length)])) :: (aK, .inl (kQ, 64, .inr (.inr (.inr (.inr q))))) :: (aS, .inl (kI, 150, .inl sg)) :: (aF, .inl (kJ, 150, .inr (.inl ff))) :: (fr ++ rw_p 0 kC ns)) (fr.length + 6) kC q ns := zEn_pool (kC := kC) ((a0, .inr (2, [.ref aR, .ref aN, .ref aS, .ref aF, .int wt, .int (nI tx.length), .int pl, .int un, .long rs])) :: (aR, .inl (kC, 300, .inl fx)) :: (aN, .inr (1, [.ref aK, .int (nI ns.length)])) :: (aK, .inl (kQ, 64, .inr (.inr (.inr (.inr q))))) :: (aS, .inl (kI, 150, .inl sg)) :: (aF, .inl (kJ, 150, .inr (.inl ff))) :: fr) hE
  refine rq_call (va_runVN (As := [.ref aR, .int (nI b0), .int (nI (b0 + ql.length))]) (rest := []) ⟨hx, hb, hml, hown, htz⟩ (k_S_find l dC dI kC kI kJ kQ _ aN aK 2 3 (fr.length + 6) q ns rfl rfl hpo hE.2.2.2.1 aR 1 300 b0 fx ql rfl (fun j h => by rw [hfx _ (by omega)]; exact hql j h) (by omega) (by decide)) ⟨va_cnB 3 htz (zg_c zw_1_145) rfl rfl rfl (hN _ zn_2_67) (htz _ zw_1_3) (by decide +kernel) ⟨Nat.le_of_ble_eq_true rfl, Nat.le_of_ble_eq_true rfl⟩, htz _ zw_1_144, htz _ zs_S_find⟩ (zR_V hP hK hN (va_recv hK hP (ci := 1) (q0 := 2) rfl rfl)) rfl rfl hl.1 rfl (lv_room (Nat.le_of_ble_eq_true rfl)) dR_nameValue_10 ⟨Nat.zero_le _, Nat.zero_le _⟩) ?_
  refine W.eq (g2 := F0 m 13 ls [va_rf ((sh_fi ns ql).map (fun x => x.1.1))]) rfl ?_
  have hef := zEn_find hE ql
  rcases xo_or (sh_fi ns ql) with hfi | ⟨x, hfi⟩
  · skip
    refine W.eq (g2 := F0 m 13 ls [.null]) (by rw [hfi]; rfl) ?_
    have e_r : sh_nameVal env ql = some 0 := nv_none (by rw [hef, hfi]; rfl)
    refine lv_astore_nN (lv' := [(3, .null), (0, .ref a0), (1, .int (nI b0)), (2, .int (nI (b0 + ql.length)))]) hx hb dR_nameValue_13 rfl hl (by decide) rfl (fun ls hl => ?_)
    refine lv_aload_nN hx hb dR_nameValue_14 rfl (lv_at hl 0 rfl) ?_
    refine lv_ifnullN (tgt := 25) hx hb dR_nameValue_15 (by decide) ?_
    refine lv_lconst (v := 0) hx hb dR_nameValue_25 (by decide) ?_
    refine W.widen (k := zk (sh_nameVal env ql)) (n := 6 * zk (sh_nameVal env ql)) (Nat.zero_le _) (Nat.zero_le _) ?_
    exact vx_ret (W.lret (v := 0) hx hb hr (fun t ht _ => ⟨_, _, rfl, ⟨0, e_r, rfl, rfl⟩, by rw [ht]; exact hP, hD, hS.F ht⟩) hS.2.2 dR_nameValue_26)
  refine W.eq (g2 := F0 m 13 ls [.ref x.1.1]) (by rw [hfi]; rfl) ?_
  obtain ⟨⟨i, hxi⟩, -⟩ := sh_fi_mem hfi
  obtain ⟨-, ho, -, hro, -⟩ := hpo i x hxi
  obtain ⟨⟨L, hL, hxL⟩, hxB, -⟩ := hE.2.2.1 x (List.mem_of_getElem? hxi)
  have hlt := rw_tx_len hL hxL
  have e_n : sh_nameVal env ql = if (rw_tx x).length = 0 then some 0 else if sh_at (rw_tx x) 0 = 45 then (sh_num (rw_tx x).tail).map (fun v => -v) else sh_num (rw_tx x) := nv_some (by rw [hef, hfi]; rfl)
  refine lv_astore_n (lv' := [(3, .ref x.1.1), (0, .ref a0), (1, .int (nI b0)), (2, .int (nI (b0 + ql.length)))]) hx hb dR_nameValue_13 rfl hl (by decide) rfl (fun ls hl => ?_)
  refine lv_aload_n hx hb dR_nameValue_14 rfl (lv_at hl 0 rfl) ?_
  refine lv_ifnull hx hb dR_nameValue_15 ?_
  refine lv_aload_n hx hb dR_nameValue_18 rfl (lv_at hl 0 rfl) ?_
  refine va_getN (D := (dC, dI)) (ci := 0) (v := .int x.2.2.2) (C := "ShellSum$Named") (T := TN) (N := 3) hx hb htz zu_N hown hK hP ((fr.length + 6) + 3 * i) ho rfl 2 (by decide) (va_Nw.use rfl (hN _ zn_1_164)) (fun _ h9 => h9) rfl dR_nameValue_19 ?_
  refine xw_topi (y := nI L) (hxL) ?_
  refine lv_if_ne (tgt := 27) hx hb dR_nameValue_22 (by decide) (fun c_1 => ?_) (fun c_1 => ?_)
  · skip
    have e_L : 0 < L := Nat.pos_of_ne_zero (fun e0 => c_1 (by rw [e0]; rfl))
    refine lv_aload_n hx hb dR_nameValue_27 rfl (lv_at hl 0 rfl) ?_
    refine va_getN (D := (dC, dI)) (ci := 0) (v := .ref x.1.2.2) (C := "ShellSum$Named") (T := TN) (N := 3) hx hb htz zu_N hown hK hP ((fr.length + 6) + 3 * i) ho rfl 1 (by decide) (va_Nw.use rfl (hN _ zn_1_161)) (fun _ h9 => h9) rfl dR_nameValue_28 ?_
    refine lv_iconst (v := 0) hx hb dR_nameValue_31 (by decide) ?_
    refine xw_topi (y := nI 0) (nI_0.symm) ?_
    refine va_cald hx hb hK hP ((fr.length + 6) + 3 * i + 2) 0 hro rfl (vp_in_nI (by omega) (by omega)) dR_nameValue_32 ?_
    refine xw_topi (y := x.2.2.1 0) (by rw [nI_clamp (by omega)]) ?_
    refine xw_topi (y := sh_at (rw_tx x) 0) (rw_tx_at hL hxL e_L) ?_
    refine lv_bipush (v := 45) hx hb dR_nameValue_33 (by decide) ?_
    refine lv_icmp_ne (tgt := 52) hx hb dR_nameValue_35 (by decide) (fun c_2 => ?_) (fun c_2 => ?_)
    · skip
      have e_r : sh_nameVal env ql = sh_num (rw_tx x) := by rw [e_n, if_neg (by omega), if_neg c_2]
      refine lv_aload_n hx hb dR_nameValue_52 rfl (lv_at hl 0 rfl) ?_
      refine va_getN (D := (dC, dI)) (ci := 0) (v := .ref x.1.2.2) (C := "ShellSum$Named") (T := TN) (N := 3) hx hb htz zu_N hown hK hP ((fr.length + 6) + 3 * i) ho rfl 1 (by decide) (va_Nw.use rfl (hN _ zn_1_161)) (fun _ h9 => h9) rfl dR_nameValue_53 ?_
      refine lv_iconst (v := 0) hx hb dR_nameValue_56 (by decide) ?_
      refine xw_topi (y := nI 0) (nI_0.symm) ?_
      refine lv_aload_n hx hb dR_nameValue_57 rfl (lv_at hl 0 rfl) ?_
      refine va_getN (D := (dC, dI)) (ci := 0) (v := .int x.2.2.2) (C := "ShellSum$Named") (T := TN) (N := 3) hx hb htz zu_N hown hK hP ((fr.length + 6) + 3 * i) ho rfl 2 (by decide) (va_Nw.use rfl (hN _ zn_1_164)) (fun _ h9 => h9) rfl dR_nameValue_58 ?_
      refine xw_topi (y := nI L) (hxL) ?_
      refine xw_topi (y := nI (0 + (rw_tx x).length)) (by congr 1; omega) ?_
      have e_zk : zk (sh_nameVal env ql) = zk (sh_num (rw_tx x)) := by rw [e_r]
      refine zX_call (vx_runSN (As := [.ref x.1.2.2, .int (nI 0), .int (nI (0 + (rw_tx x).length))]) (rest := []) ⟨hx, hb, hml, hown, htz⟩ (k_A_numberIn l hl9 dC dI kC kI kJ kQ _ _ ((fr.length + 6) + 3 * i + 2) 20 0 x.1.2.2 x.2.2.1 (rw_tx x) hro (fun j h => by rw [Nat.zero_add]; exact rw_tx_at hL hxL (by omega)) (by skip; omega) (by decide)) ⟨va_cnB 3 htz (zg_c zw_2_70) rfl rfl rfl (hN _ zn_2_68) (htz _ zw_1_1) (by decide +kernel) ⟨Nat.le_of_ble_eq_true rfl, Nat.le_of_ble_eq_true rfl⟩, htz _ zw_2_69, trivial⟩ (zV_S hP hK hD hN hT hU hS hA) rfl rfl hl.1 rfl (lv_room (Nat.le_of_ble_eq_true rfl)) dR_nameValue_61 ⟨by show 0 + zk (sh_num (rw_tx x)) ≤ zk (sh_nameVal env ql); omega, by show 0 + 6 * zk (sh_num (rw_tx x)) ≤ 6 * zk (sh_nameVal env ql); omega⟩) hD hS hA (fun ce q9 w H locs hp hP hD hS hce hcv hcl => ?_) (fun v w H locs hp hP hD hS => ?_)
      · obtain ⟨h1, hw⟩ := hp
        rw [hw] at hP hD
        exact zX_out hEx hlocks ⟨by rw [e_r, h1], rfl⟩ hP hD hS hce hcv hcl (by omega) (by omega)
      obtain ⟨v9, h1, rfl, hw⟩ := hp
      rw [hw] at hP hD
      refine W.eq (g2 := F0 m 64 ls [.long v9]) rfl ?_
      refine W.widen (k := zk (sh_nameVal env ql)) (n := 6 * zk (sh_nameVal env ql)) (by omega) (by omega) ?_
      exact vx_ret (W.lret (v := v9) hx hb hr (fun t ht _ => ⟨_, _, rfl, ⟨v9, by rw [e_r, h1], rfl, rfl⟩, by rw [ht]; exact hP, hD, hS.F ht⟩) hS.2.2 dR_nameValue_64)
    have e_r : sh_nameVal env ql = (sh_num (rw_tx x).tail).map (fun v => -v) := by rw [e_n, if_neg (by omega), if_pos c_2]
    refine lv_aload_n hx hb dR_nameValue_38 rfl (lv_at hl 0 rfl) ?_
    refine va_getN (D := (dC, dI)) (ci := 0) (v := .ref x.1.2.2) (C := "ShellSum$Named") (T := TN) (N := 3) hx hb htz zu_N hown hK hP ((fr.length + 6) + 3 * i) ho rfl 1 (by decide) (va_Nw.use rfl (hN _ zn_1_161)) (fun _ h9 => h9) rfl dR_nameValue_39 ?_
    refine lv_iconst (v := 1) hx hb dR_nameValue_42 (by decide) ?_
    refine xw_topi (y := nI 1) (rfl) ?_
    refine lv_aload_n hx hb dR_nameValue_43 rfl (lv_at hl 0 rfl) ?_
    refine va_getN (D := (dC, dI)) (ci := 0) (v := .int x.2.2.2) (C := "ShellSum$Named") (T := TN) (N := 3) hx hb htz zu_N hown hK hP ((fr.length + 6) + 3 * i) ho rfl 2 (by decide) (va_Nw.use rfl (hN _ zn_1_164)) (fun _ h9 => h9) rfl dR_nameValue_44 ?_
    refine xw_topi (y := nI L) (hxL) ?_
    refine xw_topi (y := nI (1 + (rw_tx x).tail.length)) (by congr 1; simp only [List.length_tail]; omega) ?_
    have e_zk : zk (sh_nameVal env ql) = zk (sh_num (rw_tx x).tail) := by rw [e_r]; exact zk_map _ _
    refine zX_call (vx_runSN (As := [.ref x.1.2.2, .int (nI 1), .int (nI (1 + (rw_tx x).tail.length))]) (rest := []) ⟨hx, hb, hml, hown, htz⟩ (k_A_numberIn l hl9 dC dI kC kI kJ kQ _ _ ((fr.length + 6) + 3 * i + 2) 20 1 x.1.2.2 x.2.2.1 (rw_tx x).tail hro (fun j h => by rw [rw_tx_at hL hxL (by simp only [List.length_tail] at h; omega)]; simp [sh_at, Nat.add_comm]) (by simp only [List.length_tail]; omega) (by decide)) ⟨va_cnB 3 htz (zg_c zw_2_70) rfl rfl rfl (hN _ zn_2_68) (htz _ zw_1_1) (by decide +kernel) ⟨Nat.le_of_ble_eq_true rfl, Nat.le_of_ble_eq_true rfl⟩, htz _ zw_2_69, trivial⟩ (zV_S hP hK hD hN hT hU hS hA) rfl rfl hl.1 rfl (lv_room (Nat.le_of_ble_eq_true rfl)) dR_nameValue_47 ⟨by show 0 + zk (sh_num (rw_tx x).tail) ≤ zk (sh_nameVal env ql); omega, by show 0 + 6 * zk (sh_num (rw_tx x).tail) ≤ 6 * zk (sh_nameVal env ql); omega⟩) hD hS hA (fun ce q9 w H locs hp hP hD hS hce hcv hcl => ?_) (fun v w H locs hp hP hD hS => ?_)
    · obtain ⟨h1, hw⟩ := hp
      rw [hw] at hP hD
      exact zX_out hEx hlocks ⟨by rw [e_r, h1]; rfl, rfl⟩ hP hD hS hce hcv hcl (by omega) (by omega)
    obtain ⟨v9, h1, rfl, hw⟩ := hp
    rw [hw] at hP hD
    refine W.eq (g2 := F0 m 50 ls [.long v9]) rfl ?_
    refine lv_lneg hx hb dR_nameValue_50 ?_
    refine W.widen (k := zk (sh_nameVal env ql)) (n := 6 * zk (sh_nameVal env ql)) (by omega) (by omega) ?_
    exact vx_ret (W.lret (v := -v9) hx hb hr (fun t ht _ => ⟨_, _, rfl, ⟨-v9, by rw [e_r, h1]; rfl, rfl, rfl⟩, by rw [ht]; exact hP, hD, hS.F ht⟩) hS.2.2 dR_nameValue_51)
  have e_r : sh_nameVal env ql = some 0 := by rw [e_n, if_pos (by rw [hlt]; exact xi_eq (b := 0) c_1 (by omega) (by decide))]
  refine lv_lconst (v := 0) hx hb dR_nameValue_25 (by decide) ?_
  refine W.widen (k := zk (sh_nameVal env ql)) (n := 6 * zk (sh_nameVal env ql)) (Nat.zero_le _) (Nat.zero_le _) ?_
  exact vx_ret (W.lret (v := 0) hx hb hr (fun t ht _ => ⟨_, _, rfl, ⟨0, e_r, rfl, rfl⟩, by rw [ht]; exact hP, hD, hS.F ht⟩) hS.2.2 dR_nameValue_26)
end
section
/-! the reckoner by levels: signs that wait, choices, assignments -/
def sh_cnt : List (Int32 × Int64) → Nat
  | [] => 0
  | q :: r => (if sh_settled q.1 q.2 = true then 1 else 0) + sh_cnt r
def sh_join (un : Nat) (s : Int32) (f v : Int64) : Option Int64 := if sh_settled s f = true then some (if s = 31868 then 1 else 0) else if 0 < un then some 0 else sh_apply s f v
def sh_settle (un : Nat) : List (Int32 × Int64) → Nat → Int64 → Option (Int64 × List (Int32 × Int64))
  | [], _, v => some (v, [])
  | q :: st, r, v => if sh_rank q.1 < r then some (v, q :: st) else match sh_join (un + sh_cnt st) q.1 q.2 v with
    | none => none
    | some v' => sh_settle un st r v'
abbrev sh_R : Type := Option (Int64 × Nat) × sh_Env
def sh_fin (un : Nat) (st : List (Int32 × Int64)) (v : Int64) (pl : Nat) (env : sh_Env) : sh_R := ((sh_settle un st 0 v).map (fun q => (q.1, pl)), env)
def sh_bl (tx : List Int32) (U : sh_F) (un : Nat) : Nat → List (Int32 × Int64) → Int64 → Nat → sh_Env → sh_R
  | 0, st, v, pl, env => sh_fin un st v (sh_sign2 tx pl).2 env
  | f + 1, st, v, pl, env => if (sh_sign2 tx pl).1 = 0 then sh_fin un st v (sh_sign2 tx pl).2 env else
    match sh_settle un st (sh_rank (sh_sign2 tx pl).1) v with
    | none => (none, env)
    | some q => match U (un + sh_cnt (((sh_sign2 tx pl).1, q.1) :: q.2)) (sh_sign2 tx pl).2 env with
      | (none, e2) => (none, e2)
      | (some z, e2) => sh_bl tx U un f (((sh_sign2 tx pl).1, q.1) :: q.2) z.1 z.2 e2
def sh_Bin (tx : List Int32) (U : sh_F) : sh_F := fun un pl env => match U un pl env with
  | (none, e2) => (none, e2)
  | (some z, e2) => sh_bl tx U un 300 [] z.1 z.2 e2
def sh_C (tx : List Int32) (B C E : sh_F) : sh_F := fun un pl env => match B un pl env with
  | (none, e1) => (none, e1)
  | (some t, e1) => if sh_at tx (sh_skip tx t.2) = 63 then
      match sh_exp tx 58 (E (un + (if t.1 = 0 then 1 else 0)) (sh_skip tx t.2 + 1) e1) with
      | (none, e2) => (none, e2)
      | (some a, e2) => match C (un + (if t.1 = 0 then 0 else 1)) a.2 e2 with
        | (none, e3) => (none, e3)
        | (some b, e3) => (some (if t.1 = 0 then b.1 else a.1, b.2), e3)
    else (some (t.1, sh_skip tx t.2), e1)
def sh_asg (env : sh_Env) (nm : List Int32) (sg : Int32) (v : Int64) : Option Int64 × sh_Env :=
  match (if sg = 61 then some v else (sh_nameVal env nm).bind (fun x => sh_apply sg x v)) with
  | none => (none, env)
  | some y => match sh_put env nm (sh_dec y) with
    | none => (none, env)
    | some e2 => (some y, e2)
def sh_E (tx : List Int32) (C E : sh_F) : sh_F := fun un pl env =>
  if sh_start (sh_at tx (sh_skip tx pl)) = true ∧ ¬ (sh_signA tx (sh_wend tx (sh_skip tx pl))).1 = 0 then
    match E un (sh_signA tx (sh_wend tx (sh_skip tx pl))).2 env with
    | (none, e1) => (none, e1)
    | (some z, e1) => if 0 < un then (some (0, z.2), e1) else
      ((sh_asg e1 (sh_cut tx (sh_skip tx pl) (sh_wend tx (sh_skip tx pl))) (sh_signA tx (sh_wend tx (sh_skip tx pl))).1 z.1).1.map (fun y => (y, z.2)), (sh_asg e1 (sh_cut tx (sh_skip tx pl) (sh_wend tx (sh_skip tx pl))) (sh_signA tx (sh_wend tx (sh_skip tx pl))).1 z.1).2)
  else C un (sh_skip tx pl) env
def sh_lv (tx : List Int32) : Nat → sh_F × sh_F × sh_F
  | 0 => (sh_bad, sh_bad, sh_bad)
  | k + 1 => (sh_U tx (sh_lv tx k).1 (sh_lv tx k).2.2, sh_C tx (sh_Bin tx (sh_U tx (sh_lv tx k).1 (sh_lv tx k).2.2)) (sh_lv tx k).2.1 (sh_lv tx k).2.2,
    sh_E tx (sh_C tx (sh_Bin tx (sh_U tx (sh_lv tx k).1 (sh_lv tx k).2.2)) (sh_lv tx k).2.1 (sh_lv tx k).2.2) (sh_lv tx k).2.2)
abbrev lU (tx : List Int32) (k : Nat) : sh_F := (sh_lv tx k).1
abbrev lC (tx : List Int32) (k : Nat) : sh_F := (sh_lv tx k).2.1
abbrev lE (tx : List Int32) (k : Nat) : sh_F := (sh_lv tx k).2.2
theorem lU_s (tx : List Int32) (k : Nat) : lU tx (k + 1) = sh_U tx (lU tx k) (lE tx k) := rfl
theorem lC_s (tx : List Int32) (k : Nat) : lC tx (k + 1) = sh_C tx (sh_Bin tx (lU tx (k + 1))) (lC tx k) (lE tx k) := rfl
theorem lE_s (tx : List Int32) (k : Nat) : lE tx (k + 1) = sh_E tx (lC tx (k + 1)) (lE tx k) := rfl
/-! what the reckoner keeps: names only come, the place goes on within the text -/
def sh_gd (tx : List Int32) (F : sh_F) : Prop := ∀ un pl env, pl ≤ tx.length → env.length ≤ (F un pl env).2.length ∧ ∀ z, (F un pl env).1 = some z → pl < z.2 ∧ z.2 ≤ tx.length
theorem sh_skip_ge (tx : List Int32) (i : Nat) : i ≤ sh_skip tx i := sh_run_ge _ _ _
theorem sh_wend_ge (tx : List Int32) (i : Nat) : i ≤ sh_wend tx i := sh_run_ge _ _ _
theorem sh_wend_gt {tx : List Int32} {i : Nat} (h : i < tx.length) (hw : sh_word (sh_at tx i) = true) : i < sh_wend tx i := by
  unfold sh_wend
  rw [sh_run_go h hw]
  exact sh_run_ge _ _ _
theorem sh_two0 : ∀ q, q < 256 → sh_rank (sh_two (nI q) 0) = 0 := by decide +kernel
theorem sh_rank0 : sh_rank 0 = 0 := by decide
theorem sh_sign2_ok {tx : List Int32} (hB : sh_B tx) {pl : Nat} (h : pl ≤ tx.length) : pl ≤ (sh_sign2 tx pl).2 ∧ (sh_sign2 tx pl).2 ≤ tx.length ∧ (¬ (sh_sign2 tx pl).1 = 0 → pl < (sh_sign2 tx pl).2) := by
  have h1 := sh_skip_ge tx pl
  have h2 := sh_skip_le h
  unfold sh_sign2
  split
  · rename_i hr
    split
    · exact ⟨h1, h2, fun q => absurd rfl q⟩
    · have h3 : sh_skip tx pl + 1 < tx.length := by
        apply sh_at_in
        intro e
        rw [e] at hr
        obtain ⟨q, hq, e2⟩ := sh_at_byte hB (sh_skip tx pl)
        rw [e2, sh_two0 q hq] at hr
        exact absurd hr (Nat.lt_irrefl 0)
      exact ⟨by show pl ≤ sh_skip tx pl + 2; omega, by show sh_skip tx pl + 2 ≤ _; omega, fun _ => by show pl < sh_skip tx pl + 2; omega⟩
  · split
    · exact ⟨h1, h2, fun q => absurd rfl q⟩
    · rename_i hn
      have h3 : sh_skip tx pl < tx.length := by
        apply sh_at_in
        intro e
        exact hn (Or.inl (by rw [e]; exact sh_rank0))
      exact ⟨by show pl ≤ sh_skip tx pl + 1; omega, by show sh_skip tx pl + 1 ≤ _; omega, fun _ => by show pl < sh_skip tx pl + 1; omega⟩
theorem sh_signA_ok {tx : List Int32} {pl : Nat} (h : pl ≤ tx.length) : pl ≤ (sh_signA tx pl).2 ∧ (sh_signA tx pl).2 ≤ tx.length := by
  have h1 := sh_skip_ge tx pl
  have h2 := sh_skip_le h
  unfold sh_signA
  split
  · rename_i hc
    have h3 : sh_skip tx pl < tx.length := sh_at_in (by rw [hc.1]; decide)
    exact ⟨by show pl ≤ sh_skip tx pl + 1; omega, by show sh_skip tx pl + 1 ≤ _; omega⟩
  · split
    · rename_i hc
      have h3 : sh_skip tx pl + 2 < tx.length := sh_at_in (by rw [hc.2]; decide)
      exact ⟨by show pl ≤ sh_skip tx pl + 3; omega, by show sh_skip tx pl + 3 ≤ _; omega⟩
    · split
      · rename_i hc
        have h3 : sh_skip tx pl + 1 < tx.length := sh_at_in (by rw [hc.1]; decide)
        exact ⟨by show pl ≤ sh_skip tx pl + 2; omega, by show sh_skip tx pl + 2 ≤ _; omega⟩
      · exact ⟨h1, h2⟩
theorem sh_gd_bad (tx : List Int32) : sh_gd tx sh_bad := fun un pl env _ => ⟨Nat.le_refl _, fun z h => by cases h⟩
theorem sh_gd_W {tx : List Int32} : sh_gd tx (sh_W tx) := by
  intro un pl env h
  unfold sh_W
  have h1 := sh_wend_le h
  have h2 := sh_wend_ge tx pl
  split
  · rename_i hd
    have h3 : pl < tx.length := sh_at_in (by intro e; rw [e] at hd; revert hd; decide)
    have h4 := sh_wend_gt h3 (by unfold sh_word; rw [hd]; simp)
    refine ⟨Nat.le_refl _, fun z hz => ?_⟩
    obtain ⟨v, -, rfl⟩ := Option.map_eq_some_iff.mp hz
    exact ⟨h4, h1⟩
  · split
    · rename_i hd
      have h3 : pl < tx.length := sh_at_in (by intro e; rw [e] at hd; revert hd; decide)
      have h4 := sh_wend_gt h3 (by unfold sh_word; rw [hd]; simp)
      refine ⟨Nat.le_refl _, fun z hz => ?_⟩
      dsimp only at hz
      split at hz
      · cases hz; exact ⟨h4, h1⟩
      · obtain ⟨v, -, rfl⟩ := Option.map_eq_some_iff.mp hz
        exact ⟨h4, h1⟩
    · exact ⟨Nat.le_refl _, fun z hz => by cases hz⟩
theorem sh_gd_map {tx : List Int32} {r : sh_R} {f : Int64 → Int64} {pl : Nat} {env : sh_Env} (h : env.length ≤ r.2.length ∧ ∀ z, r.1 = some z → pl < z.2 ∧ z.2 ≤ tx.length) : env.length ≤ (sh_map f r).2.length ∧ ∀ z, (sh_map f r).1 = some z → pl < z.2 ∧ z.2 ≤ tx.length := by
  refine ⟨h.1, fun z hz => ?_⟩
  obtain ⟨v, hv, rfl⟩ := Option.map_eq_some_iff.mp hz
  exact h.2 v hv
theorem sh_gd_exp {tx : List Int32} {r : sh_R} {k : Int32} (hk : k ≠ 0) {pl : Nat} {env : sh_Env} (h : env.length ≤ r.2.length ∧ ∀ z, r.1 = some z → pl < z.2 ∧ z.2 ≤ tx.length) : env.length ≤ (sh_exp tx k r).2.length ∧ ∀ z, (sh_exp tx k r).1 = some z → pl < z.2 ∧ z.2 ≤ tx.length := by
  obtain ⟨r1, r2⟩ := r
  cases r1 with
  | none => exact ⟨h.1, fun z hz => by cases hz⟩
  | some q =>
    obtain ⟨h2, h3⟩ := h.2 q rfl
    have h4 := sh_skip_ge tx q.2
    unfold sh_exp
    dsimp only
    split
    · rename_i hc
      have h5 : sh_skip tx q.2 < tx.length := sh_at_in (by rw [hc]; exact hk)
      exact ⟨h.1, fun z hz => by cases hz; exact ⟨by show pl < sh_skip tx q.2 + 1; omega, by show sh_skip tx q.2 + 1 ≤ _; omega⟩⟩
    · exact ⟨h.1, fun z hz => by cases hz⟩
theorem sh_gd_U {tx : List Int32} {U E : sh_F} (hU : sh_gd tx U) (hE : sh_gd tx E) : sh_gd tx (sh_U tx U E) := by
  intro un pl env h
  have h1 := sh_skip_ge tx pl
  have h2 := sh_skip_le h
  have hin : ∀ k : Int32, k ≠ 0 → sh_at tx (sh_skip tx pl) = k → sh_skip tx pl + 1 ≤ tx.length := fun k hk e => sh_at_in (by rw [e]; exact hk)
  have go : ∀ F : sh_F, sh_gd tx F → sh_skip tx pl + 1 ≤ tx.length → env.length ≤ (F un (sh_skip tx pl + 1) env).2.length ∧ ∀ z, (F un (sh_skip tx pl + 1) env).1 = some z → pl < z.2 ∧ z.2 ≤ tx.length := fun F hF hl =>
    ⟨(hF un _ env hl).1, fun z hz => by have := (hF un _ env hl).2 z hz; omega⟩
  unfold sh_U
  split
  · rename_i e; exact go U hU (hin 43 (by decide) e)
  split
  · rename_i e; exact sh_gd_map (go U hU (hin 45 (by decide) e))
  split
  · rename_i e; exact sh_gd_map (go U hU (hin 33 (by decide) e))
  split
  · rename_i e; exact sh_gd_map (go U hU (hin 126 (by decide) e))
  split
  · rename_i e; exact sh_gd_exp (by decide) (go E hE (hin 40 (by decide) e))
  · have := sh_gd_W un (sh_skip tx pl) env h2
    exact ⟨this.1, fun z hz => by have := this.2 z hz; omega⟩
theorem sh_gd_bl {tx : List Int32} (hB : sh_B tx) {U : sh_F} (hU : sh_gd tx U) (un : Nat) : ∀ (f : Nat) (st : List (Int32 × Int64)) (v : Int64) (pl : Nat) (env : sh_Env), pl ≤ tx.length → env.length ≤ (sh_bl tx U un f st v pl env).2.length ∧ ∀ z, (sh_bl tx U un f st v pl env).1 = some z → pl ≤ z.2 ∧ z.2 ≤ tx.length := by
  intro f
  induction f with
  | zero =>
    intro st v pl env h
    refine ⟨Nat.le_refl _, fun z hz => ?_⟩
    obtain ⟨q, -, rfl⟩ := Option.map_eq_some_iff.mp hz
    have := sh_sign2_ok hB h
    exact ⟨this.1, this.2.1⟩
  | succ f ih =>
    intro st v pl env h
    have hs := sh_sign2_ok hB h
    unfold sh_bl
    split
    · refine ⟨Nat.le_refl _, fun z hz => ?_⟩
      obtain ⟨q, -, rfl⟩ := Option.map_eq_some_iff.mp hz
      exact ⟨hs.1, hs.2.1⟩
    · split
      · exact ⟨Nat.le_refl _, fun z hz => by cases hz⟩
      · rename_i q _
        have hu := hU (un + sh_cnt (((sh_sign2 tx pl).1, q.1) :: q.2)) (sh_sign2 tx pl).2 env hs.2.1
        split
        · rename_i e2 he
          rw [he] at hu
          exact ⟨hu.1, fun z hz => by cases hz⟩
        · rename_i z e2 he
          rw [he] at hu
          have h3 := hu.2 z rfl
          have h4 := ih (((sh_sign2 tx pl).1, q.1) :: q.2) z.1 z.2 e2 h3.2
          have h5 := hu.1
          exact ⟨Nat.le_trans h5 h4.1, fun z9 hz => by have := h4.2 z9 hz; omega⟩
theorem sh_gd_Bin {tx : List Int32} (hB : sh_B tx) {U : sh_F} (hU : sh_gd tx U) : sh_gd tx (sh_Bin tx U) := by
  intro un pl env h
  have hu := hU un pl env h
  unfold sh_Bin
  split
  · rename_i e2 he
    rw [he] at hu
    exact ⟨hu.1, fun z hz => by cases hz⟩
  · rename_i z e2 he
    rw [he] at hu
    have h3 := hu.2 z rfl
    have h4 := sh_gd_bl hB hU un 300 [] z.1 z.2 e2 h3.2
    exact ⟨Nat.le_trans hu.1 h4.1, fun z9 hz => by have := h4.2 z9 hz; omega⟩
theorem sh_gd_C {tx : List Int32} {B C E : sh_F} (hBb : sh_gd tx B) (hC : sh_gd tx C) (hE : sh_gd tx E) : sh_gd tx (sh_C tx B C E) := by
  intro un pl env h
  have hu := hBb un pl env h
  unfold sh_C
  split
  · rename_i e2 he
    rw [he] at hu
    exact ⟨hu.1, fun z hz => by cases hz⟩
  · rename_i t e1 he
    rw [he] at hu
    have h3 := hu.2 t rfl
    have h4 := sh_skip_ge tx t.2
    split
    · rename_i hc
      have h5 : sh_skip tx t.2 < tx.length := sh_at_in (by rw [hc]; decide)
      have hx := sh_gd_exp (k := 58) (by decide) (hE (un + (if t.1 = 0 then 1 else 0)) (sh_skip tx t.2 + 1) e1 h5)
      split
      · rename_i e2 he2
        rw [he2] at hx
        exact ⟨Nat.le_trans hu.1 hx.1, fun z hz => by cases hz⟩
      · rename_i a e2 he2
        rw [he2] at hx
        have h6 := hx.2 a rfl
        have hc2 := hC (un + (if t.1 = 0 then 0 else 1)) a.2 e2 h6.2
        split
        · rename_i e3 he3
          rw [he3] at hc2
          exact ⟨Nat.le_trans hu.1 (Nat.le_trans hx.1 hc2.1), fun z hz => by cases hz⟩
        · rename_i b e3 he3
          rw [he3] at hc2
          have h7 := hc2.2 b rfl
          exact ⟨Nat.le_trans hu.1 (Nat.le_trans hx.1 hc2.1), fun z hz => by cases hz; exact ⟨by show pl < b.2; omega, h7.2⟩⟩
    · have h5 := sh_skip_le (tx := tx) h3.2
      exact ⟨hu.1, fun z hz => by cases hz; exact ⟨by show pl < sh_skip tx t.2; omega, h5⟩⟩
theorem sh_put_len {env e2 : sh_Env} {nm t : List Int32} (h : sh_put env nm t = some e2) : env.length ≤ e2.length := by
  unfold sh_put at h
  split at h
  · cases h; simp
  · split at h
    · cases h
    · cases h; simp
theorem sh_asg_len (env : sh_Env) (nm : List Int32) (sg : Int32) (v : Int64) : env.length ≤ (sh_asg env nm sg v).2.length := by
  unfold sh_asg
  split
  · exact Nat.le_refl _
  · split
    · exact Nat.le_refl _
    · rename_i h; exact sh_put_len h
theorem sh_gd_E {tx : List Int32} {C E : sh_F} (hC : sh_gd tx C) (hE : sh_gd tx E) : sh_gd tx (sh_E tx C E) := by
  intro un pl env h
  have h1 := sh_skip_ge tx pl
  have h2 := sh_skip_le h
  unfold sh_E
  split
  · have h3 := sh_wend_le h2
    have h4 := sh_wend_ge tx (sh_skip tx pl)
    have h5 := sh_signA_ok h3
    have hu := hE un _ env h5.2
    split
    · rename_i e2 he
      rw [he] at hu
      exact ⟨hu.1, fun z hz => by cases hz⟩
    · rename_i z e1 he
      rw [he] at hu
      have h6 := hu.2 z rfl
      split
      · exact ⟨hu.1, fun z9 hz => by cases hz; exact ⟨by show pl < z.2; omega, h6.2⟩⟩
      · refine ⟨Nat.le_trans hu.1 (sh_asg_len _ _ _ _), fun z9 hz => ?_⟩
        obtain ⟨v, -, rfl⟩ := Option.map_eq_some_iff.mp hz
        exact ⟨by show pl < z.2; omega, h6.2⟩
  · have := hC un (sh_skip tx pl) env h2
    exact ⟨this.1, fun z hz => by have := this.2 z hz; omega⟩
theorem sh_gd_lv {tx : List Int32} (hB : sh_B tx) (k : Nat) : sh_gd tx (lU tx k) ∧ sh_gd tx (lC tx k) ∧ sh_gd tx (lE tx k) := by
  induction k with
  | zero => exact ⟨sh_gd_bad tx, sh_gd_bad tx, sh_gd_bad tx⟩
  | succ k ih =>
    have hu := sh_gd_U ih.1 ih.2.2
    have hc := sh_gd_C (sh_gd_Bin hB hu) ih.2.1 ih.2.2
    exact ⟨hu, hc, sh_gd_E hc ih.2.2⟩
end
