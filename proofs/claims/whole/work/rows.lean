section
-- ===== PART A: goes FIRST, ahead of the names: the tables' words, and 'selects' of the private methods out of them =====
/-- a private method of a class that the tables say can be made, by its rows of tables_1 -/
def lw_okq (q : MethodName × Nat) : Prop := (q.1.cls ≠ "java/lang/invoke/MethodHandle" ∧ q.1.cls ≠ "java/lang/invoke/VarHandle") ∧ Cond.instantiable q.1.cls q.2 ∈ tables_1 ∧ Cond.privateMethod q.1 ∈ tables_1 ∧ Cond.instanceMethod q.1 ∈ tables_1
theorem lw_p0 : lw_okq (⟨"EffectMachine$Reader", "addDigit", "(I)V"⟩, 10) := ⟨⟨by decide +kernel, by decide +kernel⟩, List.mem_of_getElem? (i := 26) (by decide +kernel), List.mem_of_getElem? (i := 276) (by decide +kernel), List.mem_of_getElem? (i := 277) (by decide +kernel)⟩
theorem lw_p1 : lw_okq (⟨"EffectMachine$Reader", "accept", "(I)Z"⟩, 10) := ⟨⟨by decide +kernel, by decide +kernel⟩, List.mem_of_getElem? (i := 26) (by decide +kernel), List.mem_of_getElem? (i := 280) (by decide +kernel), List.mem_of_getElem? (i := 281) (by decide +kernel)⟩
theorem lw_p2 : lw_okq (⟨"EffectMachine$Reader", "acceptExpression", "(I)Z"⟩, 10) := ⟨⟨by decide +kernel, by decide +kernel⟩, List.mem_of_getElem? (i := 26) (by decide +kernel), List.mem_of_getElem? (i := 284) (by decide +kernel), List.mem_of_getElem? (i := 285) (by decide +kernel)⟩
theorem lw_p3 : lw_okq (⟨"EffectMachine$Reader", "addLeaf", "(II)Z"⟩, 10) := ⟨⟨by decide +kernel, by decide +kernel⟩, List.mem_of_getElem? (i := 26) (by decide +kernel), List.mem_of_getElem? (i := 288) (by decide +kernel), List.mem_of_getElem? (i := 289) (by decide +kernel)⟩
theorem lw_p4 : lw_okq (⟨"EffectMachine$Reader", "addExpression", "(I)LEffectMachine$Expr;"⟩, 10) := ⟨⟨by decide +kernel, by decide +kernel⟩, List.mem_of_getElem? (i := 26) (by decide +kernel), List.mem_of_getElem? (i := 292) (by decide +kernel), List.mem_of_getElem? (i := 293) (by decide +kernel)⟩
theorem lw_p5 : lw_okq (⟨"EffectMachine$Reader", "attach", "(LEffectMachine$Expr;LEffectMachine$Expr;)V"⟩, 10) := ⟨⟨by decide +kernel, by decide +kernel⟩, List.mem_of_getElem? (i := 26) (by decide +kernel), List.mem_of_getElem? (i := 356) (by decide +kernel), List.mem_of_getElem? (i := 357) (by decide +kernel)⟩
theorem lw_p6 : lw_okq (⟨"EffectMachine$Reader", "endPart", "()V"⟩, 10) := ⟨⟨by decide +kernel, by decide +kernel⟩, List.mem_of_getElem? (i := 26) (by decide +kernel), List.mem_of_getElem? (i := 360) (by decide +kernel), List.mem_of_getElem? (i := 361) (by decide +kernel)⟩
theorem lw_p7 : lw_okq (⟨"EffectMachine$Reader", "beginExpression", "(II)Z"⟩, 10) := ⟨⟨by decide +kernel, by decide +kernel⟩, List.mem_of_getElem? (i := 26) (by decide +kernel), List.mem_of_getElem? (i := 371) (by decide +kernel), List.mem_of_getElem? (i := 372) (by decide +kernel)⟩
theorem lw_p8 : lw_okq (⟨"EffectMachine$Reader", "acceptVariable", "(I)Z"⟩, 10) := ⟨⟨by decide +kernel, by decide +kernel⟩, List.mem_of_getElem? (i := 26) (by decide +kernel), List.mem_of_getElem? (i := 375) (by decide +kernel), List.mem_of_getElem? (i := 376) (by decide +kernel)⟩
theorem lw_p9 : lw_okq (⟨"EffectMachine$Reader", "acceptMark", "(III)Z"⟩, 10) := ⟨⟨by decide +kernel, by decide +kernel⟩, List.mem_of_getElem? (i := 26) (by decide +kernel), List.mem_of_getElem? (i := 379) (by decide +kernel), List.mem_of_getElem? (i := 380) (by decide +kernel)⟩
theorem lw_p10 : lw_okq (⟨"EffectMachine$Reader", "acceptClause", "(I)Z"⟩, 10) := ⟨⟨by decide +kernel, by decide +kernel⟩, List.mem_of_getElem? (i := 26) (by decide +kernel), List.mem_of_getElem? (i := 383) (by decide +kernel), List.mem_of_getElem? (i := 384) (by decide +kernel)⟩
theorem lw_p11 : lw_okq (⟨"EffectMachine$Lister", "plan", "(LEffectMachine$Expr;I)V"⟩, 6) := ⟨⟨by decide +kernel, by decide +kernel⟩, List.mem_of_getElem? (i := 66) (by decide +kernel), List.mem_of_getElem? (i := 427) (by decide +kernel), List.mem_of_getElem? (i := 428) (by decide +kernel)⟩
theorem lw_p12 : lw_okq (⟨"EffectMachine$Lister", "put", "(I)V"⟩, 6) := ⟨⟨by decide +kernel, by decide +kernel⟩, List.mem_of_getElem? (i := 66) (by decide +kernel), List.mem_of_getElem? (i := 432) (by decide +kernel), List.mem_of_getElem? (i := 433) (by decide +kernel)⟩
theorem lw_p13 : lw_okq (⟨"EffectMachine$Lister", "putHead", "(LEffectMachine$Expr;)V"⟩, 6) := ⟨⟨by decide +kernel, by decide +kernel⟩, List.mem_of_getElem? (i := 66) (by decide +kernel), List.mem_of_getElem? (i := 436) (by decide +kernel), List.mem_of_getElem? (i := 437) (by decide +kernel)⟩
theorem lw_p14 : lw_okq (⟨"EffectMachine$Lister", "putNumber", "(I)V"⟩, 6) := ⟨⟨by decide +kernel, by decide +kernel⟩, List.mem_of_getElem? (i := 66) (by decide +kernel), List.mem_of_getElem? (i := 440) (by decide +kernel), List.mem_of_getElem? (i := 441) (by decide +kernel)⟩
theorem lw_p15 : lw_okq (⟨"EffectMachine$Lister", "planParts", "(LEffectMachine$Expr;)V"⟩, 6) := ⟨⟨by decide +kernel, by decide +kernel⟩, List.mem_of_getElem? (i := 66) (by decide +kernel), List.mem_of_getElem? (i := 444) (by decide +kernel), List.mem_of_getElem? (i := 445) (by decide +kernel)⟩
def lw_privs_1 : List (MethodName × Nat) := [(⟨"EffectMachine$Reader", "addDigit", "(I)V"⟩, 10), (⟨"EffectMachine$Reader", "accept", "(I)Z"⟩, 10), (⟨"EffectMachine$Reader", "acceptExpression", "(I)Z"⟩, 10), (⟨"EffectMachine$Reader", "addLeaf", "(II)Z"⟩, 10), (⟨"EffectMachine$Reader", "addExpression", "(I)LEffectMachine$Expr;"⟩, 10), (⟨"EffectMachine$Reader", "attach", "(LEffectMachine$Expr;LEffectMachine$Expr;)V"⟩, 10), (⟨"EffectMachine$Reader", "endPart", "()V"⟩, 10), (⟨"EffectMachine$Reader", "beginExpression", "(II)Z"⟩, 10), (⟨"EffectMachine$Reader", "acceptVariable", "(I)Z"⟩, 10), (⟨"EffectMachine$Reader", "acceptMark", "(III)Z"⟩, 10), (⟨"EffectMachine$Reader", "acceptClause", "(I)Z"⟩, 10), (⟨"EffectMachine$Lister", "plan", "(LEffectMachine$Expr;I)V"⟩, 6), (⟨"EffectMachine$Lister", "put", "(I)V"⟩, 6), (⟨"EffectMachine$Lister", "putHead", "(LEffectMachine$Expr;)V"⟩, 6), (⟨"EffectMachine$Lister", "putNumber", "(I)V"⟩, 6), (⟨"EffectMachine$Lister", "planParts", "(LEffectMachine$Expr;)V"⟩, 6)]
theorem lw_r1 : ∀ q ∈ lw_privs_1, lw_okq q := List.forall_mem_cons.mpr ⟨lw_p0, List.forall_mem_cons.mpr ⟨lw_p1, List.forall_mem_cons.mpr ⟨lw_p2, List.forall_mem_cons.mpr ⟨lw_p3, List.forall_mem_cons.mpr ⟨lw_p4, List.forall_mem_cons.mpr ⟨lw_p5, List.forall_mem_cons.mpr ⟨lw_p6, List.forall_mem_cons.mpr ⟨lw_p7, List.forall_mem_cons.mpr ⟨lw_p8, List.forall_mem_cons.mpr ⟨lw_p9, List.forall_mem_cons.mpr ⟨lw_p10, List.forall_mem_cons.mpr ⟨lw_p11, List.forall_mem_cons.mpr ⟨lw_p12, List.forall_mem_cons.mpr ⟨lw_p13, List.forall_mem_cons.mpr ⟨lw_p14, List.forall_mem_cons.mpr ⟨lw_p15, fun _ h => absurd h List.not_mem_nil⟩⟩⟩⟩⟩⟩⟩⟩⟩⟩⟩⟩⟩⟩⟩⟩
theorem lw_p16 : lw_okq (⟨"EffectMachine$Lister", "planClause", "(LEffectMachine$Expr;I)V"⟩, 6) := ⟨⟨by decide +kernel, by decide +kernel⟩, List.mem_of_getElem? (i := 66) (by decide +kernel), List.mem_of_getElem? (i := 448) (by decide +kernel), List.mem_of_getElem? (i := 449) (by decide +kernel)⟩
theorem lw_p17 : lw_okq (⟨"EffectMachine$Lister", "planPart", "(LEffectMachine$Expr;)V"⟩, 6) := ⟨⟨by decide +kernel, by decide +kernel⟩, List.mem_of_getElem? (i := 66) (by decide +kernel), List.mem_of_getElem? (i := 457) (by decide +kernel), List.mem_of_getElem? (i := 458) (by decide +kernel)⟩
theorem lw_p18 : lw_okq (⟨"EffectMachine$Run", "goTo", "(LEffectMachine$Expr;LEffectMachine$Scope;)V"⟩, 14) := ⟨⟨by decide +kernel, by decide +kernel⟩, List.mem_of_getElem? (i := 116) (by decide +kernel), List.mem_of_getElem? (i := 481) (by decide +kernel), List.mem_of_getElem? (i := 482) (by decide +kernel)⟩
theorem lw_p19 : lw_okq (⟨"EffectMachine$Expr", "leavesOfHandler", "()I"⟩, 10) := ⟨⟨by decide +kernel, by decide +kernel⟩, List.mem_of_getElem? (i := 295) (by decide +kernel), List.mem_of_getElem? (i := 553) (by decide +kernel), List.mem_of_getElem? (i := 554) (by decide +kernel)⟩
theorem lw_p20 : lw_okq (⟨"EffectMachine$Expr", "lateOfClauses", "()I"⟩, 10) := ⟨⟨by decide +kernel, by decide +kernel⟩, List.mem_of_getElem? (i := 295) (by decide +kernel), List.mem_of_getElem? (i := 561) (by decide +kernel), List.mem_of_getElem? (i := 562) (by decide +kernel)⟩
theorem lw_p21 : lw_okq (⟨"EffectMachine$Run", "stepInto", "(LEffectMachine$Expr;)Z"⟩, 14) := ⟨⟨by decide +kernel, by decide +kernel⟩, List.mem_of_getElem? (i := 116) (by decide +kernel), List.mem_of_getElem? (i := 574) (by decide +kernel), List.mem_of_getElem? (i := 575) (by decide +kernel)⟩
theorem lw_p22 : lw_okq (⟨"EffectMachine$Run", "stepOut", "(LEffectMachine$Frame;)Z"⟩, 14) := ⟨⟨by decide +kernel, by decide +kernel⟩, List.mem_of_getElem? (i := 116) (by decide +kernel), List.mem_of_getElem? (i := 643) (by decide +kernel), List.mem_of_getElem? (i := 644) (by decide +kernel)⟩
theorem lw_p23 : lw_okq (⟨"EffectMachine$Run", "resume", "(LEffectMachine$Resumption;)Z"⟩, 14) := ⟨⟨by decide +kernel, by decide +kernel⟩, List.mem_of_getElem? (i := 116) (by decide +kernel), List.mem_of_getElem? (i := 647) (by decide +kernel), List.mem_of_getElem? (i := 648) (by decide +kernel)⟩
theorem lw_p24 : lw_okq (⟨"EffectMachine$Run", "leaveClause", "(LEffectMachine$Frame;)Z"⟩, 14) := ⟨⟨by decide +kernel, by decide +kernel⟩, List.mem_of_getElem? (i := 116) (by decide +kernel), List.mem_of_getElem? (i := 659) (by decide +kernel), List.mem_of_getElem? (i := 660) (by decide +kernel)⟩
theorem lw_p25 : lw_okq (⟨"EffectMachine$PendingSearch", "visit", "(LEffectMachine$Resumption;LEffectMachine$Ledger;)V"⟩, 5) := ⟨⟨by decide +kernel, by decide +kernel⟩, List.mem_of_getElem? (i := 92) (by decide +kernel), List.mem_of_getElem? (i := 667) (by decide +kernel), List.mem_of_getElem? (i := 668) (by decide +kernel)⟩
theorem lw_p26 : lw_okq (⟨"EffectMachine$Run", "execute", "(LEffectMachine$Frame;)V"⟩, 14) := ⟨⟨by decide +kernel, by decide +kernel⟩, List.mem_of_getElem? (i := 116) (by decide +kernel), List.mem_of_getElem? (i := 681) (by decide +kernel), List.mem_of_getElem? (i := 682) (by decide +kernel)⟩
theorem lw_p27 : lw_okq (⟨"EffectMachine$Run", "perform", "(I)V"⟩, 14) := ⟨⟨by decide +kernel, by decide +kernel⟩, List.mem_of_getElem? (i := 116) (by decide +kernel), List.mem_of_getElem? (i := 689) (by decide +kernel), List.mem_of_getElem? (i := 690) (by decide +kernel)⟩
theorem lw_p28 : lw_okq (⟨"EffectMachine$Run", "goOnAt", "(LEffectMachine$Frame;LEffectMachine$Expr;)V"⟩, 14) := ⟨⟨by decide +kernel, by decide +kernel⟩, List.mem_of_getElem? (i := 116) (by decide +kernel), List.mem_of_getElem? (i := 749) (by decide +kernel), List.mem_of_getElem? (i := 750) (by decide +kernel)⟩
theorem lw_p29 : lw_okq (⟨"EffectMachine$Run", "emit", "()V"⟩, 14) := ⟨⟨by decide +kernel, by decide +kernel⟩, List.mem_of_getElem? (i := 116) (by decide +kernel), List.mem_of_getElem? (i := 756) (by decide +kernel), List.mem_of_getElem? (i := 757) (by decide +kernel)⟩
theorem lw_p30 : lw_okq (⟨"EffectMachine$Run", "call", "(I)V"⟩, 14) := ⟨⟨by decide +kernel, by decide +kernel⟩, List.mem_of_getElem? (i := 116) (by decide +kernel), List.mem_of_getElem? (i := 761) (by decide +kernel), List.mem_of_getElem? (i := 762) (by decide +kernel)⟩
theorem lw_p31 : lw_okq (⟨"EffectMachine$Run", "leaveHandler", "(LEffectMachine$Expr;LEffectMachine$Scope;)V"⟩, 14) := ⟨⟨by decide +kernel, by decide +kernel⟩, List.mem_of_getElem? (i := 116) (by decide +kernel), List.mem_of_getElem? (i := 766) (by decide +kernel), List.mem_of_getElem? (i := 767) (by decide +kernel)⟩
def lw_privs_2 : List (MethodName × Nat) := [(⟨"EffectMachine$Lister", "planClause", "(LEffectMachine$Expr;I)V"⟩, 6), (⟨"EffectMachine$Lister", "planPart", "(LEffectMachine$Expr;)V"⟩, 6), (⟨"EffectMachine$Run", "goTo", "(LEffectMachine$Expr;LEffectMachine$Scope;)V"⟩, 14), (⟨"EffectMachine$Expr", "leavesOfHandler", "()I"⟩, 10), (⟨"EffectMachine$Expr", "lateOfClauses", "()I"⟩, 10), (⟨"EffectMachine$Run", "stepInto", "(LEffectMachine$Expr;)Z"⟩, 14), (⟨"EffectMachine$Run", "stepOut", "(LEffectMachine$Frame;)Z"⟩, 14), (⟨"EffectMachine$Run", "resume", "(LEffectMachine$Resumption;)Z"⟩, 14), (⟨"EffectMachine$Run", "leaveClause", "(LEffectMachine$Frame;)Z"⟩, 14), (⟨"EffectMachine$PendingSearch", "visit", "(LEffectMachine$Resumption;LEffectMachine$Ledger;)V"⟩, 5), (⟨"EffectMachine$Run", "execute", "(LEffectMachine$Frame;)V"⟩, 14), (⟨"EffectMachine$Run", "perform", "(I)V"⟩, 14), (⟨"EffectMachine$Run", "goOnAt", "(LEffectMachine$Frame;LEffectMachine$Expr;)V"⟩, 14), (⟨"EffectMachine$Run", "emit", "()V"⟩, 14), (⟨"EffectMachine$Run", "call", "(I)V"⟩, 14), (⟨"EffectMachine$Run", "leaveHandler", "(LEffectMachine$Expr;LEffectMachine$Scope;)V"⟩, 14)]
theorem lw_r2 : ∀ q ∈ lw_privs_2, lw_okq q := List.forall_mem_cons.mpr ⟨lw_p16, List.forall_mem_cons.mpr ⟨lw_p17, List.forall_mem_cons.mpr ⟨lw_p18, List.forall_mem_cons.mpr ⟨lw_p19, List.forall_mem_cons.mpr ⟨lw_p20, List.forall_mem_cons.mpr ⟨lw_p21, List.forall_mem_cons.mpr ⟨lw_p22, List.forall_mem_cons.mpr ⟨lw_p23, List.forall_mem_cons.mpr ⟨lw_p24, List.forall_mem_cons.mpr ⟨lw_p25, List.forall_mem_cons.mpr ⟨lw_p26, List.forall_mem_cons.mpr ⟨lw_p27, List.forall_mem_cons.mpr ⟨lw_p28, List.forall_mem_cons.mpr ⟨lw_p29, List.forall_mem_cons.mpr ⟨lw_p30, List.forall_mem_cons.mpr ⟨lw_p31, fun _ h => absurd h List.not_mem_nil⟩⟩⟩⟩⟩⟩⟩⟩⟩⟩⟩⟩⟩⟩⟩⟩
theorem lw_p32 : lw_okq (⟨"EffectMachine$Run", "endIfDue", "()V"⟩, 14) := ⟨⟨by decide +kernel, by decide +kernel⟩, List.mem_of_getElem? (i := 116) (by decide +kernel), List.mem_of_getElem? (i := 770) (by decide +kernel), List.mem_of_getElem? (i := 771) (by decide +kernel)⟩
theorem lw_p33 : lw_okq (⟨"EffectMachineModel", "begin", "()V"⟩, 29) := ⟨⟨by decide +kernel, by decide +kernel⟩, List.mem_of_getElem? (i := 860) (by decide +kernel), List.mem_of_getElem? (i := 870) (by decide +kernel), List.mem_of_getElem? (i := 871) (by decide +kernel)⟩
theorem lw_p34 : lw_okq (⟨"EffectMachineModel", "parse", "(I)I"⟩, 29) := ⟨⟨by decide +kernel, by decide +kernel⟩, List.mem_of_getElem? (i := 860) (by decide +kernel), List.mem_of_getElem? (i := 977) (by decide +kernel), List.mem_of_getElem? (i := 978) (by decide +kernel)⟩
theorem lw_p35 : lw_okq (⟨"EffectMachineModel", "boundNext", "()I"⟩, 29) := ⟨⟨by decide +kernel, by decide +kernel⟩, List.mem_of_getElem? (i := 860) (by decide +kernel), List.mem_of_getElem? (i := 982) (by decide +kernel), List.mem_of_getElem? (i := 983) (by decide +kernel)⟩
theorem lw_p36 : lw_okq (⟨"EffectMachineModel", "kind", "(I)I"⟩, 29) := ⟨⟨by decide +kernel, by decide +kernel⟩, List.mem_of_getElem? (i := 860) (by decide +kernel), List.mem_of_getElem? (i := 986) (by decide +kernel), List.mem_of_getElem? (i := 987) (by decide +kernel)⟩
theorem lw_p37 : lw_okq (⟨"EffectMachineModel", "argument", "(I)I"⟩, 29) := ⟨⟨by decide +kernel, by decide +kernel⟩, List.mem_of_getElem? (i := 860) (by decide +kernel), List.mem_of_getElem? (i := 990) (by decide +kernel), List.mem_of_getElem? (i := 991) (by decide +kernel)⟩
theorem lw_p38 : lw_okq (⟨"EffectMachineModel", "beginsWhole", "(II)Z"⟩, 29) := ⟨⟨by decide +kernel, by decide +kernel⟩, List.mem_of_getElem? (i := 860) (by decide +kernel), List.mem_of_getElem? (i := 994) (by decide +kernel), List.mem_of_getElem? (i := 995) (by decide +kernel)⟩
theorem lw_p39 : lw_okq (⟨"EffectMachineModel", "skip", "()V"⟩, 29) := ⟨⟨by decide +kernel, by decide +kernel⟩, List.mem_of_getElem? (i := 860) (by decide +kernel), List.mem_of_getElem? (i := 998) (by decide +kernel), List.mem_of_getElem? (i := 999) (by decide +kernel)⟩
theorem lw_p40 : lw_okq (⟨"EffectMachineModel", "here", "()I"⟩, 29) := ⟨⟨by decide +kernel, by decide +kernel⟩, List.mem_of_getElem? (i := 860) (by decide +kernel), List.mem_of_getElem? (i := 1002) (by decide +kernel), List.mem_of_getElem? (i := 1003) (by decide +kernel)⟩
theorem lw_p41 : lw_okq (⟨"EffectMachineModel", "readNumber", "()I"⟩, 29) := ⟨⟨by decide +kernel, by decide +kernel⟩, List.mem_of_getElem? (i := 860) (by decide +kernel), List.mem_of_getElem? (i := 1006) (by decide +kernel), List.mem_of_getElem? (i := 1007) (by decide +kernel)⟩
theorem lw_p42 : lw_okq (⟨"EffectMachineModel", "make", "(II)I"⟩, 29) := ⟨⟨by decide +kernel, by decide +kernel⟩, List.mem_of_getElem? (i := 860) (by decide +kernel), List.mem_of_getElem? (i := 1010) (by decide +kernel), List.mem_of_getElem? (i := 1011) (by decide +kernel)⟩
theorem lw_p43 : lw_okq (⟨"EffectMachineModel", "fails", "()V"⟩, 29) := ⟨⟨by decide +kernel, by decide +kernel⟩, List.mem_of_getElem? (i := 860) (by decide +kernel), List.mem_of_getElem? (i := 1017) (by decide +kernel), List.mem_of_getElem? (i := 1018) (by decide +kernel)⟩
theorem lw_p44 : lw_okq (⟨"EffectMachineModel", "readArgument", "(I)I"⟩, 29) := ⟨⟨by decide +kernel, by decide +kernel⟩, List.mem_of_getElem? (i := 860) (by decide +kernel), List.mem_of_getElem? (i := 1021) (by decide +kernel), List.mem_of_getElem? (i := 1022) (by decide +kernel)⟩
theorem lw_p45 : lw_okq (⟨"EffectMachineModel", "take", "(II)I"⟩, 29) := ⟨⟨by decide +kernel, by decide +kernel⟩, List.mem_of_getElem? (i := 860) (by decide +kernel), List.mem_of_getElem? (i := 1025) (by decide +kernel), List.mem_of_getElem? (i := 1026) (by decide +kernel)⟩
theorem lw_p46 : lw_okq (⟨"EffectMachineModel", "enter", "(III)V"⟩, 29) := ⟨⟨by decide +kernel, by decide +kernel⟩, List.mem_of_getElem? (i := 860) (by decide +kernel), List.mem_of_getElem? (i := 1029) (by decide +kernel), List.mem_of_getElem? (i := 1030) (by decide +kernel)⟩
theorem lw_p47 : lw_okq (⟨"EffectMachineModel", "attach", "(I)V"⟩, 29) := ⟨⟨by decide +kernel, by decide +kernel⟩, List.mem_of_getElem? (i := 860) (by decide +kernel), List.mem_of_getElem? (i := 1033) (by decide +kernel), List.mem_of_getElem? (i := 1034) (by decide +kernel)⟩
def lw_privs_3 : List (MethodName × Nat) := [(⟨"EffectMachine$Run", "endIfDue", "()V"⟩, 14), (⟨"EffectMachineModel", "begin", "()V"⟩, 29), (⟨"EffectMachineModel", "parse", "(I)I"⟩, 29), (⟨"EffectMachineModel", "boundNext", "()I"⟩, 29), (⟨"EffectMachineModel", "kind", "(I)I"⟩, 29), (⟨"EffectMachineModel", "argument", "(I)I"⟩, 29), (⟨"EffectMachineModel", "beginsWhole", "(II)Z"⟩, 29), (⟨"EffectMachineModel", "skip", "()V"⟩, 29), (⟨"EffectMachineModel", "here", "()I"⟩, 29), (⟨"EffectMachineModel", "readNumber", "()I"⟩, 29), (⟨"EffectMachineModel", "make", "(II)I"⟩, 29), (⟨"EffectMachineModel", "fails", "()V"⟩, 29), (⟨"EffectMachineModel", "readArgument", "(I)I"⟩, 29), (⟨"EffectMachineModel", "take", "(II)I"⟩, 29), (⟨"EffectMachineModel", "enter", "(III)V"⟩, 29), (⟨"EffectMachineModel", "attach", "(I)V"⟩, 29)]
theorem lw_r3 : ∀ q ∈ lw_privs_3, lw_okq q := List.forall_mem_cons.mpr ⟨lw_p32, List.forall_mem_cons.mpr ⟨lw_p33, List.forall_mem_cons.mpr ⟨lw_p34, List.forall_mem_cons.mpr ⟨lw_p35, List.forall_mem_cons.mpr ⟨lw_p36, List.forall_mem_cons.mpr ⟨lw_p37, List.forall_mem_cons.mpr ⟨lw_p38, List.forall_mem_cons.mpr ⟨lw_p39, List.forall_mem_cons.mpr ⟨lw_p40, List.forall_mem_cons.mpr ⟨lw_p41, List.forall_mem_cons.mpr ⟨lw_p42, List.forall_mem_cons.mpr ⟨lw_p43, List.forall_mem_cons.mpr ⟨lw_p44, List.forall_mem_cons.mpr ⟨lw_p45, List.forall_mem_cons.mpr ⟨lw_p46, List.forall_mem_cons.mpr ⟨lw_p47, fun _ h => absurd h List.not_mem_nil⟩⟩⟩⟩⟩⟩⟩⟩⟩⟩⟩⟩⟩⟩⟩⟩
theorem lw_p48 : lw_okq (⟨"EffectMachineModel", "goesOn", "()Z"⟩, 29) := ⟨⟨by decide +kernel, by decide +kernel⟩, List.mem_of_getElem? (i := 860) (by decide +kernel), List.mem_of_getElem? (i := 1037) (by decide +kernel), List.mem_of_getElem? (i := 1038) (by decide +kernel)⟩
theorem lw_p49 : lw_okq (⟨"EffectMachineModel", "beginClause", "(I)V"⟩, 29) := ⟨⟨by decide +kernel, by decide +kernel⟩, List.mem_of_getElem? (i := 860) (by decide +kernel), List.mem_of_getElem? (i := 1041) (by decide +kernel), List.mem_of_getElem? (i := 1042) (by decide +kernel)⟩
theorem lw_p50 : lw_okq (⟨"EffectMachineModel", "clause", "(II)I"⟩, 29) := ⟨⟨by decide +kernel, by decide +kernel⟩, List.mem_of_getElem? (i := 860) (by decide +kernel), List.mem_of_getElem? (i := 1045) (by decide +kernel), List.mem_of_getElem? (i := 1046) (by decide +kernel)⟩
theorem lw_p51 : lw_okq (⟨"EffectMachineModel", "layListing", "()I"⟩, 29) := ⟨⟨by decide +kernel, by decide +kernel⟩, List.mem_of_getElem? (i := 860) (by decide +kernel), List.mem_of_getElem? (i := 1072) (by decide +kernel), List.mem_of_getElem? (i := 1073) (by decide +kernel)⟩
theorem lw_p52 : lw_okq (⟨"EffectMachineModel", "layNumber", "(IIZ)I"⟩, 29) := ⟨⟨by decide +kernel, by decide +kernel⟩, List.mem_of_getElem? (i := 860) (by decide +kernel), List.mem_of_getElem? (i := 1076) (by decide +kernel), List.mem_of_getElem? (i := 1077) (by decide +kernel)⟩
theorem lw_p53 : lw_okq (⟨"EffectMachineModel", "namedBy", "(I)I"⟩, 29) := ⟨⟨by decide +kernel, by decide +kernel⟩, List.mem_of_getElem? (i := 860) (by decide +kernel), List.mem_of_getElem? (i := 1083) (by decide +kernel), List.mem_of_getElem? (i := 1084) (by decide +kernel)⟩
theorem lw_p54 : lw_okq (⟨"EffectMachineModel", "layParts", "(II)I"⟩, 29) := ⟨⟨by decide +kernel, by decide +kernel⟩, List.mem_of_getElem? (i := 860) (by decide +kernel), List.mem_of_getElem? (i := 1087) (by decide +kernel), List.mem_of_getElem? (i := 1088) (by decide +kernel)⟩
theorem lw_p55 : lw_okq (⟨"EffectMachineModel", "part", "(II)I"⟩, 29) := ⟨⟨by decide +kernel, by decide +kernel⟩, List.mem_of_getElem? (i := 860) (by decide +kernel), List.mem_of_getElem? (i := 1091) (by decide +kernel), List.mem_of_getElem? (i := 1092) (by decide +kernel)⟩
theorem lw_p56 : lw_okq (⟨"EffectMachineModel", "clearIn", "(I)V"⟩, 29) := ⟨⟨by decide +kernel, by decide +kernel⟩, List.mem_of_getElem? (i := 860) (by decide +kernel), List.mem_of_getElem? (i := 1099) (by decide +kernel), List.mem_of_getElem? (i := 1100) (by decide +kernel)⟩
theorem lw_p57 : lw_okq (⟨"EffectMachineModel", "growsIn", "(I)Z"⟩, 29) := ⟨⟨by decide +kernel, by decide +kernel⟩, List.mem_of_getElem? (i := 860) (by decide +kernel), List.mem_of_getElem? (i := 1103) (by decide +kernel), List.mem_of_getElem? (i := 1104) (by decide +kernel)⟩
theorem lw_p58 : lw_okq (⟨"EffectMachineModel", "leavesBy", "(I)I"⟩, 29) := ⟨⟨by decide +kernel, by decide +kernel⟩, List.mem_of_getElem? (i := 860) (by decide +kernel), List.mem_of_getElem? (i := 1107) (by decide +kernel), List.mem_of_getElem? (i := 1108) (by decide +kernel)⟩
theorem lw_p59 : lw_okq (⟨"EffectMachineModel", "ofHandled", "(I)I"⟩, 29) := ⟨⟨by decide +kernel, by decide +kernel⟩, List.mem_of_getElem? (i := 860) (by decide +kernel), List.mem_of_getElem? (i := 1111) (by decide +kernel), List.mem_of_getElem? (i := 1112) (by decide +kernel)⟩
theorem lw_p60 : lw_okq (⟨"EffectMachineModel", "lateBy", "(I)I"⟩, 29) := ⟨⟨by decide +kernel, by decide +kernel⟩, List.mem_of_getElem? (i := 860) (by decide +kernel), List.mem_of_getElem? (i := 1127) (by decide +kernel), List.mem_of_getElem? (i := 1128) (by decide +kernel)⟩
theorem lw_p61 : lw_okq (⟨"EffectMachineModel", "step", "()V"⟩, 29) := ⟨⟨by decide +kernel, by decide +kernel⟩, List.mem_of_getElem? (i := 860) (by decide +kernel), List.mem_of_getElem? (i := 1135) (by decide +kernel), List.mem_of_getElem? (i := 1136) (by decide +kernel)⟩
theorem lw_p62 : lw_okq (⟨"EffectMachineModel", "opens", "()Z"⟩, 29) := ⟨⟨by decide +kernel, by decide +kernel⟩, List.mem_of_getElem? (i := 860) (by decide +kernel), List.mem_of_getElem? (i := 1139) (by decide +kernel), List.mem_of_getElem? (i := 1140) (by decide +kernel)⟩
theorem lw_p63 : lw_okq (⟨"EffectMachineModel", "become", "(I)V"⟩, 29) := ⟨⟨by decide +kernel, by decide +kernel⟩, List.mem_of_getElem? (i := 860) (by decide +kernel), List.mem_of_getElem? (i := 1143) (by decide +kernel), List.mem_of_getElem? (i := 1144) (by decide +kernel)⟩
def lw_privs_4 : List (MethodName × Nat) := [(⟨"EffectMachineModel", "goesOn", "()Z"⟩, 29), (⟨"EffectMachineModel", "beginClause", "(I)V"⟩, 29), (⟨"EffectMachineModel", "clause", "(II)I"⟩, 29), (⟨"EffectMachineModel", "layListing", "()I"⟩, 29), (⟨"EffectMachineModel", "layNumber", "(IIZ)I"⟩, 29), (⟨"EffectMachineModel", "namedBy", "(I)I"⟩, 29), (⟨"EffectMachineModel", "layParts", "(II)I"⟩, 29), (⟨"EffectMachineModel", "part", "(II)I"⟩, 29), (⟨"EffectMachineModel", "clearIn", "(I)V"⟩, 29), (⟨"EffectMachineModel", "growsIn", "(I)Z"⟩, 29), (⟨"EffectMachineModel", "leavesBy", "(I)I"⟩, 29), (⟨"EffectMachineModel", "ofHandled", "(I)I"⟩, 29), (⟨"EffectMachineModel", "lateBy", "(I)I"⟩, 29), (⟨"EffectMachineModel", "step", "()V"⟩, 29), (⟨"EffectMachineModel", "opens", "()Z"⟩, 29), (⟨"EffectMachineModel", "become", "(I)V"⟩, 29)]
theorem lw_r4 : ∀ q ∈ lw_privs_4, lw_okq q := List.forall_mem_cons.mpr ⟨lw_p48, List.forall_mem_cons.mpr ⟨lw_p49, List.forall_mem_cons.mpr ⟨lw_p50, List.forall_mem_cons.mpr ⟨lw_p51, List.forall_mem_cons.mpr ⟨lw_p52, List.forall_mem_cons.mpr ⟨lw_p53, List.forall_mem_cons.mpr ⟨lw_p54, List.forall_mem_cons.mpr ⟨lw_p55, List.forall_mem_cons.mpr ⟨lw_p56, List.forall_mem_cons.mpr ⟨lw_p57, List.forall_mem_cons.mpr ⟨lw_p58, List.forall_mem_cons.mpr ⟨lw_p59, List.forall_mem_cons.mpr ⟨lw_p60, List.forall_mem_cons.mpr ⟨lw_p61, List.forall_mem_cons.mpr ⟨lw_p62, List.forall_mem_cons.mpr ⟨lw_p63, fun _ h => absurd h List.not_mem_nil⟩⟩⟩⟩⟩⟩⟩⟩⟩⟩⟩⟩⟩⟩⟩⟩
theorem lw_p64 : lw_okq (⟨"EffectMachineModel", "valueOf", "(I)I"⟩, 29) := ⟨⟨by decide +kernel, by decide +kernel⟩, List.mem_of_getElem? (i := 860) (by decide +kernel), List.mem_of_getElem? (i := 1147) (by decide +kernel), List.mem_of_getElem? (i := 1148) (by decide +kernel)⟩
theorem lw_p65 : lw_okq (⟨"EffectMachineModel", "depth", "()I"⟩, 29) := ⟨⟨by decide +kernel, by decide +kernel⟩, List.mem_of_getElem? (i := 860) (by decide +kernel), List.mem_of_getElem? (i := 1151) (by decide +kernel), List.mem_of_getElem? (i := 1152) (by decide +kernel)⟩
theorem lw_p66 : lw_okq (⟨"EffectMachineModel", "of", "(II)I"⟩, 29) := ⟨⟨by decide +kernel, by decide +kernel⟩, List.mem_of_getElem? (i := 860) (by decide +kernel), List.mem_of_getElem? (i := 1155) (by decide +kernel), List.mem_of_getElem? (i := 1156) (by decide +kernel)⟩
theorem lw_p67 : lw_okq (⟨"EffectMachineModel", "push", "(IIIII)V"⟩, 29) := ⟨⟨by decide +kernel, by decide +kernel⟩, List.mem_of_getElem? (i := 860) (by decide +kernel), List.mem_of_getElem? (i := 1162) (by decide +kernel), List.mem_of_getElem? (i := 1163) (by decide +kernel)⟩
theorem lw_p68 : lw_okq (⟨"EffectMachineModel", "closes", "()Z"⟩, 29) := ⟨⟨by decide +kernel, by decide +kernel⟩, List.mem_of_getElem? (i := 860) (by decide +kernel), List.mem_of_getElem? (i := 1166) (by decide +kernel), List.mem_of_getElem? (i := 1167) (by decide +kernel)⟩
theorem lw_p69 : lw_okq (⟨"EffectMachineModel", "comesTo", "(II)Z"⟩, 29) := ⟨⟨by decide +kernel, by decide +kernel⟩, List.mem_of_getElem? (i := 860) (by decide +kernel), List.mem_of_getElem? (i := 1170) (by decide +kernel), List.mem_of_getElem? (i := 1171) (by decide +kernel)⟩
theorem lw_p70 : lw_okq (⟨"EffectMachineModel", "focusOn", "(III)V"⟩, 29) := ⟨⟨by decide +kernel, by decide +kernel⟩, List.mem_of_getElem? (i := 860) (by decide +kernel), List.mem_of_getElem? (i := 1174) (by decide +kernel), List.mem_of_getElem? (i := 1175) (by decide +kernel)⟩
theorem lw_p71 : lw_okq (⟨"EffectMachineModel", "bindTo", "(III)I"⟩, 29) := ⟨⟨by decide +kernel, by decide +kernel⟩, List.mem_of_getElem? (i := 860) (by decide +kernel), List.mem_of_getElem? (i := 1181) (by decide +kernel), List.mem_of_getElem? (i := 1182) (by decide +kernel)⟩
theorem lw_p72 : lw_okq (⟨"EffectMachineModel", "trace0", "(I)V"⟩, 29) := ⟨⟨by decide +kernel, by decide +kernel⟩, List.mem_of_getElem? (i := 860) (by decide +kernel), List.mem_of_getElem? (i := 1185) (by decide +kernel), List.mem_of_getElem? (i := 1186) (by decide +kernel)⟩
theorem lw_p73 : lw_okq (⟨"EffectMachineModel", "perform", "(II)V"⟩, 29) := ⟨⟨by decide +kernel, by decide +kernel⟩, List.mem_of_getElem? (i := 860) (by decide +kernel), List.mem_of_getElem? (i := 1189) (by decide +kernel), List.mem_of_getElem? (i := 1190) (by decide +kernel)⟩
theorem lw_p74 : lw_okq (⟨"EffectMachineModel", "handlerOf", "(I)I"⟩, 29) := ⟨⟨by decide +kernel, by decide +kernel⟩, List.mem_of_getElem? (i := 860) (by decide +kernel), List.mem_of_getElem? (i := 1193) (by decide +kernel), List.mem_of_getElem? (i := 1194) (by decide +kernel)⟩
theorem lw_p75 : lw_okq (⟨"EffectMachineModel", "makeResumption", "(II)I"⟩, 29) := ⟨⟨by decide +kernel, by decide +kernel⟩, List.mem_of_getElem? (i := 860) (by decide +kernel), List.mem_of_getElem? (i := 1197) (by decide +kernel), List.mem_of_getElem? (i := 1198) (by decide +kernel)⟩
theorem lw_p76 : lw_okq (⟨"EffectMachineModel", "executeFinalizer", "(II)V"⟩, 29) := ⟨⟨by decide +kernel, by decide +kernel⟩, List.mem_of_getElem? (i := 860) (by decide +kernel), List.mem_of_getElem? (i := 1201) (by decide +kernel), List.mem_of_getElem? (i := 1202) (by decide +kernel)⟩
theorem lw_p77 : lw_okq (⟨"EffectMachineModel", "call", "(II)V"⟩, 29) := ⟨⟨by decide +kernel, by decide +kernel⟩, List.mem_of_getElem? (i := 860) (by decide +kernel), List.mem_of_getElem? (i := 1205) (by decide +kernel), List.mem_of_getElem? (i := 1206) (by decide +kernel)⟩
theorem lw_p78 : lw_okq (⟨"EffectMachineModel", "resumes", "(II)Z"⟩, 29) := ⟨⟨by decide +kernel, by decide +kernel⟩, List.mem_of_getElem? (i := 860) (by decide +kernel), List.mem_of_getElem? (i := 1209) (by decide +kernel), List.mem_of_getElem? (i := 1210) (by decide +kernel)⟩
theorem lw_p79 : lw_okq (⟨"EffectMachineModel", "uses", "(I)I"⟩, 29) := ⟨⟨by decide +kernel, by decide +kernel⟩, List.mem_of_getElem? (i := 860) (by decide +kernel), List.mem_of_getElem? (i := 1213) (by decide +kernel), List.mem_of_getElem? (i := 1214) (by decide +kernel)⟩
def lw_privs_5 : List (MethodName × Nat) := [(⟨"EffectMachineModel", "valueOf", "(I)I"⟩, 29), (⟨"EffectMachineModel", "depth", "()I"⟩, 29), (⟨"EffectMachineModel", "of", "(II)I"⟩, 29), (⟨"EffectMachineModel", "push", "(IIIII)V"⟩, 29), (⟨"EffectMachineModel", "closes", "()Z"⟩, 29), (⟨"EffectMachineModel", "comesTo", "(II)Z"⟩, 29), (⟨"EffectMachineModel", "focusOn", "(III)V"⟩, 29), (⟨"EffectMachineModel", "bindTo", "(III)I"⟩, 29), (⟨"EffectMachineModel", "trace0", "(I)V"⟩, 29), (⟨"EffectMachineModel", "perform", "(II)V"⟩, 29), (⟨"EffectMachineModel", "handlerOf", "(I)I"⟩, 29), (⟨"EffectMachineModel", "makeResumption", "(II)I"⟩, 29), (⟨"EffectMachineModel", "executeFinalizer", "(II)V"⟩, 29), (⟨"EffectMachineModel", "call", "(II)V"⟩, 29), (⟨"EffectMachineModel", "resumes", "(II)Z"⟩, 29), (⟨"EffectMachineModel", "uses", "(I)I"⟩, 29)]
theorem lw_r5 : ∀ q ∈ lw_privs_5, lw_okq q := List.forall_mem_cons.mpr ⟨lw_p64, List.forall_mem_cons.mpr ⟨lw_p65, List.forall_mem_cons.mpr ⟨lw_p66, List.forall_mem_cons.mpr ⟨lw_p67, List.forall_mem_cons.mpr ⟨lw_p68, List.forall_mem_cons.mpr ⟨lw_p69, List.forall_mem_cons.mpr ⟨lw_p70, List.forall_mem_cons.mpr ⟨lw_p71, List.forall_mem_cons.mpr ⟨lw_p72, List.forall_mem_cons.mpr ⟨lw_p73, List.forall_mem_cons.mpr ⟨lw_p74, List.forall_mem_cons.mpr ⟨lw_p75, List.forall_mem_cons.mpr ⟨lw_p76, List.forall_mem_cons.mpr ⟨lw_p77, List.forall_mem_cons.mpr ⟨lw_p78, List.forall_mem_cons.mpr ⟨lw_p79, fun _ h => absurd h List.not_mem_nil⟩⟩⟩⟩⟩⟩⟩⟩⟩⟩⟩⟩⟩⟩⟩⟩
theorem lw_p80 : lw_okq (⟨"EffectMachineModel", "leaveHandler", "(II)V"⟩, 29) := ⟨⟨by decide +kernel, by decide +kernel⟩, List.mem_of_getElem? (i := 860) (by decide +kernel), List.mem_of_getElem? (i := 1217) (by decide +kernel), List.mem_of_getElem? (i := 1218) (by decide +kernel)⟩
theorem lw_p81 : lw_okq (⟨"EffectMachineModel", "closesClause", "(II)Z"⟩, 29) := ⟨⟨by decide +kernel, by decide +kernel⟩, List.mem_of_getElem? (i := 860) (by decide +kernel), List.mem_of_getElem? (i := 1221) (by decide +kernel), List.mem_of_getElem? (i := 1222) (by decide +kernel)⟩
theorem lw_p82 : lw_okq (⟨"EffectMachineModel", "pending", "(I)I"⟩, 29) := ⟨⟨by decide +kernel, by decide +kernel⟩, List.mem_of_getElem? (i := 860) (by decide +kernel), List.mem_of_getElem? (i := 1225) (by decide +kernel), List.mem_of_getElem? (i := 1226) (by decide +kernel)⟩
theorem lw_p83 : lw_okq (⟨"EffectMachineModel", "checkSteps", "()V"⟩, 29) := ⟨⟨by decide +kernel, by decide +kernel⟩, List.mem_of_getElem? (i := 860) (by decide +kernel), List.mem_of_getElem? (i := 1229) (by decide +kernel), List.mem_of_getElem? (i := 1230) (by decide +kernel)⟩
theorem lw_p84 : lw_okq (⟨"EffectMachineModel", "defined", "()I"⟩, 29) := ⟨⟨by decide +kernel, by decide +kernel⟩, List.mem_of_getElem? (i := 860) (by decide +kernel), List.mem_of_getElem? (i := 1245) (by decide +kernel), List.mem_of_getElem? (i := 1246) (by decide +kernel)⟩
theorem lw_p85 : lw_okq (⟨"EffectMachineModel", "property", "(I)I"⟩, 29) := ⟨⟨by decide +kernel, by decide +kernel⟩, List.mem_of_getElem? (i := 860) (by decide +kernel), List.mem_of_getElem? (i := 1269) (by decide +kernel), List.mem_of_getElem? (i := 1270) (by decide +kernel)⟩
theorem lw_p86 : lw_okq (⟨"EffectMachineModel", "clauses", "(I)I"⟩, 29) := ⟨⟨by decide +kernel, by decide +kernel⟩, List.mem_of_getElem? (i := 860) (by decide +kernel), List.mem_of_getElem? (i := 1273) (by decide +kernel), List.mem_of_getElem? (i := 1274) (by decide +kernel)⟩
def lw_privs_6 : List (MethodName × Nat) := [(⟨"EffectMachineModel", "leaveHandler", "(II)V"⟩, 29), (⟨"EffectMachineModel", "closesClause", "(II)Z"⟩, 29), (⟨"EffectMachineModel", "pending", "(I)I"⟩, 29), (⟨"EffectMachineModel", "checkSteps", "()V"⟩, 29), (⟨"EffectMachineModel", "defined", "()I"⟩, 29), (⟨"EffectMachineModel", "property", "(I)I"⟩, 29), (⟨"EffectMachineModel", "clauses", "(I)I"⟩, 29)]
theorem lw_r6 : ∀ q ∈ lw_privs_6, lw_okq q := List.forall_mem_cons.mpr ⟨lw_p80, List.forall_mem_cons.mpr ⟨lw_p81, List.forall_mem_cons.mpr ⟨lw_p82, List.forall_mem_cons.mpr ⟨lw_p83, List.forall_mem_cons.mpr ⟨lw_p84, List.forall_mem_cons.mpr ⟨lw_p85, List.forall_mem_cons.mpr ⟨lw_p86, fun _ h => absurd h List.not_mem_nil⟩⟩⟩⟩⟩⟩⟩
def lw_privs : List (MethodName × Nat) := lw_privs_1 ++ (lw_privs_2 ++ (lw_privs_3 ++ (lw_privs_4 ++ (lw_privs_5 ++ (lw_privs_6)))))
def lw_tbl : List Cond := k2_sels lw_privs ++ tables_1
theorem lw_privs_ok : ∀ q ∈ lw_privs, lw_okq q := by
  show ∀ q ∈ lw_privs_1 ++ (lw_privs_2 ++ (lw_privs_3 ++ (lw_privs_4 ++ (lw_privs_5 ++ (lw_privs_6))))), lw_okq q
  exact List.forall_mem_append.mpr ⟨lw_r1, List.forall_mem_append.mpr ⟨lw_r2, List.forall_mem_append.mpr ⟨lw_r3, List.forall_mem_append.mpr ⟨lw_r4, List.forall_mem_append.mpr ⟨lw_r5, lw_r6⟩⟩⟩⟩⟩
end
section
def RX0 : String := "EffectMachine$Body"
def TX0 : u_T := fun k => match k with
  | 0 => ("EffectMachine$Body", "root", "LEffectMachine$Expr;", true)
  | 1 => ("EffectMachine$Body", "all", "[LEffectMachine$Expr;", true)
  | _ => ("EffectMachine$Body", "listed", "[I", false)
def tyX0 : Nat → FieldType := fun k => match k with
  | 0 => .object "EffectMachine$Expr"
  | 1 => .array (.object "EffectMachine$Expr")
  | _ => .array .int
theorem nmX0 : ∀ a, a < 3 → ∀ b, b < 3 → a ≠ b → (TX0 a).2.1 ≠ (TX0 b).2.1 := by decide +kernel
theorem tyX0_ok : ∀ k, k < 3 → parseFieldDescriptor (TX0 k).2.2.1 = some (tyX0 k) := by decide +kernel
abbrev cX0_init : ByteArray := prog_2_method_1_code
def yX0_init : MethodName := ⟨RX0, "<init>", "(LEffectMachine$Expr;[LEffectMachine$Expr;)V"⟩
abbrev cX0_forgetLeaves : ByteArray := prog_2_method_2_code
def yX0_forgetLeaves : MethodName := ⟨RX0, "forgetLeaves", "()V"⟩
abbrev cX0_gatherRound : ByteArray := prog_2_method_3_code
def yX0_gatherRound : MethodName := ⟨RX0, "gatherRound", "([LEffectMachine$Body;)Z"⟩
def RX1 : String := "EffectMachine$Expr"
def TX1 : u_T := fun k => match k with
  | 0 => ("EffectMachine$Expr", "sign", "I", true)
  | 1 => ("EffectMachine$Expr", "mark", "I", false)
  | 2 => ("EffectMachine$Expr", "first", "LEffectMachine$Expr;", false)
  | 3 => ("EffectMachine$Expr", "second", "LEffectMachine$Expr;", false)
  | 4 => ("EffectMachine$Expr", "third", "LEffectMachine$Expr;", false)
  | 5 => ("EffectMachine$Expr", "clauses", "[LEffectMachine$Expr;", false)
  | 6 => ("EffectMachine$Expr", "variables", "[I", false)
  | 7 => ("EffectMachine$Expr", "owner", "LEffectMachine$Expr;", false)
  | 8 => ("EffectMachine$Expr", "leaves", "I", false)
  | _ => ("EffectMachine$Expr", "late", "I", false)
def tyX1 : Nat → FieldType := fun k => match k with
  | 0 => .int
  | 1 => .int
  | 2 => .object "EffectMachine$Expr"
  | 3 => .object "EffectMachine$Expr"
  | 4 => .object "EffectMachine$Expr"
  | 5 => .array (.object "EffectMachine$Expr")
  | 6 => .array .int
  | 7 => .object "EffectMachine$Expr"
  | 8 => .int
  | _ => .int
theorem nmX1 : ∀ a, a < 10 → ∀ b, b < 10 → a ≠ b → (TX1 a).2.1 ≠ (TX1 b).2.1 := by decide +kernel
theorem tyX1_ok : ∀ k, k < 10 → parseFieldDescriptor (TX1 k).2.2.1 = some (tyX1 k) := by decide +kernel
abbrev cX1_init : ByteArray := prog_3_method_1_code
def yX1_init : MethodName := ⟨RX1, "<init>", "(I)V"⟩
abbrev cX1_parts : ByteArray := prog_3_method_2_code
def yX1_parts : MethodName := ⟨RX1, "parts", "()I"⟩
abbrev cX1_kindOfFrame : ByteArray := prog_3_method_3_code
def yX1_kindOfFrame : MethodName := ⟨RX1, "kindOfFrame", "()I"⟩
abbrev cX1_clause : ByteArray := prog_3_method_4_code
def yX1_clause : MethodName := ⟨RX1, "clause", "(I)LEffectMachine$Expr;"⟩
abbrev cX1_clauseVariable : ByteArray := prog_3_method_5_code
def yX1_clauseVariable : MethodName := ⟨RX1, "clauseVariable", "(I)I"⟩
abbrev cX1_countOperationClauses : ByteArray := prog_3_method_6_code
def yX1_countOperationClauses : MethodName := ⟨RX1, "countOperationClauses", "()I"⟩
abbrev cX1_pair : ByteArray := prog_3_method_7_code
def yX1_pair : MethodName := ⟨RX1, "pair", "(II)I"⟩
abbrev cX1_allLevels : ByteArray := prog_3_method_8_code
def yX1_allLevels : MethodName := ⟨RX1, "allLevels", "(I)I"⟩
abbrev cX1_leavesOf : ByteArray := prog_3_method_9_code
def yX1_leavesOf : MethodName := ⟨RX1, "leavesOf", "(LEffectMachine$Expr;)I"⟩
abbrev cX1_lateOf : ByteArray := prog_3_method_10_code
def yX1_lateOf : MethodName := ⟨RX1, "lateOf", "(LEffectMachine$Expr;)I"⟩
abbrev cX1_raised : ByteArray := prog_3_method_11_code
def yX1_raised : MethodName := ⟨RX1, "raised", "(II)I"⟩
abbrev cX1_lowered : ByteArray := prog_3_method_12_code
def yX1_lowered : MethodName := ⟨RX1, "lowered", "(II)I"⟩
abbrev cX1_gather : ByteArray := prog_3_method_13_code
def yX1_gather : MethodName := ⟨RX1, "gather", "([LEffectMachine$Body;)Z"⟩
abbrev cX1_leavesOfHandler : ByteArray := prog_3_method_14_code
def yX1_leavesOfHandler : MethodName := ⟨RX1, "leavesOfHandler", "()I"⟩
abbrev cX1_lateOfClauses : ByteArray := prog_3_method_15_code
def yX1_lateOfClauses : MethodName := ⟨RX1, "lateOfClauses", "()I"⟩
def RX2 : String := "EffectMachine$Frame"
def TX2 : u_T := fun k => match k with
  | 0 => ("EffectMachine$Frame", "kind", "I", true)
  | 1 => ("EffectMachine$Frame", "of", "LEffectMachine$Expr;", true)
  | 2 => ("EffectMachine$Frame", "scope", "LEffectMachine$Scope;", true)
  | 3 => ("EffectMachine$Frame", "value", "I", true)
  | _ => ("EffectMachine$Frame", "resumption", "LEffectMachine$Resumption;", true)
def tyX2 : Nat → FieldType := fun k => match k with
  | 0 => .int
  | 1 => .object "EffectMachine$Expr"
  | 2 => .object "EffectMachine$Scope"
  | 3 => .int
  | _ => .object "EffectMachine$Resumption"
theorem nmX2 : ∀ a, a < 5 → ∀ b, b < 5 → a ≠ b → (TX2 a).2.1 ≠ (TX2 b).2.1 := by decide +kernel
theorem tyX2_ok : ∀ k, k < 5 → parseFieldDescriptor (TX2 k).2.2.1 = some (tyX2 k) := by decide +kernel
abbrev cX2_init : ByteArray := prog_4_method_1_code
def yX2_init : MethodName := ⟨RX2, "<init>", "(ILEffectMachine$Expr;LEffectMachine$Scope;ILEffectMachine$Resumption;)V"⟩
def RX3 : String := "EffectMachine$Ledger"
def TX3 : u_T := fun k => match k with
  | 0 => ("EffectMachine$Ledger", "used", "[I", true)
  | 1 => ("EffectMachine$Ledger", "resumptions", "I", false)
  | 2 => ("EffectMachine$Ledger", "uses", "I", false)
  | 3 => ("EffectMachine$Ledger", "usedAgain", "I", false)
  | 4 => ("EffectMachine$Ledger", "executed", "[I", true)
  | 5 => ("EffectMachine$Ledger", "finalizers", "I", false)
  | _ => ("EffectMachine$Ledger", "executions", "I", false)
def tyX3 : Nat → FieldType := fun k => match k with
  | 0 => .array .int
  | 1 => .int
  | 2 => .int
  | 3 => .int
  | 4 => .array .int
  | 5 => .int
  | _ => .int
theorem nmX3 : ∀ a, a < 7 → ∀ b, b < 7 → a ≠ b → (TX3 a).2.1 ≠ (TX3 b).2.1 := by decide +kernel
theorem tyX3_ok : ∀ k, k < 7 → parseFieldDescriptor (TX3 k).2.2.1 = some (tyX3 k) := by decide +kernel
abbrev cX3_init : ByteArray := prog_5_method_1_code
def yX3_init : MethodName := ⟨RX3, "<init>", "()V"⟩
abbrev cX3_clear : ByteArray := prog_5_method_2_code
def yX3_clear : MethodName := ⟨RX3, "clear", "()V"⟩
abbrev cX3_copyFrom : ByteArray := prog_5_method_3_code
def yX3_copyFrom : MethodName := ⟨RX3, "copyFrom", "(LEffectMachine$Ledger;)V"⟩
abbrev cX3_isPlace : ByteArray := prog_5_method_4_code
def yX3_isPlace : MethodName := ⟨RX3, "isPlace", "(I)Z"⟩
abbrev cX3_newResumption : ByteArray := prog_5_method_5_code
def yX3_newResumption : MethodName := ⟨RX3, "newResumption", "([LEffectMachine$Frame;)LEffectMachine$Resumption;"⟩
abbrev cX3_use : ByteArray := prog_5_method_6_code
def yX3_use : MethodName := ⟨RX3, "use", "(LEffectMachine$Resumption;)V"⟩
abbrev cX3_usesOf : ByteArray := prog_5_method_7_code
def yX3_usesOf : MethodName := ⟨RX3, "usesOf", "(LEffectMachine$Resumption;)I"⟩
abbrev cX3_newFinalizer : ByteArray := prog_5_method_8_code
def yX3_newFinalizer : MethodName := ⟨RX3, "newFinalizer", "()I"⟩
abbrev cX3_execute : ByteArray := prog_5_method_9_code
def yX3_execute : MethodName := ⟨RX3, "execute", "(I)V"⟩
abbrev cX3_executed : ByteArray := prog_5_method_10_code
def yX3_executed : MethodName := ⟨RX3, "executed", "(I)I"⟩
def RX4 : String := "EffectMachine$Lister"
def TX4 : u_T := fun k => match k with
  | 0 => ("EffectMachine$Lister", "bytes", "[I", true)
  | 1 => ("EffectMachine$Lister", "length", "I", false)
  | 2 => ("EffectMachine$Lister", "afterNumber", "Z", false)
  | 3 => ("EffectMachine$Lister", "laterExprs", "[LEffectMachine$Expr;", true)
  | 4 => ("EffectMachine$Lister", "laterBytes", "[I", true)
  | _ => ("EffectMachine$Lister", "later", "I", false)
def tyX4 : Nat → FieldType := fun k => match k with
  | 0 => .array .int
  | 1 => .int
  | 2 => .boolean
  | 3 => .array (.object "EffectMachine$Expr")
  | 4 => .array .int
  | _ => .int
theorem nmX4 : ∀ a, a < 6 → ∀ b, b < 6 → a ≠ b → (TX4 a).2.1 ≠ (TX4 b).2.1 := by decide +kernel
theorem tyX4_ok : ∀ k, k < 6 → parseFieldDescriptor (TX4 k).2.2.1 = some (tyX4 k) := by decide +kernel
abbrev cX4_init : ByteArray := prog_6_method_1_code
def yX4_init : MethodName := ⟨RX4, "<init>", "()V"⟩
abbrev cX4_list : ByteArray := prog_6_method_2_code
def yX4_list : MethodName := ⟨RX4, "list", "(LEffectMachine$Expr;)[I"⟩
abbrev cX4_plan : ByteArray := prog_6_method_3_code
def yX4_plan : MethodName := ⟨RX4, "plan", "(LEffectMachine$Expr;I)V"⟩
abbrev cX4_planParts : ByteArray := prog_6_method_4_code
def yX4_planParts : MethodName := ⟨RX4, "planParts", "(LEffectMachine$Expr;)V"⟩
abbrev cX4_planClause : ByteArray := prog_6_method_5_code
def yX4_planClause : MethodName := ⟨RX4, "planClause", "(LEffectMachine$Expr;I)V"⟩
abbrev cX4_planPart : ByteArray := prog_6_method_6_code
def yX4_planPart : MethodName := ⟨RX4, "planPart", "(LEffectMachine$Expr;)V"⟩
abbrev cX4_putHead : ByteArray := prog_6_method_7_code
def yX4_putHead : MethodName := ⟨RX4, "putHead", "(LEffectMachine$Expr;)V"⟩
abbrev cX4_putNumber : ByteArray := prog_6_method_8_code
def yX4_putNumber : MethodName := ⟨RX4, "putNumber", "(I)V"⟩
abbrev cX4_put : ByteArray := prog_6_method_9_code
def yX4_put : MethodName := ⟨RX4, "put", "(I)V"⟩
def RX5 : String := "EffectMachine$PendingSearch"
def TX5 : u_T := fun k => match k with
  | 0 => ("EffectMachine$PendingSearch", "path", "[LEffectMachine$Resumption;", true)
  | 1 => ("EffectMachine$PendingSearch", "left", "[I", true)
  | 2 => ("EffectMachine$PendingSearch", "depth", "I", false)
  | 3 => ("EffectMachine$PendingSearch", "visited", "[I", true)
  | _ => ("EffectMachine$PendingSearch", "searches", "I", false)
def tyX5 : Nat → FieldType := fun k => match k with
  | 0 => .array (.object "EffectMachine$Resumption")
  | 1 => .array .int
  | 2 => .int
  | 3 => .array .int
  | _ => .int
theorem nmX5 : ∀ a, a < 5 → ∀ b, b < 5 → a ≠ b → (TX5 a).2.1 ≠ (TX5 b).2.1 := by decide +kernel
theorem tyX5_ok : ∀ k, k < 5 → parseFieldDescriptor (TX5 k).2.2.1 = some (tyX5 k) := by decide +kernel
abbrev cX5_init : ByteArray := prog_7_method_1_code
def yX5_init : MethodName := ⟨RX5, "<init>", "()V"⟩
abbrev cX5_first : ByteArray := prog_7_method_2_code
def yX5_first : MethodName := ⟨RX5, "first", "(LEffectMachine$Resumption;LEffectMachine$Ledger;)LEffectMachine$Frame;"⟩
abbrev cX5_visit : ByteArray := prog_7_method_3_code
def yX5_visit : MethodName := ⟨RX5, "visit", "(LEffectMachine$Resumption;LEffectMachine$Ledger;)V"⟩
def RX6 : String := "EffectMachine$Reader"
def TX6 : u_T := fun k => match k with
  | 0 => ("EffectMachine$Reader", "all", "[LEffectMachine$Expr;", true)
  | 1 => ("EffectMachine$Reader", "count", "I", false)
  | 2 => ("EffectMachine$Reader", "awaited", "I", false)
  | 3 => ("EffectMachine$Reader", "digits", "I", false)
  | 4 => ("EffectMachine$Reader", "open", "[LEffectMachine$Expr;", true)
  | 5 => ("EffectMachine$Reader", "partsRead", "[I", true)
  | 6 => ("EffectMachine$Reader", "clauseRead", "[I", true)
  | 7 => ("EffectMachine$Reader", "bound", "[I", true)
  | 8 => ("EffectMachine$Reader", "owners", "[LEffectMachine$Expr;", true)
  | _ => ("EffectMachine$Reader", "depth", "I", false)
def tyX6 : Nat → FieldType := fun k => match k with
  | 0 => .array (.object "EffectMachine$Expr")
  | 1 => .int
  | 2 => .int
  | 3 => .int
  | 4 => .array (.object "EffectMachine$Expr")
  | 5 => .array .int
  | 6 => .array .int
  | 7 => .array .int
  | 8 => .array (.object "EffectMachine$Expr")
  | _ => .int
theorem nmX6 : ∀ a, a < 10 → ∀ b, b < 10 → a ≠ b → (TX6 a).2.1 ≠ (TX6 b).2.1 := by decide +kernel
theorem tyX6_ok : ∀ k, k < 10 → parseFieldDescriptor (TX6 k).2.2.1 = some (tyX6 k) := by decide +kernel
abbrev cX6_init : ByteArray := prog_8_method_1_code
def yX6_init : MethodName := ⟨RX6, "<init>", "()V"⟩
abbrev cX6_read : ByteArray := prog_8_method_2_code
def yX6_read : MethodName := ⟨RX6, "read", "([IIZ)I"⟩
abbrev cX6_body : ByteArray := prog_8_method_3_code
def yX6_body : MethodName := ⟨RX6, "body", "()LEffectMachine$Body;"⟩
abbrev cX6_addDigit : ByteArray := prog_8_method_4_code
def yX6_addDigit : MethodName := ⟨RX6, "addDigit", "(I)V"⟩
abbrev cX6_accept : ByteArray := prog_8_method_5_code
def yX6_accept : MethodName := ⟨RX6, "accept", "(I)Z"⟩
abbrev cX6_acceptExpression : ByteArray := prog_8_method_6_code
def yX6_acceptExpression : MethodName := ⟨RX6, "acceptExpression", "(I)Z"⟩
abbrev cX6_addLeaf : ByteArray := prog_8_method_7_code
def yX6_addLeaf : MethodName := ⟨RX6, "addLeaf", "(II)Z"⟩
abbrev cX6_beginExpression : ByteArray := prog_8_method_8_code
def yX6_beginExpression : MethodName := ⟨RX6, "beginExpression", "(II)Z"⟩
abbrev cX6_addExpression : ByteArray := prog_8_method_9_code
def yX6_addExpression : MethodName := ⟨RX6, "addExpression", "(I)LEffectMachine$Expr;"⟩
abbrev cX6_attach : ByteArray := prog_8_method_10_code
def yX6_attach : MethodName := ⟨RX6, "attach", "(LEffectMachine$Expr;LEffectMachine$Expr;)V"⟩
abbrev cX6_endPart : ByteArray := prog_8_method_11_code
def yX6_endPart : MethodName := ⟨RX6, "endPart", "()V"⟩
abbrev cX6_acceptVariable : ByteArray := prog_8_method_12_code
def yX6_acceptVariable : MethodName := ⟨RX6, "acceptVariable", "(I)Z"⟩
abbrev cX6_acceptMark : ByteArray := prog_8_method_13_code
def yX6_acceptMark : MethodName := ⟨RX6, "acceptMark", "(III)Z"⟩
abbrev cX6_acceptClause : ByteArray := prog_8_method_14_code
def yX6_acceptClause : MethodName := ⟨RX6, "acceptClause", "(I)Z"⟩
def RX7 : String := "EffectMachine$Resumption"
def TX7 : u_T := fun k => match k with
  | 0 => ("EffectMachine$Resumption", "number", "I", true)
  | _ => ("EffectMachine$Resumption", "captured", "[LEffectMachine$Frame;", true)
def tyX7 : Nat → FieldType := fun k => match k with
  | 0 => .int
  | _ => .array (.object "EffectMachine$Frame")
theorem nmX7 : ∀ a, a < 2 → ∀ b, b < 2 → a ≠ b → (TX7 a).2.1 ≠ (TX7 b).2.1 := by decide +kernel
theorem tyX7_ok : ∀ k, k < 2 → parseFieldDescriptor (TX7 k).2.2.1 = some (tyX7 k) := by decide +kernel
abbrev cX7_init : ByteArray := prog_9_method_1_code
def yX7_init : MethodName := ⟨RX7, "<init>", "(I[LEffectMachine$Frame;)V"⟩
def RX8 : String := "EffectMachine$Run"
def TX8 : u_T := fun k => match k with
  | 0 => ("EffectMachine$Run", "main", "LEffectMachine$Body;", false)
  | 1 => ("EffectMachine$Run", "bodies", "[LEffectMachine$Body;", true)
  | 2 => ("EffectMachine$Run", "state", "I", false)
  | 3 => ("EffectMachine$Run", "steps", "I", false)
  | 4 => ("EffectMachine$Run", "focused", "LEffectMachine$Expr;", false)
  | 5 => ("EffectMachine$Run", "scope", "LEffectMachine$Scope;", false)
  | 6 => ("EffectMachine$Run", "held", "I", false)
  | 7 => ("EffectMachine$Run", "operation", "I", false)
  | 8 => ("EffectMachine$Run", "stack", "LEffectMachine$Stack;", true)
  | 9 => ("EffectMachine$Run", "ledger", "LEffectMachine$Ledger;", true)
  | 10 => ("EffectMachine$Run", "values", "[I", true)
  | 11 => ("EffectMachine$Run", "traced", "I", false)
  | 12 => ("EffectMachine$Run", "performs", "[I", true)
  | _ => ("EffectMachine$Run", "search", "LEffectMachine$PendingSearch;", true)
def tyX8 : Nat → FieldType := fun k => match k with
  | 0 => .object "EffectMachine$Body"
  | 1 => .array (.object "EffectMachine$Body")
  | 2 => .int
  | 3 => .int
  | 4 => .object "EffectMachine$Expr"
  | 5 => .object "EffectMachine$Scope"
  | 6 => .int
  | 7 => .int
  | 8 => .object "EffectMachine$Stack"
  | 9 => .object "EffectMachine$Ledger"
  | 10 => .array .int
  | 11 => .int
  | 12 => .array .int
  | _ => .object "EffectMachine$PendingSearch"
theorem nmX8 : ∀ a, a < 14 → ∀ b, b < 14 → a ≠ b → (TX8 a).2.1 ≠ (TX8 b).2.1 := by decide +kernel
theorem tyX8_ok : ∀ k, k < 14 → parseFieldDescriptor (TX8 k).2.2.1 = some (tyX8 k) := by decide +kernel
abbrev cX8_init : ByteArray := prog_10_method_1_code
def yX8_init : MethodName := ⟨RX8, "<init>", "(LEffectMachine$PendingSearch;)V"⟩
abbrev cX8_copyFrom : ByteArray := prog_10_method_2_code
def yX8_copyFrom : MethodName := ⟨RX8, "copyFrom", "(LEffectMachine$Run;)V"⟩
abbrev cX8_begin : ByteArray := prog_10_method_3_code
def yX8_begin : MethodName := ⟨RX8, "begin", "()V"⟩
abbrev cX8_countPerformed : ByteArray := prog_10_method_4_code
def yX8_countPerformed : MethodName := ⟨RX8, "countPerformed", "()I"⟩
abbrev cX8_countDefined : ByteArray := prog_10_method_5_code
def yX8_countDefined : MethodName := ⟨RX8, "countDefined", "()I"⟩
abbrev cX8_propertyOf : ByteArray := prog_10_method_6_code
def yX8_propertyOf : MethodName := ⟨RX8, "propertyOf", "(LEffectMachine$Frame;)I"⟩
abbrev cX8_gatherLeaves : ByteArray := prog_10_method_7_code
def yX8_gatherLeaves : MethodName := ⟨RX8, "gatherLeaves", "()V"⟩
abbrev cX8_step : ByteArray := prog_10_method_8_code
def yX8_step : MethodName := ⟨RX8, "step", "()V"⟩
abbrev cX8_endIfDue : ByteArray := prog_10_method_9_code
def yX8_endIfDue : MethodName := ⟨RX8, "endIfDue", "()V"⟩
abbrev cX8_goOnWith : ByteArray := prog_10_method_10_code
def yX8_goOnWith : MethodName := ⟨RX8, "goOnWith", "(I)V"⟩
abbrev cX8_captureDownTo : ByteArray := prog_10_method_11_code
def yX8_captureDownTo : MethodName := ⟨RX8, "captureDownTo", "(I)LEffectMachine$Resumption;"⟩
abbrev cX8_goTo : ByteArray := prog_10_method_12_code
def yX8_goTo : MethodName := ⟨RX8, "goTo", "(LEffectMachine$Expr;LEffectMachine$Scope;)V"⟩
abbrev cX8_stepInto : ByteArray := prog_10_method_13_code
def yX8_stepInto : MethodName := ⟨RX8, "stepInto", "(LEffectMachine$Expr;)Z"⟩
abbrev cX8_stepOut : ByteArray := prog_10_method_14_code
def yX8_stepOut : MethodName := ⟨RX8, "stepOut", "(LEffectMachine$Frame;)Z"⟩
abbrev cX8_goOnAt : ByteArray := prog_10_method_15_code
def yX8_goOnAt : MethodName := ⟨RX8, "goOnAt", "(LEffectMachine$Frame;LEffectMachine$Expr;)V"⟩
abbrev cX8_resultOf : ByteArray := prog_10_method_16_code
def yX8_resultOf : MethodName := ⟨RX8, "resultOf", "(III)I"⟩
abbrev cX8_emit : ByteArray := prog_10_method_17_code
def yX8_emit : MethodName := ⟨RX8, "emit", "()V"⟩
abbrev cX8_perform : ByteArray := prog_10_method_18_code
def yX8_perform : MethodName := ⟨RX8, "perform", "(I)V"⟩
abbrev cX8_call : ByteArray := prog_10_method_19_code
def yX8_call : MethodName := ⟨RX8, "call", "(I)V"⟩
abbrev cX8_leaveHandler : ByteArray := prog_10_method_20_code
def yX8_leaveHandler : MethodName := ⟨RX8, "leaveHandler", "(LEffectMachine$Expr;LEffectMachine$Scope;)V"⟩
abbrev cX8_resume : ByteArray := prog_10_method_21_code
def yX8_resume : MethodName := ⟨RX8, "resume", "(LEffectMachine$Resumption;)Z"⟩
abbrev cX8_leaveClause : ByteArray := prog_10_method_22_code
def yX8_leaveClause : MethodName := ⟨RX8, "leaveClause", "(LEffectMachine$Frame;)Z"⟩
abbrev cX8_execute : ByteArray := prog_10_method_23_code
def yX8_execute : MethodName := ⟨RX8, "execute", "(LEffectMachine$Frame;)V"⟩
def RX9 : String := "EffectMachine$Scope"
def TX9 : u_T := fun k => match k with
  | 0 => ("EffectMachine$Scope", "variable", "I", true)
  | 1 => ("EffectMachine$Scope", "value", "I", true)
  | 2 => ("EffectMachine$Scope", "resumption", "LEffectMachine$Resumption;", true)
  | _ => ("EffectMachine$Scope", "around", "LEffectMachine$Scope;", true)
def tyX9 : Nat → FieldType := fun k => match k with
  | 0 => .int
  | 1 => .int
  | 2 => .object "EffectMachine$Resumption"
  | _ => .object "EffectMachine$Scope"
theorem nmX9 : ∀ a, a < 4 → ∀ b, b < 4 → a ≠ b → (TX9 a).2.1 ≠ (TX9 b).2.1 := by decide +kernel
theorem tyX9_ok : ∀ k, k < 4 → parseFieldDescriptor (TX9 k).2.2.1 = some (tyX9 k) := by decide +kernel
abbrev cX9_init : ByteArray := prog_11_method_1_code
def yX9_init : MethodName := ⟨RX9, "<init>", "(IILEffectMachine$Resumption;LEffectMachine$Scope;)V"⟩
abbrev cX9_lookUp : ByteArray := prog_11_method_2_code
def yX9_lookUp : MethodName := ⟨RX9, "lookUp", "(LEffectMachine$Scope;I)I"⟩
abbrev cX9_resumptionIn : ByteArray := prog_11_method_3_code
def yX9_resumptionIn : MethodName := ⟨RX9, "resumptionIn", "(LEffectMachine$Scope;)LEffectMachine$Resumption;"⟩
def RX10 : String := "EffectMachine$Stack"
def TX10 : u_T := fun k => match k with
  | 0 => ("EffectMachine$Stack", "frames", "[LEffectMachine$Frame;", true)
  | 1 => ("EffectMachine$Stack", "depth", "I", false)
  | _ => ("EffectMachine$Stack", "deepest", "I", false)
def tyX10 : Nat → FieldType := fun k => match k with
  | 0 => .array (.object "EffectMachine$Frame")
  | 1 => .int
  | _ => .int
theorem nmX10 : ∀ a, a < 3 → ∀ b, b < 3 → a ≠ b → (TX10 a).2.1 ≠ (TX10 b).2.1 := by decide +kernel
theorem tyX10_ok : ∀ k, k < 3 → parseFieldDescriptor (TX10 k).2.2.1 = some (tyX10 k) := by decide +kernel
abbrev cX10_init : ByteArray := prog_12_method_1_code
def yX10_init : MethodName := ⟨RX10, "<init>", "()V"⟩
abbrev cX10_clear : ByteArray := prog_12_method_2_code
def yX10_clear : MethodName := ⟨RX10, "clear", "()V"⟩
abbrev cX10_copyFrom : ByteArray := prog_12_method_3_code
def yX10_copyFrom : MethodName := ⟨RX10, "copyFrom", "(LEffectMachine$Stack;)V"⟩
abbrev cX10_hasRoomFor : ByteArray := prog_12_method_4_code
def yX10_hasRoomFor : MethodName := ⟨RX10, "hasRoomFor", "(I)Z"⟩
abbrev cX10_push : ByteArray := prog_12_method_5_code
def yX10_push : MethodName := ⟨RX10, "push", "(LEffectMachine$Frame;)V"⟩
abbrev cX10_pop : ByteArray := prog_12_method_6_code
def yX10_pop : MethodName := ⟨RX10, "pop", "()V"⟩
abbrev cX10_below : ByteArray := prog_12_method_7_code
def yX10_below : MethodName := ⟨RX10, "below", "(I)LEffectMachine$Frame;"⟩
abbrev cX10_popDownTo : ByteArray := prog_12_method_8_code
def yX10_popDownTo : MethodName := ⟨RX10, "popDownTo", "(I)[LEffectMachine$Frame;"⟩
abbrev cX10_placeOfHandler : ByteArray := prog_12_method_9_code
def yX10_placeOfHandler : MethodName := ⟨RX10, "placeOfHandler", "(I)I"⟩
def RX11 : String := "EffectMachine"
def TX11 : u_T := fun k => match k with
  | 0 => ("EffectMachine", "text", "[I", true)
  | 1 => ("EffectMachine", "length", "I", false)
  | 2 => ("EffectMachine", "reader", "LEffectMachine$Reader;", true)
  | 3 => ("EffectMachine", "lister", "LEffectMachine$Lister;", true)
  | 4 => ("EffectMachine", "search", "LEffectMachine$PendingSearch;", true)
  | 5 => ("EffectMachine", "now", "LEffectMachine$Run;", true)
  | _ => ("EffectMachine", "images", "[LEffectMachine$Run;", true)
def tyX11 : Nat → FieldType := fun k => match k with
  | 0 => .array .int
  | 1 => .int
  | 2 => .object "EffectMachine$Reader"
  | 3 => .object "EffectMachine$Lister"
  | 4 => .object "EffectMachine$PendingSearch"
  | 5 => .object "EffectMachine$Run"
  | _ => .array (.object "EffectMachine$Run")
theorem nmX11 : ∀ a, a < 7 → ∀ b, b < 7 → a ≠ b → (TX11 a).2.1 ≠ (TX11 b).2.1 := by decide +kernel
theorem tyX11_ok : ∀ k, k < 7 → parseFieldDescriptor (TX11 k).2.2.1 = some (tyX11 k) := by decide +kernel
abbrev cX11_init : ByteArray := prog_1_method_1_code
def yX11_init : MethodName := ⟨RX11, "<init>", "()V"⟩
abbrev cX11_write : ByteArray := prog_1_method_2_code
def yX11_write : MethodName := ⟨RX11, "write", "(I)I"⟩
abbrev cX11_wipe : ByteArray := prog_1_method_3_code
def yX11_wipe : MethodName := ⟨RX11, "wipe", "()I"⟩
abbrev cX11_fault : ByteArray := prog_1_method_4_code
def yX11_fault : MethodName := ⟨RX11, "fault", "(I)I"⟩
abbrev cX11_load : ByteArray := prog_1_method_5_code
def yX11_load : MethodName := ⟨RX11, "load", "()I"⟩
abbrev cX11_define : ByteArray := prog_1_method_6_code
def yX11_define : MethodName := ⟨RX11, "define", "(I)I"⟩
abbrev cX11_undefine : ByteArray := prog_1_method_7_code
def yX11_undefine : MethodName := ⟨RX11, "undefine", "(I)I"⟩
abbrev cX11_restart : ByteArray := prog_1_method_8_code
def yX11_restart : MethodName := ⟨RX11, "restart", "()I"⟩
abbrev cX11_listing : ByteArray := prog_1_method_9_code
def yX11_listing : MethodName := ⟨RX11, "listing", "(I)I"⟩
abbrev cX11_may : ByteArray := prog_1_method_10_code
def yX11_may : MethodName := ⟨RX11, "may", "(III)I"⟩
abbrev cX11_run : ByteArray := prog_1_method_11_code
def yX11_run : MethodName := ⟨RX11, "run", "(I)I"⟩
abbrev cX11_answer : ByteArray := prog_1_method_12_code
def yX11_answer : MethodName := ⟨RX11, "answer", "(I)I"⟩
abbrev cX11_drop : ByteArray := prog_1_method_13_code
def yX11_drop : MethodName := ⟨RX11, "drop", "(I)I"⟩
abbrev cX11_told : ByteArray := prog_1_method_14_code
def yX11_told : MethodName := ⟨RX11, "told", "(I)I"⟩
abbrev cX11_value : ByteArray := prog_1_method_15_code
def yX11_value : MethodName := ⟨RX11, "value", "()I"⟩
abbrev cX11_focus : ByteArray := prog_1_method_16_code
def yX11_focus : MethodName := ⟨RX11, "focus", "()I"⟩
abbrev cX11_trace : ByteArray := prog_1_method_17_code
def yX11_trace : MethodName := ⟨RX11, "trace", "(I)I"⟩
abbrev cX11_performed : ByteArray := prog_1_method_18_code
def yX11_performed : MethodName := ⟨RX11, "performed", "(I)I"⟩
abbrev cX11_frame : ByteArray := prog_1_method_19_code
def yX11_frame : MethodName := ⟨RX11, "frame", "(II)I"⟩
abbrev cX11_handler : ByteArray := prog_1_method_20_code
def yX11_handler : MethodName := ⟨RX11, "handler", "(I)I"⟩
abbrev cX11_keep : ByteArray := prog_1_method_21_code
def yX11_keep : MethodName := ⟨RX11, "keep", "(I)I"⟩
abbrev cX11_back : ByteArray := prog_1_method_22_code
def yX11_back : MethodName := ⟨RX11, "back", "(I)I"⟩
abbrev cX11_isOperation : ByteArray := prog_1_method_23_code
def yX11_isOperation : MethodName := ⟨RX11, "isOperation", "(I)Z"⟩
abbrev cX11_isProcedure : ByteArray := prog_1_method_24_code
def yX11_isProcedure : MethodName := ⟨RX11, "isProcedure", "(I)Z"⟩
abbrev cX11_isImage : ByteArray := prog_1_method_25_code
def yX11_isImage : MethodName := ⟨RX11, "isImage", "(I)Z"⟩
abbrev cX11_isDigit : ByteArray := prog_1_method_26_code
def yX11_isDigit : MethodName := ⟨RX11, "isDigit", "(I)Z"⟩
abbrev cX11_isLetter : ByteArray := prog_1_method_27_code
def yX11_isLetter : MethodName := ⟨RX11, "isLetter", "(I)Z"⟩
def RX12 : String := "EffectMachineModel"
def TX12 : u_T := fun k => match k with
  | 0 => ("EffectMachineModel", "tree", "[I", true)
  | 1 => ("EffectMachineModel", "nodes", "I", false)
  | 2 => ("EffectMachineModel", "w", "[I", true)
  | 3 => ("EffectMachineModel", "images", "[I", true)
  | 4 => ("EffectMachineModel", "filled", "I", false)
  | 5 => ("EffectMachineModel", "frames", "[I", true)
  | 6 => ("EffectMachineModel", "keptFrames", "[I", true)
  | 7 => ("EffectMachineModel", "text", "[I", true)
  | 8 => ("EffectMachineModel", "length", "I", false)
  | 9 => ("EffectMachineModel", "open", "[I", true)
  | 10 => ("EffectMachineModel", "stage", "[I", true)
  | 11 => ("EffectMachineModel", "bound", "[I", true)
  | 12 => ("EffectMachineModel", "mayResume", "[I", true)
  | 13 => ("EffectMachineModel", "opened", "I", false)
  | 14 => ("EffectMachineModel", "at", "I", false)
  | 15 => ("EffectMachineModel", "wrong", "I", false)
  | 16 => ("EffectMachineModel", "expressions", "I", false)
  | 17 => ("EffectMachineModel", "found", "I", false)
  | 18 => ("EffectMachineModel", "ends", "[I", true)
  | 19 => ("EffectMachineModel", "toWrite", "[I", true)
  | 20 => ("EffectMachineModel", "written", "[I", true)
  | 21 => ("EffectMachineModel", "leaves", "[I", true)
  | 22 => ("EffectMachineModel", "late", "[I", true)
  | 23 => ("EffectMachineModel", "again", "[I", true)
  | 24 => ("EffectMachineModel", "nextFrame", "[I", true)
  | 25 => ("EffectMachineModel", "left", "[I", true)
  | 26 => ("EffectMachineModel", "goneThrough", "[I", true)
  | 27 => ("EffectMachineModel", "searches", "I", false)
  | _ => ("EffectMachineModel", "skipped", "I", false)
def tyX12 : Nat → FieldType := fun k => match k with
  | 0 => .array .int
  | 1 => .int
  | 2 => .array .int
  | 3 => .array .int
  | 4 => .int
  | 5 => .array .int
  | 6 => .array .int
  | 7 => .array .int
  | 8 => .int
  | 9 => .array .int
  | 10 => .array .int
  | 11 => .array .int
  | 12 => .array .int
  | 13 => .int
  | 14 => .int
  | 15 => .int
  | 16 => .int
  | 17 => .int
  | 18 => .array .int
  | 19 => .array .int
  | 20 => .array .int
  | 21 => .array .int
  | 22 => .array .int
  | 23 => .array .int
  | 24 => .array .int
  | 25 => .array .int
  | 26 => .array .int
  | 27 => .int
  | _ => .int
theorem nmX12 : ∀ a, a < 29 → ∀ b, b < 29 → a ≠ b → (TX12 a).2.1 ≠ (TX12 b).2.1 := by decide +kernel
theorem tyX12_ok : ∀ k, k < 29 → parseFieldDescriptor (TX12 k).2.2.1 = some (tyX12 k) := by decide +kernel
abbrev cX12_init : ByteArray := prog_14_method_1_code
def yX12_init : MethodName := ⟨RX12, "<init>", "()V"⟩
abbrev cX12_isIn : ByteArray := prog_14_method_3_code
def yX12_isIn : MethodName := ⟨RX12, "isIn", "(III)Z"⟩
abbrev cX12_kind : ByteArray := prog_14_method_4_code
def yX12_kind : MethodName := ⟨RX12, "kind", "(I)I"⟩
abbrev cX12_argument : ByteArray := prog_14_method_5_code
def yX12_argument : MethodName := ⟨RX12, "argument", "(I)I"⟩
abbrev cX12_part : ByteArray := prog_14_method_6_code
def yX12_part : MethodName := ⟨RX12, "part", "(II)I"⟩
abbrev cX12_write : ByteArray := prog_14_method_7_code
def yX12_write : MethodName := ⟨RX12, "write", "(I)I"⟩
abbrev cX12_wipe : ByteArray := prog_14_method_8_code
def yX12_wipe : MethodName := ⟨RX12, "wipe", "()I"⟩
abbrev cX12_skip : ByteArray := prog_14_method_9_code
def yX12_skip : MethodName := ⟨RX12, "skip", "()V"⟩
abbrev cX12_here : ByteArray := prog_14_method_10_code
def yX12_here : MethodName := ⟨RX12, "here", "()I"⟩
abbrev cX12_fails : ByteArray := prog_14_method_11_code
def yX12_fails : MethodName := ⟨RX12, "fails", "()V"⟩
abbrev cX12_make : ByteArray := prog_14_method_12_code
def yX12_make : MethodName := ⟨RX12, "make", "(II)I"⟩
abbrev cX12_take : ByteArray := prog_14_method_13_code
def yX12_take : MethodName := ⟨RX12, "take", "(II)I"⟩
abbrev cX12_readNumber : ByteArray := prog_14_method_14_code
def yX12_readNumber : MethodName := ⟨RX12, "readNumber", "()I"⟩
abbrev cX12_kindOf : ByteArray := prog_14_method_15_code
def yX12_kindOf : MethodName := ⟨RX12, "kindOf", "(I)I"⟩
abbrev cX12_readArgument : ByteArray := prog_14_method_16_code
def yX12_readArgument : MethodName := ⟨RX12, "readArgument", "(I)I"⟩
abbrev cX12_enter : ByteArray := prog_14_method_17_code
def yX12_enter : MethodName := ⟨RX12, "enter", "(III)V"⟩
abbrev cX12_beginsWhole : ByteArray := prog_14_method_18_code
def yX12_beginsWhole : MethodName := ⟨RX12, "beginsWhole", "(II)Z"⟩
abbrev cX12_parts : ByteArray := prog_14_method_19_code
def yX12_parts : MethodName := ⟨RX12, "parts", "(I)I"⟩
abbrev cX12_clause : ByteArray := prog_14_method_20_code
def yX12_clause : MethodName := ⟨RX12, "clause", "(II)I"⟩
abbrev cX12_beginClause : ByteArray := prog_14_method_21_code
def yX12_beginClause : MethodName := ⟨RX12, "beginClause", "(I)V"⟩
abbrev cX12_boundNext : ByteArray := prog_14_method_22_code
def yX12_boundNext : MethodName := ⟨RX12, "boundNext", "()I"⟩
abbrev cX12_attach : ByteArray := prog_14_method_23_code
def yX12_attach : MethodName := ⟨RX12, "attach", "(I)V"⟩
abbrev cX12_goesOn : ByteArray := prog_14_method_24_code
def yX12_goesOn : MethodName := ⟨RX12, "goesOn", "()Z"⟩
abbrev cX12_parse : ByteArray := prog_14_method_25_code
def yX12_parse : MethodName := ⟨RX12, "parse", "(I)I"⟩
abbrev cX12_fault : ByteArray := prog_14_method_26_code
def yX12_fault : MethodName := ⟨RX12, "fault", "(I)I"⟩
abbrev cX12_load : ByteArray := prog_14_method_27_code
def yX12_load : MethodName := ⟨RX12, "load", "()I"⟩
abbrev cX12_define : ByteArray := prog_14_method_28_code
def yX12_define : MethodName := ⟨RX12, "define", "(I)I"⟩
abbrev cX12_undefine : ByteArray := prog_14_method_29_code
def yX12_undefine : MethodName := ⟨RX12, "undefine", "(I)I"⟩
abbrev cX12_begin : ByteArray := prog_14_method_30_code
def yX12_begin : MethodName := ⟨RX12, "begin", "()V"⟩
abbrev cX12_restart : ByteArray := prog_14_method_31_code
def yX12_restart : MethodName := ⟨RX12, "restart", "()I"⟩
abbrev cX12_signOf : ByteArray := prog_14_method_32_code
def yX12_signOf : MethodName := ⟨RX12, "signOf", "(I)I"⟩
abbrev cX12_layNumber : ByteArray := prog_14_method_33_code
def yX12_layNumber : MethodName := ⟨RX12, "layNumber", "(IIZ)I"⟩
abbrev cX12_namedBy : ByteArray := prog_14_method_34_code
def yX12_namedBy : MethodName := ⟨RX12, "namedBy", "(I)I"⟩
abbrev cX12_layParts : ByteArray := prog_14_method_35_code
def yX12_layParts : MethodName := ⟨RX12, "layParts", "(II)I"⟩
abbrev cX12_layListing : ByteArray := prog_14_method_36_code
def yX12_layListing : MethodName := ⟨RX12, "layListing", "()I"⟩
abbrev cX12_listing : ByteArray := prog_14_method_37_code
def yX12_listing : MethodName := ⟨RX12, "listing", "(I)I"⟩
abbrev cX12_levelsOf : ByteArray := prog_14_method_38_code
def yX12_levelsOf : MethodName := ⟨RX12, "levelsOf", "(II)I"⟩
abbrev cX12_withLevels : ByteArray := prog_14_method_39_code
def yX12_withLevels : MethodName := ⟨RX12, "withLevels", "(III)I"⟩
abbrev cX12_masked : ByteArray := prog_14_method_40_code
def yX12_masked : MethodName := ⟨RX12, "masked", "(II)I"⟩
abbrev cX12_handled : ByteArray := prog_14_method_41_code
def yX12_handled : MethodName := ⟨RX12, "handled", "(II)I"⟩
abbrev cX12_ofHandled : ByteArray := prog_14_method_42_code
def yX12_ofHandled : MethodName := ⟨RX12, "ofHandled", "(I)I"⟩
abbrev cX12_leavesBy : ByteArray := prog_14_method_43_code
def yX12_leavesBy : MethodName := ⟨RX12, "leavesBy", "(I)I"⟩
abbrev cX12_lateBy : ByteArray := prog_14_method_44_code
def yX12_lateBy : MethodName := ⟨RX12, "lateBy", "(I)I"⟩
abbrev cX12_growsIn : ByteArray := prog_14_method_45_code
def yX12_growsIn : MethodName := ⟨RX12, "growsIn", "(I)Z"⟩
abbrev cX12_clearIn : ByteArray := prog_14_method_46_code
def yX12_clearIn : MethodName := ⟨RX12, "clearIn", "(I)V"⟩
abbrev cX12_may : ByteArray := prog_14_method_47_code
def yX12_may : MethodName := ⟨RX12, "may", "(III)I"⟩
abbrev cX12_of : ByteArray := prog_14_method_48_code
def yX12_of : MethodName := ⟨RX12, "of", "(II)I"⟩
abbrev cX12_depth : ByteArray := prog_14_method_49_code
def yX12_depth : MethodName := ⟨RX12, "depth", "()I"⟩
abbrev cX12_push : ByteArray := prog_14_method_50_code
def yX12_push : MethodName := ⟨RX12, "push", "(IIIII)V"⟩
abbrev cX12_focusOn : ByteArray := prog_14_method_51_code
def yX12_focusOn : MethodName := ⟨RX12, "focusOn", "(III)V"⟩
abbrev cX12_become : ByteArray := prog_14_method_52_code
def yX12_become : MethodName := ⟨RX12, "become", "(I)V"⟩
abbrev cX12_bindTo : ByteArray := prog_14_method_53_code
def yX12_bindTo : MethodName := ⟨RX12, "bindTo", "(III)I"⟩
abbrev cX12_valueOf : ByteArray := prog_14_method_54_code
def yX12_valueOf : MethodName := ⟨RX12, "valueOf", "(I)I"⟩
abbrev cX12_frameOf : ByteArray := prog_14_method_55_code
def yX12_frameOf : MethodName := ⟨RX12, "frameOf", "(I)I"⟩
abbrev cX12_opens : ByteArray := prog_14_method_56_code
def yX12_opens : MethodName := ⟨RX12, "opens", "()Z"⟩
abbrev cX12_result : ByteArray := prog_14_method_57_code
def yX12_result : MethodName := ⟨RX12, "result", "(III)I"⟩
abbrev cX12_trace0 : ByteArray := prog_14_method_58_code
def yX12_trace0 : MethodName := ⟨RX12, "trace0", "(I)V"⟩
abbrev cX12_makeResumption : ByteArray := prog_14_method_59_code
def yX12_makeResumption : MethodName := ⟨RX12, "makeResumption", "(II)I"⟩
abbrev cX12_uses : ByteArray := prog_14_method_60_code
def yX12_uses : MethodName := ⟨RX12, "uses", "(I)I"⟩
abbrev cX12_resumes : ByteArray := prog_14_method_61_code
def yX12_resumes : MethodName := ⟨RX12, "resumes", "(II)Z"⟩
abbrev cX12_pending : ByteArray := prog_14_method_62_code
def yX12_pending : MethodName := ⟨RX12, "pending", "(I)I"⟩
abbrev cX12_executeFinalizer : ByteArray := prog_14_method_63_code
def yX12_executeFinalizer : MethodName := ⟨RX12, "executeFinalizer", "(II)V"⟩
abbrev cX12_closesClause : ByteArray := prog_14_method_64_code
def yX12_closesClause : MethodName := ⟨RX12, "closesClause", "(II)Z"⟩
abbrev cX12_handlerOf : ByteArray := prog_14_method_65_code
def yX12_handlerOf : MethodName := ⟨RX12, "handlerOf", "(I)I"⟩
abbrev cX12_perform : ByteArray := prog_14_method_66_code
def yX12_perform : MethodName := ⟨RX12, "perform", "(II)V"⟩
abbrev cX12_leaveHandler : ByteArray := prog_14_method_67_code
def yX12_leaveHandler : MethodName := ⟨RX12, "leaveHandler", "(II)V"⟩
abbrev cX12_call : ByteArray := prog_14_method_68_code
def yX12_call : MethodName := ⟨RX12, "call", "(II)V"⟩
abbrev cX12_comesTo : ByteArray := prog_14_method_69_code
def yX12_comesTo : MethodName := ⟨RX12, "comesTo", "(II)Z"⟩
abbrev cX12_closes : ByteArray := prog_14_method_70_code
def yX12_closes : MethodName := ⟨RX12, "closes", "()Z"⟩
abbrev cX12_step : ByteArray := prog_14_method_71_code
def yX12_step : MethodName := ⟨RX12, "step", "()V"⟩
abbrev cX12_checkSteps : ByteArray := prog_14_method_72_code
def yX12_checkSteps : MethodName := ⟨RX12, "checkSteps", "()V"⟩
abbrev cX12_run : ByteArray := prog_14_method_73_code
def yX12_run : MethodName := ⟨RX12, "run", "(I)I"⟩
abbrev cX12_answer : ByteArray := prog_14_method_74_code
def yX12_answer : MethodName := ⟨RX12, "answer", "(I)I"⟩
abbrev cX12_drop : ByteArray := prog_14_method_75_code
def yX12_drop : MethodName := ⟨RX12, "drop", "(I)I"⟩
abbrev cX12_defined : ByteArray := prog_14_method_76_code
def yX12_defined : MethodName := ⟨RX12, "defined", "()I"⟩
abbrev cX12_told : ByteArray := prog_14_method_77_code
def yX12_told : MethodName := ⟨RX12, "told", "(I)I"⟩
abbrev cX12_value : ByteArray := prog_14_method_78_code
def yX12_value : MethodName := ⟨RX12, "value", "()I"⟩
abbrev cX12_focus : ByteArray := prog_14_method_79_code
def yX12_focus : MethodName := ⟨RX12, "focus", "()I"⟩
abbrev cX12_trace : ByteArray := prog_14_method_80_code
def yX12_trace : MethodName := ⟨RX12, "trace", "(I)I"⟩
abbrev cX12_performed : ByteArray := prog_14_method_81_code
def yX12_performed : MethodName := ⟨RX12, "performed", "(I)I"⟩
abbrev cX12_clauses : ByteArray := prog_14_method_82_code
def yX12_clauses : MethodName := ⟨RX12, "clauses", "(I)I"⟩
abbrev cX12_property : ByteArray := prog_14_method_83_code
def yX12_property : MethodName := ⟨RX12, "property", "(I)I"⟩
abbrev cX12_frame : ByteArray := prog_14_method_84_code
def yX12_frame : MethodName := ⟨RX12, "frame", "(II)I"⟩
abbrev cX12_handler : ByteArray := prog_14_method_85_code
def yX12_handler : MethodName := ⟨RX12, "handler", "(I)I"⟩
abbrev cX12_keep : ByteArray := prog_14_method_86_code
def yX12_keep : MethodName := ⟨RX12, "keep", "(I)I"⟩
abbrev cX12_back : ByteArray := prog_14_method_87_code
def yX12_back : MethodName := ⟨RX12, "back", "(I)I"⟩
def RJx8e188 : String := "java/lang/Cloneable"
def RJ9 : String := "java/lang/Math"
abbrev cJ9_max_7cf53 : ByteArray := prog_16_method_65_code
def yJ9_max_7cf53 : MethodName := ⟨RJ9, "max", "(II)I"⟩
abbrev cJ9_min_7cf53 : ByteArray := prog_16_method_69_code
def yJ9_min_7cf53 : MethodName := ⟨RJ9, "min", "(II)I"⟩
def RJ10 : String := "java/lang/System"
def RJ7 : String := "java/util/Arrays"
abbrev cJ7_fill_53178 : ByteArray := prog_18_method_103_code
def yJ7_fill_53178 : MethodName := ⟨RJ7, "fill", "([II)V"⟩
abbrev cJ7_copyOf_59c91 : ByteArray := prog_18_method_123_code
def yJ7_copyOf_59c91 : MethodName := ⟨RJ7, "copyOf", "([II)[I"⟩
def RL : String := "EffectMachineLaw"
abbrev cL_law : ByteArray := code
def yL_law : MethodName := ⟨RL, "law", "([I)Z"⟩
abbrev vwCl : List vw_C := [(RX0, TX0, 3), (RX1, TX1, 10), (RX2, TX2, 5), (RX3, TX3, 7), (RX4, TX4, 6), (RX5, TX5, 5), (RX6, TX6, 10), (RX7, TX7, 2), (RX8, TX8, 14), (RX9, TX9, 4), (RX10, TX10, 3), (RX11, TX11, 7), (RX12, TX12, 29)]
def zTbl : List Cond := lw_tbl.filter goodWord
abbrev zMI : Type := MethodName × ByteArray × Nat × Option FieldType
theorem zmem {w : Cond} (i : Nat) (h : lw_tbl[i]? = some w) (g : goodWord w = true) : w ∈ zTbl := List.mem_filter.mpr ⟨List.mem_of_getElem? h, g⟩
def zkt : List (List Nat) := [[1, 14, 13], [99, 99, 1, 1, 1, 14, 13, 1, 99, 99], [99, 1, 9, 99, 7], [13, 99, 99, 99, 13, 99, 99], [13, 99, 99, 14, 13, 99], [18, 13, 99, 13, 99], [14, 99, 99, 99, 14, 13, 13, 13, 14, 99], [99, 15], [0, 16, 99, 99, 1, 9, 99, 99, 10, 3, 13, 99, 13, 5], [99, 99, 7, 9], [15, 99, 99], [13, 99, 6, 4, 5, 8, 17], [13, 99, 13, 13, 99, 13, 13, 13, 99, 13, 13, 13, 13, 99, 99, 99, 99, 99, 13, 13, 13, 13, 13, 13, 13, 13, 13, 99, 99]]
abbrev mX11_init : zMI := (yX11_init, cX11_init, 1, none)
abbrev mX6_init : zMI := (yX6_init, cX6_init, 1, none)
abbrev mX4_init : zMI := (yX4_init, cX4_init, 1, none)
abbrev mX5_init : zMI := (yX5_init, cX5_init, 1, none)
abbrev mX8_init : zMI := (yX8_init, cX8_init, 2, none)
abbrev mX10_init : zMI := (yX10_init, cX10_init, 1, none)
abbrev mX3_init : zMI := (yX3_init, cX3_init, 1, none)
abbrev mX11_write : zMI := (yX11_write, cX11_write, 2, (Option.some .int))
abbrev mX11_wipe : zMI := (yX11_wipe, cX11_wipe, 2, (Option.some .int))
abbrev mX11_fault : zMI := (yX11_fault, cX11_fault, 2, (Option.some .int))
abbrev mX6_read : zMI := (yX6_read, cX6_read, 6, (Option.some .int))
abbrev mX11_isDigit : zMI := (yX11_isDigit, cX11_isDigit, 1, (Option.some .boolean))
abbrev mX6_addDigit : zMI := (yX6_addDigit, cX6_addDigit, 2, none)
abbrev mX6_accept : zMI := (yX6_accept, cX6_accept, 2, (Option.some .boolean))
abbrev mX6_acceptExpression : zMI := (yX6_acceptExpression, cX6_acceptExpression, 3, (Option.some .boolean))
abbrev mX6_addLeaf : zMI := (yX6_addLeaf, cX6_addLeaf, 4, (Option.some .boolean))
abbrev mX6_addExpression : zMI := (yX6_addExpression, cX6_addExpression, 3, (Option.some (.object "EffectMachine$Expr")))
abbrev mX1_init : zMI := (yX1_init, cX1_init, 2, none)
abbrev mX6_attach : zMI := (yX6_attach, cX6_attach, 3, none)
abbrev mX6_endPart : zMI := (yX6_endPart, cX6_endPart, 2, none)
abbrev mX1_parts : zMI := (yX1_parts, cX1_parts, 1, (Option.some .int))
abbrev mX11_isLetter : zMI := (yX11_isLetter, cX11_isLetter, 1, (Option.some .boolean))
abbrev mX6_beginExpression : zMI := (yX6_beginExpression, cX6_beginExpression, 4, (Option.some .boolean))
abbrev mX6_acceptVariable : zMI := (yX6_acceptVariable, cX6_acceptVariable, 4, (Option.some .boolean))
abbrev mX6_acceptMark : zMI := (yX6_acceptMark, cX6_acceptMark, 4, (Option.some .boolean))
abbrev mX6_acceptClause : zMI := (yX6_acceptClause, cX6_acceptClause, 3, (Option.some .boolean))
abbrev mX11_isOperation : zMI := (yX11_isOperation, cX11_isOperation, 1, (Option.some .boolean))
abbrev mX1_clause : zMI := (yX1_clause, cX1_clause, 2, (Option.some (.object "EffectMachine$Expr")))
abbrev mX11_load : zMI := (yX11_load, cX11_load, 2, (Option.some .int))
abbrev mX6_body : zMI := (yX6_body, cX6_body, 3, (Option.some (.object "EffectMachine$Body")))
abbrev mX0_init : zMI := (yX0_init, cX0_init, 3, none)
abbrev mX4_list : zMI := (yX4_list, cX4_list, 4, (Option.some (.array .int)))
abbrev mX4_plan : zMI := (yX4_plan, cX4_plan, 3, none)
abbrev mX4_put : zMI := (yX4_put, cX4_put, 2, none)
abbrev mX4_putHead : zMI := (yX4_putHead, cX4_putHead, 2, none)
abbrev mX4_putNumber : zMI := (yX4_putNumber, cX4_putNumber, 2, none)
abbrev mX4_planParts : zMI := (yX4_planParts, cX4_planParts, 3, none)
abbrev mX4_planClause : zMI := (yX4_planClause, cX4_planClause, 3, none)
abbrev mX1_clauseVariable : zMI := (yX1_clauseVariable, cX1_clauseVariable, 2, (Option.some .int))
abbrev mX4_planPart : zMI := (yX4_planPart, cX4_planPart, 2, none)
abbrev mJ7_copyOf_59c91 : zMI := (yJ7_copyOf_59c91, cJ7_copyOf_59c91, 3, (Option.some (.array .int)))
abbrev mJ9_min_7cf53 : zMI := (yJ9_min_7cf53, cJ9_min_7cf53, 2, (Option.some .int))
abbrev mX8_begin : zMI := (yX8_begin, cX8_begin, 1, none)
abbrev mX8_goTo : zMI := (yX8_goTo, cX8_goTo, 3, none)
abbrev mX10_clear : zMI := (yX10_clear, cX10_clear, 1, none)
abbrev mX3_clear : zMI := (yX3_clear, cX3_clear, 1, none)
abbrev mJ7_fill_53178 : zMI := (yJ7_fill_53178, cJ7_fill_53178, 4, none)
abbrev mX11_define : zMI := (yX11_define, cX11_define, 2, (Option.some .int))
abbrev mX11_isProcedure : zMI := (yX11_isProcedure, cX11_isProcedure, 1, (Option.some .boolean))
abbrev mX11_undefine : zMI := (yX11_undefine, cX11_undefine, 3, (Option.some .int))
abbrev mX11_restart : zMI := (yX11_restart, cX11_restart, 2, (Option.some .int))
abbrev mX11_listing : zMI := (yX11_listing, cX11_listing, 2, (Option.some .int))
abbrev mX11_may : zMI := (yX11_may, cX11_may, 5, (Option.some .int))
abbrev mX8_gatherLeaves : zMI := (yX8_gatherLeaves, cX8_gatherLeaves, 4, none)
abbrev mX0_forgetLeaves : zMI := (yX0_forgetLeaves, cX0_forgetLeaves, 5, none)
abbrev mX0_gatherRound : zMI := (yX0_gatherRound, cX0_gatherRound, 4, (Option.some .boolean))
abbrev mX1_gather : zMI := (yX1_gather, cX1_gather, 5, (Option.some .boolean))
abbrev mX1_leavesOf : zMI := (yX1_leavesOf, cX1_leavesOf, 1, (Option.some .int))
abbrev mX1_lateOf : zMI := (yX1_lateOf, cX1_lateOf, 1, (Option.some .int))
abbrev mX1_pair : zMI := (yX1_pair, cX1_pair, 2, (Option.some .int))
abbrev mX1_raised : zMI := (yX1_raised, cX1_raised, 4, (Option.some .int))
abbrev mX1_allLevels : zMI := (yX1_allLevels, cX1_allLevels, 1, (Option.some .int))
abbrev mX1_leavesOfHandler : zMI := (yX1_leavesOfHandler, cX1_leavesOfHandler, 4, (Option.some .int))
abbrev mX1_lowered : zMI := (yX1_lowered, cX1_lowered, 4, (Option.some .int))
abbrev mX1_lateOfClauses : zMI := (yX1_lateOfClauses, cX1_lateOfClauses, 3, (Option.some .int))
abbrev mX11_run : zMI := (yX11_run, cX11_run, 3, (Option.some .int))
abbrev mX8_step : zMI := (yX8_step, cX8_step, 2, none)
abbrev mX8_stepInto : zMI := (yX8_stepInto, cX8_stepInto, 5, (Option.some .boolean))
abbrev mX9_lookUp : zMI := (yX9_lookUp, cX9_lookUp, 3, (Option.some .int))
abbrev mX10_hasRoomFor : zMI := (yX10_hasRoomFor, cX10_hasRoomFor, 2, (Option.some .boolean))
abbrev mX1_kindOfFrame : zMI := (yX1_kindOfFrame, cX1_kindOfFrame, 1, (Option.some .int))
abbrev mX3_newFinalizer : zMI := (yX3_newFinalizer, cX3_newFinalizer, 2, (Option.some .int))
abbrev mX3_isPlace : zMI := (yX3_isPlace, cX3_isPlace, 1, (Option.some .boolean))
abbrev mX9_resumptionIn : zMI := (yX9_resumptionIn, cX9_resumptionIn, 1, (Option.some (.object "EffectMachine$Resumption")))
abbrev mX2_init : zMI := (yX2_init, cX2_init, 6, none)
abbrev mX10_push : zMI := (yX10_push, cX10_push, 2, none)
abbrev mJ9_max_7cf53 : zMI := (yJ9_max_7cf53, cJ9_max_7cf53, 2, (Option.some .int))
abbrev mX10_below : zMI := (yX10_below, cX10_below, 2, (Option.some (.object "EffectMachine$Frame")))
abbrev mX8_stepOut : zMI := (yX8_stepOut, cX8_stepOut, 2, (Option.some .boolean))
abbrev mX8_resume : zMI := (yX8_resume, cX8_resume, 3, (Option.some .boolean))
abbrev mX10_pop : zMI := (yX10_pop, cX10_pop, 1, none)
abbrev mX3_use : zMI := (yX3_use, cX3_use, 2, none)
abbrev mX8_leaveClause : zMI := (yX8_leaveClause, cX8_leaveClause, 3, (Option.some .boolean))
abbrev mX5_first : zMI := (yX5_first, cX5_first, 6, (Option.some (.object "EffectMachine$Frame")))
abbrev mX5_visit : zMI := (yX5_visit, cX5_visit, 4, none)
abbrev mX3_usesOf : zMI := (yX3_usesOf, cX3_usesOf, 2, (Option.some .int))
abbrev mX3_executed : zMI := (yX3_executed, cX3_executed, 2, (Option.some .int))
abbrev mX8_execute : zMI := (yX8_execute, cX8_execute, 2, none)
abbrev mX3_execute : zMI := (yX3_execute, cX3_execute, 2, none)
abbrev mX8_perform : zMI := (yX8_perform, cX8_perform, 6, none)
abbrev mX10_placeOfHandler : zMI := (yX10_placeOfHandler, cX10_placeOfHandler, 5, (Option.some .int))
abbrev mX8_captureDownTo : zMI := (yX8_captureDownTo, cX8_captureDownTo, 3, (Option.some (.object "EffectMachine$Resumption")))
abbrev mX10_popDownTo : zMI := (yX10_popDownTo, cX10_popDownTo, 4, (Option.some (.array (.object "EffectMachine$Frame"))))
abbrev mX3_newResumption : zMI := (yX3_newResumption, cX3_newResumption, 3, (Option.some (.object "EffectMachine$Resumption")))
abbrev mX7_init : zMI := (yX7_init, cX7_init, 3, none)
abbrev mX9_init : zMI := (yX9_init, cX9_init, 5, none)
abbrev mX8_goOnAt : zMI := (yX8_goOnAt, cX8_goOnAt, 3, none)
abbrev mX8_resultOf : zMI := (yX8_resultOf, cX8_resultOf, 3, (Option.some .int))
abbrev mX8_emit : zMI := (yX8_emit, cX8_emit, 1, none)
abbrev mX8_call : zMI := (yX8_call, cX8_call, 2, none)
abbrev mX8_leaveHandler : zMI := (yX8_leaveHandler, cX8_leaveHandler, 4, none)
abbrev mX8_endIfDue : zMI := (yX8_endIfDue, cX8_endIfDue, 1, none)
abbrev mX11_answer : zMI := (yX11_answer, cX11_answer, 2, (Option.some .int))
abbrev mX8_goOnWith : zMI := (yX8_goOnWith, cX8_goOnWith, 2, none)
abbrev mX11_drop : zMI := (yX11_drop, cX11_drop, 3, (Option.some .int))
abbrev mX11_told : zMI := (yX11_told, cX11_told, 2, (Option.some .int))
abbrev mX8_countPerformed : zMI := (yX8_countPerformed, cX8_countPerformed, 3, (Option.some .int))
abbrev mX8_countDefined : zMI := (yX8_countDefined, cX8_countDefined, 3, (Option.some .int))
abbrev mX11_value : zMI := (yX11_value, cX11_value, 2, (Option.some .int))
abbrev mX11_focus : zMI := (yX11_focus, cX11_focus, 1, (Option.some .int))
abbrev mX11_trace : zMI := (yX11_trace, cX11_trace, 2, (Option.some .int))
abbrev mX11_performed : zMI := (yX11_performed, cX11_performed, 2, (Option.some .int))
abbrev mX11_frame : zMI := (yX11_frame, cX11_frame, 4, (Option.some .int))
abbrev mX8_propertyOf : zMI := (yX8_propertyOf, cX8_propertyOf, 2, (Option.some .int))
abbrev mX1_countOperationClauses : zMI := (yX1_countOperationClauses, cX1_countOperationClauses, 3, (Option.some .int))
abbrev mX11_handler : zMI := (yX11_handler, cX11_handler, 3, (Option.some .int))
abbrev mX11_keep : zMI := (yX11_keep, cX11_keep, 2, (Option.some .int))
abbrev mX11_isImage : zMI := (yX11_isImage, cX11_isImage, 1, (Option.some .boolean))
abbrev mX8_copyFrom : zMI := (yX8_copyFrom, cX8_copyFrom, 3, none)
abbrev mX10_copyFrom : zMI := (yX10_copyFrom, cX10_copyFrom, 3, none)
abbrev mX3_copyFrom : zMI := (yX3_copyFrom, cX3_copyFrom, 2, none)
abbrev mX11_back : zMI := (yX11_back, cX11_back, 2, (Option.some .int))
abbrev mX12_init : zMI := (yX12_init, cX12_init, 2, none)
abbrev mX12_begin : zMI := (yX12_begin, cX12_begin, 2, none)
abbrev mX12_write : zMI := (yX12_write, cX12_write, 2, (Option.some .int))
abbrev mX12_isIn : zMI := (yX12_isIn, cX12_isIn, 3, (Option.some .boolean))
abbrev mX12_wipe : zMI := (yX12_wipe, cX12_wipe, 2, (Option.some .int))
abbrev mX12_fault : zMI := (yX12_fault, cX12_fault, 4, (Option.some .int))
abbrev mX12_parse : zMI := (yX12_parse, cX12_parse, 6, (Option.some .int))
abbrev mX12_boundNext : zMI := (yX12_boundNext, cX12_boundNext, 3, (Option.some .int))
abbrev mX12_kind : zMI := (yX12_kind, cX12_kind, 2, (Option.some .int))
abbrev mX12_argument : zMI := (yX12_argument, cX12_argument, 2, (Option.some .int))
abbrev mX12_beginsWhole : zMI := (yX12_beginsWhole, cX12_beginsWhole, 6, (Option.some .boolean))
abbrev mX12_skip : zMI := (yX12_skip, cX12_skip, 1, none)
abbrev mX12_here : zMI := (yX12_here, cX12_here, 1, (Option.some .int))
abbrev mX12_readNumber : zMI := (yX12_readNumber, cX12_readNumber, 3, (Option.some .int))
abbrev mX12_make : zMI := (yX12_make, cX12_make, 4, (Option.some .int))
abbrev mX12_kindOf : zMI := (yX12_kindOf, cX12_kindOf, 1, (Option.some .int))
abbrev mX12_fails : zMI := (yX12_fails, cX12_fails, 1, none)
abbrev mX12_readArgument : zMI := (yX12_readArgument, cX12_readArgument, 2, (Option.some .int))
abbrev mX12_take : zMI := (yX12_take, cX12_take, 3, (Option.some .int))
abbrev mX12_enter : zMI := (yX12_enter, cX12_enter, 4, none)
abbrev mX12_attach : zMI := (yX12_attach, cX12_attach, 3, none)
abbrev mX12_goesOn : zMI := (yX12_goesOn, cX12_goesOn, 3, (Option.some .boolean))
abbrev mX12_beginClause : zMI := (yX12_beginClause, cX12_beginClause, 6, none)
abbrev mX12_clause : zMI := (yX12_clause, cX12_clause, 4, (Option.some .int))
abbrev mX12_parts : zMI := (yX12_parts, cX12_parts, 1, (Option.some .int))
abbrev mX12_load : zMI := (yX12_load, cX12_load, 3, (Option.some .int))
abbrev mX12_define : zMI := (yX12_define, cX12_define, 4, (Option.some .int))
abbrev mX12_undefine : zMI := (yX12_undefine, cX12_undefine, 3, (Option.some .int))
abbrev mX12_restart : zMI := (yX12_restart, cX12_restart, 2, (Option.some .int))
abbrev mX12_listing : zMI := (yX12_listing, cX12_listing, 2, (Option.some .int))
abbrev mX12_layListing : zMI := (yX12_layListing, cX12_layListing, 5, (Option.some .int))
abbrev mX12_layNumber : zMI := (yX12_layNumber, cX12_layNumber, 5, (Option.some .int))
abbrev mX12_signOf : zMI := (yX12_signOf, cX12_signOf, 1, (Option.some .int))
abbrev mX12_namedBy : zMI := (yX12_namedBy, cX12_namedBy, 2, (Option.some .int))
abbrev mX12_layParts : zMI := (yX12_layParts, cX12_layParts, 6, (Option.some .int))
abbrev mX12_part : zMI := (yX12_part, cX12_part, 3, (Option.some .int))
abbrev mX12_may : zMI := (yX12_may, cX12_may, 7, (Option.some .int))
abbrev mX12_clearIn : zMI := (yX12_clearIn, cX12_clearIn, 3, none)
abbrev mX12_growsIn : zMI := (yX12_growsIn, cX12_growsIn, 6, (Option.some .boolean))
abbrev mX12_leavesBy : zMI := (yX12_leavesBy, cX12_leavesBy, 5, (Option.some .int))
abbrev mX12_ofHandled : zMI := (yX12_ofHandled, cX12_ofHandled, 4, (Option.some .int))
abbrev mX12_handled : zMI := (yX12_handled, cX12_handled, 3, (Option.some .int))
abbrev mX12_levelsOf : zMI := (yX12_levelsOf, cX12_levelsOf, 2, (Option.some .int))
abbrev mX12_withLevels : zMI := (yX12_withLevels, cX12_withLevels, 3, (Option.some .int))
abbrev mX12_masked : zMI := (yX12_masked, cX12_masked, 3, (Option.some .int))
abbrev mX12_lateBy : zMI := (yX12_lateBy, cX12_lateBy, 5, (Option.some .int))
abbrev mX12_run : zMI := (yX12_run, cX12_run, 3, (Option.some .int))
abbrev mX12_step : zMI := (yX12_step, cX12_step, 2, none)
abbrev mX12_opens : zMI := (yX12_opens, cX12_opens, 3, (Option.some .boolean))
abbrev mX12_become : zMI := (yX12_become, cX12_become, 2, none)
abbrev mX12_valueOf : zMI := (yX12_valueOf, cX12_valueOf, 3, (Option.some .int))
abbrev mX12_depth : zMI := (yX12_depth, cX12_depth, 1, (Option.some .int))
abbrev mX12_of : zMI := (yX12_of, cX12_of, 3, (Option.some .int))
abbrev mX12_frameOf : zMI := (yX12_frameOf, cX12_frameOf, 1, (Option.some .int))
abbrev mX12_push : zMI := (yX12_push, cX12_push, 7, none)
abbrev mX12_closes : zMI := (yX12_closes, cX12_closes, 3, (Option.some .boolean))
abbrev mX12_comesTo : zMI := (yX12_comesTo, cX12_comesTo, 4, (Option.some .boolean))
abbrev mX12_focusOn : zMI := (yX12_focusOn, cX12_focusOn, 4, none)
abbrev mX12_result : zMI := (yX12_result, cX12_result, 3, (Option.some .int))
abbrev mX12_bindTo : zMI := (yX12_bindTo, cX12_bindTo, 5, (Option.some .int))
abbrev mX12_trace0 : zMI := (yX12_trace0, cX12_trace0, 2, none)
abbrev mX12_perform : zMI := (yX12_perform, cX12_perform, 6, none)
abbrev mX12_handlerOf : zMI := (yX12_handlerOf, cX12_handlerOf, 5, (Option.some .int))
abbrev mX12_makeResumption : zMI := (yX12_makeResumption, cX12_makeResumption, 4, (Option.some .int))
abbrev mX12_executeFinalizer : zMI := (yX12_executeFinalizer, cX12_executeFinalizer, 3, none)
abbrev mX12_call : zMI := (yX12_call, cX12_call, 4, none)
abbrev mX12_resumes : zMI := (yX12_resumes, cX12_resumes, 6, (Option.some .boolean))
abbrev mX12_uses : zMI := (yX12_uses, cX12_uses, 2, (Option.some .int))
abbrev mX12_leaveHandler : zMI := (yX12_leaveHandler, cX12_leaveHandler, 4, none)
abbrev mX12_closesClause : zMI := (yX12_closesClause, cX12_closesClause, 5, (Option.some .boolean))
abbrev mX12_pending : zMI := (yX12_pending, cX12_pending, 5, (Option.some .int))
abbrev mX12_checkSteps : zMI := (yX12_checkSteps, cX12_checkSteps, 1, none)
abbrev mX12_answer : zMI := (yX12_answer, cX12_answer, 2, (Option.some .int))
abbrev mX12_drop : zMI := (yX12_drop, cX12_drop, 4, (Option.some .int))
abbrev mX12_told : zMI := (yX12_told, cX12_told, 2, (Option.some .int))
abbrev mX12_defined : zMI := (yX12_defined, cX12_defined, 3, (Option.some .int))
abbrev mX12_value : zMI := (yX12_value, cX12_value, 2, (Option.some .int))
abbrev mX12_focus : zMI := (yX12_focus, cX12_focus, 1, (Option.some .int))
abbrev mX12_trace : zMI := (yX12_trace, cX12_trace, 2, (Option.some .int))
abbrev mX12_performed : zMI := (yX12_performed, cX12_performed, 2, (Option.some .int))
abbrev mX12_frame : zMI := (yX12_frame, cX12_frame, 5, (Option.some .int))
abbrev mX12_property : zMI := (yX12_property, cX12_property, 2, (Option.some .int))
abbrev mX12_clauses : zMI := (yX12_clauses, cX12_clauses, 4, (Option.some .int))
abbrev mX12_handler : zMI := (yX12_handler, cX12_handler, 2, (Option.some .int))
abbrev mX12_keep : zMI := (yX12_keep, cX12_keep, 3, (Option.some .int))
abbrev mX12_back : zMI := (yX12_back, cX12_back, 3, (Option.some .int))
theorem zini_RL : Cond.initialized RL ∈ zTbl := zmem 87 (by decide +kernel) (by decide +kernel)
theorem zini_RX11 : Cond.initialized RX11 ∈ zTbl := zmem 88 (by decide +kernel) (by decide +kernel)
theorem zini_RX6 : Cond.initialized RX6 ∈ zTbl := zmem 89 (by decide +kernel) (by decide +kernel)
theorem zini_RX4 : Cond.initialized RX4 ∈ zTbl := zmem 90 (by decide +kernel) (by decide +kernel)
theorem zini_RX5 : Cond.initialized RX5 ∈ zTbl := zmem 91 (by decide +kernel) (by decide +kernel)
theorem zini_RX8 : Cond.initialized RX8 ∈ zTbl := zmem 92 (by decide +kernel) (by decide +kernel)
theorem zini_RX10 : Cond.initialized RX10 ∈ zTbl := zmem 93 (by decide +kernel) (by decide +kernel)
theorem zini_RX3 : Cond.initialized RX3 ∈ zTbl := zmem 94 (by decide +kernel) (by decide +kernel)
theorem zini_RX12 : Cond.initialized RX12 ∈ zTbl := zmem 95 (by decide +kernel) (by decide +kernel)
theorem zini_RX1 : Cond.initialized RX1 ∈ zTbl := zmem 96 (by decide +kernel) (by decide +kernel)
theorem zini_RX0 : Cond.initialized RX0 ∈ zTbl := zmem 97 (by decide +kernel) (by decide +kernel)
theorem zini_RJ7 : Cond.initialized RJ7 ∈ zTbl := zmem 98 (by decide +kernel) (by decide +kernel)
theorem zini_RJ9 : Cond.initialized RJ9 ∈ zTbl := zmem 99 (by decide +kernel) (by decide +kernel)
theorem zini_RJ10 : Cond.initialized RJ10 ∈ zTbl := zmem 100 (by decide +kernel) (by decide +kernel)
theorem zini_RX9 : Cond.initialized RX9 ∈ zTbl := zmem 101 (by decide +kernel) (by decide +kernel)
theorem zini_RX2 : Cond.initialized RX2 ∈ zTbl := zmem 102 (by decide +kernel) (by decide +kernel)
theorem zini_RX7 : Cond.initialized RX7 ∈ zTbl := zmem 103 (by decide +kernel) (by decide +kernel)
theorem zc_RL_7 : Cond.classLink RL 7 RX11 ∈ zTbl := zmem 104 (by decide +kernel) (by decide +kernel)
theorem zi_RX11 : Cond.instantiable RX11 7 ∈ zTbl := zmem 105 (by decide +kernel) (by decide +kernel)
theorem zl_RL_9 : Cond.methodLink RL 9 yX11_init ∈ zTbl := zmem 106 (by decide +kernel) (by decide +kernel)
theorem zin_X11_init : Cond.instanceMethod yX11_init ∈ zTbl := zmem 107 (by decide +kernel) (by decide +kernel)
theorem zcd_X11_init : Cond.code mX11_init.1 mX11_init.2.1 mX11_init.2.2.1 mX11_init.2.2.2 ∈ zTbl := zmem 108 (by decide +kernel) (by decide +kernel)
theorem zl_RX11_3 : Cond.methodLink RX11 3 objectInit ∈ zTbl := zmem 109 (by decide +kernel) (by decide +kernel)
theorem zin_objectInit : Cond.instanceMethod objectInit ∈ zTbl := zmem 110 (by decide +kernel) (by decide +kernel)
theorem zcd_objectInit : Cond.code objectInit ⟨#[0xb1]⟩ 1 none ∈ zTbl := zmem 111 (by decide +kernel) (by decide +kernel)
theorem zc_RX11_17 : Cond.classLink RX11 17 RX6 ∈ zTbl := zmem 112 (by decide +kernel) (by decide +kernel)
theorem zi_RX6 : Cond.instantiable RX6 10 ∈ zTbl := zmem 113 (by decide +kernel) (by decide +kernel)
theorem zin_X6_init : Cond.instanceMethod yX6_init ∈ zTbl := zmem 115 (by decide +kernel) (by decide +kernel)
theorem zcd_X6_init : Cond.code mX6_init.1 mX6_init.2.1 mX6_init.2.2.1 mX6_init.2.2.2 ∈ zTbl := zmem 116 (by decide +kernel) (by decide +kernel)
theorem zl_RX6_3 : Cond.methodLink RX6 3 objectInit ∈ zTbl := zmem 117 (by decide +kernel) (by decide +kernel)
theorem zc_RX6_9 : Cond.classLink RX6 9 RX1 ∈ zTbl := zmem 118 (by decide +kernel) (by decide +kernel)
theorem zf_RX6_11 : Cond.fieldLink RX6 11 RX6 "all" "[LEffectMachine$Expr;" ∈ zTbl := zmem 120 (by decide +kernel) (by decide +kernel)
theorem zf_RX6_33 : Cond.fieldLink RX6 33 RX6 "count" "I" ∈ zTbl := zmem 121 (by decide +kernel) (by decide +kernel)
theorem zf_RX6_43 : Cond.fieldLink RX6 43 RX6 "awaited" "I" ∈ zTbl := zmem 122 (by decide +kernel) (by decide +kernel)
theorem zf_RX6_40 : Cond.fieldLink RX6 40 RX6 "digits" "I" ∈ zTbl := zmem 123 (by decide +kernel) (by decide +kernel)
theorem zf_RX6_17 : Cond.fieldLink RX6 17 RX6 "open" "[LEffectMachine$Expr;" ∈ zTbl := zmem 124 (by decide +kernel) (by decide +kernel)
theorem zf_RX6_20 : Cond.fieldLink RX6 20 RX6 "partsRead" "[I" ∈ zTbl := zmem 125 (by decide +kernel) (by decide +kernel)
theorem zf_RX6_24 : Cond.fieldLink RX6 24 RX6 "clauseRead" "[I" ∈ zTbl := zmem 126 (by decide +kernel) (by decide +kernel)
theorem zf_RX6_27 : Cond.fieldLink RX6 27 RX6 "bound" "[I" ∈ zTbl := zmem 127 (by decide +kernel) (by decide +kernel)
theorem zf_RX6_30 : Cond.fieldLink RX6 30 RX6 "owners" "[LEffectMachine$Expr;" ∈ zTbl := zmem 128 (by decide +kernel) (by decide +kernel)
theorem zf_RX6_37 : Cond.fieldLink RX6 37 RX6 "depth" "I" ∈ zTbl := zmem 129 (by decide +kernel) (by decide +kernel)
theorem zac_int : Cond.arrayClass .int ∈ zTbl := zmem 151 (by decide +kernel) (by decide +kernel)
theorem zc_RX11_24 : Cond.classLink RX11 24 RX4 ∈ zTbl := zmem 152 (by decide +kernel) (by decide +kernel)
theorem zi_RX4 : Cond.instantiable RX4 6 ∈ zTbl := zmem 153 (by decide +kernel) (by decide +kernel)
theorem zin_X4_init : Cond.instanceMethod yX4_init ∈ zTbl := zmem 155 (by decide +kernel) (by decide +kernel)
theorem zcd_X4_init : Cond.code mX4_init.1 mX4_init.2.1 mX4_init.2.2.1 mX4_init.2.2.2 ∈ zTbl := zmem 156 (by decide +kernel) (by decide +kernel)
theorem zl_RX4_3 : Cond.methodLink RX4 3 objectInit ∈ zTbl := zmem 157 (by decide +kernel) (by decide +kernel)
theorem zc_RX4_15 : Cond.classLink RX4 15 RX1 ∈ zTbl := zmem 158 (by decide +kernel) (by decide +kernel)
theorem zf_RX4_11 : Cond.fieldLink RX4 11 RX4 "bytes" "[I" ∈ zTbl := zmem 159 (by decide +kernel) (by decide +kernel)
theorem zf_RX4_24 : Cond.fieldLink RX4 24 RX4 "length" "I" ∈ zTbl := zmem 160 (by decide +kernel) (by decide +kernel)
theorem zf_RX4_31 : Cond.fieldLink RX4 31 RX4 "afterNumber" "Z" ∈ zTbl := zmem 161 (by decide +kernel) (by decide +kernel)
theorem zf_RX4_17 : Cond.fieldLink RX4 17 RX4 "laterExprs" "[LEffectMachine$Expr;" ∈ zTbl := zmem 162 (by decide +kernel) (by decide +kernel)
theorem zf_RX4_21 : Cond.fieldLink RX4 21 RX4 "laterBytes" "[I" ∈ zTbl := zmem 163 (by decide +kernel) (by decide +kernel)
theorem zf_RX4_28 : Cond.fieldLink RX4 28 RX4 "later" "I" ∈ zTbl := zmem 164 (by decide +kernel) (by decide +kernel)
theorem zc_RX11_31 : Cond.classLink RX11 31 RX5 ∈ zTbl := zmem 178 (by decide +kernel) (by decide +kernel)
theorem zi_RX5 : Cond.instantiable RX5 5 ∈ zTbl := zmem 179 (by decide +kernel) (by decide +kernel)
theorem zin_X5_init : Cond.instanceMethod yX5_init ∈ zTbl := zmem 181 (by decide +kernel) (by decide +kernel)
theorem zcd_X5_init : Cond.code mX5_init.1 mX5_init.2.1 mX5_init.2.2.1 mX5_init.2.2.2 ∈ zTbl := zmem 182 (by decide +kernel) (by decide +kernel)
theorem zl_RX5_3 : Cond.methodLink RX5 3 objectInit ∈ zTbl := zmem 183 (by decide +kernel) (by decide +kernel)
theorem zc_RX5_9 : Cond.classLink RX5 9 RX7 ∈ zTbl := zmem 184 (by decide +kernel) (by decide +kernel)
theorem zf_RX5_11 : Cond.fieldLink RX5 11 RX5 "path" "[LEffectMachine$Resumption;" ∈ zTbl := zmem 186 (by decide +kernel) (by decide +kernel)
theorem zf_RX5_17 : Cond.fieldLink RX5 17 RX5 "left" "[I" ∈ zTbl := zmem 187 (by decide +kernel) (by decide +kernel)
theorem zf_RX5_28 : Cond.fieldLink RX5 28 RX5 "depth" "I" ∈ zTbl := zmem 188 (by decide +kernel) (by decide +kernel)
theorem zf_RX5_21 : Cond.fieldLink RX5 21 RX5 "visited" "[I" ∈ zTbl := zmem 189 (by decide +kernel) (by decide +kernel)
theorem zf_RX5_24 : Cond.fieldLink RX5 24 RX5 "searches" "I" ∈ zTbl := zmem 190 (by decide +kernel) (by decide +kernel)
theorem zc_RX11_38 : Cond.classLink RX11 38 RX8 ∈ zTbl := zmem 202 (by decide +kernel) (by decide +kernel)
theorem zi_RX8 : Cond.instantiable RX8 14 ∈ zTbl := zmem 203 (by decide +kernel) (by decide +kernel)
theorem zl_RX11_40 : Cond.methodLink RX11 40 yX8_init ∈ zTbl := zmem 204 (by decide +kernel) (by decide +kernel)
theorem zin_X8_init : Cond.instanceMethod yX8_init ∈ zTbl := zmem 205 (by decide +kernel) (by decide +kernel)
theorem zcd_X8_init : Cond.code mX8_init.1 mX8_init.2.1 mX8_init.2.2.1 mX8_init.2.2.2 ∈ zTbl := zmem 206 (by decide +kernel) (by decide +kernel)
theorem zl_RX8_3 : Cond.methodLink RX8 3 objectInit ∈ zTbl := zmem 207 (by decide +kernel) (by decide +kernel)
theorem zc_RX8_9 : Cond.classLink RX8 9 RX0 ∈ zTbl := zmem 208 (by decide +kernel) (by decide +kernel)
theorem zc_RX8_21 : Cond.classLink RX8 21 RX10 ∈ zTbl := zmem 210 (by decide +kernel) (by decide +kernel)
theorem zi_RX10 : Cond.instantiable RX10 3 ∈ zTbl := zmem 211 (by decide +kernel) (by decide +kernel)
theorem zin_X10_init : Cond.instanceMethod yX10_init ∈ zTbl := zmem 213 (by decide +kernel) (by decide +kernel)
theorem zcd_X10_init : Cond.code mX10_init.1 mX10_init.2.1 mX10_init.2.2.1 mX10_init.2.2.2 ∈ zTbl := zmem 214 (by decide +kernel) (by decide +kernel)
theorem zl_RX10_3 : Cond.methodLink RX10 3 objectInit ∈ zTbl := zmem 215 (by decide +kernel) (by decide +kernel)
theorem zc_RX10_9 : Cond.classLink RX10 9 RX2 ∈ zTbl := zmem 216 (by decide +kernel) (by decide +kernel)
theorem zf_RX10_11 : Cond.fieldLink RX10 11 RX10 "frames" "[LEffectMachine$Frame;" ∈ zTbl := zmem 218 (by decide +kernel) (by decide +kernel)
theorem zf_RX8_249 : Cond.fieldLink RX8 249 RX10 "frames" "[LEffectMachine$Frame;" ∈ zTbl := zmem 219 (by decide +kernel) (by decide +kernel)
theorem zf_RX10_17 : Cond.fieldLink RX10 17 RX10 "depth" "I" ∈ zTbl := zmem 220 (by decide +kernel) (by decide +kernel)
theorem zf_RX8_155 : Cond.fieldLink RX8 155 RX10 "depth" "I" ∈ zTbl := zmem 221 (by decide +kernel) (by decide +kernel)
theorem zf_RX11_120 : Cond.fieldLink RX11 120 RX10 "depth" "I" ∈ zTbl := zmem 222 (by decide +kernel) (by decide +kernel)
theorem zf_RX10_21 : Cond.fieldLink RX10 21 RX10 "deepest" "I" ∈ zTbl := zmem 223 (by decide +kernel) (by decide +kernel)
theorem zf_RX11_132 : Cond.fieldLink RX11 132 RX10 "deepest" "I" ∈ zTbl := zmem 224 (by decide +kernel) (by decide +kernel)
theorem zc_RX8_28 : Cond.classLink RX8 28 RX3 ∈ zTbl := zmem 232 (by decide +kernel) (by decide +kernel)
theorem zi_RX3 : Cond.instantiable RX3 7 ∈ zTbl := zmem 233 (by decide +kernel) (by decide +kernel)
theorem zin_X3_init : Cond.instanceMethod yX3_init ∈ zTbl := zmem 235 (by decide +kernel) (by decide +kernel)
theorem zcd_X3_init : Cond.code mX3_init.1 mX3_init.2.1 mX3_init.2.2.1 mX3_init.2.2.2 ∈ zTbl := zmem 236 (by decide +kernel) (by decide +kernel)
theorem zl_RX3_3 : Cond.methodLink RX3 3 objectInit ∈ zTbl := zmem 237 (by decide +kernel) (by decide +kernel)
theorem zf_RX3_9 : Cond.fieldLink RX3 9 RX3 "used" "[I" ∈ zTbl := zmem 238 (by decide +kernel) (by decide +kernel)
theorem zf_RX3_18 : Cond.fieldLink RX3 18 RX3 "resumptions" "I" ∈ zTbl := zmem 239 (by decide +kernel) (by decide +kernel)
theorem zf_RX11_146 : Cond.fieldLink RX11 146 RX3 "resumptions" "I" ∈ zTbl := zmem 240 (by decide +kernel) (by decide +kernel)
theorem zf_RX3_22 : Cond.fieldLink RX3 22 RX3 "uses" "I" ∈ zTbl := zmem 241 (by decide +kernel) (by decide +kernel)
theorem zf_RX11_151 : Cond.fieldLink RX11 151 RX3 "uses" "I" ∈ zTbl := zmem 242 (by decide +kernel) (by decide +kernel)
theorem zf_RX3_25 : Cond.fieldLink RX3 25 RX3 "usedAgain" "I" ∈ zTbl := zmem 243 (by decide +kernel) (by decide +kernel)
theorem zf_RX11_154 : Cond.fieldLink RX11 154 RX3 "usedAgain" "I" ∈ zTbl := zmem 244 (by decide +kernel) (by decide +kernel)
theorem zf_RX3_15 : Cond.fieldLink RX3 15 RX3 "executed" "[I" ∈ zTbl := zmem 245 (by decide +kernel) (by decide +kernel)
theorem zf_RX3_28 : Cond.fieldLink RX3 28 RX3 "finalizers" "I" ∈ zTbl := zmem 246 (by decide +kernel) (by decide +kernel)
theorem zf_RX3_31 : Cond.fieldLink RX3 31 RX3 "executions" "I" ∈ zTbl := zmem 247 (by decide +kernel) (by decide +kernel)
theorem zf_RX11_157 : Cond.fieldLink RX11 157 RX3 "executions" "I" ∈ zTbl := zmem 248 (by decide +kernel) (by decide +kernel)
theorem zf_RX8_46 : Cond.fieldLink RX8 46 RX8 "main" "LEffectMachine$Body;" ∈ zTbl := zmem 264 (by decide +kernel) (by decide +kernel)
theorem zf_RX11_72 : Cond.fieldLink RX11 72 RX8 "main" "LEffectMachine$Body;" ∈ zTbl := zmem 265 (by decide +kernel) (by decide +kernel)
theorem zf_RX8_11 : Cond.fieldLink RX8 11 RX8 "bodies" "[LEffectMachine$Body;" ∈ zTbl := zmem 266 (by decide +kernel) (by decide +kernel)
theorem zf_RX11_87 : Cond.fieldLink RX11 87 RX8 "bodies" "[LEffectMachine$Body;" ∈ zTbl := zmem 267 (by decide +kernel) (by decide +kernel)
theorem zf_RX8_17 : Cond.fieldLink RX8 17 RX8 "state" "I" ∈ zTbl := zmem 268 (by decide +kernel) (by decide +kernel)
theorem zf_RX11_91 : Cond.fieldLink RX11 91 RX8 "state" "I" ∈ zTbl := zmem 269 (by decide +kernel) (by decide +kernel)
theorem zf_RX8_50 : Cond.fieldLink RX8 50 RX8 "steps" "I" ∈ zTbl := zmem 270 (by decide +kernel) (by decide +kernel)
theorem zf_RX11_129 : Cond.fieldLink RX11 129 RX8 "steps" "I" ∈ zTbl := zmem 271 (by decide +kernel) (by decide +kernel)
theorem zf_RX8_53 : Cond.fieldLink RX8 53 RX8 "focused" "LEffectMachine$Expr;" ∈ zTbl := zmem 272 (by decide +kernel) (by decide +kernel)
theorem zf_RX11_166 : Cond.fieldLink RX11 166 RX8 "focused" "LEffectMachine$Expr;" ∈ zTbl := zmem 273 (by decide +kernel) (by decide +kernel)
theorem zf_RX8_57 : Cond.fieldLink RX8 57 RX8 "scope" "LEffectMachine$Scope;" ∈ zTbl := zmem 274 (by decide +kernel) (by decide +kernel)
theorem zf_RX8_61 : Cond.fieldLink RX8 61 RX8 "held" "I" ∈ zTbl := zmem 275 (by decide +kernel) (by decide +kernel)
theorem zf_RX11_169 : Cond.fieldLink RX11 169 RX8 "held" "I" ∈ zTbl := zmem 276 (by decide +kernel) (by decide +kernel)
theorem zf_RX8_64 : Cond.fieldLink RX8 64 RX8 "operation" "I" ∈ zTbl := zmem 277 (by decide +kernel) (by decide +kernel)
theorem zf_RX11_160 : Cond.fieldLink RX11 160 RX8 "operation" "I" ∈ zTbl := zmem 278 (by decide +kernel) (by decide +kernel)
theorem zf_RX8_24 : Cond.fieldLink RX8 24 RX8 "stack" "LEffectMachine$Stack;" ∈ zTbl := zmem 279 (by decide +kernel) (by decide +kernel)
theorem zf_RX11_116 : Cond.fieldLink RX11 116 RX8 "stack" "LEffectMachine$Stack;" ∈ zTbl := zmem 280 (by decide +kernel) (by decide +kernel)
theorem zf_RX8_31 : Cond.fieldLink RX8 31 RX8 "ledger" "LEffectMachine$Ledger;" ∈ zTbl := zmem 281 (by decide +kernel) (by decide +kernel)
theorem zf_RX11_142 : Cond.fieldLink RX11 142 RX8 "ledger" "LEffectMachine$Ledger;" ∈ zTbl := zmem 282 (by decide +kernel) (by decide +kernel)
theorem zf_RX8_35 : Cond.fieldLink RX8 35 RX8 "values" "[I" ∈ zTbl := zmem 283 (by decide +kernel) (by decide +kernel)
theorem zf_RX11_172 : Cond.fieldLink RX11 172 RX8 "values" "[I" ∈ zTbl := zmem 284 (by decide +kernel) (by decide +kernel)
theorem zf_RX8_80 : Cond.fieldLink RX8 80 RX8 "traced" "I" ∈ zTbl := zmem 285 (by decide +kernel) (by decide +kernel)
theorem zf_RX11_135 : Cond.fieldLink RX11 135 RX8 "traced" "I" ∈ zTbl := zmem 286 (by decide +kernel) (by decide +kernel)
theorem zf_RX8_39 : Cond.fieldLink RX8 39 RX8 "performs" "[I" ∈ zTbl := zmem 287 (by decide +kernel) (by decide +kernel)
theorem zf_RX11_175 : Cond.fieldLink RX11 175 RX8 "performs" "[I" ∈ zTbl := zmem 288 (by decide +kernel) (by decide +kernel)
theorem zf_RX8_42 : Cond.fieldLink RX8 42 RX8 "search" "LEffectMachine$PendingSearch;" ∈ zTbl := zmem 289 (by decide +kernel) (by decide +kernel)
theorem zf_RX11_9 : Cond.fieldLink RX11 9 RX11 "text" "[I" ∈ zTbl := zmem 320 (by decide +kernel) (by decide +kernel)
theorem zf_RX11_13 : Cond.fieldLink RX11 13 RX11 "length" "I" ∈ zTbl := zmem 321 (by decide +kernel) (by decide +kernel)
theorem zf_RX11_20 : Cond.fieldLink RX11 20 RX11 "reader" "LEffectMachine$Reader;" ∈ zTbl := zmem 322 (by decide +kernel) (by decide +kernel)
theorem zf_RX11_27 : Cond.fieldLink RX11 27 RX11 "lister" "LEffectMachine$Lister;" ∈ zTbl := zmem 323 (by decide +kernel) (by decide +kernel)
theorem zf_RX11_34 : Cond.fieldLink RX11 34 RX11 "search" "LEffectMachine$PendingSearch;" ∈ zTbl := zmem 324 (by decide +kernel) (by decide +kernel)
theorem zf_RX11_43 : Cond.fieldLink RX11 43 RX11 "now" "LEffectMachine$Run;" ∈ zTbl := zmem 325 (by decide +kernel) (by decide +kernel)
theorem zf_RX11_47 : Cond.fieldLink RX11 47 RX11 "images" "[LEffectMachine$Run;" ∈ zTbl := zmem 326 (by decide +kernel) (by decide +kernel)
theorem zl_RL_13 : Cond.methodLink RL 13 yX11_write ∈ zTbl := zmem 342 (by decide +kernel) (by decide +kernel)
theorem zin_X11_write : Cond.instanceMethod yX11_write ∈ zTbl := zmem 343 (by decide +kernel) (by decide +kernel)
theorem zsel_X11_write : Cond.selects RX11 yX11_write yX11_write ∈ zTbl := zmem 344 (by decide +kernel) (by decide +kernel)
theorem zcd_X11_write : Cond.code mX11_write.1 mX11_write.2.1 mX11_write.2.2.1 mX11_write.2.2.2 ∈ zTbl := zmem 345 (by decide +kernel) (by decide +kernel)
theorem zl_RL_18 : Cond.methodLink RL 18 yX11_wipe ∈ zTbl := zmem 346 (by decide +kernel) (by decide +kernel)
theorem zin_X11_wipe : Cond.instanceMethod yX11_wipe ∈ zTbl := zmem 347 (by decide +kernel) (by decide +kernel)
theorem zsel_X11_wipe : Cond.selects RX11 yX11_wipe yX11_wipe ∈ zTbl := zmem 348 (by decide +kernel) (by decide +kernel)
theorem zcd_X11_wipe : Cond.code mX11_wipe.1 mX11_wipe.2.1 mX11_wipe.2.2.1 mX11_wipe.2.2.2 ∈ zTbl := zmem 349 (by decide +kernel) (by decide +kernel)
theorem zl_RL_23 : Cond.methodLink RL 23 yX11_fault ∈ zTbl := zmem 350 (by decide +kernel) (by decide +kernel)
theorem zin_X11_fault : Cond.instanceMethod yX11_fault ∈ zTbl := zmem 351 (by decide +kernel) (by decide +kernel)
theorem zsel_X11_fault : Cond.selects RX11 yX11_fault yX11_fault ∈ zTbl := zmem 352 (by decide +kernel) (by decide +kernel)
theorem zcd_X11_fault : Cond.code mX11_fault.1 mX11_fault.2.1 mX11_fault.2.2.1 mX11_fault.2.2.2 ∈ zTbl := zmem 353 (by decide +kernel) (by decide +kernel)
theorem zl_RX11_51 : Cond.methodLink RX11 51 yX6_read ∈ zTbl := zmem 354 (by decide +kernel) (by decide +kernel)
theorem zin_X6_read : Cond.instanceMethod yX6_read ∈ zTbl := zmem 355 (by decide +kernel) (by decide +kernel)
theorem zsel_X6_read : Cond.selects RX6 yX6_read yX6_read ∈ zTbl := zmem 356 (by decide +kernel) (by decide +kernel)
theorem zcd_X6_read : Cond.code mX6_read.1 mX6_read.2.1 mX6_read.2.2.1 mX6_read.2.2.2 ∈ zTbl := zmem 357 (by decide +kernel) (by decide +kernel)
theorem zk_RX6_46 : Cond.constant RX6 46 8388608 ∈ zTbl := zmem 358 (by decide +kernel) (by decide +kernel)
theorem zst_X11_isDigit : Cond.static yX11_isDigit ∈ zTbl := zmem 360 (by decide +kernel) (by decide +kernel)
theorem zcd_X11_isDigit : Cond.code mX11_isDigit.1 mX11_isDigit.2.1 mX11_isDigit.2.2.1 mX11_isDigit.2.2.2 ∈ zTbl := zmem 361 (by decide +kernel) (by decide +kernel)
theorem zl_RX6_51 : Cond.methodLink RX6 51 yX6_addDigit ∈ zTbl := zmem 362 (by decide +kernel) (by decide +kernel)
theorem zin_X6_addDigit : Cond.instanceMethod yX6_addDigit ∈ zTbl := zmem 364 (by decide +kernel) (by decide +kernel)
theorem zcd_X6_addDigit : Cond.code mX6_addDigit.1 mX6_addDigit.2.1 mX6_addDigit.2.2.1 mX6_addDigit.2.2.2 ∈ zTbl := zmem 365 (by decide +kernel) (by decide +kernel)
theorem zl_RX6_55 : Cond.methodLink RX6 55 yX6_accept ∈ zTbl := zmem 366 (by decide +kernel) (by decide +kernel)
theorem zin_X6_accept : Cond.instanceMethod yX6_accept ∈ zTbl := zmem 368 (by decide +kernel) (by decide +kernel)
theorem zcd_X6_accept : Cond.code mX6_accept.1 mX6_accept.2.1 mX6_accept.2.2.1 mX6_accept.2.2.2 ∈ zTbl := zmem 369 (by decide +kernel) (by decide +kernel)
theorem zl_RX6_66 : Cond.methodLink RX6 66 yX6_acceptExpression ∈ zTbl := zmem 370 (by decide +kernel) (by decide +kernel)
theorem zin_X6_acceptExpression : Cond.instanceMethod yX6_acceptExpression ∈ zTbl := zmem 372 (by decide +kernel) (by decide +kernel)
theorem zcd_X6_acceptExpression : Cond.code mX6_acceptExpression.1 mX6_acceptExpression.2.1 mX6_acceptExpression.2.2.1 mX6_acceptExpression.2.2.2 ∈ zTbl := zmem 373 (by decide +kernel) (by decide +kernel)
theorem zl_RX6_79 : Cond.methodLink RX6 79 yX6_addLeaf ∈ zTbl := zmem 374 (by decide +kernel) (by decide +kernel)
theorem zin_X6_addLeaf : Cond.instanceMethod yX6_addLeaf ∈ zTbl := zmem 376 (by decide +kernel) (by decide +kernel)
theorem zcd_X6_addLeaf : Cond.code mX6_addLeaf.1 mX6_addLeaf.2.1 mX6_addLeaf.2.2.1 mX6_addLeaf.2.2.2 ∈ zTbl := zmem 377 (by decide +kernel) (by decide +kernel)
theorem zl_RX6_89 : Cond.methodLink RX6 89 yX6_addExpression ∈ zTbl := zmem 378 (by decide +kernel) (by decide +kernel)
theorem zin_X6_addExpression : Cond.instanceMethod yX6_addExpression ∈ zTbl := zmem 380 (by decide +kernel) (by decide +kernel)
theorem zcd_X6_addExpression : Cond.code mX6_addExpression.1 mX6_addExpression.2.1 mX6_addExpression.2.2.1 mX6_addExpression.2.2.2 ∈ zTbl := zmem 381 (by decide +kernel) (by decide +kernel)
theorem zi_RX1 : Cond.instantiable RX1 10 ∈ zTbl := zmem 382 (by decide +kernel) (by decide +kernel)
theorem zl_RX6_100 : Cond.methodLink RX6 100 yX1_init ∈ zTbl := zmem 383 (by decide +kernel) (by decide +kernel)
theorem zin_X1_init : Cond.instanceMethod yX1_init ∈ zTbl := zmem 384 (by decide +kernel) (by decide +kernel)
theorem zcd_X1_init : Cond.code mX1_init.1 mX1_init.2.1 mX1_init.2.2.1 mX1_init.2.2.2 ∈ zTbl := zmem 385 (by decide +kernel) (by decide +kernel)
theorem zl_RX1_3 : Cond.methodLink RX1 3 objectInit ∈ zTbl := zmem 386 (by decide +kernel) (by decide +kernel)
theorem zc_RX1_10 : Cond.classLink RX1 10 RX1 ∈ zTbl := zmem 387 (by decide +kernel) (by decide +kernel)
theorem zf_RX1_9 : Cond.fieldLink RX1 9 RX1 "sign" "I" ∈ zTbl := zmem 388 (by decide +kernel) (by decide +kernel)
theorem zf_RX4_84 : Cond.fieldLink RX4 84 RX1 "sign" "I" ∈ zTbl := zmem 389 (by decide +kernel) (by decide +kernel)
theorem zf_RX6_118 : Cond.fieldLink RX6 118 RX1 "sign" "I" ∈ zTbl := zmem 390 (by decide +kernel) (by decide +kernel)
theorem zf_RX8_173 : Cond.fieldLink RX8 173 RX1 "sign" "I" ∈ zTbl := zmem 391 (by decide +kernel) (by decide +kernel)
theorem zf_RX6_63 : Cond.fieldLink RX6 63 RX1 "mark" "I" ∈ zTbl := zmem 392 (by decide +kernel) (by decide +kernel)
theorem zf_RX8_108 : Cond.fieldLink RX8 108 RX1 "mark" "I" ∈ zTbl := zmem 393 (by decide +kernel) (by decide +kernel)
theorem zf_RX4_87 : Cond.fieldLink RX4 87 RX1 "mark" "I" ∈ zTbl := zmem 394 (by decide +kernel) (by decide +kernel)
theorem zf_RX10_37 : Cond.fieldLink RX10 37 RX1 "mark" "I" ∈ zTbl := zmem 395 (by decide +kernel) (by decide +kernel)
theorem zf_RX1_58 : Cond.fieldLink RX1 58 RX1 "mark" "I" ∈ zTbl := zmem 396 (by decide +kernel) (by decide +kernel)
theorem zf_RX4_73 : Cond.fieldLink RX4 73 RX1 "first" "LEffectMachine$Expr;" ∈ zTbl := zmem 397 (by decide +kernel) (by decide +kernel)
theorem zf_RX6_106 : Cond.fieldLink RX6 106 RX1 "first" "LEffectMachine$Expr;" ∈ zTbl := zmem 398 (by decide +kernel) (by decide +kernel)
theorem zf_RX1_41 : Cond.fieldLink RX1 41 RX1 "first" "LEffectMachine$Expr;" ∈ zTbl := zmem 399 (by decide +kernel) (by decide +kernel)
theorem zf_RX8_196 : Cond.fieldLink RX8 196 RX1 "first" "LEffectMachine$Expr;" ∈ zTbl := zmem 400 (by decide +kernel) (by decide +kernel)
theorem zf_RX4_70 : Cond.fieldLink RX4 70 RX1 "second" "LEffectMachine$Expr;" ∈ zTbl := zmem 401 (by decide +kernel) (by decide +kernel)
theorem zf_RX6_112 : Cond.fieldLink RX6 112 RX1 "second" "LEffectMachine$Expr;" ∈ zTbl := zmem 402 (by decide +kernel) (by decide +kernel)
theorem zf_RX1_49 : Cond.fieldLink RX1 49 RX1 "second" "LEffectMachine$Expr;" ∈ zTbl := zmem 403 (by decide +kernel) (by decide +kernel)
theorem zf_RX8_218 : Cond.fieldLink RX8 218 RX1 "second" "LEffectMachine$Expr;" ∈ zTbl := zmem 404 (by decide +kernel) (by decide +kernel)
theorem zf_RX4_63 : Cond.fieldLink RX4 63 RX1 "third" "LEffectMachine$Expr;" ∈ zTbl := zmem 405 (by decide +kernel) (by decide +kernel)
theorem zf_RX6_115 : Cond.fieldLink RX6 115 RX1 "third" "LEffectMachine$Expr;" ∈ zTbl := zmem 406 (by decide +kernel) (by decide +kernel)
theorem zf_RX1_52 : Cond.fieldLink RX1 52 RX1 "third" "LEffectMachine$Expr;" ∈ zTbl := zmem 407 (by decide +kernel) (by decide +kernel)
theorem zf_RX8_225 : Cond.fieldLink RX8 225 RX1 "third" "LEffectMachine$Expr;" ∈ zTbl := zmem 408 (by decide +kernel) (by decide +kernel)
theorem zf_RX1_15 : Cond.fieldLink RX1 15 RX1 "clauses" "[LEffectMachine$Expr;" ∈ zTbl := zmem 409 (by decide +kernel) (by decide +kernel)
theorem zf_RX4_57 : Cond.fieldLink RX4 57 RX1 "clauses" "[LEffectMachine$Expr;" ∈ zTbl := zmem 410 (by decide +kernel) (by decide +kernel)
theorem zf_RX6_109 : Cond.fieldLink RX6 109 RX1 "clauses" "[LEffectMachine$Expr;" ∈ zTbl := zmem 411 (by decide +kernel) (by decide +kernel)
theorem zf_RX1_19 : Cond.fieldLink RX1 19 RX1 "variables" "[I" ∈ zTbl := zmem 412 (by decide +kernel) (by decide +kernel)
theorem zf_RX6_125 : Cond.fieldLink RX6 125 RX1 "variables" "[I" ∈ zTbl := zmem 413 (by decide +kernel) (by decide +kernel)
theorem zf_RX6_96 : Cond.fieldLink RX6 96 RX1 "owner" "LEffectMachine$Expr;" ∈ zTbl := zmem 414 (by decide +kernel) (by decide +kernel)
theorem zf_RX1_73 : Cond.fieldLink RX1 73 RX1 "owner" "LEffectMachine$Expr;" ∈ zTbl := zmem 415 (by decide +kernel) (by decide +kernel)
theorem zf_RX0_21 : Cond.fieldLink RX0 21 RX1 "leaves" "I" ∈ zTbl := zmem 416 (by decide +kernel) (by decide +kernel)
theorem zf_RX1_27 : Cond.fieldLink RX1 27 RX1 "leaves" "I" ∈ zTbl := zmem 417 (by decide +kernel) (by decide +kernel)
theorem zf_RX11_100 : Cond.fieldLink RX11 100 RX1 "leaves" "I" ∈ zTbl := zmem 418 (by decide +kernel) (by decide +kernel)
theorem zf_RX0_27 : Cond.fieldLink RX0 27 RX1 "late" "I" ∈ zTbl := zmem 419 (by decide +kernel) (by decide +kernel)
theorem zf_RX1_30 : Cond.fieldLink RX1 30 RX1 "late" "I" ∈ zTbl := zmem 420 (by decide +kernel) (by decide +kernel)
theorem zl_RX6_102 : Cond.methodLink RX6 102 yX6_attach ∈ zTbl := zmem 442 (by decide +kernel) (by decide +kernel)
theorem zin_X6_attach : Cond.instanceMethod yX6_attach ∈ zTbl := zmem 444 (by decide +kernel) (by decide +kernel)
theorem zcd_X6_attach : Cond.code mX6_attach.1 mX6_attach.2.1 mX6_attach.2.2.1 mX6_attach.2.2.2 ∈ zTbl := zmem 445 (by decide +kernel) (by decide +kernel)
theorem zl_RX6_93 : Cond.methodLink RX6 93 yX6_endPart ∈ zTbl := zmem 446 (by decide +kernel) (by decide +kernel)
theorem zin_X6_endPart : Cond.instanceMethod yX6_endPart ∈ zTbl := zmem 448 (by decide +kernel) (by decide +kernel)
theorem zcd_X6_endPart : Cond.code mX6_endPart.1 mX6_endPart.2.1 mX6_endPart.2.2.1 mX6_endPart.2.2.2 ∈ zTbl := zmem 449 (by decide +kernel) (by decide +kernel)
theorem zl_RX6_121 : Cond.methodLink RX6 121 yX1_parts ∈ zTbl := zmem 450 (by decide +kernel) (by decide +kernel)
theorem zin_X1_parts : Cond.instanceMethod yX1_parts ∈ zTbl := zmem 451 (by decide +kernel) (by decide +kernel)
theorem zsel_X1_parts : Cond.selects RX1 yX1_parts yX1_parts ∈ zTbl := zmem 452 (by decide +kernel) (by decide +kernel)
theorem zcd_X1_parts : Cond.code mX1_parts.1 mX1_parts.2.1 mX1_parts.2.2.1 mX1_parts.2.2.2 ∈ zTbl := zmem 453 (by decide +kernel) (by decide +kernel)
theorem zst_X11_isLetter : Cond.static yX11_isLetter ∈ zTbl := zmem 455 (by decide +kernel) (by decide +kernel)
theorem zcd_X11_isLetter : Cond.code mX11_isLetter.1 mX11_isLetter.2.1 mX11_isLetter.2.2.1 mX11_isLetter.2.2.2 ∈ zTbl := zmem 456 (by decide +kernel) (by decide +kernel)
theorem zl_RX6_86 : Cond.methodLink RX6 86 yX6_beginExpression ∈ zTbl := zmem 457 (by decide +kernel) (by decide +kernel)
theorem zin_X6_beginExpression : Cond.instanceMethod yX6_beginExpression ∈ zTbl := zmem 459 (by decide +kernel) (by decide +kernel)
theorem zcd_X6_beginExpression : Cond.code mX6_beginExpression.1 mX6_beginExpression.2.1 mX6_beginExpression.2.2.1 mX6_beginExpression.2.2.2 ∈ zTbl := zmem 460 (by decide +kernel) (by decide +kernel)
theorem zl_RX6_69 : Cond.methodLink RX6 69 yX6_acceptVariable ∈ zTbl := zmem 461 (by decide +kernel) (by decide +kernel)
theorem zin_X6_acceptVariable : Cond.instanceMethod yX6_acceptVariable ∈ zTbl := zmem 463 (by decide +kernel) (by decide +kernel)
theorem zcd_X6_acceptVariable : Cond.code mX6_acceptVariable.1 mX6_acceptVariable.2.1 mX6_acceptVariable.2.2.1 mX6_acceptVariable.2.2.2 ∈ zTbl := zmem 464 (by decide +kernel) (by decide +kernel)
theorem zl_RX6_72 : Cond.methodLink RX6 72 yX6_acceptMark ∈ zTbl := zmem 465 (by decide +kernel) (by decide +kernel)
theorem zin_X6_acceptMark : Cond.instanceMethod yX6_acceptMark ∈ zTbl := zmem 467 (by decide +kernel) (by decide +kernel)
theorem zcd_X6_acceptMark : Cond.code mX6_acceptMark.1 mX6_acceptMark.2.1 mX6_acceptMark.2.2.1 mX6_acceptMark.2.2.2 ∈ zTbl := zmem 468 (by decide +kernel) (by decide +kernel)
theorem zl_RX6_76 : Cond.methodLink RX6 76 yX6_acceptClause ∈ zTbl := zmem 469 (by decide +kernel) (by decide +kernel)
theorem zin_X6_acceptClause : Cond.instanceMethod yX6_acceptClause ∈ zTbl := zmem 471 (by decide +kernel) (by decide +kernel)
theorem zcd_X6_acceptClause : Cond.code mX6_acceptClause.1 mX6_acceptClause.2.1 mX6_acceptClause.2.2.1 mX6_acceptClause.2.2.2 ∈ zTbl := zmem 472 (by decide +kernel) (by decide +kernel)
theorem zst_X11_isOperation : Cond.static yX11_isOperation ∈ zTbl := zmem 474 (by decide +kernel) (by decide +kernel)
theorem zcd_X11_isOperation : Cond.code mX11_isOperation.1 mX11_isOperation.2.1 mX11_isOperation.2.2.1 mX11_isOperation.2.2.2 ∈ zTbl := zmem 475 (by decide +kernel) (by decide +kernel)
theorem zl_RX6_131 : Cond.methodLink RX6 131 yX1_clause ∈ zTbl := zmem 476 (by decide +kernel) (by decide +kernel)
theorem zin_X1_clause : Cond.instanceMethod yX1_clause ∈ zTbl := zmem 477 (by decide +kernel) (by decide +kernel)
theorem zsel_X1_clause : Cond.selects RX1 yX1_clause yX1_clause ∈ zTbl := zmem 478 (by decide +kernel) (by decide +kernel)
theorem zcd_X1_clause : Cond.code mX1_clause.1 mX1_clause.2.1 mX1_clause.2.2.1 mX1_clause.2.2.2 ∈ zTbl := zmem 479 (by decide +kernel) (by decide +kernel)
theorem zl_RL_27 : Cond.methodLink RL 27 yX11_load ∈ zTbl := zmem 480 (by decide +kernel) (by decide +kernel)
theorem zin_X11_load : Cond.instanceMethod yX11_load ∈ zTbl := zmem 481 (by decide +kernel) (by decide +kernel)
theorem zsel_X11_load : Cond.selects RX11 yX11_load yX11_load ∈ zTbl := zmem 482 (by decide +kernel) (by decide +kernel)
theorem zcd_X11_load : Cond.code mX11_load.1 mX11_load.2.1 mX11_load.2.2.1 mX11_load.2.2.2 ∈ zTbl := zmem 483 (by decide +kernel) (by decide +kernel)
theorem zl_RX11_55 : Cond.methodLink RX11 55 yX6_body ∈ zTbl := zmem 484 (by decide +kernel) (by decide +kernel)
theorem zin_X6_body : Cond.instanceMethod yX6_body ∈ zTbl := zmem 485 (by decide +kernel) (by decide +kernel)
theorem zsel_X6_body : Cond.selects RX6 yX6_body yX6_body ∈ zTbl := zmem 486 (by decide +kernel) (by decide +kernel)
theorem zcd_X6_body : Cond.code mX6_body.1 mX6_body.2.1 mX6_body.2.2.1 mX6_body.2.2.2 ∈ zTbl := zmem 487 (by decide +kernel) (by decide +kernel)
theorem zc_RX6_58 : Cond.classLink RX6 58 RX0 ∈ zTbl := zmem 488 (by decide +kernel) (by decide +kernel)
theorem zi_RX0 : Cond.instantiable RX0 3 ∈ zTbl := zmem 489 (by decide +kernel) (by decide +kernel)
theorem zl_RX6_60 : Cond.methodLink RX6 60 yX0_init ∈ zTbl := zmem 490 (by decide +kernel) (by decide +kernel)
theorem zin_X0_init : Cond.instanceMethod yX0_init ∈ zTbl := zmem 491 (by decide +kernel) (by decide +kernel)
theorem zcd_X0_init : Cond.code mX0_init.1 mX0_init.2.1 mX0_init.2.2.1 mX0_init.2.2.2 ∈ zTbl := zmem 492 (by decide +kernel) (by decide +kernel)
theorem zl_RX0_1 : Cond.methodLink RX0 1 objectInit ∈ zTbl := zmem 493 (by decide +kernel) (by decide +kernel)
theorem zf_RX0_13 : Cond.fieldLink RX0 13 RX0 "root" "LEffectMachine$Expr;" ∈ zTbl := zmem 494 (by decide +kernel) (by decide +kernel)
theorem zf_RX8_83 : Cond.fieldLink RX8 83 RX0 "root" "LEffectMachine$Expr;" ∈ zTbl := zmem 495 (by decide +kernel) (by decide +kernel)
theorem zf_RX11_59 : Cond.fieldLink RX11 59 RX0 "root" "LEffectMachine$Expr;" ∈ zTbl := zmem 496 (by decide +kernel) (by decide +kernel)
theorem zf_RX1_68 : Cond.fieldLink RX1 68 RX0 "root" "LEffectMachine$Expr;" ∈ zTbl := zmem 497 (by decide +kernel) (by decide +kernel)
theorem zf_RX0_17 : Cond.fieldLink RX0 17 RX0 "all" "[LEffectMachine$Expr;" ∈ zTbl := zmem 498 (by decide +kernel) (by decide +kernel)
theorem zf_RX11_79 : Cond.fieldLink RX11 79 RX0 "all" "[LEffectMachine$Expr;" ∈ zTbl := zmem 499 (by decide +kernel) (by decide +kernel)
theorem zf_RX0_7 : Cond.fieldLink RX0 7 RX0 "listed" "[I" ∈ zTbl := zmem 500 (by decide +kernel) (by decide +kernel)
theorem zf_RX11_69 : Cond.fieldLink RX11 69 RX0 "listed" "[I" ∈ zTbl := zmem 501 (by decide +kernel) (by decide +kernel)
theorem zl_RX11_65 : Cond.methodLink RX11 65 yX4_list ∈ zTbl := zmem 509 (by decide +kernel) (by decide +kernel)
theorem zin_X4_list : Cond.instanceMethod yX4_list ∈ zTbl := zmem 510 (by decide +kernel) (by decide +kernel)
theorem zsel_X4_list : Cond.selects RX4 yX4_list yX4_list ∈ zTbl := zmem 511 (by decide +kernel) (by decide +kernel)
theorem zcd_X4_list : Cond.code mX4_list.1 mX4_list.2.1 mX4_list.2.2.1 mX4_list.2.2.2 ∈ zTbl := zmem 512 (by decide +kernel) (by decide +kernel)
theorem zl_RX4_35 : Cond.methodLink RX4 35 yX4_plan ∈ zTbl := zmem 513 (by decide +kernel) (by decide +kernel)
theorem zin_X4_plan : Cond.instanceMethod yX4_plan ∈ zTbl := zmem 515 (by decide +kernel) (by decide +kernel)
theorem zcd_X4_plan : Cond.code mX4_plan.1 mX4_plan.2.1 mX4_plan.2.2.1 mX4_plan.2.2.2 ∈ zTbl := zmem 516 (by decide +kernel) (by decide +kernel)
theorem zk_RX4_39 : Cond.constant RX4 39 1000000 ∈ zTbl := zmem 517 (by decide +kernel) (by decide +kernel)
theorem zl_RX4_40 : Cond.methodLink RX4 40 yX4_put ∈ zTbl := zmem 518 (by decide +kernel) (by decide +kernel)
theorem zin_X4_put : Cond.instanceMethod yX4_put ∈ zTbl := zmem 520 (by decide +kernel) (by decide +kernel)
theorem zcd_X4_put : Cond.code mX4_put.1 mX4_put.2.1 mX4_put.2.2.1 mX4_put.2.2.2 ∈ zTbl := zmem 521 (by decide +kernel) (by decide +kernel)
theorem zl_RX4_44 : Cond.methodLink RX4 44 yX4_putHead ∈ zTbl := zmem 522 (by decide +kernel) (by decide +kernel)
theorem zin_X4_putHead : Cond.instanceMethod yX4_putHead ∈ zTbl := zmem 524 (by decide +kernel) (by decide +kernel)
theorem zcd_X4_putHead : Cond.code mX4_putHead.1 mX4_putHead.2.1 mX4_putHead.2.2.1 mX4_putHead.2.2.2 ∈ zTbl := zmem 525 (by decide +kernel) (by decide +kernel)
theorem zl_RX4_90 : Cond.methodLink RX4 90 yX4_putNumber ∈ zTbl := zmem 526 (by decide +kernel) (by decide +kernel)
theorem zin_X4_putNumber : Cond.instanceMethod yX4_putNumber ∈ zTbl := zmem 528 (by decide +kernel) (by decide +kernel)
theorem zcd_X4_putNumber : Cond.code mX4_putNumber.1 mX4_putNumber.2.1 mX4_putNumber.2.2.1 mX4_putNumber.2.2.2 ∈ zTbl := zmem 529 (by decide +kernel) (by decide +kernel)
theorem zl_RX4_48 : Cond.methodLink RX4 48 yX4_planParts ∈ zTbl := zmem 530 (by decide +kernel) (by decide +kernel)
theorem zin_X4_planParts : Cond.instanceMethod yX4_planParts ∈ zTbl := zmem 532 (by decide +kernel) (by decide +kernel)
theorem zcd_X4_planParts : Cond.code mX4_planParts.1 mX4_planParts.2.1 mX4_planParts.2.2.1 mX4_planParts.2.2.2 ∈ zTbl := zmem 533 (by decide +kernel) (by decide +kernel)
theorem zl_RX4_60 : Cond.methodLink RX4 60 yX4_planClause ∈ zTbl := zmem 534 (by decide +kernel) (by decide +kernel)
theorem zin_X4_planClause : Cond.instanceMethod yX4_planClause ∈ zTbl := zmem 536 (by decide +kernel) (by decide +kernel)
theorem zcd_X4_planClause : Cond.code mX4_planClause.1 mX4_planClause.2.1 mX4_planClause.2.2.1 mX4_planClause.2.2.2 ∈ zTbl := zmem 537 (by decide +kernel) (by decide +kernel)
theorem zl_RX4_76 : Cond.methodLink RX4 76 yX1_clause ∈ zTbl := zmem 538 (by decide +kernel) (by decide +kernel)
theorem zl_RX4_80 : Cond.methodLink RX4 80 yX1_clauseVariable ∈ zTbl := zmem 539 (by decide +kernel) (by decide +kernel)
theorem zin_X1_clauseVariable : Cond.instanceMethod yX1_clauseVariable ∈ zTbl := zmem 540 (by decide +kernel) (by decide +kernel)
theorem zsel_X1_clauseVariable : Cond.selects RX1 yX1_clauseVariable yX1_clauseVariable ∈ zTbl := zmem 541 (by decide +kernel) (by decide +kernel)
theorem zcd_X1_clauseVariable : Cond.code mX1_clauseVariable.1 mX1_clauseVariable.2.1 mX1_clauseVariable.2.2.1 mX1_clauseVariable.2.2.2 ∈ zTbl := zmem 542 (by decide +kernel) (by decide +kernel)
theorem zl_RX4_67 : Cond.methodLink RX4 67 yX4_planPart ∈ zTbl := zmem 543 (by decide +kernel) (by decide +kernel)
theorem zin_X4_planPart : Cond.instanceMethod yX4_planPart ∈ zTbl := zmem 545 (by decide +kernel) (by decide +kernel)
theorem zcd_X4_planPart : Cond.code mX4_planPart.1 mX4_planPart.2.1 mX4_planPart.2.2.1 mX4_planPart.2.2.2 ∈ zTbl := zmem 546 (by decide +kernel) (by decide +kernel)
theorem zl_RX4_51 : Cond.methodLink RX4 51 yJ7_copyOf_59c91 ∈ zTbl := zmem 547 (by decide +kernel) (by decide +kernel)
theorem zst_J7_copyOf_59c91 : Cond.static yJ7_copyOf_59c91 ∈ zTbl := zmem 548 (by decide +kernel) (by decide +kernel)
theorem zcd_J7_copyOf_59c91 : Cond.code mJ7_copyOf_59c91.1 mJ7_copyOf_59c91.2.1 mJ7_copyOf_59c91.2.2.1 mJ7_copyOf_59c91.2.2.2 ∈ zTbl := zmem 549 (by decide +kernel) (by decide +kernel)
theorem zl_RJ7_316 : Cond.methodLink RJ7 316 ⟨"[I", "clone", "()Ljava/lang/Object;"⟩ ∈ zTbl := zmem 550 (by decide +kernel) (by decide +kernel)
theorem zc_RJ7_317 : Cond.classLink RJ7 317 "[I" ∈ zTbl := zmem 556 (by decide +kernel) (by decide +kernel)
theorem zl_RJ7_304 : Cond.methodLink RJ7 304 yJ9_min_7cf53 ∈ zTbl := zmem 557 (by decide +kernel) (by decide +kernel)
theorem zst_J9_min_7cf53 : Cond.static yJ9_min_7cf53 ∈ zTbl := zmem 558 (by decide +kernel) (by decide +kernel)
theorem zcd_J9_min_7cf53 : Cond.code mJ9_min_7cf53.1 mJ9_min_7cf53.2.1 mJ9_min_7cf53.2.2.1 mJ9_min_7cf53.2.2.2 ∈ zTbl := zmem 559 (by decide +kernel) (by decide +kernel)
theorem zl_RJ7_150 : Cond.methodLink RJ7 150 arraycopyName ∈ zTbl := zmem 560 (by decide +kernel) (by decide +kernel)
theorem zst_arraycopy : Cond.static arraycopyName ∈ zTbl := zmem 561 (by decide +kernel) (by decide +kernel)
theorem znt_arraycopy : Cond.native arraycopyName ∈ zTbl := zmem 562 (by decide +kernel) (by decide +kernel)
theorem zl_RX11_76 : Cond.methodLink RX11 76 yX8_begin ∈ zTbl := zmem 563 (by decide +kernel) (by decide +kernel)
theorem zin_X8_begin : Cond.instanceMethod yX8_begin ∈ zTbl := zmem 564 (by decide +kernel) (by decide +kernel)
theorem zsel_X8_begin : Cond.selects RX8 yX8_begin yX8_begin ∈ zTbl := zmem 565 (by decide +kernel) (by decide +kernel)
theorem zcd_X8_begin : Cond.code mX8_begin.1 mX8_begin.2.1 mX8_begin.2.2.1 mX8_begin.2.2.2 ∈ zTbl := zmem 566 (by decide +kernel) (by decide +kernel)
theorem zl_RX8_86 : Cond.methodLink RX8 86 yX8_goTo ∈ zTbl := zmem 567 (by decide +kernel) (by decide +kernel)
theorem zin_X8_goTo : Cond.instanceMethod yX8_goTo ∈ zTbl := zmem 569 (by decide +kernel) (by decide +kernel)
theorem zcd_X8_goTo : Cond.code mX8_goTo.1 mX8_goTo.2.1 mX8_goTo.2.2.1 mX8_goTo.2.2.2 ∈ zTbl := zmem 570 (by decide +kernel) (by decide +kernel)
theorem zl_RX8_90 : Cond.methodLink RX8 90 yX10_clear ∈ zTbl := zmem 571 (by decide +kernel) (by decide +kernel)
theorem zin_X10_clear : Cond.instanceMethod yX10_clear ∈ zTbl := zmem 572 (by decide +kernel) (by decide +kernel)
theorem zsel_X10_clear : Cond.selects RX10 yX10_clear yX10_clear ∈ zTbl := zmem 573 (by decide +kernel) (by decide +kernel)
theorem zcd_X10_clear : Cond.code mX10_clear.1 mX10_clear.2.1 mX10_clear.2.2.1 mX10_clear.2.2.2 ∈ zTbl := zmem 574 (by decide +kernel) (by decide +kernel)
theorem zl_RX8_93 : Cond.methodLink RX8 93 yX3_clear ∈ zTbl := zmem 575 (by decide +kernel) (by decide +kernel)
theorem zin_X3_clear : Cond.instanceMethod yX3_clear ∈ zTbl := zmem 576 (by decide +kernel) (by decide +kernel)
theorem zsel_X3_clear : Cond.selects RX3 yX3_clear yX3_clear ∈ zTbl := zmem 577 (by decide +kernel) (by decide +kernel)
theorem zcd_X3_clear : Cond.code mX3_clear.1 mX3_clear.2.1 mX3_clear.2.2.1 mX3_clear.2.2.2 ∈ zTbl := zmem 578 (by decide +kernel) (by decide +kernel)
theorem zl_RX8_94 : Cond.methodLink RX8 94 yJ7_fill_53178 ∈ zTbl := zmem 579 (by decide +kernel) (by decide +kernel)
theorem zst_J7_fill_53178 : Cond.static yJ7_fill_53178 ∈ zTbl := zmem 580 (by decide +kernel) (by decide +kernel)
theorem zcd_J7_fill_53178 : Cond.code mJ7_fill_53178.1 mJ7_fill_53178.2.1 mJ7_fill_53178.2.2.1 mJ7_fill_53178.2.2.2 ∈ zTbl := zmem 581 (by decide +kernel) (by decide +kernel)
theorem zl_RL_31 : Cond.methodLink RL 31 yX11_define ∈ zTbl := zmem 582 (by decide +kernel) (by decide +kernel)
theorem zin_X11_define : Cond.instanceMethod yX11_define ∈ zTbl := zmem 583 (by decide +kernel) (by decide +kernel)
theorem zsel_X11_define : Cond.selects RX11 yX11_define yX11_define ∈ zTbl := zmem 584 (by decide +kernel) (by decide +kernel)
theorem zcd_X11_define : Cond.code mX11_define.1 mX11_define.2.1 mX11_define.2.2.1 mX11_define.2.2.2 ∈ zTbl := zmem 585 (by decide +kernel) (by decide +kernel)
theorem zl_RX11_83 : Cond.methodLink RX11 83 yX11_isProcedure ∈ zTbl := zmem 586 (by decide +kernel) (by decide +kernel)
theorem zst_X11_isProcedure : Cond.static yX11_isProcedure ∈ zTbl := zmem 587 (by decide +kernel) (by decide +kernel)
theorem zcd_X11_isProcedure : Cond.code mX11_isProcedure.1 mX11_isProcedure.2.1 mX11_isProcedure.2.2.1 mX11_isProcedure.2.2.2 ∈ zTbl := zmem 588 (by decide +kernel) (by decide +kernel)
theorem zl_RL_35 : Cond.methodLink RL 35 yX11_undefine ∈ zTbl := zmem 589 (by decide +kernel) (by decide +kernel)
theorem zin_X11_undefine : Cond.instanceMethod yX11_undefine ∈ zTbl := zmem 590 (by decide +kernel) (by decide +kernel)
theorem zsel_X11_undefine : Cond.selects RX11 yX11_undefine yX11_undefine ∈ zTbl := zmem 591 (by decide +kernel) (by decide +kernel)
theorem zcd_X11_undefine : Cond.code mX11_undefine.1 mX11_undefine.2.1 mX11_undefine.2.2.1 mX11_undefine.2.2.2 ∈ zTbl := zmem 592 (by decide +kernel) (by decide +kernel)
theorem zl_RL_39 : Cond.methodLink RL 39 yX11_restart ∈ zTbl := zmem 593 (by decide +kernel) (by decide +kernel)
theorem zin_X11_restart : Cond.instanceMethod yX11_restart ∈ zTbl := zmem 594 (by decide +kernel) (by decide +kernel)
theorem zsel_X11_restart : Cond.selects RX11 yX11_restart yX11_restart ∈ zTbl := zmem 595 (by decide +kernel) (by decide +kernel)
theorem zcd_X11_restart : Cond.code mX11_restart.1 mX11_restart.2.1 mX11_restart.2.2.1 mX11_restart.2.2.2 ∈ zTbl := zmem 596 (by decide +kernel) (by decide +kernel)
theorem zl_RL_43 : Cond.methodLink RL 43 yX11_listing ∈ zTbl := zmem 597 (by decide +kernel) (by decide +kernel)
theorem zin_X11_listing : Cond.instanceMethod yX11_listing ∈ zTbl := zmem 598 (by decide +kernel) (by decide +kernel)
theorem zsel_X11_listing : Cond.selects RX11 yX11_listing yX11_listing ∈ zTbl := zmem 599 (by decide +kernel) (by decide +kernel)
theorem zcd_X11_listing : Cond.code mX11_listing.1 mX11_listing.2.1 mX11_listing.2.2.1 mX11_listing.2.2.2 ∈ zTbl := zmem 600 (by decide +kernel) (by decide +kernel)
theorem zl_RL_47 : Cond.methodLink RL 47 yX11_may ∈ zTbl := zmem 601 (by decide +kernel) (by decide +kernel)
theorem zin_X11_may : Cond.instanceMethod yX11_may ∈ zTbl := zmem 602 (by decide +kernel) (by decide +kernel)
theorem zsel_X11_may : Cond.selects RX11 yX11_may yX11_may ∈ zTbl := zmem 603 (by decide +kernel) (by decide +kernel)
theorem zcd_X11_may : Cond.code mX11_may.1 mX11_may.2.1 mX11_may.2.2.1 mX11_may.2.2.2 ∈ zTbl := zmem 604 (by decide +kernel) (by decide +kernel)
theorem zl_RX11_94 : Cond.methodLink RX11 94 yX11_isOperation ∈ zTbl := zmem 605 (by decide +kernel) (by decide +kernel)
theorem zl_RX11_97 : Cond.methodLink RX11 97 yX8_gatherLeaves ∈ zTbl := zmem 606 (by decide +kernel) (by decide +kernel)
theorem zin_X8_gatherLeaves : Cond.instanceMethod yX8_gatherLeaves ∈ zTbl := zmem 607 (by decide +kernel) (by decide +kernel)
theorem zsel_X8_gatherLeaves : Cond.selects RX8 yX8_gatherLeaves yX8_gatherLeaves ∈ zTbl := zmem 608 (by decide +kernel) (by decide +kernel)
theorem zcd_X8_gatherLeaves : Cond.code mX8_gatherLeaves.1 mX8_gatherLeaves.2.1 mX8_gatherLeaves.2.2.1 mX8_gatherLeaves.2.2.2 ∈ zTbl := zmem 609 (by decide +kernel) (by decide +kernel)
theorem zl_RX8_132 : Cond.methodLink RX8 132 yX0_forgetLeaves ∈ zTbl := zmem 610 (by decide +kernel) (by decide +kernel)
theorem zin_X0_forgetLeaves : Cond.instanceMethod yX0_forgetLeaves ∈ zTbl := zmem 611 (by decide +kernel) (by decide +kernel)
theorem zsel_X0_forgetLeaves : Cond.selects RX0 yX0_forgetLeaves yX0_forgetLeaves ∈ zTbl := zmem 612 (by decide +kernel) (by decide +kernel)
theorem zcd_X0_forgetLeaves : Cond.code mX0_forgetLeaves.1 mX0_forgetLeaves.2.1 mX0_forgetLeaves.2.2.1 mX0_forgetLeaves.2.2.2 ∈ zTbl := zmem 613 (by decide +kernel) (by decide +kernel)
theorem zk_RX8_135 : Cond.constant RX8 135 1000000 ∈ zTbl := zmem 614 (by decide +kernel) (by decide +kernel)
theorem zl_RX8_136 : Cond.methodLink RX8 136 yX0_gatherRound ∈ zTbl := zmem 615 (by decide +kernel) (by decide +kernel)
theorem zin_X0_gatherRound : Cond.instanceMethod yX0_gatherRound ∈ zTbl := zmem 616 (by decide +kernel) (by decide +kernel)
theorem zsel_X0_gatherRound : Cond.selects RX0 yX0_gatherRound yX0_gatherRound ∈ zTbl := zmem 617 (by decide +kernel) (by decide +kernel)
theorem zcd_X0_gatherRound : Cond.code mX0_gatherRound.1 mX0_gatherRound.2.1 mX0_gatherRound.2.2.1 mX0_gatherRound.2.2.2 ∈ zTbl := zmem 618 (by decide +kernel) (by decide +kernel)
theorem zl_RX0_30 : Cond.methodLink RX0 30 yX1_gather ∈ zTbl := zmem 619 (by decide +kernel) (by decide +kernel)
theorem zin_X1_gather : Cond.instanceMethod yX1_gather ∈ zTbl := zmem 620 (by decide +kernel) (by decide +kernel)
theorem zsel_X1_gather : Cond.selects RX1 yX1_gather yX1_gather ∈ zTbl := zmem 621 (by decide +kernel) (by decide +kernel)
theorem zcd_X1_gather : Cond.code mX1_gather.1 mX1_gather.2.1 mX1_gather.2.2.1 mX1_gather.2.2.2 ∈ zTbl := zmem 622 (by decide +kernel) (by decide +kernel)
theorem zl_RX1_45 : Cond.methodLink RX1 45 yX1_leavesOf ∈ zTbl := zmem 623 (by decide +kernel) (by decide +kernel)
theorem zst_X1_leavesOf : Cond.static yX1_leavesOf ∈ zTbl := zmem 624 (by decide +kernel) (by decide +kernel)
theorem zcd_X1_leavesOf : Cond.code mX1_leavesOf.1 mX1_leavesOf.2.1 mX1_leavesOf.2.2.1 mX1_leavesOf.2.2.2 ∈ zTbl := zmem 625 (by decide +kernel) (by decide +kernel)
theorem zl_RX1_55 : Cond.methodLink RX1 55 yX1_lateOf ∈ zTbl := zmem 626 (by decide +kernel) (by decide +kernel)
theorem zst_X1_lateOf : Cond.static yX1_lateOf ∈ zTbl := zmem 627 (by decide +kernel) (by decide +kernel)
theorem zcd_X1_lateOf : Cond.code mX1_lateOf.1 mX1_lateOf.2.1 mX1_lateOf.2.2.1 mX1_lateOf.2.2.2 ∈ zTbl := zmem 628 (by decide +kernel) (by decide +kernel)
theorem zl_RX1_37 : Cond.methodLink RX1 37 yX1_pair ∈ zTbl := zmem 629 (by decide +kernel) (by decide +kernel)
theorem zst_X1_pair : Cond.static yX1_pair ∈ zTbl := zmem 630 (by decide +kernel) (by decide +kernel)
theorem zcd_X1_pair : Cond.code mX1_pair.1 mX1_pair.2.1 mX1_pair.2.2.1 mX1_pair.2.2.2 ∈ zTbl := zmem 631 (by decide +kernel) (by decide +kernel)
theorem zl_RX1_61 : Cond.methodLink RX1 61 yX1_raised ∈ zTbl := zmem 632 (by decide +kernel) (by decide +kernel)
theorem zst_X1_raised : Cond.static yX1_raised ∈ zTbl := zmem 633 (by decide +kernel) (by decide +kernel)
theorem zcd_X1_raised : Cond.code mX1_raised.1 mX1_raised.2.1 mX1_raised.2.2.1 mX1_raised.2.2.2 ∈ zTbl := zmem 634 (by decide +kernel) (by decide +kernel)
theorem zl_RX1_33 : Cond.methodLink RX1 33 yX1_allLevels ∈ zTbl := zmem 635 (by decide +kernel) (by decide +kernel)
theorem zst_X1_allLevels : Cond.static yX1_allLevels ∈ zTbl := zmem 636 (by decide +kernel) (by decide +kernel)
theorem zcd_X1_allLevels : Cond.code mX1_allLevels.1 mX1_allLevels.2.1 mX1_allLevels.2.2.1 mX1_allLevels.2.2.2 ∈ zTbl := zmem 637 (by decide +kernel) (by decide +kernel)
theorem zl_RX1_76 : Cond.methodLink RX1 76 yX1_leavesOfHandler ∈ zTbl := zmem 639 (by decide +kernel) (by decide +kernel)
theorem zin_X1_leavesOfHandler : Cond.instanceMethod yX1_leavesOfHandler ∈ zTbl := zmem 641 (by decide +kernel) (by decide +kernel)
theorem zcd_X1_leavesOfHandler : Cond.code mX1_leavesOfHandler.1 mX1_leavesOfHandler.2.1 mX1_leavesOfHandler.2.2.1 mX1_leavesOfHandler.2.2.2 ∈ zTbl := zmem 642 (by decide +kernel) (by decide +kernel)
theorem zl_RX1_23 : Cond.methodLink RX1 23 yX1_clause ∈ zTbl := zmem 643 (by decide +kernel) (by decide +kernel)
theorem zl_RX1_83 : Cond.methodLink RX1 83 yX1_lowered ∈ zTbl := zmem 644 (by decide +kernel) (by decide +kernel)
theorem zst_X1_lowered : Cond.static yX1_lowered ∈ zTbl := zmem 645 (by decide +kernel) (by decide +kernel)
theorem zcd_X1_lowered : Cond.code mX1_lowered.1 mX1_lowered.2.1 mX1_lowered.2.2.1 mX1_lowered.2.2.2 ∈ zTbl := zmem 646 (by decide +kernel) (by decide +kernel)
theorem zl_RX1_80 : Cond.methodLink RX1 80 yX1_lateOfClauses ∈ zTbl := zmem 647 (by decide +kernel) (by decide +kernel)
theorem zin_X1_lateOfClauses : Cond.instanceMethod yX1_lateOfClauses ∈ zTbl := zmem 649 (by decide +kernel) (by decide +kernel)
theorem zcd_X1_lateOfClauses : Cond.code mX1_lateOfClauses.1 mX1_lateOfClauses.2.1 mX1_lateOfClauses.2.2.1 mX1_lateOfClauses.2.2.2 ∈ zTbl := zmem 650 (by decide +kernel) (by decide +kernel)
theorem zl_RX11_105 : Cond.methodLink RX11 105 yX1_pair ∈ zTbl := zmem 651 (by decide +kernel) (by decide +kernel)
theorem zl_RL_52 : Cond.methodLink RL 52 yX11_run ∈ zTbl := zmem 652 (by decide +kernel) (by decide +kernel)
theorem zin_X11_run : Cond.instanceMethod yX11_run ∈ zTbl := zmem 653 (by decide +kernel) (by decide +kernel)
theorem zsel_X11_run : Cond.selects RX11 yX11_run yX11_run ∈ zTbl := zmem 654 (by decide +kernel) (by decide +kernel)
theorem zcd_X11_run : Cond.code mX11_run.1 mX11_run.2.1 mX11_run.2.2.1 mX11_run.2.2.2 ∈ zTbl := zmem 655 (by decide +kernel) (by decide +kernel)
theorem zl_RX11_109 : Cond.methodLink RX11 109 yX8_step ∈ zTbl := zmem 656 (by decide +kernel) (by decide +kernel)
theorem zin_X8_step : Cond.instanceMethod yX8_step ∈ zTbl := zmem 657 (by decide +kernel) (by decide +kernel)
theorem zsel_X8_step : Cond.selects RX8 yX8_step yX8_step ∈ zTbl := zmem 658 (by decide +kernel) (by decide +kernel)
theorem zcd_X8_step : Cond.code mX8_step.1 mX8_step.2.1 mX8_step.2.2.1 mX8_step.2.2.2 ∈ zTbl := zmem 659 (by decide +kernel) (by decide +kernel)
theorem zl_RX8_140 : Cond.methodLink RX8 140 yX8_stepInto ∈ zTbl := zmem 660 (by decide +kernel) (by decide +kernel)
theorem zin_X8_stepInto : Cond.instanceMethod yX8_stepInto ∈ zTbl := zmem 662 (by decide +kernel) (by decide +kernel)
theorem zcd_X8_stepInto : Cond.code mX8_stepInto.1 mX8_stepInto.2.1 mX8_stepInto.2.2.1 mX8_stepInto.2.2.2 ∈ zTbl := zmem 663 (by decide +kernel) (by decide +kernel)
theorem zl_RX8_176 : Cond.methodLink RX8 176 yX9_lookUp ∈ zTbl := zmem 664 (by decide +kernel) (by decide +kernel)
theorem zst_X9_lookUp : Cond.static yX9_lookUp ∈ zTbl := zmem 665 (by decide +kernel) (by decide +kernel)
theorem zcd_X9_lookUp : Cond.code mX9_lookUp.1 mX9_lookUp.2.1 mX9_lookUp.2.2.1 mX9_lookUp.2.2.2 ∈ zTbl := zmem 666 (by decide +kernel) (by decide +kernel)
theorem zl_RX8_182 : Cond.methodLink RX8 182 yX10_hasRoomFor ∈ zTbl := zmem 667 (by decide +kernel) (by decide +kernel)
theorem zin_X10_hasRoomFor : Cond.instanceMethod yX10_hasRoomFor ∈ zTbl := zmem 668 (by decide +kernel) (by decide +kernel)
theorem zsel_X10_hasRoomFor : Cond.selects RX10 yX10_hasRoomFor yX10_hasRoomFor ∈ zTbl := zmem 669 (by decide +kernel) (by decide +kernel)
theorem zcd_X10_hasRoomFor : Cond.code mX10_hasRoomFor.1 mX10_hasRoomFor.2.1 mX10_hasRoomFor.2.2.1 mX10_hasRoomFor.2.2.2 ∈ zTbl := zmem 670 (by decide +kernel) (by decide +kernel)
theorem zl_RX8_186 : Cond.methodLink RX8 186 yX1_kindOfFrame ∈ zTbl := zmem 671 (by decide +kernel) (by decide +kernel)
theorem zin_X1_kindOfFrame : Cond.instanceMethod yX1_kindOfFrame ∈ zTbl := zmem 672 (by decide +kernel) (by decide +kernel)
theorem zsel_X1_kindOfFrame : Cond.selects RX1 yX1_kindOfFrame yX1_kindOfFrame ∈ zTbl := zmem 673 (by decide +kernel) (by decide +kernel)
theorem zcd_X1_kindOfFrame : Cond.code mX1_kindOfFrame.1 mX1_kindOfFrame.2.1 mX1_kindOfFrame.2.2.1 mX1_kindOfFrame.2.2.2 ∈ zTbl := zmem 674 (by decide +kernel) (by decide +kernel)
theorem zl_RX8_189 : Cond.methodLink RX8 189 yX3_newFinalizer ∈ zTbl := zmem 675 (by decide +kernel) (by decide +kernel)
theorem zin_X3_newFinalizer : Cond.instanceMethod yX3_newFinalizer ∈ zTbl := zmem 676 (by decide +kernel) (by decide +kernel)
theorem zsel_X3_newFinalizer : Cond.selects RX3 yX3_newFinalizer yX3_newFinalizer ∈ zTbl := zmem 677 (by decide +kernel) (by decide +kernel)
theorem zcd_X3_newFinalizer : Cond.code mX3_newFinalizer.1 mX3_newFinalizer.2.1 mX3_newFinalizer.2.2.1 mX3_newFinalizer.2.2.2 ∈ zTbl := zmem 678 (by decide +kernel) (by decide +kernel)
theorem zl_RX3_51 : Cond.methodLink RX3 51 yX3_isPlace ∈ zTbl := zmem 679 (by decide +kernel) (by decide +kernel)
theorem zst_X3_isPlace : Cond.static yX3_isPlace ∈ zTbl := zmem 680 (by decide +kernel) (by decide +kernel)
theorem zcd_X3_isPlace : Cond.code mX3_isPlace.1 mX3_isPlace.2.1 mX3_isPlace.2.2.1 mX3_isPlace.2.2.2 ∈ zTbl := zmem 681 (by decide +kernel) (by decide +kernel)
theorem zl_RX8_192 : Cond.methodLink RX8 192 yX9_resumptionIn ∈ zTbl := zmem 682 (by decide +kernel) (by decide +kernel)
theorem zst_X9_resumptionIn : Cond.static yX9_resumptionIn ∈ zTbl := zmem 683 (by decide +kernel) (by decide +kernel)
theorem zcd_X9_resumptionIn : Cond.code mX9_resumptionIn.1 mX9_resumptionIn.2.1 mX9_resumptionIn.2.2.1 mX9_resumptionIn.2.2.2 ∈ zTbl := zmem 684 (by decide +kernel) (by decide +kernel)
theorem zc_RX8_101 : Cond.classLink RX8 101 RX2 ∈ zTbl := zmem 685 (by decide +kernel) (by decide +kernel)
theorem zi_RX2 : Cond.instantiable RX2 5 ∈ zTbl := zmem 686 (by decide +kernel) (by decide +kernel)
theorem zl_RX8_166 : Cond.methodLink RX8 166 yX2_init ∈ zTbl := zmem 687 (by decide +kernel) (by decide +kernel)
theorem zin_X2_init : Cond.instanceMethod yX2_init ∈ zTbl := zmem 688 (by decide +kernel) (by decide +kernel)
theorem zcd_X2_init : Cond.code mX2_init.1 mX2_init.2.1 mX2_init.2.2.1 mX2_init.2.2.2 ∈ zTbl := zmem 689 (by decide +kernel) (by decide +kernel)
theorem zl_RX2_1 : Cond.methodLink RX2 1 objectInit ∈ zTbl := zmem 690 (by decide +kernel) (by decide +kernel)
theorem zf_RX2_7 : Cond.fieldLink RX2 7 RX2 "kind" "I" ∈ zTbl := zmem 691 (by decide +kernel) (by decide +kernel)
theorem zf_RX5_40 : Cond.fieldLink RX5 40 RX2 "kind" "I" ∈ zTbl := zmem 692 (by decide +kernel) (by decide +kernel)
theorem zf_RX8_100 : Cond.fieldLink RX8 100 RX2 "kind" "I" ∈ zTbl := zmem 693 (by decide +kernel) (by decide +kernel)
theorem zf_RX10_30 : Cond.fieldLink RX10 30 RX2 "kind" "I" ∈ zTbl := zmem 694 (by decide +kernel) (by decide +kernel)
theorem zf_RX11_182 : Cond.fieldLink RX11 182 RX2 "kind" "I" ∈ zTbl := zmem 695 (by decide +kernel) (by decide +kernel)
theorem zf_RX2_13 : Cond.fieldLink RX2 13 RX2 "of" "LEffectMachine$Expr;" ∈ zTbl := zmem 696 (by decide +kernel) (by decide +kernel)
theorem zf_RX8_105 : Cond.fieldLink RX8 105 RX2 "of" "LEffectMachine$Expr;" ∈ zTbl := zmem 697 (by decide +kernel) (by decide +kernel)
theorem zf_RX10_33 : Cond.fieldLink RX10 33 RX2 "of" "LEffectMachine$Expr;" ∈ zTbl := zmem 698 (by decide +kernel) (by decide +kernel)
theorem zf_RX2_17 : Cond.fieldLink RX2 17 RX2 "scope" "LEffectMachine$Scope;" ∈ zTbl := zmem 699 (by decide +kernel) (by decide +kernel)
theorem zf_RX8_217 : Cond.fieldLink RX8 217 RX2 "scope" "LEffectMachine$Scope;" ∈ zTbl := zmem 700 (by decide +kernel) (by decide +kernel)
theorem zf_RX2_21 : Cond.fieldLink RX2 21 RX2 "value" "I" ∈ zTbl := zmem 701 (by decide +kernel) (by decide +kernel)
theorem zf_RX5_45 : Cond.fieldLink RX5 45 RX2 "value" "I" ∈ zTbl := zmem 702 (by decide +kernel) (by decide +kernel)
theorem zf_RX8_113 : Cond.fieldLink RX8 113 RX2 "value" "I" ∈ zTbl := zmem 703 (by decide +kernel) (by decide +kernel)
theorem zf_RX2_24 : Cond.fieldLink RX2 24 RX2 "resumption" "LEffectMachine$Resumption;" ∈ zTbl := zmem 704 (by decide +kernel) (by decide +kernel)
theorem zf_RX5_54 : Cond.fieldLink RX5 54 RX2 "resumption" "LEffectMachine$Resumption;" ∈ zTbl := zmem 705 (by decide +kernel) (by decide +kernel)
theorem zf_RX8_120 : Cond.fieldLink RX8 120 RX2 "resumption" "LEffectMachine$Resumption;" ∈ zTbl := zmem 706 (by decide +kernel) (by decide +kernel)
theorem zl_RX8_169 : Cond.methodLink RX8 169 yX10_push ∈ zTbl := zmem 718 (by decide +kernel) (by decide +kernel)
theorem zin_X10_push : Cond.instanceMethod yX10_push ∈ zTbl := zmem 719 (by decide +kernel) (by decide +kernel)
theorem zsel_X10_push : Cond.selects RX10 yX10_push yX10_push ∈ zTbl := zmem 720 (by decide +kernel) (by decide +kernel)
theorem zcd_X10_push : Cond.code mX10_push.1 mX10_push.2.1 mX10_push.2.2.1 mX10_push.2.2.2 ∈ zTbl := zmem 721 (by decide +kernel) (by decide +kernel)
theorem zl_RX10_24 : Cond.methodLink RX10 24 yJ9_max_7cf53 ∈ zTbl := zmem 722 (by decide +kernel) (by decide +kernel)
theorem zst_J9_max_7cf53 : Cond.static yJ9_max_7cf53 ∈ zTbl := zmem 723 (by decide +kernel) (by decide +kernel)
theorem zcd_J9_max_7cf53 : Cond.code mJ9_max_7cf53.1 mJ9_max_7cf53.2.1 mJ9_max_7cf53.2.2.1 mJ9_max_7cf53.2.2.2 ∈ zTbl := zmem 724 (by decide +kernel) (by decide +kernel)
theorem zl_RX8_144 : Cond.methodLink RX8 144 yX10_below ∈ zTbl := zmem 725 (by decide +kernel) (by decide +kernel)
theorem zin_X10_below : Cond.instanceMethod yX10_below ∈ zTbl := zmem 726 (by decide +kernel) (by decide +kernel)
theorem zsel_X10_below : Cond.selects RX10 yX10_below yX10_below ∈ zTbl := zmem 727 (by decide +kernel) (by decide +kernel)
theorem zcd_X10_below : Cond.code mX10_below.1 mX10_below.2.1 mX10_below.2.2.1 mX10_below.2.2.2 ∈ zTbl := zmem 728 (by decide +kernel) (by decide +kernel)
theorem zl_RX8_148 : Cond.methodLink RX8 148 yX8_stepOut ∈ zTbl := zmem 729 (by decide +kernel) (by decide +kernel)
theorem zin_X8_stepOut : Cond.instanceMethod yX8_stepOut ∈ zTbl := zmem 731 (by decide +kernel) (by decide +kernel)
theorem zcd_X8_stepOut : Cond.code mX8_stepOut.1 mX8_stepOut.2.1 mX8_stepOut.2.2.1 mX8_stepOut.2.2.2 ∈ zTbl := zmem 732 (by decide +kernel) (by decide +kernel)
theorem zl_RX8_199 : Cond.methodLink RX8 199 yX8_resume ∈ zTbl := zmem 733 (by decide +kernel) (by decide +kernel)
theorem zin_X8_resume : Cond.instanceMethod yX8_resume ∈ zTbl := zmem 735 (by decide +kernel) (by decide +kernel)
theorem zcd_X8_resume : Cond.code mX8_resume.1 mX8_resume.2.1 mX8_resume.2.2.1 mX8_resume.2.2.2 ∈ zTbl := zmem 736 (by decide +kernel) (by decide +kernel)
theorem zl_RX8_206 : Cond.methodLink RX8 206 yX10_pop ∈ zTbl := zmem 737 (by decide +kernel) (by decide +kernel)
theorem zin_X10_pop : Cond.instanceMethod yX10_pop ∈ zTbl := zmem 738 (by decide +kernel) (by decide +kernel)
theorem zsel_X10_pop : Cond.selects RX10 yX10_pop yX10_pop ∈ zTbl := zmem 739 (by decide +kernel) (by decide +kernel)
theorem zcd_X10_pop : Cond.code mX10_pop.1 mX10_pop.2.1 mX10_pop.2.2.1 mX10_pop.2.2.2 ∈ zTbl := zmem 740 (by decide +kernel) (by decide +kernel)
theorem zl_RX8_272 : Cond.methodLink RX8 272 yX3_use ∈ zTbl := zmem 741 (by decide +kernel) (by decide +kernel)
theorem zin_X3_use : Cond.instanceMethod yX3_use ∈ zTbl := zmem 742 (by decide +kernel) (by decide +kernel)
theorem zsel_X3_use : Cond.selects RX3 yX3_use yX3_use ∈ zTbl := zmem 743 (by decide +kernel) (by decide +kernel)
theorem zcd_X3_use : Cond.code mX3_use.1 mX3_use.2.1 mX3_use.2.2.1 mX3_use.2.2.2 ∈ zTbl := zmem 744 (by decide +kernel) (by decide +kernel)
theorem zl_RX8_203 : Cond.methodLink RX8 203 yX8_leaveClause ∈ zTbl := zmem 745 (by decide +kernel) (by decide +kernel)
theorem zin_X8_leaveClause : Cond.instanceMethod yX8_leaveClause ∈ zTbl := zmem 747 (by decide +kernel) (by decide +kernel)
theorem zcd_X8_leaveClause : Cond.code mX8_leaveClause.1 mX8_leaveClause.2.1 mX8_leaveClause.2.2.1 mX8_leaveClause.2.2.2 ∈ zTbl := zmem 748 (by decide +kernel) (by decide +kernel)
theorem zl_RX8_276 : Cond.methodLink RX8 276 yX5_first ∈ zTbl := zmem 749 (by decide +kernel) (by decide +kernel)
theorem zin_X5_first : Cond.instanceMethod yX5_first ∈ zTbl := zmem 750 (by decide +kernel) (by decide +kernel)
theorem zsel_X5_first : Cond.selects RX5 yX5_first yX5_first ∈ zTbl := zmem 751 (by decide +kernel) (by decide +kernel)
theorem zcd_X5_first : Cond.code mX5_first.1 mX5_first.2.1 mX5_first.2.2.1 mX5_first.2.2.2 ∈ zTbl := zmem 752 (by decide +kernel) (by decide +kernel)
theorem zl_RX5_31 : Cond.methodLink RX5 31 yX5_visit ∈ zTbl := zmem 753 (by decide +kernel) (by decide +kernel)
theorem zin_X5_visit : Cond.instanceMethod yX5_visit ∈ zTbl := zmem 755 (by decide +kernel) (by decide +kernel)
theorem zcd_X5_visit : Cond.code mX5_visit.1 mX5_visit.2.1 mX5_visit.2.2.1 mX5_visit.2.2.2 ∈ zTbl := zmem 756 (by decide +kernel) (by decide +kernel)
theorem zl_RX5_58 : Cond.methodLink RX5 58 yX3_usesOf ∈ zTbl := zmem 757 (by decide +kernel) (by decide +kernel)
theorem zin_X3_usesOf : Cond.instanceMethod yX3_usesOf ∈ zTbl := zmem 758 (by decide +kernel) (by decide +kernel)
theorem zsel_X3_usesOf : Cond.selects RX3 yX3_usesOf yX3_usesOf ∈ zTbl := zmem 759 (by decide +kernel) (by decide +kernel)
theorem zcd_X3_usesOf : Cond.code mX3_usesOf.1 mX3_usesOf.2.1 mX3_usesOf.2.2.1 mX3_usesOf.2.2.2 ∈ zTbl := zmem 760 (by decide +kernel) (by decide +kernel)
theorem zk_RX5_35 : Cond.constant RX5 35 1000000 ∈ zTbl := zmem 762 (by decide +kernel) (by decide +kernel)
theorem zl_RX5_48 : Cond.methodLink RX5 48 yX3_executed ∈ zTbl := zmem 763 (by decide +kernel) (by decide +kernel)
theorem zin_X3_executed : Cond.instanceMethod yX3_executed ∈ zTbl := zmem 764 (by decide +kernel) (by decide +kernel)
theorem zsel_X3_executed : Cond.selects RX3 yX3_executed yX3_executed ∈ zTbl := zmem 765 (by decide +kernel) (by decide +kernel)
theorem zcd_X3_executed : Cond.code mX3_executed.1 mX3_executed.2.1 mX3_executed.2.2.1 mX3_executed.2.2.2 ∈ zTbl := zmem 766 (by decide +kernel) (by decide +kernel)
theorem zl_RX8_234 : Cond.methodLink RX8 234 yX8_execute ∈ zTbl := zmem 767 (by decide +kernel) (by decide +kernel)
theorem zin_X8_execute : Cond.instanceMethod yX8_execute ∈ zTbl := zmem 769 (by decide +kernel) (by decide +kernel)
theorem zcd_X8_execute : Cond.code mX8_execute.1 mX8_execute.2.1 mX8_execute.2.2.1 mX8_execute.2.2.2 ∈ zTbl := zmem 770 (by decide +kernel) (by decide +kernel)
theorem zl_RX8_281 : Cond.methodLink RX8 281 yX3_execute ∈ zTbl := zmem 771 (by decide +kernel) (by decide +kernel)
theorem zin_X3_execute : Cond.instanceMethod yX3_execute ∈ zTbl := zmem 772 (by decide +kernel) (by decide +kernel)
theorem zsel_X3_execute : Cond.selects RX3 yX3_execute yX3_execute ∈ zTbl := zmem 773 (by decide +kernel) (by decide +kernel)
theorem zcd_X3_execute : Cond.code mX3_execute.1 mX3_execute.2.1 mX3_execute.2.2.1 mX3_execute.2.2.2 ∈ zTbl := zmem 774 (by decide +kernel) (by decide +kernel)
theorem zl_RX8_209 : Cond.methodLink RX8 209 yX8_perform ∈ zTbl := zmem 775 (by decide +kernel) (by decide +kernel)
theorem zin_X8_perform : Cond.instanceMethod yX8_perform ∈ zTbl := zmem 777 (by decide +kernel) (by decide +kernel)
theorem zcd_X8_perform : Cond.code mX8_perform.1 mX8_perform.2.1 mX8_perform.2.2.1 mX8_perform.2.2.2 ∈ zTbl := zmem 778 (by decide +kernel) (by decide +kernel)
theorem zl_RX8_246 : Cond.methodLink RX8 246 yX10_placeOfHandler ∈ zTbl := zmem 780 (by decide +kernel) (by decide +kernel)
theorem zin_X10_placeOfHandler : Cond.instanceMethod yX10_placeOfHandler ∈ zTbl := zmem 781 (by decide +kernel) (by decide +kernel)
theorem zsel_X10_placeOfHandler : Cond.selects RX10 yX10_placeOfHandler yX10_placeOfHandler ∈ zTbl := zmem 782 (by decide +kernel) (by decide +kernel)
theorem zcd_X10_placeOfHandler : Cond.code mX10_placeOfHandler.1 mX10_placeOfHandler.2.1 mX10_placeOfHandler.2.2.1 mX10_placeOfHandler.2.2.2 ∈ zTbl := zmem 783 (by decide +kernel) (by decide +kernel)
theorem zl_RX10_42 : Cond.methodLink RX10 42 yX1_clause ∈ zTbl := zmem 784 (by decide +kernel) (by decide +kernel)
theorem zl_RX8_253 : Cond.methodLink RX8 253 yX8_captureDownTo ∈ zTbl := zmem 785 (by decide +kernel) (by decide +kernel)
theorem zin_X8_captureDownTo : Cond.instanceMethod yX8_captureDownTo ∈ zTbl := zmem 786 (by decide +kernel) (by decide +kernel)
theorem zsel_X8_captureDownTo : Cond.selects RX8 yX8_captureDownTo yX8_captureDownTo ∈ zTbl := zmem 787 (by decide +kernel) (by decide +kernel)
theorem zcd_X8_captureDownTo : Cond.code mX8_captureDownTo.1 mX8_captureDownTo.2.1 mX8_captureDownTo.2.2.1 mX8_captureDownTo.2.2.2 ∈ zTbl := zmem 788 (by decide +kernel) (by decide +kernel)
theorem zl_RX8_158 : Cond.methodLink RX8 158 yX10_popDownTo ∈ zTbl := zmem 789 (by decide +kernel) (by decide +kernel)
theorem zin_X10_popDownTo : Cond.instanceMethod yX10_popDownTo ∈ zTbl := zmem 790 (by decide +kernel) (by decide +kernel)
theorem zsel_X10_popDownTo : Cond.selects RX10 yX10_popDownTo yX10_popDownTo ∈ zTbl := zmem 791 (by decide +kernel) (by decide +kernel)
theorem zcd_X10_popDownTo : Cond.code mX10_popDownTo.1 mX10_popDownTo.2.1 mX10_popDownTo.2.2.1 mX10_popDownTo.2.2.2 ∈ zTbl := zmem 792 (by decide +kernel) (by decide +kernel)
theorem zl_RX8_162 : Cond.methodLink RX8 162 yX3_newResumption ∈ zTbl := zmem 793 (by decide +kernel) (by decide +kernel)
theorem zin_X3_newResumption : Cond.instanceMethod yX3_newResumption ∈ zTbl := zmem 794 (by decide +kernel) (by decide +kernel)
theorem zsel_X3_newResumption : Cond.selects RX3 yX3_newResumption yX3_newResumption ∈ zTbl := zmem 795 (by decide +kernel) (by decide +kernel)
theorem zcd_X3_newResumption : Cond.code mX3_newResumption.1 mX3_newResumption.2.1 mX3_newResumption.2.2.1 mX3_newResumption.2.2.2 ∈ zTbl := zmem 796 (by decide +kernel) (by decide +kernel)
theorem zc_RX3_46 : Cond.classLink RX3 46 RX7 ∈ zTbl := zmem 797 (by decide +kernel) (by decide +kernel)
theorem zi_RX7 : Cond.instantiable RX7 2 ∈ zTbl := zmem 798 (by decide +kernel) (by decide +kernel)
theorem zl_RX3_48 : Cond.methodLink RX3 48 yX7_init ∈ zTbl := zmem 799 (by decide +kernel) (by decide +kernel)
theorem zin_X7_init : Cond.instanceMethod yX7_init ∈ zTbl := zmem 800 (by decide +kernel) (by decide +kernel)
theorem zcd_X7_init : Cond.code mX7_init.1 mX7_init.2.1 mX7_init.2.2.1 mX7_init.2.2.2 ∈ zTbl := zmem 801 (by decide +kernel) (by decide +kernel)
theorem zl_RX7_1 : Cond.methodLink RX7 1 objectInit ∈ zTbl := zmem 802 (by decide +kernel) (by decide +kernel)
theorem zf_RX7_7 : Cond.fieldLink RX7 7 RX7 "number" "I" ∈ zTbl := zmem 803 (by decide +kernel) (by decide +kernel)
theorem zf_RX5_62 : Cond.fieldLink RX5 62 RX7 "number" "I" ∈ zTbl := zmem 804 (by decide +kernel) (by decide +kernel)
theorem zf_RX3_55 : Cond.fieldLink RX3 55 RX7 "number" "I" ∈ zTbl := zmem 805 (by decide +kernel) (by decide +kernel)
theorem zf_RX7_13 : Cond.fieldLink RX7 13 RX7 "captured" "[LEffectMachine$Frame;" ∈ zTbl := zmem 806 (by decide +kernel) (by decide +kernel)
theorem zf_RX5_36 : Cond.fieldLink RX5 36 RX7 "captured" "[LEffectMachine$Frame;" ∈ zTbl := zmem 807 (by decide +kernel) (by decide +kernel)
theorem zf_RX8_267 : Cond.fieldLink RX8 267 RX7 "captured" "[LEffectMachine$Frame;" ∈ zTbl := zmem 808 (by decide +kernel) (by decide +kernel)
theorem zl_RX8_257 : Cond.methodLink RX8 257 yX1_clauseVariable ∈ zTbl := zmem 814 (by decide +kernel) (by decide +kernel)
theorem zl_RX8_260 : Cond.methodLink RX8 260 yX1_clause ∈ zTbl := zmem 815 (by decide +kernel) (by decide +kernel)
theorem zc_RX8_177 : Cond.classLink RX8 177 RX9 ∈ zTbl := zmem 816 (by decide +kernel) (by decide +kernel)
theorem zi_RX9 : Cond.instantiable RX9 4 ∈ zTbl := zmem 817 (by decide +kernel) (by decide +kernel)
theorem zl_RX8_228 : Cond.methodLink RX8 228 yX9_init ∈ zTbl := zmem 818 (by decide +kernel) (by decide +kernel)
theorem zin_X9_init : Cond.instanceMethod yX9_init ∈ zTbl := zmem 819 (by decide +kernel) (by decide +kernel)
theorem zcd_X9_init : Cond.code mX9_init.1 mX9_init.2.1 mX9_init.2.2.1 mX9_init.2.2.2 ∈ zTbl := zmem 820 (by decide +kernel) (by decide +kernel)
theorem zl_RX9_1 : Cond.methodLink RX9 1 objectInit ∈ zTbl := zmem 821 (by decide +kernel) (by decide +kernel)
theorem zf_RX9_7 : Cond.fieldLink RX9 7 RX9 "variable" "I" ∈ zTbl := zmem 822 (by decide +kernel) (by decide +kernel)
theorem zf_RX9_13 : Cond.fieldLink RX9 13 RX9 "value" "I" ∈ zTbl := zmem 823 (by decide +kernel) (by decide +kernel)
theorem zf_RX9_16 : Cond.fieldLink RX9 16 RX9 "resumption" "LEffectMachine$Resumption;" ∈ zTbl := zmem 824 (by decide +kernel) (by decide +kernel)
theorem zf_RX9_20 : Cond.fieldLink RX9 20 RX9 "around" "LEffectMachine$Scope;" ∈ zTbl := zmem 825 (by decide +kernel) (by decide +kernel)
theorem zl_RX8_213 : Cond.methodLink RX8 213 yX8_goOnAt ∈ zTbl := zmem 835 (by decide +kernel) (by decide +kernel)
theorem zin_X8_goOnAt : Cond.instanceMethod yX8_goOnAt ∈ zTbl := zmem 837 (by decide +kernel) (by decide +kernel)
theorem zcd_X8_goOnAt : Cond.code mX8_goOnAt.1 mX8_goOnAt.2.1 mX8_goOnAt.2.2.1 mX8_goOnAt.2.2.2 ∈ zTbl := zmem 838 (by decide +kernel) (by decide +kernel)
theorem zl_RX8_221 : Cond.methodLink RX8 221 yX8_resultOf ∈ zTbl := zmem 839 (by decide +kernel) (by decide +kernel)
theorem zst_X8_resultOf : Cond.static yX8_resultOf ∈ zTbl := zmem 840 (by decide +kernel) (by decide +kernel)
theorem zcd_X8_resultOf : Cond.code mX8_resultOf.1 mX8_resultOf.2.1 mX8_resultOf.2.2.1 mX8_resultOf.2.2.2 ∈ zTbl := zmem 841 (by decide +kernel) (by decide +kernel)
theorem zl_RX8_231 : Cond.methodLink RX8 231 yX8_emit ∈ zTbl := zmem 842 (by decide +kernel) (by decide +kernel)
theorem zin_X8_emit : Cond.instanceMethod yX8_emit ∈ zTbl := zmem 844 (by decide +kernel) (by decide +kernel)
theorem zcd_X8_emit : Cond.code mX8_emit.1 mX8_emit.2.1 mX8_emit.2.2.1 mX8_emit.2.2.2 ∈ zTbl := zmem 845 (by decide +kernel) (by decide +kernel)
theorem zl_RX8_128 : Cond.methodLink RX8 128 yX3_executed ∈ zTbl := zmem 846 (by decide +kernel) (by decide +kernel)
theorem zl_RX8_237 : Cond.methodLink RX8 237 yX8_call ∈ zTbl := zmem 847 (by decide +kernel) (by decide +kernel)
theorem zin_X8_call : Cond.instanceMethod yX8_call ∈ zTbl := zmem 849 (by decide +kernel) (by decide +kernel)
theorem zcd_X8_call : Cond.code mX8_call.1 mX8_call.2.1 mX8_call.2.2.1 mX8_call.2.2.2 ∈ zTbl := zmem 850 (by decide +kernel) (by decide +kernel)
theorem zl_RX8_240 : Cond.methodLink RX8 240 yX8_leaveHandler ∈ zTbl := zmem 852 (by decide +kernel) (by decide +kernel)
theorem zin_X8_leaveHandler : Cond.instanceMethod yX8_leaveHandler ∈ zTbl := zmem 854 (by decide +kernel) (by decide +kernel)
theorem zcd_X8_leaveHandler : Cond.code mX8_leaveHandler.1 mX8_leaveHandler.2.1 mX8_leaveHandler.2.2.1 mX8_leaveHandler.2.2.2 ∈ zTbl := zmem 855 (by decide +kernel) (by decide +kernel)
theorem zl_RX8_152 : Cond.methodLink RX8 152 yX8_endIfDue ∈ zTbl := zmem 856 (by decide +kernel) (by decide +kernel)
theorem zin_X8_endIfDue : Cond.instanceMethod yX8_endIfDue ∈ zTbl := zmem 858 (by decide +kernel) (by decide +kernel)
theorem zcd_X8_endIfDue : Cond.code mX8_endIfDue.1 mX8_endIfDue.2.1 mX8_endIfDue.2.2.1 mX8_endIfDue.2.2.2 ∈ zTbl := zmem 859 (by decide +kernel) (by decide +kernel)
theorem zl_RL_56 : Cond.methodLink RL 56 yX11_answer ∈ zTbl := zmem 860 (by decide +kernel) (by decide +kernel)
theorem zin_X11_answer : Cond.instanceMethod yX11_answer ∈ zTbl := zmem 861 (by decide +kernel) (by decide +kernel)
theorem zsel_X11_answer : Cond.selects RX11 yX11_answer yX11_answer ∈ zTbl := zmem 862 (by decide +kernel) (by decide +kernel)
theorem zcd_X11_answer : Cond.code mX11_answer.1 mX11_answer.2.1 mX11_answer.2.2.1 mX11_answer.2.2.2 ∈ zTbl := zmem 863 (by decide +kernel) (by decide +kernel)
theorem zl_RX11_112 : Cond.methodLink RX11 112 yX8_goOnWith ∈ zTbl := zmem 864 (by decide +kernel) (by decide +kernel)
theorem zin_X8_goOnWith : Cond.instanceMethod yX8_goOnWith ∈ zTbl := zmem 865 (by decide +kernel) (by decide +kernel)
theorem zsel_X8_goOnWith : Cond.selects RX8 yX8_goOnWith yX8_goOnWith ∈ zTbl := zmem 866 (by decide +kernel) (by decide +kernel)
theorem zcd_X8_goOnWith : Cond.code mX8_goOnWith.1 mX8_goOnWith.2.1 mX8_goOnWith.2.2.1 mX8_goOnWith.2.2.2 ∈ zTbl := zmem 867 (by decide +kernel) (by decide +kernel)
theorem zl_RL_60 : Cond.methodLink RL 60 yX11_drop ∈ zTbl := zmem 868 (by decide +kernel) (by decide +kernel)
theorem zin_X11_drop : Cond.instanceMethod yX11_drop ∈ zTbl := zmem 869 (by decide +kernel) (by decide +kernel)
theorem zsel_X11_drop : Cond.selects RX11 yX11_drop yX11_drop ∈ zTbl := zmem 870 (by decide +kernel) (by decide +kernel)
theorem zcd_X11_drop : Cond.code mX11_drop.1 mX11_drop.2.1 mX11_drop.2.2.1 mX11_drop.2.2.2 ∈ zTbl := zmem 871 (by decide +kernel) (by decide +kernel)
theorem zl_RX11_125 : Cond.methodLink RX11 125 yX8_captureDownTo ∈ zTbl := zmem 872 (by decide +kernel) (by decide +kernel)
theorem zl_RL_64 : Cond.methodLink RL 64 yX11_told ∈ zTbl := zmem 873 (by decide +kernel) (by decide +kernel)
theorem zin_X11_told : Cond.instanceMethod yX11_told ∈ zTbl := zmem 874 (by decide +kernel) (by decide +kernel)
theorem zsel_X11_told : Cond.selects RX11 yX11_told yX11_told ∈ zTbl := zmem 875 (by decide +kernel) (by decide +kernel)
theorem zcd_X11_told : Cond.code mX11_told.1 mX11_told.2.1 mX11_told.2.2.1 mX11_told.2.2.2 ∈ zTbl := zmem 876 (by decide +kernel) (by decide +kernel)
theorem zl_RX11_138 : Cond.methodLink RX11 138 yX8_countPerformed ∈ zTbl := zmem 877 (by decide +kernel) (by decide +kernel)
theorem zin_X8_countPerformed : Cond.instanceMethod yX8_countPerformed ∈ zTbl := zmem 878 (by decide +kernel) (by decide +kernel)
theorem zsel_X8_countPerformed : Cond.selects RX8 yX8_countPerformed yX8_countPerformed ∈ zTbl := zmem 879 (by decide +kernel) (by decide +kernel)
theorem zcd_X8_countPerformed : Cond.code mX8_countPerformed.1 mX8_countPerformed.2.1 mX8_countPerformed.2.2.1 mX8_countPerformed.2.2.2 ∈ zTbl := zmem 880 (by decide +kernel) (by decide +kernel)
theorem zl_RX11_163 : Cond.methodLink RX11 163 yX8_countDefined ∈ zTbl := zmem 881 (by decide +kernel) (by decide +kernel)
theorem zin_X8_countDefined : Cond.instanceMethod yX8_countDefined ∈ zTbl := zmem 882 (by decide +kernel) (by decide +kernel)
theorem zsel_X8_countDefined : Cond.selects RX8 yX8_countDefined yX8_countDefined ∈ zTbl := zmem 883 (by decide +kernel) (by decide +kernel)
theorem zcd_X8_countDefined : Cond.code mX8_countDefined.1 mX8_countDefined.2.1 mX8_countDefined.2.2.1 mX8_countDefined.2.2.2 ∈ zTbl := zmem 884 (by decide +kernel) (by decide +kernel)
theorem zl_RL_68 : Cond.methodLink RL 68 yX11_value ∈ zTbl := zmem 885 (by decide +kernel) (by decide +kernel)
theorem zin_X11_value : Cond.instanceMethod yX11_value ∈ zTbl := zmem 886 (by decide +kernel) (by decide +kernel)
theorem zsel_X11_value : Cond.selects RX11 yX11_value yX11_value ∈ zTbl := zmem 887 (by decide +kernel) (by decide +kernel)
theorem zcd_X11_value : Cond.code mX11_value.1 mX11_value.2.1 mX11_value.2.2.1 mX11_value.2.2.2 ∈ zTbl := zmem 888 (by decide +kernel) (by decide +kernel)
theorem zl_RL_72 : Cond.methodLink RL 72 yX11_focus ∈ zTbl := zmem 889 (by decide +kernel) (by decide +kernel)
theorem zin_X11_focus : Cond.instanceMethod yX11_focus ∈ zTbl := zmem 890 (by decide +kernel) (by decide +kernel)
theorem zsel_X11_focus : Cond.selects RX11 yX11_focus yX11_focus ∈ zTbl := zmem 891 (by decide +kernel) (by decide +kernel)
theorem zcd_X11_focus : Cond.code mX11_focus.1 mX11_focus.2.1 mX11_focus.2.2.1 mX11_focus.2.2.2 ∈ zTbl := zmem 892 (by decide +kernel) (by decide +kernel)
theorem zl_RL_76 : Cond.methodLink RL 76 yX11_trace ∈ zTbl := zmem 893 (by decide +kernel) (by decide +kernel)
theorem zin_X11_trace : Cond.instanceMethod yX11_trace ∈ zTbl := zmem 894 (by decide +kernel) (by decide +kernel)
theorem zsel_X11_trace : Cond.selects RX11 yX11_trace yX11_trace ∈ zTbl := zmem 895 (by decide +kernel) (by decide +kernel)
theorem zcd_X11_trace : Cond.code mX11_trace.1 mX11_trace.2.1 mX11_trace.2.2.1 mX11_trace.2.2.2 ∈ zTbl := zmem 896 (by decide +kernel) (by decide +kernel)
theorem zl_RL_80 : Cond.methodLink RL 80 yX11_performed ∈ zTbl := zmem 897 (by decide +kernel) (by decide +kernel)
theorem zin_X11_performed : Cond.instanceMethod yX11_performed ∈ zTbl := zmem 898 (by decide +kernel) (by decide +kernel)
theorem zsel_X11_performed : Cond.selects RX11 yX11_performed yX11_performed ∈ zTbl := zmem 899 (by decide +kernel) (by decide +kernel)
theorem zcd_X11_performed : Cond.code mX11_performed.1 mX11_performed.2.1 mX11_performed.2.2.1 mX11_performed.2.2.2 ∈ zTbl := zmem 900 (by decide +kernel) (by decide +kernel)
theorem zl_RL_84 : Cond.methodLink RL 84 yX11_frame ∈ zTbl := zmem 901 (by decide +kernel) (by decide +kernel)
theorem zin_X11_frame : Cond.instanceMethod yX11_frame ∈ zTbl := zmem 902 (by decide +kernel) (by decide +kernel)
theorem zsel_X11_frame : Cond.selects RX11 yX11_frame yX11_frame ∈ zTbl := zmem 903 (by decide +kernel) (by decide +kernel)
theorem zcd_X11_frame : Cond.code mX11_frame.1 mX11_frame.2.1 mX11_frame.2.2.1 mX11_frame.2.2.2 ∈ zTbl := zmem 904 (by decide +kernel) (by decide +kernel)
theorem zl_RX11_178 : Cond.methodLink RX11 178 yX10_below ∈ zTbl := zmem 905 (by decide +kernel) (by decide +kernel)
theorem zl_RX11_187 : Cond.methodLink RX11 187 yX8_propertyOf ∈ zTbl := zmem 906 (by decide +kernel) (by decide +kernel)
theorem zin_X8_propertyOf : Cond.instanceMethod yX8_propertyOf ∈ zTbl := zmem 907 (by decide +kernel) (by decide +kernel)
theorem zsel_X8_propertyOf : Cond.selects RX8 yX8_propertyOf yX8_propertyOf ∈ zTbl := zmem 908 (by decide +kernel) (by decide +kernel)
theorem zcd_X8_propertyOf : Cond.code mX8_propertyOf.1 mX8_propertyOf.2.1 mX8_propertyOf.2.2.1 mX8_propertyOf.2.2.2 ∈ zTbl := zmem 909 (by decide +kernel) (by decide +kernel)
theorem zl_RX8_116 : Cond.methodLink RX8 116 yX1_countOperationClauses ∈ zTbl := zmem 910 (by decide +kernel) (by decide +kernel)
theorem zin_X1_countOperationClauses : Cond.instanceMethod yX1_countOperationClauses ∈ zTbl := zmem 911 (by decide +kernel) (by decide +kernel)
theorem zsel_X1_countOperationClauses : Cond.selects RX1 yX1_countOperationClauses yX1_countOperationClauses ∈ zTbl := zmem 912 (by decide +kernel) (by decide +kernel)
theorem zcd_X1_countOperationClauses : Cond.code mX1_countOperationClauses.1 mX1_countOperationClauses.2.1 mX1_countOperationClauses.2.2.1 mX1_countOperationClauses.2.2.2 ∈ zTbl := zmem 913 (by decide +kernel) (by decide +kernel)
theorem zl_RX8_124 : Cond.methodLink RX8 124 yX3_usesOf ∈ zTbl := zmem 914 (by decide +kernel) (by decide +kernel)
theorem zl_RL_89 : Cond.methodLink RL 89 yX11_handler ∈ zTbl := zmem 915 (by decide +kernel) (by decide +kernel)
theorem zin_X11_handler : Cond.instanceMethod yX11_handler ∈ zTbl := zmem 916 (by decide +kernel) (by decide +kernel)
theorem zsel_X11_handler : Cond.selects RX11 yX11_handler yX11_handler ∈ zTbl := zmem 917 (by decide +kernel) (by decide +kernel)
theorem zcd_X11_handler : Cond.code mX11_handler.1 mX11_handler.2.1 mX11_handler.2.2.1 mX11_handler.2.2.2 ∈ zTbl := zmem 918 (by decide +kernel) (by decide +kernel)
theorem zl_RX11_191 : Cond.methodLink RX11 191 yX10_placeOfHandler ∈ zTbl := zmem 919 (by decide +kernel) (by decide +kernel)
theorem zl_RL_93 : Cond.methodLink RL 93 yX11_keep ∈ zTbl := zmem 920 (by decide +kernel) (by decide +kernel)
theorem zin_X11_keep : Cond.instanceMethod yX11_keep ∈ zTbl := zmem 921 (by decide +kernel) (by decide +kernel)
theorem zsel_X11_keep : Cond.selects RX11 yX11_keep yX11_keep ∈ zTbl := zmem 922 (by decide +kernel) (by decide +kernel)
theorem zcd_X11_keep : Cond.code mX11_keep.1 mX11_keep.2.1 mX11_keep.2.2.1 mX11_keep.2.2.2 ∈ zTbl := zmem 923 (by decide +kernel) (by decide +kernel)
theorem zl_RX11_195 : Cond.methodLink RX11 195 yX11_isImage ∈ zTbl := zmem 924 (by decide +kernel) (by decide +kernel)
theorem zst_X11_isImage : Cond.static yX11_isImage ∈ zTbl := zmem 925 (by decide +kernel) (by decide +kernel)
theorem zcd_X11_isImage : Cond.code mX11_isImage.1 mX11_isImage.2.1 mX11_isImage.2.2.1 mX11_isImage.2.2.2 ∈ zTbl := zmem 926 (by decide +kernel) (by decide +kernel)
theorem zl_RX11_198 : Cond.methodLink RX11 198 yX8_copyFrom ∈ zTbl := zmem 927 (by decide +kernel) (by decide +kernel)
theorem zin_X8_copyFrom : Cond.instanceMethod yX8_copyFrom ∈ zTbl := zmem 928 (by decide +kernel) (by decide +kernel)
theorem zsel_X8_copyFrom : Cond.selects RX8 yX8_copyFrom yX8_copyFrom ∈ zTbl := zmem 929 (by decide +kernel) (by decide +kernel)
theorem zcd_X8_copyFrom : Cond.code mX8_copyFrom.1 mX8_copyFrom.2.1 mX8_copyFrom.2.2.1 mX8_copyFrom.2.2.2 ∈ zTbl := zmem 930 (by decide +kernel) (by decide +kernel)
theorem zl_RX8_67 : Cond.methodLink RX8 67 yX10_copyFrom ∈ zTbl := zmem 931 (by decide +kernel) (by decide +kernel)
theorem zin_X10_copyFrom : Cond.instanceMethod yX10_copyFrom ∈ zTbl := zmem 932 (by decide +kernel) (by decide +kernel)
theorem zsel_X10_copyFrom : Cond.selects RX10 yX10_copyFrom yX10_copyFrom ∈ zTbl := zmem 933 (by decide +kernel) (by decide +kernel)
theorem zcd_X10_copyFrom : Cond.code mX10_copyFrom.1 mX10_copyFrom.2.1 mX10_copyFrom.2.2.1 mX10_copyFrom.2.2.2 ∈ zTbl := zmem 934 (by decide +kernel) (by decide +kernel)
theorem zl_RX8_71 : Cond.methodLink RX8 71 yX3_copyFrom ∈ zTbl := zmem 935 (by decide +kernel) (by decide +kernel)
theorem zin_X3_copyFrom : Cond.instanceMethod yX3_copyFrom ∈ zTbl := zmem 936 (by decide +kernel) (by decide +kernel)
theorem zsel_X3_copyFrom : Cond.selects RX3 yX3_copyFrom yX3_copyFrom ∈ zTbl := zmem 937 (by decide +kernel) (by decide +kernel)
theorem zcd_X3_copyFrom : Cond.code mX3_copyFrom.1 mX3_copyFrom.2.1 mX3_copyFrom.2.2.1 mX3_copyFrom.2.2.2 ∈ zTbl := zmem 938 (by decide +kernel) (by decide +kernel)
theorem zl_RX3_34 : Cond.methodLink RX3 34 yJ9_min_7cf53 ∈ zTbl := zmem 939 (by decide +kernel) (by decide +kernel)
theorem zl_RX3_40 : Cond.methodLink RX3 40 arraycopyName ∈ zTbl := zmem 940 (by decide +kernel) (by decide +kernel)
theorem zl_RX8_74 : Cond.methodLink RX8 74 arraycopyName ∈ zTbl := zmem 941 (by decide +kernel) (by decide +kernel)
theorem zl_RL_97 : Cond.methodLink RL 97 yX11_back ∈ zTbl := zmem 942 (by decide +kernel) (by decide +kernel)
theorem zin_X11_back : Cond.instanceMethod yX11_back ∈ zTbl := zmem 943 (by decide +kernel) (by decide +kernel)
theorem zsel_X11_back : Cond.selects RX11 yX11_back yX11_back ∈ zTbl := zmem 944 (by decide +kernel) (by decide +kernel)
theorem zcd_X11_back : Cond.code mX11_back.1 mX11_back.2.1 mX11_back.2.2.1 mX11_back.2.2.2 ∈ zTbl := zmem 945 (by decide +kernel) (by decide +kernel)
theorem zc_RL_10 : Cond.classLink RL 10 RX12 ∈ zTbl := zmem 946 (by decide +kernel) (by decide +kernel)
theorem zi_RX12 : Cond.instantiable RX12 29 ∈ zTbl := zmem 947 (by decide +kernel) (by decide +kernel)
theorem zl_RL_12 : Cond.methodLink RL 12 yX12_init ∈ zTbl := zmem 948 (by decide +kernel) (by decide +kernel)
theorem zin_X12_init : Cond.instanceMethod yX12_init ∈ zTbl := zmem 949 (by decide +kernel) (by decide +kernel)
theorem zcd_X12_init : Cond.code mX12_init.1 mX12_init.2.1 mX12_init.2.2.1 mX12_init.2.2.2 ∈ zTbl := zmem 950 (by decide +kernel) (by decide +kernel)
theorem zl_RX12_1 : Cond.methodLink RX12 1 objectInit ∈ zTbl := zmem 951 (by decide +kernel) (by decide +kernel)
theorem zk_RX12_7 : Cond.constant RX12 7 325000 ∈ zTbl := zmem 952 (by decide +kernel) (by decide +kernel)
theorem zk_RX12_20 : Cond.constant RX12 20 280000 ∈ zTbl := zmem 953 (by decide +kernel) (by decide +kernel)
theorem zk_RX12_24 : Cond.constant RX12 24 560000 ∈ zTbl := zmem 954 (by decide +kernel) (by decide +kernel)
theorem zk_RX12_43 : Cond.constant RX12 43 65000 ∈ zTbl := zmem 955 (by decide +kernel) (by decide +kernel)
theorem zl_RX12_71 : Cond.methodLink RX12 71 yX12_begin ∈ zTbl := zmem 956 (by decide +kernel) (by decide +kernel)
theorem zin_X12_begin : Cond.instanceMethod yX12_begin ∈ zTbl := zmem 958 (by decide +kernel) (by decide +kernel)
theorem zcd_X12_begin : Cond.code mX12_begin.1 mX12_begin.2.1 mX12_begin.2.2.1 mX12_begin.2.2.2 ∈ zTbl := zmem 959 (by decide +kernel) (by decide +kernel)
theorem zf_RX12_8 : Cond.fieldLink RX12 8 RX12 "tree" "[I" ∈ zTbl := zmem 960 (by decide +kernel) (by decide +kernel)
theorem zf_RX12_88 : Cond.fieldLink RX12 88 RX12 "nodes" "I" ∈ zTbl := zmem 961 (by decide +kernel) (by decide +kernel)
theorem zf_RX12_14 : Cond.fieldLink RX12 14 RX12 "w" "[I" ∈ zTbl := zmem 962 (by decide +kernel) (by decide +kernel)
theorem zf_RX12_17 : Cond.fieldLink RX12 17 RX12 "images" "[I" ∈ zTbl := zmem 963 (by decide +kernel) (by decide +kernel)
theorem zf_RX12_305 : Cond.fieldLink RX12 305 RX12 "filled" "I" ∈ zTbl := zmem 964 (by decide +kernel) (by decide +kernel)
theorem zf_RX12_21 : Cond.fieldLink RX12 21 RX12 "frames" "[I" ∈ zTbl := zmem 965 (by decide +kernel) (by decide +kernel)
theorem zf_RX12_25 : Cond.fieldLink RX12 25 RX12 "keptFrames" "[I" ∈ zTbl := zmem 966 (by decide +kernel) (by decide +kernel)
theorem zf_RX12_28 : Cond.fieldLink RX12 28 RX12 "text" "[I" ∈ zTbl := zmem 967 (by decide +kernel) (by decide +kernel)
theorem zf_RX12_78 : Cond.fieldLink RX12 78 RX12 "length" "I" ∈ zTbl := zmem 968 (by decide +kernel) (by decide +kernel)
theorem zf_RX12_31 : Cond.fieldLink RX12 31 RX12 "open" "[I" ∈ zTbl := zmem 969 (by decide +kernel) (by decide +kernel)
theorem zf_RX12_34 : Cond.fieldLink RX12 34 RX12 "stage" "[I" ∈ zTbl := zmem 970 (by decide +kernel) (by decide +kernel)
theorem zf_RX12_37 : Cond.fieldLink RX12 37 RX12 "bound" "[I" ∈ zTbl := zmem 971 (by decide +kernel) (by decide +kernel)
theorem zf_RX12_40 : Cond.fieldLink RX12 40 RX12 "mayResume" "[I" ∈ zTbl := zmem 972 (by decide +kernel) (by decide +kernel)
theorem zf_RX12_108 : Cond.fieldLink RX12 108 RX12 "opened" "I" ∈ zTbl := zmem 973 (by decide +kernel) (by decide +kernel)
theorem zf_RX12_82 : Cond.fieldLink RX12 82 RX12 "at" "I" ∈ zTbl := zmem 974 (by decide +kernel) (by decide +kernel)
theorem zf_RX12_85 : Cond.fieldLink RX12 85 RX12 "wrong" "I" ∈ zTbl := zmem 975 (by decide +kernel) (by decide +kernel)
theorem zf_RX12_91 : Cond.fieldLink RX12 91 RX12 "expressions" "I" ∈ zTbl := zmem 976 (by decide +kernel) (by decide +kernel)
theorem zf_RX12_117 : Cond.fieldLink RX12 117 RX12 "found" "I" ∈ zTbl := zmem 977 (by decide +kernel) (by decide +kernel)
theorem zf_RX12_44 : Cond.fieldLink RX12 44 RX12 "ends" "[I" ∈ zTbl := zmem 978 (by decide +kernel) (by decide +kernel)
theorem zf_RX12_47 : Cond.fieldLink RX12 47 RX12 "toWrite" "[I" ∈ zTbl := zmem 979 (by decide +kernel) (by decide +kernel)
theorem zf_RX12_50 : Cond.fieldLink RX12 50 RX12 "written" "[I" ∈ zTbl := zmem 980 (by decide +kernel) (by decide +kernel)
theorem zf_RX12_53 : Cond.fieldLink RX12 53 RX12 "leaves" "[I" ∈ zTbl := zmem 981 (by decide +kernel) (by decide +kernel)
theorem zf_RX12_56 : Cond.fieldLink RX12 56 RX12 "late" "[I" ∈ zTbl := zmem 982 (by decide +kernel) (by decide +kernel)
theorem zf_RX12_59 : Cond.fieldLink RX12 59 RX12 "again" "[I" ∈ zTbl := zmem 983 (by decide +kernel) (by decide +kernel)
theorem zf_RX12_62 : Cond.fieldLink RX12 62 RX12 "nextFrame" "[I" ∈ zTbl := zmem 984 (by decide +kernel) (by decide +kernel)
theorem zf_RX12_65 : Cond.fieldLink RX12 65 RX12 "left" "[I" ∈ zTbl := zmem 985 (by decide +kernel) (by decide +kernel)
theorem zf_RX12_68 : Cond.fieldLink RX12 68 RX12 "goneThrough" "[I" ∈ zTbl := zmem 986 (by decide +kernel) (by decide +kernel)
theorem zf_RX12_235 : Cond.fieldLink RX12 235 RX12 "searches" "I" ∈ zTbl := zmem 987 (by decide +kernel) (by decide +kernel)
theorem zf_RX12_248 : Cond.fieldLink RX12 248 RX12 "skipped" "I" ∈ zTbl := zmem 988 (by decide +kernel) (by decide +kernel)
theorem zl_RL_17 : Cond.methodLink RL 17 yX12_write ∈ zTbl := zmem 1048 (by decide +kernel) (by decide +kernel)
theorem zin_X12_write : Cond.instanceMethod yX12_write ∈ zTbl := zmem 1049 (by decide +kernel) (by decide +kernel)
theorem zsel_X12_write : Cond.selects RX12 yX12_write yX12_write ∈ zTbl := zmem 1050 (by decide +kernel) (by decide +kernel)
theorem zcd_X12_write : Cond.code mX12_write.1 mX12_write.2.1 mX12_write.2.2.1 mX12_write.2.2.2 ∈ zTbl := zmem 1051 (by decide +kernel) (by decide +kernel)
theorem zl_RX12_74 : Cond.methodLink RX12 74 yX12_isIn ∈ zTbl := zmem 1052 (by decide +kernel) (by decide +kernel)
theorem zst_X12_isIn : Cond.static yX12_isIn ∈ zTbl := zmem 1053 (by decide +kernel) (by decide +kernel)
theorem zcd_X12_isIn : Cond.code mX12_isIn.1 mX12_isIn.2.1 mX12_isIn.2.2.1 mX12_isIn.2.2.2 ∈ zTbl := zmem 1054 (by decide +kernel) (by decide +kernel)
theorem zl_RL_22 : Cond.methodLink RL 22 yX12_wipe ∈ zTbl := zmem 1055 (by decide +kernel) (by decide +kernel)
theorem zin_X12_wipe : Cond.instanceMethod yX12_wipe ∈ zTbl := zmem 1056 (by decide +kernel) (by decide +kernel)
theorem zsel_X12_wipe : Cond.selects RX12 yX12_wipe yX12_wipe ∈ zTbl := zmem 1057 (by decide +kernel) (by decide +kernel)
theorem zcd_X12_wipe : Cond.code mX12_wipe.1 mX12_wipe.2.1 mX12_wipe.2.2.1 mX12_wipe.2.2.2 ∈ zTbl := zmem 1058 (by decide +kernel) (by decide +kernel)
theorem zl_RL_26 : Cond.methodLink RL 26 yX12_fault ∈ zTbl := zmem 1059 (by decide +kernel) (by decide +kernel)
theorem zin_X12_fault : Cond.instanceMethod yX12_fault ∈ zTbl := zmem 1060 (by decide +kernel) (by decide +kernel)
theorem zsel_X12_fault : Cond.selects RX12 yX12_fault yX12_fault ∈ zTbl := zmem 1061 (by decide +kernel) (by decide +kernel)
theorem zcd_X12_fault : Cond.code mX12_fault.1 mX12_fault.2.1 mX12_fault.2.2.1 mX12_fault.2.2.2 ∈ zTbl := zmem 1062 (by decide +kernel) (by decide +kernel)
theorem zl_RX12_162 : Cond.methodLink RX12 162 yX12_parse ∈ zTbl := zmem 1063 (by decide +kernel) (by decide +kernel)
theorem zin_X12_parse : Cond.instanceMethod yX12_parse ∈ zTbl := zmem 1065 (by decide +kernel) (by decide +kernel)
theorem zcd_X12_parse : Cond.code mX12_parse.1 mX12_parse.2.1 mX12_parse.2.2.1 mX12_parse.2.2.2 ∈ zTbl := zmem 1066 (by decide +kernel) (by decide +kernel)
theorem zk_RX12_150 : Cond.constant RX12 150 8388608 ∈ zTbl := zmem 1067 (by decide +kernel) (by decide +kernel)
theorem zl_RX12_151 : Cond.methodLink RX12 151 yX12_boundNext ∈ zTbl := zmem 1068 (by decide +kernel) (by decide +kernel)
theorem zin_X12_boundNext : Cond.instanceMethod yX12_boundNext ∈ zTbl := zmem 1070 (by decide +kernel) (by decide +kernel)
theorem zcd_X12_boundNext : Cond.code mX12_boundNext.1 mX12_boundNext.2.1 mX12_boundNext.2.2.1 mX12_boundNext.2.2.2 ∈ zTbl := zmem 1071 (by decide +kernel) (by decide +kernel)
theorem zl_RX12_134 : Cond.methodLink RX12 134 yX12_kind ∈ zTbl := zmem 1072 (by decide +kernel) (by decide +kernel)
theorem zin_X12_kind : Cond.instanceMethod yX12_kind ∈ zTbl := zmem 1074 (by decide +kernel) (by decide +kernel)
theorem zcd_X12_kind : Cond.code mX12_kind.1 mX12_kind.2.1 mX12_kind.2.2.1 mX12_kind.2.2.2 ∈ zTbl := zmem 1075 (by decide +kernel) (by decide +kernel)
theorem zl_RX12_137 : Cond.methodLink RX12 137 yX12_argument ∈ zTbl := zmem 1076 (by decide +kernel) (by decide +kernel)
theorem zin_X12_argument : Cond.instanceMethod yX12_argument ∈ zTbl := zmem 1078 (by decide +kernel) (by decide +kernel)
theorem zcd_X12_argument : Cond.code mX12_argument.1 mX12_argument.2.1 mX12_argument.2.2.1 mX12_argument.2.2.2 ∈ zTbl := zmem 1079 (by decide +kernel) (by decide +kernel)
theorem zl_RX12_154 : Cond.methodLink RX12 154 yX12_beginsWhole ∈ zTbl := zmem 1080 (by decide +kernel) (by decide +kernel)
theorem zin_X12_beginsWhole : Cond.instanceMethod yX12_beginsWhole ∈ zTbl := zmem 1082 (by decide +kernel) (by decide +kernel)
theorem zcd_X12_beginsWhole : Cond.code mX12_beginsWhole.1 mX12_beginsWhole.2.1 mX12_beginsWhole.2.2.1 mX12_beginsWhole.2.2.2 ∈ zTbl := zmem 1083 (by decide +kernel) (by decide +kernel)
theorem zl_RX12_94 : Cond.methodLink RX12 94 yX12_skip ∈ zTbl := zmem 1084 (by decide +kernel) (by decide +kernel)
theorem zin_X12_skip : Cond.instanceMethod yX12_skip ∈ zTbl := zmem 1086 (by decide +kernel) (by decide +kernel)
theorem zcd_X12_skip : Cond.code mX12_skip.1 mX12_skip.2.1 mX12_skip.2.2.1 mX12_skip.2.2.2 ∈ zTbl := zmem 1087 (by decide +kernel) (by decide +kernel)
theorem zl_RX12_97 : Cond.methodLink RX12 97 yX12_here ∈ zTbl := zmem 1088 (by decide +kernel) (by decide +kernel)
theorem zin_X12_here : Cond.instanceMethod yX12_here ∈ zTbl := zmem 1090 (by decide +kernel) (by decide +kernel)
theorem zcd_X12_here : Cond.code mX12_here.1 mX12_here.2.1 mX12_here.2.2.1 mX12_here.2.2.2 ∈ zTbl := zmem 1091 (by decide +kernel) (by decide +kernel)
theorem zl_RX12_111 : Cond.methodLink RX12 111 yX12_readNumber ∈ zTbl := zmem 1092 (by decide +kernel) (by decide +kernel)
theorem zin_X12_readNumber : Cond.instanceMethod yX12_readNumber ∈ zTbl := zmem 1094 (by decide +kernel) (by decide +kernel)
theorem zcd_X12_readNumber : Cond.code mX12_readNumber.1 mX12_readNumber.2.1 mX12_readNumber.2.2.1 mX12_readNumber.2.2.2 ∈ zTbl := zmem 1095 (by decide +kernel) (by decide +kernel)
theorem zl_RX12_114 : Cond.methodLink RX12 114 yX12_make ∈ zTbl := zmem 1096 (by decide +kernel) (by decide +kernel)
theorem zin_X12_make : Cond.instanceMethod yX12_make ∈ zTbl := zmem 1098 (by decide +kernel) (by decide +kernel)
theorem zcd_X12_make : Cond.code mX12_make.1 mX12_make.2.1 mX12_make.2.2.1 mX12_make.2.2.2 ∈ zTbl := zmem 1099 (by decide +kernel) (by decide +kernel)
theorem zl_RX12_120 : Cond.methodLink RX12 120 yX12_kindOf ∈ zTbl := zmem 1100 (by decide +kernel) (by decide +kernel)
theorem zst_X12_kindOf : Cond.static yX12_kindOf ∈ zTbl := zmem 1101 (by decide +kernel) (by decide +kernel)
theorem zcd_X12_kindOf : Cond.code mX12_kindOf.1 mX12_kindOf.2.1 mX12_kindOf.2.2.1 mX12_kindOf.2.2.2 ∈ zTbl := zmem 1102 (by decide +kernel) (by decide +kernel)
theorem zl_RX12_101 : Cond.methodLink RX12 101 yX12_fails ∈ zTbl := zmem 1103 (by decide +kernel) (by decide +kernel)
theorem zin_X12_fails : Cond.instanceMethod yX12_fails ∈ zTbl := zmem 1105 (by decide +kernel) (by decide +kernel)
theorem zcd_X12_fails : Cond.code mX12_fails.1 mX12_fails.2.1 mX12_fails.2.2.1 mX12_fails.2.2.2 ∈ zTbl := zmem 1106 (by decide +kernel) (by decide +kernel)
theorem zl_RX12_124 : Cond.methodLink RX12 124 yX12_readArgument ∈ zTbl := zmem 1107 (by decide +kernel) (by decide +kernel)
theorem zin_X12_readArgument : Cond.instanceMethod yX12_readArgument ∈ zTbl := zmem 1109 (by decide +kernel) (by decide +kernel)
theorem zcd_X12_readArgument : Cond.code mX12_readArgument.1 mX12_readArgument.2.1 mX12_readArgument.2.2.1 mX12_readArgument.2.2.2 ∈ zTbl := zmem 1110 (by decide +kernel) (by decide +kernel)
theorem zl_RX12_104 : Cond.methodLink RX12 104 yX12_take ∈ zTbl := zmem 1111 (by decide +kernel) (by decide +kernel)
theorem zin_X12_take : Cond.instanceMethod yX12_take ∈ zTbl := zmem 1113 (by decide +kernel) (by decide +kernel)
theorem zcd_X12_take : Cond.code mX12_take.1 mX12_take.2.1 mX12_take.2.2.1 mX12_take.2.2.2 ∈ zTbl := zmem 1114 (by decide +kernel) (by decide +kernel)
theorem zl_RX12_127 : Cond.methodLink RX12 127 yX12_enter ∈ zTbl := zmem 1115 (by decide +kernel) (by decide +kernel)
theorem zin_X12_enter : Cond.instanceMethod yX12_enter ∈ zTbl := zmem 1117 (by decide +kernel) (by decide +kernel)
theorem zcd_X12_enter : Cond.code mX12_enter.1 mX12_enter.2.1 mX12_enter.2.2.1 mX12_enter.2.2.2 ∈ zTbl := zmem 1118 (by decide +kernel) (by decide +kernel)
theorem zl_RX12_147 : Cond.methodLink RX12 147 yX12_attach ∈ zTbl := zmem 1119 (by decide +kernel) (by decide +kernel)
theorem zin_X12_attach : Cond.instanceMethod yX12_attach ∈ zTbl := zmem 1121 (by decide +kernel) (by decide +kernel)
theorem zcd_X12_attach : Cond.code mX12_attach.1 mX12_attach.2.1 mX12_attach.2.2.1 mX12_attach.2.2.2 ∈ zTbl := zmem 1122 (by decide +kernel) (by decide +kernel)
theorem zl_RX12_158 : Cond.methodLink RX12 158 yX12_goesOn ∈ zTbl := zmem 1123 (by decide +kernel) (by decide +kernel)
theorem zin_X12_goesOn : Cond.instanceMethod yX12_goesOn ∈ zTbl := zmem 1125 (by decide +kernel) (by decide +kernel)
theorem zcd_X12_goesOn : Cond.code mX12_goesOn.1 mX12_goesOn.2.1 mX12_goesOn.2.2.1 mX12_goesOn.2.2.2 ∈ zTbl := zmem 1126 (by decide +kernel) (by decide +kernel)
theorem zl_RX12_140 : Cond.methodLink RX12 140 yX12_beginClause ∈ zTbl := zmem 1127 (by decide +kernel) (by decide +kernel)
theorem zin_X12_beginClause : Cond.instanceMethod yX12_beginClause ∈ zTbl := zmem 1129 (by decide +kernel) (by decide +kernel)
theorem zcd_X12_beginClause : Cond.code mX12_beginClause.1 mX12_beginClause.2.1 mX12_beginClause.2.2.1 mX12_beginClause.2.2.2 ∈ zTbl := zmem 1130 (by decide +kernel) (by decide +kernel)
theorem zl_RX12_131 : Cond.methodLink RX12 131 yX12_clause ∈ zTbl := zmem 1131 (by decide +kernel) (by decide +kernel)
theorem zin_X12_clause : Cond.instanceMethod yX12_clause ∈ zTbl := zmem 1133 (by decide +kernel) (by decide +kernel)
theorem zcd_X12_clause : Cond.code mX12_clause.1 mX12_clause.2.1 mX12_clause.2.2.1 mX12_clause.2.2.2 ∈ zTbl := zmem 1134 (by decide +kernel) (by decide +kernel)
theorem zl_RX12_144 : Cond.methodLink RX12 144 yX12_parts ∈ zTbl := zmem 1135 (by decide +kernel) (by decide +kernel)
theorem zst_X12_parts : Cond.static yX12_parts ∈ zTbl := zmem 1136 (by decide +kernel) (by decide +kernel)
theorem zcd_X12_parts : Cond.code mX12_parts.1 mX12_parts.2.1 mX12_parts.2.2.1 mX12_parts.2.2.2 ∈ zTbl := zmem 1137 (by decide +kernel) (by decide +kernel)
theorem zl_RL_30 : Cond.methodLink RL 30 yX12_load ∈ zTbl := zmem 1138 (by decide +kernel) (by decide +kernel)
theorem zin_X12_load : Cond.instanceMethod yX12_load ∈ zTbl := zmem 1139 (by decide +kernel) (by decide +kernel)
theorem zsel_X12_load : Cond.selects RX12 yX12_load yX12_load ∈ zTbl := zmem 1140 (by decide +kernel) (by decide +kernel)
theorem zcd_X12_load : Cond.code mX12_load.1 mX12_load.2.1 mX12_load.2.2.1 mX12_load.2.2.2 ∈ zTbl := zmem 1141 (by decide +kernel) (by decide +kernel)
theorem zl_RL_34 : Cond.methodLink RL 34 yX12_define ∈ zTbl := zmem 1142 (by decide +kernel) (by decide +kernel)
theorem zin_X12_define : Cond.instanceMethod yX12_define ∈ zTbl := zmem 1143 (by decide +kernel) (by decide +kernel)
theorem zsel_X12_define : Cond.selects RX12 yX12_define yX12_define ∈ zTbl := zmem 1144 (by decide +kernel) (by decide +kernel)
theorem zcd_X12_define : Cond.code mX12_define.1 mX12_define.2.1 mX12_define.2.2.1 mX12_define.2.2.2 ∈ zTbl := zmem 1145 (by decide +kernel) (by decide +kernel)
theorem zl_RL_38 : Cond.methodLink RL 38 yX12_undefine ∈ zTbl := zmem 1146 (by decide +kernel) (by decide +kernel)
theorem zin_X12_undefine : Cond.instanceMethod yX12_undefine ∈ zTbl := zmem 1147 (by decide +kernel) (by decide +kernel)
theorem zsel_X12_undefine : Cond.selects RX12 yX12_undefine yX12_undefine ∈ zTbl := zmem 1148 (by decide +kernel) (by decide +kernel)
theorem zcd_X12_undefine : Cond.code mX12_undefine.1 mX12_undefine.2.1 mX12_undefine.2.2.1 mX12_undefine.2.2.2 ∈ zTbl := zmem 1149 (by decide +kernel) (by decide +kernel)
theorem zl_RL_42 : Cond.methodLink RL 42 yX12_restart ∈ zTbl := zmem 1150 (by decide +kernel) (by decide +kernel)
theorem zin_X12_restart : Cond.instanceMethod yX12_restart ∈ zTbl := zmem 1151 (by decide +kernel) (by decide +kernel)
theorem zsel_X12_restart : Cond.selects RX12 yX12_restart yX12_restart ∈ zTbl := zmem 1152 (by decide +kernel) (by decide +kernel)
theorem zcd_X12_restart : Cond.code mX12_restart.1 mX12_restart.2.1 mX12_restart.2.2.1 mX12_restart.2.2.2 ∈ zTbl := zmem 1153 (by decide +kernel) (by decide +kernel)
theorem zl_RL_46 : Cond.methodLink RL 46 yX12_listing ∈ zTbl := zmem 1154 (by decide +kernel) (by decide +kernel)
theorem zin_X12_listing : Cond.instanceMethod yX12_listing ∈ zTbl := zmem 1155 (by decide +kernel) (by decide +kernel)
theorem zsel_X12_listing : Cond.selects RX12 yX12_listing yX12_listing ∈ zTbl := zmem 1156 (by decide +kernel) (by decide +kernel)
theorem zcd_X12_listing : Cond.code mX12_listing.1 mX12_listing.2.1 mX12_listing.2.2.1 mX12_listing.2.2.2 ∈ zTbl := zmem 1157 (by decide +kernel) (by decide +kernel)
theorem zl_RX12_181 : Cond.methodLink RX12 181 yX12_layListing ∈ zTbl := zmem 1158 (by decide +kernel) (by decide +kernel)
theorem zin_X12_layListing : Cond.instanceMethod yX12_layListing ∈ zTbl := zmem 1160 (by decide +kernel) (by decide +kernel)
theorem zcd_X12_layListing : Cond.code mX12_layListing.1 mX12_layListing.2.1 mX12_layListing.2.2.1 mX12_layListing.2.2.2 ∈ zTbl := zmem 1161 (by decide +kernel) (by decide +kernel)
theorem zl_RX12_168 : Cond.methodLink RX12 168 yX12_layNumber ∈ zTbl := zmem 1162 (by decide +kernel) (by decide +kernel)
theorem zin_X12_layNumber : Cond.instanceMethod yX12_layNumber ∈ zTbl := zmem 1164 (by decide +kernel) (by decide +kernel)
theorem zcd_X12_layNumber : Cond.code mX12_layNumber.1 mX12_layNumber.2.1 mX12_layNumber.2.2.1 mX12_layNumber.2.2.2 ∈ zTbl := zmem 1165 (by decide +kernel) (by decide +kernel)
theorem zl_RX12_172 : Cond.methodLink RX12 172 yX12_signOf ∈ zTbl := zmem 1166 (by decide +kernel) (by decide +kernel)
theorem zst_X12_signOf : Cond.static yX12_signOf ∈ zTbl := zmem 1167 (by decide +kernel) (by decide +kernel)
theorem zcd_X12_signOf : Cond.code mX12_signOf.1 mX12_signOf.2.1 mX12_signOf.2.2.1 mX12_signOf.2.2.2 ∈ zTbl := zmem 1168 (by decide +kernel) (by decide +kernel)
theorem zl_RX12_175 : Cond.methodLink RX12 175 yX12_namedBy ∈ zTbl := zmem 1169 (by decide +kernel) (by decide +kernel)
theorem zin_X12_namedBy : Cond.instanceMethod yX12_namedBy ∈ zTbl := zmem 1171 (by decide +kernel) (by decide +kernel)
theorem zcd_X12_namedBy : Cond.code mX12_namedBy.1 mX12_namedBy.2.1 mX12_namedBy.2.2.1 mX12_namedBy.2.2.2 ∈ zTbl := zmem 1172 (by decide +kernel) (by decide +kernel)
theorem zl_RX12_178 : Cond.methodLink RX12 178 yX12_layParts ∈ zTbl := zmem 1173 (by decide +kernel) (by decide +kernel)
theorem zin_X12_layParts : Cond.instanceMethod yX12_layParts ∈ zTbl := zmem 1175 (by decide +kernel) (by decide +kernel)
theorem zcd_X12_layParts : Cond.code mX12_layParts.1 mX12_layParts.2.1 mX12_layParts.2.2.1 mX12_layParts.2.2.2 ∈ zTbl := zmem 1176 (by decide +kernel) (by decide +kernel)
theorem zl_RX12_165 : Cond.methodLink RX12 165 yX12_part ∈ zTbl := zmem 1177 (by decide +kernel) (by decide +kernel)
theorem zin_X12_part : Cond.instanceMethod yX12_part ∈ zTbl := zmem 1179 (by decide +kernel) (by decide +kernel)
theorem zcd_X12_part : Cond.code mX12_part.1 mX12_part.2.1 mX12_part.2.2.1 mX12_part.2.2.2 ∈ zTbl := zmem 1180 (by decide +kernel) (by decide +kernel)
theorem zl_RL_51 : Cond.methodLink RL 51 yX12_may ∈ zTbl := zmem 1181 (by decide +kernel) (by decide +kernel)
theorem zin_X12_may : Cond.instanceMethod yX12_may ∈ zTbl := zmem 1182 (by decide +kernel) (by decide +kernel)
theorem zsel_X12_may : Cond.selects RX12 yX12_may yX12_may ∈ zTbl := zmem 1183 (by decide +kernel) (by decide +kernel)
theorem zcd_X12_may : Cond.code mX12_may.1 mX12_may.2.1 mX12_may.2.2.1 mX12_may.2.2.2 ∈ zTbl := zmem 1184 (by decide +kernel) (by decide +kernel)
theorem zl_RX12_206 : Cond.methodLink RX12 206 yX12_clearIn ∈ zTbl := zmem 1185 (by decide +kernel) (by decide +kernel)
theorem zin_X12_clearIn : Cond.instanceMethod yX12_clearIn ∈ zTbl := zmem 1187 (by decide +kernel) (by decide +kernel)
theorem zcd_X12_clearIn : Cond.code mX12_clearIn.1 mX12_clearIn.2.1 mX12_clearIn.2.2.1 mX12_clearIn.2.2.2 ∈ zTbl := zmem 1188 (by decide +kernel) (by decide +kernel)
theorem zl_RX12_209 : Cond.methodLink RX12 209 yX12_growsIn ∈ zTbl := zmem 1189 (by decide +kernel) (by decide +kernel)
theorem zin_X12_growsIn : Cond.instanceMethod yX12_growsIn ∈ zTbl := zmem 1191 (by decide +kernel) (by decide +kernel)
theorem zcd_X12_growsIn : Cond.code mX12_growsIn.1 mX12_growsIn.2.1 mX12_growsIn.2.2.1 mX12_growsIn.2.2.2 ∈ zTbl := zmem 1192 (by decide +kernel) (by decide +kernel)
theorem zl_RX12_200 : Cond.methodLink RX12 200 yX12_leavesBy ∈ zTbl := zmem 1193 (by decide +kernel) (by decide +kernel)
theorem zin_X12_leavesBy : Cond.instanceMethod yX12_leavesBy ∈ zTbl := zmem 1195 (by decide +kernel) (by decide +kernel)
theorem zcd_X12_leavesBy : Cond.code mX12_leavesBy.1 mX12_leavesBy.2.1 mX12_leavesBy.2.2.1 mX12_leavesBy.2.2.2 ∈ zTbl := zmem 1196 (by decide +kernel) (by decide +kernel)
theorem zl_RX12_194 : Cond.methodLink RX12 194 yX12_ofHandled ∈ zTbl := zmem 1197 (by decide +kernel) (by decide +kernel)
theorem zin_X12_ofHandled : Cond.instanceMethod yX12_ofHandled ∈ zTbl := zmem 1199 (by decide +kernel) (by decide +kernel)
theorem zcd_X12_ofHandled : Cond.code mX12_ofHandled.1 mX12_ofHandled.2.1 mX12_ofHandled.2.2.1 mX12_ofHandled.2.2.2 ∈ zTbl := zmem 1200 (by decide +kernel) (by decide +kernel)
theorem zl_RX12_191 : Cond.methodLink RX12 191 yX12_handled ∈ zTbl := zmem 1201 (by decide +kernel) (by decide +kernel)
theorem zst_X12_handled : Cond.static yX12_handled ∈ zTbl := zmem 1202 (by decide +kernel) (by decide +kernel)
theorem zcd_X12_handled : Cond.code mX12_handled.1 mX12_handled.2.1 mX12_handled.2.2.1 mX12_handled.2.2.2 ∈ zTbl := zmem 1203 (by decide +kernel) (by decide +kernel)
theorem zl_RX12_184 : Cond.methodLink RX12 184 yX12_levelsOf ∈ zTbl := zmem 1204 (by decide +kernel) (by decide +kernel)
theorem zst_X12_levelsOf : Cond.static yX12_levelsOf ∈ zTbl := zmem 1205 (by decide +kernel) (by decide +kernel)
theorem zcd_X12_levelsOf : Cond.code mX12_levelsOf.1 mX12_levelsOf.2.1 mX12_levelsOf.2.2.1 mX12_levelsOf.2.2.2 ∈ zTbl := zmem 1206 (by decide +kernel) (by decide +kernel)
theorem zl_RX12_187 : Cond.methodLink RX12 187 yX12_withLevels ∈ zTbl := zmem 1207 (by decide +kernel) (by decide +kernel)
theorem zst_X12_withLevels : Cond.static yX12_withLevels ∈ zTbl := zmem 1208 (by decide +kernel) (by decide +kernel)
theorem zcd_X12_withLevels : Cond.code mX12_withLevels.1 mX12_withLevels.2.1 mX12_withLevels.2.2.1 mX12_withLevels.2.2.2 ∈ zTbl := zmem 1209 (by decide +kernel) (by decide +kernel)
theorem zl_RX12_197 : Cond.methodLink RX12 197 yX12_masked ∈ zTbl := zmem 1210 (by decide +kernel) (by decide +kernel)
theorem zst_X12_masked : Cond.static yX12_masked ∈ zTbl := zmem 1211 (by decide +kernel) (by decide +kernel)
theorem zcd_X12_masked : Cond.code mX12_masked.1 mX12_masked.2.1 mX12_masked.2.2.1 mX12_masked.2.2.2 ∈ zTbl := zmem 1212 (by decide +kernel) (by decide +kernel)
theorem zl_RX12_203 : Cond.methodLink RX12 203 yX12_lateBy ∈ zTbl := zmem 1213 (by decide +kernel) (by decide +kernel)
theorem zin_X12_lateBy : Cond.instanceMethod yX12_lateBy ∈ zTbl := zmem 1215 (by decide +kernel) (by decide +kernel)
theorem zcd_X12_lateBy : Cond.code mX12_lateBy.1 mX12_lateBy.2.1 mX12_lateBy.2.2.1 mX12_lateBy.2.2.2 ∈ zTbl := zmem 1216 (by decide +kernel) (by decide +kernel)
theorem zl_RL_55 : Cond.methodLink RL 55 yX12_run ∈ zTbl := zmem 1217 (by decide +kernel) (by decide +kernel)
theorem zin_X12_run : Cond.instanceMethod yX12_run ∈ zTbl := zmem 1218 (by decide +kernel) (by decide +kernel)
theorem zsel_X12_run : Cond.selects RX12 yX12_run yX12_run ∈ zTbl := zmem 1219 (by decide +kernel) (by decide +kernel)
theorem zcd_X12_run : Cond.code mX12_run.1 mX12_run.2.1 mX12_run.2.2.1 mX12_run.2.2.2 ∈ zTbl := zmem 1220 (by decide +kernel) (by decide +kernel)
theorem zl_RX12_293 : Cond.methodLink RX12 293 yX12_step ∈ zTbl := zmem 1221 (by decide +kernel) (by decide +kernel)
theorem zin_X12_step : Cond.instanceMethod yX12_step ∈ zTbl := zmem 1223 (by decide +kernel) (by decide +kernel)
theorem zcd_X12_step : Cond.code mX12_step.1 mX12_step.2.1 mX12_step.2.2.1 mX12_step.2.2.2 ∈ zTbl := zmem 1224 (by decide +kernel) (by decide +kernel)
theorem zl_RX12_284 : Cond.methodLink RX12 284 yX12_opens ∈ zTbl := zmem 1225 (by decide +kernel) (by decide +kernel)
theorem zin_X12_opens : Cond.instanceMethod yX12_opens ∈ zTbl := zmem 1227 (by decide +kernel) (by decide +kernel)
theorem zcd_X12_opens : Cond.code mX12_opens.1 mX12_opens.2.1 mX12_opens.2.2.1 mX12_opens.2.2.2 ∈ zTbl := zmem 1228 (by decide +kernel) (by decide +kernel)
theorem zl_RX12_219 : Cond.methodLink RX12 219 yX12_become ∈ zTbl := zmem 1229 (by decide +kernel) (by decide +kernel)
theorem zin_X12_become : Cond.instanceMethod yX12_become ∈ zTbl := zmem 1231 (by decide +kernel) (by decide +kernel)
theorem zcd_X12_become : Cond.code mX12_become.1 mX12_become.2.1 mX12_become.2.2.1 mX12_become.2.2.2 ∈ zTbl := zmem 1232 (by decide +kernel) (by decide +kernel)
theorem zl_RX12_222 : Cond.methodLink RX12 222 yX12_valueOf ∈ zTbl := zmem 1233 (by decide +kernel) (by decide +kernel)
theorem zin_X12_valueOf : Cond.instanceMethod yX12_valueOf ∈ zTbl := zmem 1235 (by decide +kernel) (by decide +kernel)
theorem zcd_X12_valueOf : Cond.code mX12_valueOf.1 mX12_valueOf.2.1 mX12_valueOf.2.2.1 mX12_valueOf.2.2.2 ∈ zTbl := zmem 1236 (by decide +kernel) (by decide +kernel)
theorem zl_RX12_216 : Cond.methodLink RX12 216 yX12_depth ∈ zTbl := zmem 1237 (by decide +kernel) (by decide +kernel)
theorem zin_X12_depth : Cond.instanceMethod yX12_depth ∈ zTbl := zmem 1239 (by decide +kernel) (by decide +kernel)
theorem zcd_X12_depth : Cond.code mX12_depth.1 mX12_depth.2.1 mX12_depth.2.2.1 mX12_depth.2.2.2 ∈ zTbl := zmem 1240 (by decide +kernel) (by decide +kernel)
theorem zl_RX12_213 : Cond.methodLink RX12 213 yX12_of ∈ zTbl := zmem 1241 (by decide +kernel) (by decide +kernel)
theorem zin_X12_of : Cond.instanceMethod yX12_of ∈ zTbl := zmem 1243 (by decide +kernel) (by decide +kernel)
theorem zcd_X12_of : Cond.code mX12_of.1 mX12_of.2.1 mX12_of.2.2.1 mX12_of.2.2.2 ∈ zTbl := zmem 1244 (by decide +kernel) (by decide +kernel)
theorem zl_RX12_225 : Cond.methodLink RX12 225 yX12_frameOf ∈ zTbl := zmem 1245 (by decide +kernel) (by decide +kernel)
theorem zst_X12_frameOf : Cond.static yX12_frameOf ∈ zTbl := zmem 1246 (by decide +kernel) (by decide +kernel)
theorem zcd_X12_frameOf : Cond.code mX12_frameOf.1 mX12_frameOf.2.1 mX12_frameOf.2.2.1 mX12_frameOf.2.2.2 ∈ zTbl := zmem 1247 (by decide +kernel) (by decide +kernel)
theorem zl_RX12_228 : Cond.methodLink RX12 228 yX12_push ∈ zTbl := zmem 1248 (by decide +kernel) (by decide +kernel)
theorem zin_X12_push : Cond.instanceMethod yX12_push ∈ zTbl := zmem 1250 (by decide +kernel) (by decide +kernel)
theorem zcd_X12_push : Cond.code mX12_push.1 mX12_push.2.1 mX12_push.2.2.1 mX12_push.2.2.2 ∈ zTbl := zmem 1251 (by decide +kernel) (by decide +kernel)
theorem zl_RX12_287 : Cond.methodLink RX12 287 yX12_closes ∈ zTbl := zmem 1252 (by decide +kernel) (by decide +kernel)
theorem zin_X12_closes : Cond.instanceMethod yX12_closes ∈ zTbl := zmem 1254 (by decide +kernel) (by decide +kernel)
theorem zcd_X12_closes : Cond.code mX12_closes.1 mX12_closes.2.1 mX12_closes.2.2.1 mX12_closes.2.2.2 ∈ zTbl := zmem 1255 (by decide +kernel) (by decide +kernel)
theorem zl_RX12_281 : Cond.methodLink RX12 281 yX12_comesTo ∈ zTbl := zmem 1256 (by decide +kernel) (by decide +kernel)
theorem zin_X12_comesTo : Cond.instanceMethod yX12_comesTo ∈ zTbl := zmem 1258 (by decide +kernel) (by decide +kernel)
theorem zcd_X12_comesTo : Cond.code mX12_comesTo.1 mX12_comesTo.2.1 mX12_comesTo.2.2.1 mX12_comesTo.2.2.2 ∈ zTbl := zmem 1259 (by decide +kernel) (by decide +kernel)
theorem zl_RX12_238 : Cond.methodLink RX12 238 yX12_focusOn ∈ zTbl := zmem 1260 (by decide +kernel) (by decide +kernel)
theorem zin_X12_focusOn : Cond.instanceMethod yX12_focusOn ∈ zTbl := zmem 1262 (by decide +kernel) (by decide +kernel)
theorem zcd_X12_focusOn : Cond.code mX12_focusOn.1 mX12_focusOn.2.1 mX12_focusOn.2.2.1 mX12_focusOn.2.2.2 ∈ zTbl := zmem 1263 (by decide +kernel) (by decide +kernel)
theorem zl_RX12_260 : Cond.methodLink RX12 260 yX12_result ∈ zTbl := zmem 1264 (by decide +kernel) (by decide +kernel)
theorem zst_X12_result : Cond.static yX12_result ∈ zTbl := zmem 1265 (by decide +kernel) (by decide +kernel)
theorem zcd_X12_result : Cond.code mX12_result.1 mX12_result.2.1 mX12_result.2.2.1 mX12_result.2.2.2 ∈ zTbl := zmem 1266 (by decide +kernel) (by decide +kernel)
theorem zl_RX12_257 : Cond.methodLink RX12 257 yX12_bindTo ∈ zTbl := zmem 1267 (by decide +kernel) (by decide +kernel)
theorem zin_X12_bindTo : Cond.instanceMethod yX12_bindTo ∈ zTbl := zmem 1269 (by decide +kernel) (by decide +kernel)
theorem zcd_X12_bindTo : Cond.code mX12_bindTo.1 mX12_bindTo.2.1 mX12_bindTo.2.2.1 mX12_bindTo.2.2.2 ∈ zTbl := zmem 1270 (by decide +kernel) (by decide +kernel)
theorem zl_RX12_263 : Cond.methodLink RX12 263 yX12_trace0 ∈ zTbl := zmem 1271 (by decide +kernel) (by decide +kernel)
theorem zin_X12_trace0 : Cond.instanceMethod yX12_trace0 ∈ zTbl := zmem 1273 (by decide +kernel) (by decide +kernel)
theorem zcd_X12_trace0 : Cond.code mX12_trace0.1 mX12_trace0.2.1 mX12_trace0.2.2.1 mX12_trace0.2.2.2 ∈ zTbl := zmem 1274 (by decide +kernel) (by decide +kernel)
theorem zl_RX12_266 : Cond.methodLink RX12 266 yX12_perform ∈ zTbl := zmem 1275 (by decide +kernel) (by decide +kernel)
theorem zin_X12_perform : Cond.instanceMethod yX12_perform ∈ zTbl := zmem 1277 (by decide +kernel) (by decide +kernel)
theorem zcd_X12_perform : Cond.code mX12_perform.1 mX12_perform.2.1 mX12_perform.2.2.1 mX12_perform.2.2.2 ∈ zTbl := zmem 1278 (by decide +kernel) (by decide +kernel)
theorem zl_RX12_251 : Cond.methodLink RX12 251 yX12_handlerOf ∈ zTbl := zmem 1279 (by decide +kernel) (by decide +kernel)
theorem zin_X12_handlerOf : Cond.instanceMethod yX12_handlerOf ∈ zTbl := zmem 1281 (by decide +kernel) (by decide +kernel)
theorem zcd_X12_handlerOf : Cond.code mX12_handlerOf.1 mX12_handlerOf.2.1 mX12_handlerOf.2.2.1 mX12_handlerOf.2.2.2 ∈ zTbl := zmem 1282 (by decide +kernel) (by decide +kernel)
theorem zl_RX12_254 : Cond.methodLink RX12 254 yX12_makeResumption ∈ zTbl := zmem 1283 (by decide +kernel) (by decide +kernel)
theorem zin_X12_makeResumption : Cond.instanceMethod yX12_makeResumption ∈ zTbl := zmem 1285 (by decide +kernel) (by decide +kernel)
theorem zcd_X12_makeResumption : Cond.code mX12_makeResumption.1 mX12_makeResumption.2.1 mX12_makeResumption.2.2.1 mX12_makeResumption.2.2.2 ∈ zTbl := zmem 1286 (by decide +kernel) (by decide +kernel)
theorem zl_RX12_244 : Cond.methodLink RX12 244 yX12_executeFinalizer ∈ zTbl := zmem 1287 (by decide +kernel) (by decide +kernel)
theorem zin_X12_executeFinalizer : Cond.instanceMethod yX12_executeFinalizer ∈ zTbl := zmem 1289 (by decide +kernel) (by decide +kernel)
theorem zcd_X12_executeFinalizer : Cond.code mX12_executeFinalizer.1 mX12_executeFinalizer.2.1 mX12_executeFinalizer.2.2.1 mX12_executeFinalizer.2.2.2 ∈ zTbl := zmem 1290 (by decide +kernel) (by decide +kernel)
theorem zl_RX12_269 : Cond.methodLink RX12 269 yX12_call ∈ zTbl := zmem 1291 (by decide +kernel) (by decide +kernel)
theorem zin_X12_call : Cond.instanceMethod yX12_call ∈ zTbl := zmem 1293 (by decide +kernel) (by decide +kernel)
theorem zcd_X12_call : Cond.code mX12_call.1 mX12_call.2.1 mX12_call.2.2.1 mX12_call.2.2.2 ∈ zTbl := zmem 1294 (by decide +kernel) (by decide +kernel)
theorem zl_RX12_272 : Cond.methodLink RX12 272 yX12_resumes ∈ zTbl := zmem 1295 (by decide +kernel) (by decide +kernel)
theorem zin_X12_resumes : Cond.instanceMethod yX12_resumes ∈ zTbl := zmem 1297 (by decide +kernel) (by decide +kernel)
theorem zcd_X12_resumes : Cond.code mX12_resumes.1 mX12_resumes.2.1 mX12_resumes.2.2.1 mX12_resumes.2.2.2 ∈ zTbl := zmem 1298 (by decide +kernel) (by decide +kernel)
theorem zl_RX12_232 : Cond.methodLink RX12 232 yX12_uses ∈ zTbl := zmem 1299 (by decide +kernel) (by decide +kernel)
theorem zin_X12_uses : Cond.instanceMethod yX12_uses ∈ zTbl := zmem 1301 (by decide +kernel) (by decide +kernel)
theorem zcd_X12_uses : Cond.code mX12_uses.1 mX12_uses.2.1 mX12_uses.2.2.1 mX12_uses.2.2.2 ∈ zTbl := zmem 1302 (by decide +kernel) (by decide +kernel)
theorem zl_RX12_275 : Cond.methodLink RX12 275 yX12_leaveHandler ∈ zTbl := zmem 1303 (by decide +kernel) (by decide +kernel)
theorem zin_X12_leaveHandler : Cond.instanceMethod yX12_leaveHandler ∈ zTbl := zmem 1305 (by decide +kernel) (by decide +kernel)
theorem zcd_X12_leaveHandler : Cond.code mX12_leaveHandler.1 mX12_leaveHandler.2.1 mX12_leaveHandler.2.2.1 mX12_leaveHandler.2.2.2 ∈ zTbl := zmem 1306 (by decide +kernel) (by decide +kernel)
theorem zl_RX12_278 : Cond.methodLink RX12 278 yX12_closesClause ∈ zTbl := zmem 1307 (by decide +kernel) (by decide +kernel)
theorem zin_X12_closesClause : Cond.instanceMethod yX12_closesClause ∈ zTbl := zmem 1309 (by decide +kernel) (by decide +kernel)
theorem zcd_X12_closesClause : Cond.code mX12_closesClause.1 mX12_closesClause.2.1 mX12_closesClause.2.2.1 mX12_closesClause.2.2.2 ∈ zTbl := zmem 1310 (by decide +kernel) (by decide +kernel)
theorem zl_RX12_241 : Cond.methodLink RX12 241 yX12_pending ∈ zTbl := zmem 1311 (by decide +kernel) (by decide +kernel)
theorem zin_X12_pending : Cond.instanceMethod yX12_pending ∈ zTbl := zmem 1313 (by decide +kernel) (by decide +kernel)
theorem zcd_X12_pending : Cond.code mX12_pending.1 mX12_pending.2.1 mX12_pending.2.2.1 mX12_pending.2.2.2 ∈ zTbl := zmem 1314 (by decide +kernel) (by decide +kernel)
theorem zl_RX12_290 : Cond.methodLink RX12 290 yX12_checkSteps ∈ zTbl := zmem 1315 (by decide +kernel) (by decide +kernel)
theorem zin_X12_checkSteps : Cond.instanceMethod yX12_checkSteps ∈ zTbl := zmem 1317 (by decide +kernel) (by decide +kernel)
theorem zcd_X12_checkSteps : Cond.code mX12_checkSteps.1 mX12_checkSteps.2.1 mX12_checkSteps.2.2.1 mX12_checkSteps.2.2.2 ∈ zTbl := zmem 1318 (by decide +kernel) (by decide +kernel)
theorem zl_RL_59 : Cond.methodLink RL 59 yX12_answer ∈ zTbl := zmem 1319 (by decide +kernel) (by decide +kernel)
theorem zin_X12_answer : Cond.instanceMethod yX12_answer ∈ zTbl := zmem 1320 (by decide +kernel) (by decide +kernel)
theorem zsel_X12_answer : Cond.selects RX12 yX12_answer yX12_answer ∈ zTbl := zmem 1321 (by decide +kernel) (by decide +kernel)
theorem zcd_X12_answer : Cond.code mX12_answer.1 mX12_answer.2.1 mX12_answer.2.2.1 mX12_answer.2.2.2 ∈ zTbl := zmem 1322 (by decide +kernel) (by decide +kernel)
theorem zl_RL_63 : Cond.methodLink RL 63 yX12_drop ∈ zTbl := zmem 1323 (by decide +kernel) (by decide +kernel)
theorem zin_X12_drop : Cond.instanceMethod yX12_drop ∈ zTbl := zmem 1324 (by decide +kernel) (by decide +kernel)
theorem zsel_X12_drop : Cond.selects RX12 yX12_drop yX12_drop ∈ zTbl := zmem 1325 (by decide +kernel) (by decide +kernel)
theorem zcd_X12_drop : Cond.code mX12_drop.1 mX12_drop.2.1 mX12_drop.2.2.1 mX12_drop.2.2.2 ∈ zTbl := zmem 1326 (by decide +kernel) (by decide +kernel)
theorem zl_RL_67 : Cond.methodLink RL 67 yX12_told ∈ zTbl := zmem 1327 (by decide +kernel) (by decide +kernel)
theorem zin_X12_told : Cond.instanceMethod yX12_told ∈ zTbl := zmem 1328 (by decide +kernel) (by decide +kernel)
theorem zsel_X12_told : Cond.selects RX12 yX12_told yX12_told ∈ zTbl := zmem 1329 (by decide +kernel) (by decide +kernel)
theorem zcd_X12_told : Cond.code mX12_told.1 mX12_told.2.1 mX12_told.2.2.1 mX12_told.2.2.2 ∈ zTbl := zmem 1330 (by decide +kernel) (by decide +kernel)
theorem zl_RX12_296 : Cond.methodLink RX12 296 yX12_defined ∈ zTbl := zmem 1331 (by decide +kernel) (by decide +kernel)
theorem zin_X12_defined : Cond.instanceMethod yX12_defined ∈ zTbl := zmem 1333 (by decide +kernel) (by decide +kernel)
theorem zcd_X12_defined : Cond.code mX12_defined.1 mX12_defined.2.1 mX12_defined.2.2.1 mX12_defined.2.2.2 ∈ zTbl := zmem 1334 (by decide +kernel) (by decide +kernel)
theorem zl_RL_71 : Cond.methodLink RL 71 yX12_value ∈ zTbl := zmem 1335 (by decide +kernel) (by decide +kernel)
theorem zin_X12_value : Cond.instanceMethod yX12_value ∈ zTbl := zmem 1336 (by decide +kernel) (by decide +kernel)
theorem zsel_X12_value : Cond.selects RX12 yX12_value yX12_value ∈ zTbl := zmem 1337 (by decide +kernel) (by decide +kernel)
theorem zcd_X12_value : Cond.code mX12_value.1 mX12_value.2.1 mX12_value.2.2.1 mX12_value.2.2.2 ∈ zTbl := zmem 1338 (by decide +kernel) (by decide +kernel)
theorem zl_RL_75 : Cond.methodLink RL 75 yX12_focus ∈ zTbl := zmem 1339 (by decide +kernel) (by decide +kernel)
theorem zin_X12_focus : Cond.instanceMethod yX12_focus ∈ zTbl := zmem 1340 (by decide +kernel) (by decide +kernel)
theorem zsel_X12_focus : Cond.selects RX12 yX12_focus yX12_focus ∈ zTbl := zmem 1341 (by decide +kernel) (by decide +kernel)
theorem zcd_X12_focus : Cond.code mX12_focus.1 mX12_focus.2.1 mX12_focus.2.2.1 mX12_focus.2.2.2 ∈ zTbl := zmem 1342 (by decide +kernel) (by decide +kernel)
theorem zl_RL_79 : Cond.methodLink RL 79 yX12_trace ∈ zTbl := zmem 1343 (by decide +kernel) (by decide +kernel)
theorem zin_X12_trace : Cond.instanceMethod yX12_trace ∈ zTbl := zmem 1344 (by decide +kernel) (by decide +kernel)
theorem zsel_X12_trace : Cond.selects RX12 yX12_trace yX12_trace ∈ zTbl := zmem 1345 (by decide +kernel) (by decide +kernel)
theorem zcd_X12_trace : Cond.code mX12_trace.1 mX12_trace.2.1 mX12_trace.2.2.1 mX12_trace.2.2.2 ∈ zTbl := zmem 1346 (by decide +kernel) (by decide +kernel)
theorem zl_RL_83 : Cond.methodLink RL 83 yX12_performed ∈ zTbl := zmem 1347 (by decide +kernel) (by decide +kernel)
theorem zin_X12_performed : Cond.instanceMethod yX12_performed ∈ zTbl := zmem 1348 (by decide +kernel) (by decide +kernel)
theorem zsel_X12_performed : Cond.selects RX12 yX12_performed yX12_performed ∈ zTbl := zmem 1349 (by decide +kernel) (by decide +kernel)
theorem zcd_X12_performed : Cond.code mX12_performed.1 mX12_performed.2.1 mX12_performed.2.2.1 mX12_performed.2.2.2 ∈ zTbl := zmem 1350 (by decide +kernel) (by decide +kernel)
theorem zl_RL_88 : Cond.methodLink RL 88 yX12_frame ∈ zTbl := zmem 1351 (by decide +kernel) (by decide +kernel)
theorem zin_X12_frame : Cond.instanceMethod yX12_frame ∈ zTbl := zmem 1352 (by decide +kernel) (by decide +kernel)
theorem zsel_X12_frame : Cond.selects RX12 yX12_frame yX12_frame ∈ zTbl := zmem 1353 (by decide +kernel) (by decide +kernel)
theorem zcd_X12_frame : Cond.code mX12_frame.1 mX12_frame.2.1 mX12_frame.2.2.1 mX12_frame.2.2.2 ∈ zTbl := zmem 1354 (by decide +kernel) (by decide +kernel)
theorem zl_RX12_302 : Cond.methodLink RX12 302 yX12_property ∈ zTbl := zmem 1355 (by decide +kernel) (by decide +kernel)
theorem zin_X12_property : Cond.instanceMethod yX12_property ∈ zTbl := zmem 1357 (by decide +kernel) (by decide +kernel)
theorem zcd_X12_property : Cond.code mX12_property.1 mX12_property.2.1 mX12_property.2.2.1 mX12_property.2.2.2 ∈ zTbl := zmem 1358 (by decide +kernel) (by decide +kernel)
theorem zl_RX12_299 : Cond.methodLink RX12 299 yX12_clauses ∈ zTbl := zmem 1359 (by decide +kernel) (by decide +kernel)
theorem zin_X12_clauses : Cond.instanceMethod yX12_clauses ∈ zTbl := zmem 1361 (by decide +kernel) (by decide +kernel)
theorem zcd_X12_clauses : Cond.code mX12_clauses.1 mX12_clauses.2.1 mX12_clauses.2.2.1 mX12_clauses.2.2.2 ∈ zTbl := zmem 1362 (by decide +kernel) (by decide +kernel)
theorem zl_RL_92 : Cond.methodLink RL 92 yX12_handler ∈ zTbl := zmem 1363 (by decide +kernel) (by decide +kernel)
theorem zin_X12_handler : Cond.instanceMethod yX12_handler ∈ zTbl := zmem 1364 (by decide +kernel) (by decide +kernel)
theorem zsel_X12_handler : Cond.selects RX12 yX12_handler yX12_handler ∈ zTbl := zmem 1365 (by decide +kernel) (by decide +kernel)
theorem zcd_X12_handler : Cond.code mX12_handler.1 mX12_handler.2.1 mX12_handler.2.2.1 mX12_handler.2.2.2 ∈ zTbl := zmem 1366 (by decide +kernel) (by decide +kernel)
theorem zl_RL_96 : Cond.methodLink RL 96 yX12_keep ∈ zTbl := zmem 1367 (by decide +kernel) (by decide +kernel)
theorem zin_X12_keep : Cond.instanceMethod yX12_keep ∈ zTbl := zmem 1368 (by decide +kernel) (by decide +kernel)
theorem zsel_X12_keep : Cond.selects RX12 yX12_keep yX12_keep ∈ zTbl := zmem 1369 (by decide +kernel) (by decide +kernel)
theorem zcd_X12_keep : Cond.code mX12_keep.1 mX12_keep.2.1 mX12_keep.2.2.1 mX12_keep.2.2.2 ∈ zTbl := zmem 1370 (by decide +kernel) (by decide +kernel)
theorem zl_RL_100 : Cond.methodLink RL 100 yX12_back ∈ zTbl := zmem 1371 (by decide +kernel) (by decide +kernel)
theorem zin_X12_back : Cond.instanceMethod yX12_back ∈ zTbl := zmem 1372 (by decide +kernel) (by decide +kernel)
theorem zsel_X12_back : Cond.selects RX12 yX12_back yX12_back ∈ zTbl := zmem 1373 (by decide +kernel) (by decide +kernel)
theorem zcd_X12_back : Cond.code mX12_back.1 mX12_back.2.1 mX12_back.2.2.1 mX12_back.2.2.2 ∈ zTbl := zmem 1374 (by decide +kernel) (by decide +kernel)
theorem zsel_X6_addDigit : Cond.selects RX6 yX6_addDigit yX6_addDigit ∈ zTbl := zmem 0 (by decide +kernel) (by decide +kernel)
theorem zsel_X6_accept : Cond.selects RX6 yX6_accept yX6_accept ∈ zTbl := zmem 1 (by decide +kernel) (by decide +kernel)
theorem zsel_X6_acceptExpression : Cond.selects RX6 yX6_acceptExpression yX6_acceptExpression ∈ zTbl := zmem 2 (by decide +kernel) (by decide +kernel)
theorem zsel_X6_addLeaf : Cond.selects RX6 yX6_addLeaf yX6_addLeaf ∈ zTbl := zmem 3 (by decide +kernel) (by decide +kernel)
theorem zsel_X6_addExpression : Cond.selects RX6 yX6_addExpression yX6_addExpression ∈ zTbl := zmem 4 (by decide +kernel) (by decide +kernel)
theorem zsel_X6_attach : Cond.selects RX6 yX6_attach yX6_attach ∈ zTbl := zmem 5 (by decide +kernel) (by decide +kernel)
theorem zsel_X6_endPart : Cond.selects RX6 yX6_endPart yX6_endPart ∈ zTbl := zmem 6 (by decide +kernel) (by decide +kernel)
theorem zsel_X6_beginExpression : Cond.selects RX6 yX6_beginExpression yX6_beginExpression ∈ zTbl := zmem 7 (by decide +kernel) (by decide +kernel)
theorem zsel_X6_acceptVariable : Cond.selects RX6 yX6_acceptVariable yX6_acceptVariable ∈ zTbl := zmem 8 (by decide +kernel) (by decide +kernel)
theorem zsel_X6_acceptMark : Cond.selects RX6 yX6_acceptMark yX6_acceptMark ∈ zTbl := zmem 9 (by decide +kernel) (by decide +kernel)
theorem zsel_X6_acceptClause : Cond.selects RX6 yX6_acceptClause yX6_acceptClause ∈ zTbl := zmem 10 (by decide +kernel) (by decide +kernel)
theorem zsel_X4_plan : Cond.selects RX4 yX4_plan yX4_plan ∈ zTbl := zmem 11 (by decide +kernel) (by decide +kernel)
theorem zsel_X4_put : Cond.selects RX4 yX4_put yX4_put ∈ zTbl := zmem 12 (by decide +kernel) (by decide +kernel)
theorem zsel_X4_putHead : Cond.selects RX4 yX4_putHead yX4_putHead ∈ zTbl := zmem 13 (by decide +kernel) (by decide +kernel)
theorem zsel_X4_putNumber : Cond.selects RX4 yX4_putNumber yX4_putNumber ∈ zTbl := zmem 14 (by decide +kernel) (by decide +kernel)
theorem zsel_X4_planParts : Cond.selects RX4 yX4_planParts yX4_planParts ∈ zTbl := zmem 15 (by decide +kernel) (by decide +kernel)
theorem zsel_X4_planClause : Cond.selects RX4 yX4_planClause yX4_planClause ∈ zTbl := zmem 16 (by decide +kernel) (by decide +kernel)
theorem zsel_X4_planPart : Cond.selects RX4 yX4_planPart yX4_planPart ∈ zTbl := zmem 17 (by decide +kernel) (by decide +kernel)
theorem zsel_X8_goTo : Cond.selects RX8 yX8_goTo yX8_goTo ∈ zTbl := zmem 18 (by decide +kernel) (by decide +kernel)
theorem zsel_X1_leavesOfHandler : Cond.selects RX1 yX1_leavesOfHandler yX1_leavesOfHandler ∈ zTbl := zmem 19 (by decide +kernel) (by decide +kernel)
theorem zsel_X1_lateOfClauses : Cond.selects RX1 yX1_lateOfClauses yX1_lateOfClauses ∈ zTbl := zmem 20 (by decide +kernel) (by decide +kernel)
theorem zsel_X8_stepInto : Cond.selects RX8 yX8_stepInto yX8_stepInto ∈ zTbl := zmem 21 (by decide +kernel) (by decide +kernel)
theorem zsel_X8_stepOut : Cond.selects RX8 yX8_stepOut yX8_stepOut ∈ zTbl := zmem 22 (by decide +kernel) (by decide +kernel)
theorem zsel_X8_resume : Cond.selects RX8 yX8_resume yX8_resume ∈ zTbl := zmem 23 (by decide +kernel) (by decide +kernel)
theorem zsel_X8_leaveClause : Cond.selects RX8 yX8_leaveClause yX8_leaveClause ∈ zTbl := zmem 24 (by decide +kernel) (by decide +kernel)
theorem zsel_X5_visit : Cond.selects RX5 yX5_visit yX5_visit ∈ zTbl := zmem 25 (by decide +kernel) (by decide +kernel)
theorem zsel_X8_execute : Cond.selects RX8 yX8_execute yX8_execute ∈ zTbl := zmem 26 (by decide +kernel) (by decide +kernel)
theorem zsel_X8_perform : Cond.selects RX8 yX8_perform yX8_perform ∈ zTbl := zmem 27 (by decide +kernel) (by decide +kernel)
theorem zsel_X8_goOnAt : Cond.selects RX8 yX8_goOnAt yX8_goOnAt ∈ zTbl := zmem 28 (by decide +kernel) (by decide +kernel)
theorem zsel_X8_emit : Cond.selects RX8 yX8_emit yX8_emit ∈ zTbl := zmem 29 (by decide +kernel) (by decide +kernel)
theorem zsel_X8_call : Cond.selects RX8 yX8_call yX8_call ∈ zTbl := zmem 30 (by decide +kernel) (by decide +kernel)
theorem zsel_X8_leaveHandler : Cond.selects RX8 yX8_leaveHandler yX8_leaveHandler ∈ zTbl := zmem 31 (by decide +kernel) (by decide +kernel)
theorem zsel_X8_endIfDue : Cond.selects RX8 yX8_endIfDue yX8_endIfDue ∈ zTbl := zmem 32 (by decide +kernel) (by decide +kernel)
theorem zsel_X12_begin : Cond.selects RX12 yX12_begin yX12_begin ∈ zTbl := zmem 33 (by decide +kernel) (by decide +kernel)
theorem zsel_X12_parse : Cond.selects RX12 yX12_parse yX12_parse ∈ zTbl := zmem 34 (by decide +kernel) (by decide +kernel)
theorem zsel_X12_boundNext : Cond.selects RX12 yX12_boundNext yX12_boundNext ∈ zTbl := zmem 35 (by decide +kernel) (by decide +kernel)
theorem zsel_X12_kind : Cond.selects RX12 yX12_kind yX12_kind ∈ zTbl := zmem 36 (by decide +kernel) (by decide +kernel)
theorem zsel_X12_argument : Cond.selects RX12 yX12_argument yX12_argument ∈ zTbl := zmem 37 (by decide +kernel) (by decide +kernel)
theorem zsel_X12_beginsWhole : Cond.selects RX12 yX12_beginsWhole yX12_beginsWhole ∈ zTbl := zmem 38 (by decide +kernel) (by decide +kernel)
theorem zsel_X12_skip : Cond.selects RX12 yX12_skip yX12_skip ∈ zTbl := zmem 39 (by decide +kernel) (by decide +kernel)
theorem zsel_X12_here : Cond.selects RX12 yX12_here yX12_here ∈ zTbl := zmem 40 (by decide +kernel) (by decide +kernel)
theorem zsel_X12_readNumber : Cond.selects RX12 yX12_readNumber yX12_readNumber ∈ zTbl := zmem 41 (by decide +kernel) (by decide +kernel)
theorem zsel_X12_make : Cond.selects RX12 yX12_make yX12_make ∈ zTbl := zmem 42 (by decide +kernel) (by decide +kernel)
theorem zsel_X12_fails : Cond.selects RX12 yX12_fails yX12_fails ∈ zTbl := zmem 43 (by decide +kernel) (by decide +kernel)
theorem zsel_X12_readArgument : Cond.selects RX12 yX12_readArgument yX12_readArgument ∈ zTbl := zmem 44 (by decide +kernel) (by decide +kernel)
theorem zsel_X12_take : Cond.selects RX12 yX12_take yX12_take ∈ zTbl := zmem 45 (by decide +kernel) (by decide +kernel)
theorem zsel_X12_enter : Cond.selects RX12 yX12_enter yX12_enter ∈ zTbl := zmem 46 (by decide +kernel) (by decide +kernel)
theorem zsel_X12_attach : Cond.selects RX12 yX12_attach yX12_attach ∈ zTbl := zmem 47 (by decide +kernel) (by decide +kernel)
theorem zsel_X12_goesOn : Cond.selects RX12 yX12_goesOn yX12_goesOn ∈ zTbl := zmem 48 (by decide +kernel) (by decide +kernel)
theorem zsel_X12_beginClause : Cond.selects RX12 yX12_beginClause yX12_beginClause ∈ zTbl := zmem 49 (by decide +kernel) (by decide +kernel)
theorem zsel_X12_clause : Cond.selects RX12 yX12_clause yX12_clause ∈ zTbl := zmem 50 (by decide +kernel) (by decide +kernel)
theorem zsel_X12_layListing : Cond.selects RX12 yX12_layListing yX12_layListing ∈ zTbl := zmem 51 (by decide +kernel) (by decide +kernel)
theorem zsel_X12_layNumber : Cond.selects RX12 yX12_layNumber yX12_layNumber ∈ zTbl := zmem 52 (by decide +kernel) (by decide +kernel)
theorem zsel_X12_namedBy : Cond.selects RX12 yX12_namedBy yX12_namedBy ∈ zTbl := zmem 53 (by decide +kernel) (by decide +kernel)
theorem zsel_X12_layParts : Cond.selects RX12 yX12_layParts yX12_layParts ∈ zTbl := zmem 54 (by decide +kernel) (by decide +kernel)
theorem zsel_X12_part : Cond.selects RX12 yX12_part yX12_part ∈ zTbl := zmem 55 (by decide +kernel) (by decide +kernel)
theorem zsel_X12_clearIn : Cond.selects RX12 yX12_clearIn yX12_clearIn ∈ zTbl := zmem 56 (by decide +kernel) (by decide +kernel)
theorem zsel_X12_growsIn : Cond.selects RX12 yX12_growsIn yX12_growsIn ∈ zTbl := zmem 57 (by decide +kernel) (by decide +kernel)
theorem zsel_X12_leavesBy : Cond.selects RX12 yX12_leavesBy yX12_leavesBy ∈ zTbl := zmem 58 (by decide +kernel) (by decide +kernel)
theorem zsel_X12_ofHandled : Cond.selects RX12 yX12_ofHandled yX12_ofHandled ∈ zTbl := zmem 59 (by decide +kernel) (by decide +kernel)
theorem zsel_X12_lateBy : Cond.selects RX12 yX12_lateBy yX12_lateBy ∈ zTbl := zmem 60 (by decide +kernel) (by decide +kernel)
theorem zsel_X12_step : Cond.selects RX12 yX12_step yX12_step ∈ zTbl := zmem 61 (by decide +kernel) (by decide +kernel)
theorem zsel_X12_opens : Cond.selects RX12 yX12_opens yX12_opens ∈ zTbl := zmem 62 (by decide +kernel) (by decide +kernel)
theorem zsel_X12_become : Cond.selects RX12 yX12_become yX12_become ∈ zTbl := zmem 63 (by decide +kernel) (by decide +kernel)
theorem zsel_X12_valueOf : Cond.selects RX12 yX12_valueOf yX12_valueOf ∈ zTbl := zmem 64 (by decide +kernel) (by decide +kernel)
theorem zsel_X12_depth : Cond.selects RX12 yX12_depth yX12_depth ∈ zTbl := zmem 65 (by decide +kernel) (by decide +kernel)
theorem zsel_X12_of : Cond.selects RX12 yX12_of yX12_of ∈ zTbl := zmem 66 (by decide +kernel) (by decide +kernel)
theorem zsel_X12_push : Cond.selects RX12 yX12_push yX12_push ∈ zTbl := zmem 67 (by decide +kernel) (by decide +kernel)
theorem zsel_X12_closes : Cond.selects RX12 yX12_closes yX12_closes ∈ zTbl := zmem 68 (by decide +kernel) (by decide +kernel)
theorem zsel_X12_comesTo : Cond.selects RX12 yX12_comesTo yX12_comesTo ∈ zTbl := zmem 69 (by decide +kernel) (by decide +kernel)
theorem zsel_X12_focusOn : Cond.selects RX12 yX12_focusOn yX12_focusOn ∈ zTbl := zmem 70 (by decide +kernel) (by decide +kernel)
theorem zsel_X12_bindTo : Cond.selects RX12 yX12_bindTo yX12_bindTo ∈ zTbl := zmem 71 (by decide +kernel) (by decide +kernel)
theorem zsel_X12_trace0 : Cond.selects RX12 yX12_trace0 yX12_trace0 ∈ zTbl := zmem 72 (by decide +kernel) (by decide +kernel)
theorem zsel_X12_perform : Cond.selects RX12 yX12_perform yX12_perform ∈ zTbl := zmem 73 (by decide +kernel) (by decide +kernel)
theorem zsel_X12_handlerOf : Cond.selects RX12 yX12_handlerOf yX12_handlerOf ∈ zTbl := zmem 74 (by decide +kernel) (by decide +kernel)
theorem zsel_X12_makeResumption : Cond.selects RX12 yX12_makeResumption yX12_makeResumption ∈ zTbl := zmem 75 (by decide +kernel) (by decide +kernel)
theorem zsel_X12_executeFinalizer : Cond.selects RX12 yX12_executeFinalizer yX12_executeFinalizer ∈ zTbl := zmem 76 (by decide +kernel) (by decide +kernel)
theorem zsel_X12_call : Cond.selects RX12 yX12_call yX12_call ∈ zTbl := zmem 77 (by decide +kernel) (by decide +kernel)
theorem zsel_X12_resumes : Cond.selects RX12 yX12_resumes yX12_resumes ∈ zTbl := zmem 78 (by decide +kernel) (by decide +kernel)
theorem zsel_X12_uses : Cond.selects RX12 yX12_uses yX12_uses ∈ zTbl := zmem 79 (by decide +kernel) (by decide +kernel)
theorem zsel_X12_leaveHandler : Cond.selects RX12 yX12_leaveHandler yX12_leaveHandler ∈ zTbl := zmem 80 (by decide +kernel) (by decide +kernel)
theorem zsel_X12_closesClause : Cond.selects RX12 yX12_closesClause yX12_closesClause ∈ zTbl := zmem 81 (by decide +kernel) (by decide +kernel)
theorem zsel_X12_pending : Cond.selects RX12 yX12_pending yX12_pending ∈ zTbl := zmem 82 (by decide +kernel) (by decide +kernel)
theorem zsel_X12_checkSteps : Cond.selects RX12 yX12_checkSteps yX12_checkSteps ∈ zTbl := zmem 83 (by decide +kernel) (by decide +kernel)
theorem zsel_X12_defined : Cond.selects RX12 yX12_defined yX12_defined ∈ zTbl := zmem 84 (by decide +kernel) (by decide +kernel)
theorem zsel_X12_property : Cond.selects RX12 yX12_property yX12_property ∈ zTbl := zmem 85 (by decide +kernel) (by decide +kernel)
theorem zsel_X12_clauses : Cond.selects RX12 yX12_clauses yX12_clauses ∈ zTbl := zmem 86 (by decide +kernel) (by decide +kernel)
theorem zu_X0 : ∀ w ∈ u_ws RX0 TX0 3, w ∈ zTbl := by
  intro w hw
  have hm : ∀ v ∈ u_ws RX0 TX0 3, v ∈ lw_tbl := by
    have e : u_ws RX0 TX0 3 = [502, 504, 506].filterMap (fun i => lw_tbl[i]?) := by decide +kernel
    intro v hv
    rw [e] at hv
    obtain ⟨i, -, hi⟩ := List.mem_filterMap.mp hv
    exact List.mem_of_getElem? hi
  have g : (u_ws RX0 TX0 3).all goodWord = true := by decide +kernel
  exact List.mem_filter.mpr ⟨hm w hw, List.all_eq_true.mp g w hw⟩
theorem zu_X1 : ∀ w ∈ u_ws RX1 TX1 10, w ∈ zTbl := by
  intro w hw
  have hm : ∀ v ∈ u_ws RX1 TX1 10, v ∈ lw_tbl := by
    have e : u_ws RX1 TX1 10 = [421, 423, 425, 427, 429, 431, 433, 435, 437, 439].filterMap (fun i => lw_tbl[i]?) := by decide +kernel
    intro v hv
    rw [e] at hv
    obtain ⟨i, -, hi⟩ := List.mem_filterMap.mp hv
    exact List.mem_of_getElem? hi
  have g : (u_ws RX1 TX1 10).all goodWord = true := by decide +kernel
  exact List.mem_filter.mpr ⟨hm w hw, List.all_eq_true.mp g w hw⟩
theorem zu_X2 : ∀ w ∈ u_ws RX2 TX2 5, w ∈ zTbl := by
  intro w hw
  have hm : ∀ v ∈ u_ws RX2 TX2 5, v ∈ lw_tbl := by
    have e : u_ws RX2 TX2 5 = [707, 709, 711, 713, 715].filterMap (fun i => lw_tbl[i]?) := by decide +kernel
    intro v hv
    rw [e] at hv
    obtain ⟨i, -, hi⟩ := List.mem_filterMap.mp hv
    exact List.mem_of_getElem? hi
  have g : (u_ws RX2 TX2 5).all goodWord = true := by decide +kernel
  exact List.mem_filter.mpr ⟨hm w hw, List.all_eq_true.mp g w hw⟩
theorem zu_X3 : ∀ w ∈ u_ws RX3 TX3 7, w ∈ zTbl := by
  intro w hw
  have hm : ∀ v ∈ u_ws RX3 TX3 7, v ∈ lw_tbl := by
    have e : u_ws RX3 TX3 7 = [249, 251, 253, 255, 257, 259, 261].filterMap (fun i => lw_tbl[i]?) := by decide +kernel
    intro v hv
    rw [e] at hv
    obtain ⟨i, -, hi⟩ := List.mem_filterMap.mp hv
    exact List.mem_of_getElem? hi
  have g : (u_ws RX3 TX3 7).all goodWord = true := by decide +kernel
  exact List.mem_filter.mpr ⟨hm w hw, List.all_eq_true.mp g w hw⟩
theorem zu_X4 : ∀ w ∈ u_ws RX4 TX4 6, w ∈ zTbl := by
  intro w hw
  have hm : ∀ v ∈ u_ws RX4 TX4 6, v ∈ lw_tbl := by
    have e : u_ws RX4 TX4 6 = [165, 167, 169, 171, 173, 175].filterMap (fun i => lw_tbl[i]?) := by decide +kernel
    intro v hv
    rw [e] at hv
    obtain ⟨i, -, hi⟩ := List.mem_filterMap.mp hv
    exact List.mem_of_getElem? hi
  have g : (u_ws RX4 TX4 6).all goodWord = true := by decide +kernel
  exact List.mem_filter.mpr ⟨hm w hw, List.all_eq_true.mp g w hw⟩
theorem zu_X5 : ∀ w ∈ u_ws RX5 TX5 5, w ∈ zTbl := by
  intro w hw
  have hm : ∀ v ∈ u_ws RX5 TX5 5, v ∈ lw_tbl := by
    have e : u_ws RX5 TX5 5 = [191, 193, 195, 197, 199].filterMap (fun i => lw_tbl[i]?) := by decide +kernel
    intro v hv
    rw [e] at hv
    obtain ⟨i, -, hi⟩ := List.mem_filterMap.mp hv
    exact List.mem_of_getElem? hi
  have g : (u_ws RX5 TX5 5).all goodWord = true := by decide +kernel
  exact List.mem_filter.mpr ⟨hm w hw, List.all_eq_true.mp g w hw⟩
theorem zu_X6 : ∀ w ∈ u_ws RX6 TX6 10, w ∈ zTbl := by
  intro w hw
  have hm : ∀ v ∈ u_ws RX6 TX6 10, v ∈ lw_tbl := by
    have e : u_ws RX6 TX6 10 = [130, 132, 134, 136, 138, 140, 142, 144, 146, 148].filterMap (fun i => lw_tbl[i]?) := by decide +kernel
    intro v hv
    rw [e] at hv
    obtain ⟨i, -, hi⟩ := List.mem_filterMap.mp hv
    exact List.mem_of_getElem? hi
  have g : (u_ws RX6 TX6 10).all goodWord = true := by decide +kernel
  exact List.mem_filter.mpr ⟨hm w hw, List.all_eq_true.mp g w hw⟩
theorem zu_X7 : ∀ w ∈ u_ws RX7 TX7 2, w ∈ zTbl := by
  intro w hw
  have hm : ∀ v ∈ u_ws RX7 TX7 2, v ∈ lw_tbl := by
    have e : u_ws RX7 TX7 2 = [809, 811].filterMap (fun i => lw_tbl[i]?) := by decide +kernel
    intro v hv
    rw [e] at hv
    obtain ⟨i, -, hi⟩ := List.mem_filterMap.mp hv
    exact List.mem_of_getElem? hi
  have g : (u_ws RX7 TX7 2).all goodWord = true := by decide +kernel
  exact List.mem_filter.mpr ⟨hm w hw, List.all_eq_true.mp g w hw⟩
theorem zu_X8 : ∀ w ∈ u_ws RX8 TX8 14, w ∈ zTbl := by
  intro w hw
  have hm : ∀ v ∈ u_ws RX8 TX8 14, v ∈ lw_tbl := by
    have e : u_ws RX8 TX8 14 = [290, 292, 294, 296, 298, 300, 302, 304, 306, 308, 310, 312, 314, 316].filterMap (fun i => lw_tbl[i]?) := by decide +kernel
    intro v hv
    rw [e] at hv
    obtain ⟨i, -, hi⟩ := List.mem_filterMap.mp hv
    exact List.mem_of_getElem? hi
  have g : (u_ws RX8 TX8 14).all goodWord = true := by decide +kernel
  exact List.mem_filter.mpr ⟨hm w hw, List.all_eq_true.mp g w hw⟩
theorem zu_X9 : ∀ w ∈ u_ws RX9 TX9 4, w ∈ zTbl := by
  intro w hw
  have hm : ∀ v ∈ u_ws RX9 TX9 4, v ∈ lw_tbl := by
    have e : u_ws RX9 TX9 4 = [826, 828, 830, 832].filterMap (fun i => lw_tbl[i]?) := by decide +kernel
    intro v hv
    rw [e] at hv
    obtain ⟨i, -, hi⟩ := List.mem_filterMap.mp hv
    exact List.mem_of_getElem? hi
  have g : (u_ws RX9 TX9 4).all goodWord = true := by decide +kernel
  exact List.mem_filter.mpr ⟨hm w hw, List.all_eq_true.mp g w hw⟩
theorem zu_X10 : ∀ w ∈ u_ws RX10 TX10 3, w ∈ zTbl := by
  intro w hw
  have hm : ∀ v ∈ u_ws RX10 TX10 3, v ∈ lw_tbl := by
    have e : u_ws RX10 TX10 3 = [225, 227, 229].filterMap (fun i => lw_tbl[i]?) := by decide +kernel
    intro v hv
    rw [e] at hv
    obtain ⟨i, -, hi⟩ := List.mem_filterMap.mp hv
    exact List.mem_of_getElem? hi
  have g : (u_ws RX10 TX10 3).all goodWord = true := by decide +kernel
  exact List.mem_filter.mpr ⟨hm w hw, List.all_eq_true.mp g w hw⟩
theorem zu_X11 : ∀ w ∈ u_ws RX11 TX11 7, w ∈ zTbl := by
  intro w hw
  have hm : ∀ v ∈ u_ws RX11 TX11 7, v ∈ lw_tbl := by
    have e : u_ws RX11 TX11 7 = [327, 329, 331, 333, 335, 337, 339].filterMap (fun i => lw_tbl[i]?) := by decide +kernel
    intro v hv
    rw [e] at hv
    obtain ⟨i, -, hi⟩ := List.mem_filterMap.mp hv
    exact List.mem_of_getElem? hi
  have g : (u_ws RX11 TX11 7).all goodWord = true := by decide +kernel
  exact List.mem_filter.mpr ⟨hm w hw, List.all_eq_true.mp g w hw⟩
theorem zu_X12 : ∀ w ∈ u_ws RX12 TX12 29, w ∈ zTbl := by
  intro w hw
  have hm : ∀ v ∈ u_ws RX12 TX12 29, v ∈ lw_tbl := by
    have e : u_ws RX12 TX12 29 = [989, 991, 993, 995, 997, 999, 1001, 1003, 1005, 1007, 1009, 1011, 1013, 1015, 1017, 1019, 1021, 1023, 1025, 1027, 1029, 1031, 1033, 1035, 1037, 1039, 1041, 1043, 1045].filterMap (fun i => lw_tbl[i]?) := by decide +kernel
    intro v hv
    rw [e] at hv
    obtain ⟨i, -, hi⟩ := List.mem_filterMap.mp hv
    exact List.mem_of_getElem? hi
  have g : (u_ws RX12 TX12 29).all goodWord = true := by decide +kernel
  exact List.mem_filter.mpr ⟨hm w hw, List.all_eq_true.mp g w hw⟩
def zNest : List Cond := [Cond.methodLinkNest RX11 19 yX6_init "EffectMachine", Cond.methodLinkNest RX11 26 yX4_init "EffectMachine", Cond.methodLinkNest RX11 33 yX5_init "EffectMachine", Cond.methodLinkNest RX8 23 yX10_init "EffectMachine", Cond.methodLinkNest RX8 30 yX3_init "EffectMachine", Cond.methodLinkNest RX6 47 yX11_isDigit "EffectMachine", Cond.methodLinkNest RX6 83 yX11_isLetter "EffectMachine", Cond.methodLinkNest RX6 128 yX11_isOperation "EffectMachine", Cond.methodLinkNest RX1 64 yX11_isProcedure "EffectMachine", Cond.methodLinkNest RX5 65 yX3_isPlace "EffectMachine", Cond.methodLinkNest RX8 243 yX11_isOperation "EffectMachine", Cond.methodLinkNest RX8 264 yX11_isProcedure "EffectMachine"]
theorem zNest_in : ∀ w ∈ zNest, w ∈ lw_tbl := by
  have e : zNest = [114, 154, 180, 212, 234, 359, 454, 473, 638, 761, 779, 851].filterMap (fun i => lw_tbl[i]?) := by decide +kernel
  intro v hv
  rw [e] at hv
  obtain ⟨i, -, hi⟩ := List.mem_filterMap.mp hv
  exact List.mem_of_getElem? hi
def zOver : List String := [RX1, RX7, RX0, RX2, RX8]
theorem zov_RX1 : Cond.arrayOver (.object RX1) ∈ lw_tbl := List.mem_of_getElem? (i := 119) (by decide +kernel)
theorem zov_RX7 : Cond.arrayOver (.object RX7) ∈ lw_tbl := List.mem_of_getElem? (i := 185) (by decide +kernel)
theorem zov_RX0 : Cond.arrayOver (.object RX0) ∈ lw_tbl := List.mem_of_getElem? (i := 209) (by decide +kernel)
theorem zov_RX2 : Cond.arrayOver (.object RX2) ∈ lw_tbl := List.mem_of_getElem? (i := 217) (by decide +kernel)
theorem zov_RX8 : Cond.arrayOver (.object RX8) ∈ lw_tbl := List.mem_of_getElem? (i := 319) (by decide +kernel)
end
