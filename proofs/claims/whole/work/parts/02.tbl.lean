-- ===== PART A: goes FIRST, ahead of the names: the tables' words, and 'selects' of the private methods out of them =====
/-- a private method of a class that the tables say can be made, by its rows of tables_1 -/
def lw_okq (q : MethodName × Nat) : Prop := (q.1.cls ≠ "java/lang/invoke/MethodHandle" ∧ q.1.cls ≠ "java/lang/invoke/VarHandle") ∧ Cond.instantiable q.1.cls q.2 ∈ tables_1 ∧ Cond.privateMethod q.1 ∈ tables_1 ∧ Cond.instanceMethod q.1 ∈ tables_1
theorem lw_p0 : lw_okq (⟨"LogServer", "drawAlarm", "()V"⟩, 20) := ⟨⟨by decide +kernel, by decide +kernel⟩, List.mem_of_getElem? (i := 19) (by decide +kernel), List.mem_of_getElem? (i := 251) (by decide +kernel), List.mem_of_getElem? (i := 252) (by decide +kernel)⟩
theorem lw_p1 : lw_okq (⟨"LogServer", "isMajority", "(I)Z"⟩, 20) := ⟨⟨by decide +kernel, by decide +kernel⟩, List.mem_of_getElem? (i := 19) (by decide +kernel), List.mem_of_getElem? (i := 340) (by decide +kernel), List.mem_of_getElem? (i := 341) (by decide +kernel)⟩
theorem lw_p2 : lw_okq (⟨"LogServer", "takeLead", "()V"⟩, 20) := ⟨⟨by decide +kernel, by decide +kernel⟩, List.mem_of_getElem? (i := 19) (by decide +kernel), List.mem_of_getElem? (i := 356) (by decide +kernel), List.mem_of_getElem? (i := 357) (by decide +kernel)⟩
theorem lw_p3 : lw_okq (⟨"LogServer", "stepDown", "(II)V"⟩, 20) := ⟨⟨by decide +kernel, by decide +kernel⟩, List.mem_of_getElem? (i := 19) (by decide +kernel), List.mem_of_getElem? (i := 364) (by decide +kernel), List.mem_of_getElem? (i := 365) (by decide +kernel)⟩
theorem lw_p4 : lw_okq (⟨"LogServer", "beat", "()V"⟩, 20) := ⟨⟨by decide +kernel, by decide +kernel⟩, List.mem_of_getElem? (i := 19) (by decide +kernel), List.mem_of_getElem? (i := 384) (by decide +kernel), List.mem_of_getElem? (i := 385) (by decide +kernel)⟩
theorem lw_p5 : lw_okq (⟨"LogServer", "peers", "()I"⟩, 20) := ⟨⟨by decide +kernel, by decide +kernel⟩, List.mem_of_getElem? (i := 19) (by decide +kernel), List.mem_of_getElem? (i := 388) (by decide +kernel), List.mem_of_getElem? (i := 389) (by decide +kernel)⟩
theorem lw_p6 : lw_okq (⟨"LogServer", "voters", "()I"⟩, 20) := ⟨⟨by decide +kernel, by decide +kernel⟩, List.mem_of_getElem? (i := 19) (by decide +kernel), List.mem_of_getElem? (i := 392) (by decide +kernel), List.mem_of_getElem? (i := 393) (by decide +kernel)⟩
theorem lw_p7 : lw_okq (⟨"LogServer", "sendToPeers", "(Z)V"⟩, 20) := ⟨⟨by decide +kernel, by decide +kernel⟩, List.mem_of_getElem? (i := 19) (by decide +kernel), List.mem_of_getElem? (i := 406) (by decide +kernel), List.mem_of_getElem? (i := 407) (by decide +kernel)⟩
theorem lw_p8 : lw_okq (⟨"LogServer", "sendTo", "(IZ)V"⟩, 20) := ⟨⟨by decide +kernel, by decide +kernel⟩, List.mem_of_getElem? (i := 19) (by decide +kernel), List.mem_of_getElem? (i := 410) (by decide +kernel), List.mem_of_getElem? (i := 411) (by decide +kernel)⟩
theorem lw_p9 : lw_okq (⟨"LogServer", "sendPiece", "(I)V"⟩, 20) := ⟨⟨by decide +kernel, by decide +kernel⟩, List.mem_of_getElem? (i := 19) (by decide +kernel), List.mem_of_getElem? (i := 414) (by decide +kernel), List.mem_of_getElem? (i := 415) (by decide +kernel)⟩
theorem lw_p10 : lw_okq (⟨"LogServer", "sendAppend", "(II)V"⟩, 20) := ⟨⟨by decide +kernel, by decide +kernel⟩, List.mem_of_getElem? (i := 19) (by decide +kernel), List.mem_of_getElem? (i := 431) (by decide +kernel), List.mem_of_getElem? (i := 432) (by decide +kernel)⟩
theorem lw_p11 : lw_okq (⟨"LogServer", "answerReads", "()V"⟩, 20) := ⟨⟨by decide +kernel, by decide +kernel⟩, List.mem_of_getElem? (i := 19) (by decide +kernel), List.mem_of_getElem? (i := 451) (by decide +kernel), List.mem_of_getElem? (i := 452) (by decide +kernel)⟩
theorem lw_p12 : lw_okq (⟨"LogServer", "reachedByMajority", "([I)I"⟩, 20) := ⟨⟨by decide +kernel, by decide +kernel⟩, List.mem_of_getElem? (i := 19) (by decide +kernel), List.mem_of_getElem? (i := 455) (by decide +kernel), List.mem_of_getElem? (i := 456) (by decide +kernel)⟩
theorem lw_p13 : lw_okq (⟨"LogServer", "countCommitted", "()V"⟩, 20) := ⟨⟨by decide +kernel, by decide +kernel⟩, List.mem_of_getElem? (i := 19) (by decide +kernel), List.mem_of_getElem? (i := 466) (by decide +kernel), List.mem_of_getElem? (i := 467) (by decide +kernel)⟩
theorem lw_p14 : lw_okq (⟨"LogServer", "applyCommitted", "()V"⟩, 20) := ⟨⟨by decide +kernel, by decide +kernel⟩, List.mem_of_getElem? (i := 19) (by decide +kernel), List.mem_of_getElem? (i := 470) (by decide +kernel), List.mem_of_getElem? (i := 471) (by decide +kernel)⟩
theorem lw_p15 : lw_okq (⟨"LogServer$Disk", "membersUpTo", "(I)I"⟩, 14) := ⟨⟨by decide +kernel, by decide +kernel⟩, List.mem_of_getElem? (i := 191) (by decide +kernel), List.mem_of_getElem? (i := 501) (by decide +kernel), List.mem_of_getElem? (i := 502) (by decide +kernel)⟩
def lw_privs_1 : List (MethodName × Nat) := [(⟨"LogServer", "drawAlarm", "()V"⟩, 20), (⟨"LogServer", "isMajority", "(I)Z"⟩, 20), (⟨"LogServer", "takeLead", "()V"⟩, 20), (⟨"LogServer", "stepDown", "(II)V"⟩, 20), (⟨"LogServer", "beat", "()V"⟩, 20), (⟨"LogServer", "peers", "()I"⟩, 20), (⟨"LogServer", "voters", "()I"⟩, 20), (⟨"LogServer", "sendToPeers", "(Z)V"⟩, 20), (⟨"LogServer", "sendTo", "(IZ)V"⟩, 20), (⟨"LogServer", "sendPiece", "(I)V"⟩, 20), (⟨"LogServer", "sendAppend", "(II)V"⟩, 20), (⟨"LogServer", "answerReads", "()V"⟩, 20), (⟨"LogServer", "reachedByMajority", "([I)I"⟩, 20), (⟨"LogServer", "countCommitted", "()V"⟩, 20), (⟨"LogServer", "applyCommitted", "()V"⟩, 20), (⟨"LogServer$Disk", "membersUpTo", "(I)I"⟩, 14)]
theorem lw_r1 : ∀ q ∈ lw_privs_1, lw_okq q := List.forall_mem_cons.mpr ⟨lw_p0, List.forall_mem_cons.mpr ⟨lw_p1, List.forall_mem_cons.mpr ⟨lw_p2, List.forall_mem_cons.mpr ⟨lw_p3, List.forall_mem_cons.mpr ⟨lw_p4, List.forall_mem_cons.mpr ⟨lw_p5, List.forall_mem_cons.mpr ⟨lw_p6, List.forall_mem_cons.mpr ⟨lw_p7, List.forall_mem_cons.mpr ⟨lw_p8, List.forall_mem_cons.mpr ⟨lw_p9, List.forall_mem_cons.mpr ⟨lw_p10, List.forall_mem_cons.mpr ⟨lw_p11, List.forall_mem_cons.mpr ⟨lw_p12, List.forall_mem_cons.mpr ⟨lw_p13, List.forall_mem_cons.mpr ⟨lw_p14, List.forall_mem_cons.mpr ⟨lw_p15, fun _ h => absurd h List.not_mem_nil⟩⟩⟩⟩⟩⟩⟩⟩⟩⟩⟩⟩⟩⟩⟩⟩
theorem lw_p16 : lw_okq (⟨"LogServer$Disk", "codeOfMembersAt", "(I)I"⟩, 14) := ⟨⟨by decide +kernel, by decide +kernel⟩, List.mem_of_getElem? (i := 191) (by decide +kernel), List.mem_of_getElem? (i := 506) (by decide +kernel), List.mem_of_getElem? (i := 507) (by decide +kernel)⟩
theorem lw_p17 : lw_okq (⟨"LogServer$Disk", "dropUpTo", "(I)V"⟩, 14) := ⟨⟨by decide +kernel, by decide +kernel⟩, List.mem_of_getElem? (i := 191) (by decide +kernel), List.mem_of_getElem? (i := 516) (by decide +kernel), List.mem_of_getElem? (i := 517) (by decide +kernel)⟩
theorem lw_p18 : lw_okq (⟨"LogServer$Disk", "endAt", "(I)V"⟩, 14) := ⟨⟨by decide +kernel, by decide +kernel⟩, List.mem_of_getElem? (i := 191) (by decide +kernel), List.mem_of_getElem? (i := 520) (by decide +kernel), List.mem_of_getElem? (i := 521) (by decide +kernel)⟩
theorem lw_p19 : lw_okq (⟨"LogServer$Disk", "findMembers", "()V"⟩, 14) := ⟨⟨by decide +kernel, by decide +kernel⟩, List.mem_of_getElem? (i := 191) (by decide +kernel), List.mem_of_getElem? (i := 525) (by decide +kernel), List.mem_of_getElem? (i := 526) (by decide +kernel)⟩
theorem lw_p20 : lw_okq (⟨"LogServer", "takesEntries", "()Z"⟩, 20) := ⟨⟨by decide +kernel, by decide +kernel⟩, List.mem_of_getElem? (i := 19) (by decide +kernel), List.mem_of_getElem? (i := 545) (by decide +kernel), List.mem_of_getElem? (i := 546) (by decide +kernel)⟩
theorem lw_p21 : lw_okq (⟨"LogServer", "mayChangeMembers", "()Z"⟩, 20) := ⟨⟨by decide +kernel, by decide +kernel⟩, List.mem_of_getElem? (i := 19) (by decide +kernel), List.mem_of_getElem? (i := 564) (by decide +kernel), List.mem_of_getElem? (i := 565) (by decide +kernel)⟩
theorem lw_p22 : lw_okq (⟨"LogServer", "isOtherServer", "(I)Z"⟩, 20) := ⟨⟨by decide +kernel, by decide +kernel⟩, List.mem_of_getElem? (i := 19) (by decide +kernel), List.mem_of_getElem? (i := 576) (by decide +kernel), List.mem_of_getElem? (i := 577) (by decide +kernel)⟩
theorem lw_p23 : lw_okq (⟨"LogServer", "sendGo", "(I)V"⟩, 20) := ⟨⟨by decide +kernel, by decide +kernel⟩, List.mem_of_getElem? (i := 19) (by decide +kernel), List.mem_of_getElem? (i := 580) (by decide +kernel), List.mem_of_getElem? (i := 581) (by decide +kernel)⟩
theorem lw_p24 : lw_okq (⟨"java/lang/Throwable", "fillInStackTrace", "(I)Ljava/lang/Throwable;"⟩, 6) := ⟨⟨by decide +kernel, by decide +kernel⟩, List.mem_of_getElem? (i := 633) (by decide +kernel), List.mem_of_getElem? (i := 631) (by decide +kernel), List.mem_of_getElem? (i := 632) (by decide +kernel)⟩
theorem lw_p25 : lw_okq (⟨"LogServer", "ringLeading", "()V"⟩, 20) := ⟨⟨by decide +kernel, by decide +kernel⟩, List.mem_of_getElem? (i := 19) (by decide +kernel), List.mem_of_getElem? (i := 663) (by decide +kernel), List.mem_of_getElem? (i := 664) (by decide +kernel)⟩
theorem lw_p26 : lw_okq (⟨"LogServer", "ringOtherwise", "()V"⟩, 20) := ⟨⟨by decide +kernel, by decide +kernel⟩, List.mem_of_getElem? (i := 19) (by decide +kernel), List.mem_of_getElem? (i := 667) (by decide +kernel), List.mem_of_getElem? (i := 668) (by decide +kernel)⟩
theorem lw_p27 : lw_okq (⟨"LogServer", "sendToVoters", "(II)V"⟩, 20) := ⟨⟨by decide +kernel, by decide +kernel⟩, List.mem_of_getElem? (i := 19) (by decide +kernel), List.mem_of_getElem? (i := 671) (by decide +kernel), List.mem_of_getElem? (i := 672) (by decide +kernel)⟩
theorem lw_p28 : lw_okq (⟨"LogServer", "campaign", "()V"⟩, 20) := ⟨⟨by decide +kernel, by decide +kernel⟩, List.mem_of_getElem? (i := 19) (by decide +kernel), List.mem_of_getElem? (i := 679) (by decide +kernel), List.mem_of_getElem? (i := 680) (by decide +kernel)⟩
theorem lw_p29 : lw_okq (⟨"LogServer", "checkSender", "(I)V"⟩, 20) := ⟨⟨by decide +kernel, by decide +kernel⟩, List.mem_of_getElem? (i := 19) (by decide +kernel), List.mem_of_getElem? (i := 695) (by decide +kernel), List.mem_of_getElem? (i := 696) (by decide +kernel)⟩
theorem lw_p30 : lw_okq (⟨"LogServer", "isAsNew", "(II)Z"⟩, 20) := ⟨⟨by decide +kernel, by decide +kernel⟩, List.mem_of_getElem? (i := 19) (by decide +kernel), List.mem_of_getElem? (i := 719) (by decide +kernel), List.mem_of_getElem? (i := 720) (by decide +kernel)⟩
theorem lw_p31 : lw_okq (⟨"LogServer", "yieldTo", "(I)V"⟩, 20) := ⟨⟨by decide +kernel, by decide +kernel⟩, List.mem_of_getElem? (i := 19) (by decide +kernel), List.mem_of_getElem? (i := 730) (by decide +kernel), List.mem_of_getElem? (i := 731) (by decide +kernel)⟩
def lw_privs_2 : List (MethodName × Nat) := [(⟨"LogServer$Disk", "codeOfMembersAt", "(I)I"⟩, 14), (⟨"LogServer$Disk", "dropUpTo", "(I)V"⟩, 14), (⟨"LogServer$Disk", "endAt", "(I)V"⟩, 14), (⟨"LogServer$Disk", "findMembers", "()V"⟩, 14), (⟨"LogServer", "takesEntries", "()Z"⟩, 20), (⟨"LogServer", "mayChangeMembers", "()Z"⟩, 20), (⟨"LogServer", "isOtherServer", "(I)Z"⟩, 20), (⟨"LogServer", "sendGo", "(I)V"⟩, 20), (⟨"java/lang/Throwable", "fillInStackTrace", "(I)Ljava/lang/Throwable;"⟩, 6), (⟨"LogServer", "ringLeading", "()V"⟩, 20), (⟨"LogServer", "ringOtherwise", "()V"⟩, 20), (⟨"LogServer", "sendToVoters", "(II)V"⟩, 20), (⟨"LogServer", "campaign", "()V"⟩, 20), (⟨"LogServer", "checkSender", "(I)V"⟩, 20), (⟨"LogServer", "isAsNew", "(II)Z"⟩, 20), (⟨"LogServer", "yieldTo", "(I)V"⟩, 20)]
theorem lw_r2 : ∀ q ∈ lw_privs_2, lw_okq q := List.forall_mem_cons.mpr ⟨lw_p16, List.forall_mem_cons.mpr ⟨lw_p17, List.forall_mem_cons.mpr ⟨lw_p18, List.forall_mem_cons.mpr ⟨lw_p19, List.forall_mem_cons.mpr ⟨lw_p20, List.forall_mem_cons.mpr ⟨lw_p21, List.forall_mem_cons.mpr ⟨lw_p22, List.forall_mem_cons.mpr ⟨lw_p23, List.forall_mem_cons.mpr ⟨lw_p24, List.forall_mem_cons.mpr ⟨lw_p25, List.forall_mem_cons.mpr ⟨lw_p26, List.forall_mem_cons.mpr ⟨lw_p27, List.forall_mem_cons.mpr ⟨lw_p28, List.forall_mem_cons.mpr ⟨lw_p29, List.forall_mem_cons.mpr ⟨lw_p30, List.forall_mem_cons.mpr ⟨lw_p31, fun _ h => absurd h List.not_mem_nil⟩⟩⟩⟩⟩⟩⟩⟩⟩⟩⟩⟩⟩⟩⟩⟩
theorem lw_p32 : lw_okq (⟨"LogServer", "replyAppended", "(IIII)V"⟩, 20) := ⟨⟨by decide +kernel, by decide +kernel⟩, List.mem_of_getElem? (i := 19) (by decide +kernel), List.mem_of_getElem? (i := 802) (by decide +kernel), List.mem_of_getElem? (i := 803) (by decide +kernel)⟩
theorem lw_p33 : lw_okq (⟨"LogServer", "follow", "(I)V"⟩, 20) := ⟨⟨by decide +kernel, by decide +kernel⟩, List.mem_of_getElem? (i := 19) (by decide +kernel), List.mem_of_getElem? (i := 806) (by decide +kernel), List.mem_of_getElem? (i := 807) (by decide +kernel)⟩
theorem lw_p34 : lw_okq (⟨"LogServer", "takeAppend", "(IIIIII)V"⟩, 20) := ⟨⟨by decide +kernel, by decide +kernel⟩, List.mem_of_getElem? (i := 19) (by decide +kernel), List.mem_of_getElem? (i := 810) (by decide +kernel), List.mem_of_getElem? (i := 811) (by decide +kernel)⟩
theorem lw_p35 : lw_okq (⟨"LogServer", "contradictsCommitted", "(II)Z"⟩, 20) := ⟨⟨by decide +kernel, by decide +kernel⟩, List.mem_of_getElem? (i := 19) (by decide +kernel), List.mem_of_getElem? (i := 822) (by decide +kernel), List.mem_of_getElem? (i := 823) (by decide +kernel)⟩
theorem lw_p36 : lw_okq (⟨"LogServer", "writeTold", "(II)V"⟩, 20) := ⟨⟨by decide +kernel, by decide +kernel⟩, List.mem_of_getElem? (i := 19) (by decide +kernel), List.mem_of_getElem? (i := 827) (by decide +kernel), List.mem_of_getElem? (i := 828) (by decide +kernel)⟩
theorem lw_p37 : lw_okq (⟨"LogServer", "isOwnPeer", "(II)Z"⟩, 20) := ⟨⟨by decide +kernel, by decide +kernel⟩, List.mem_of_getElem? (i := 19) (by decide +kernel), List.mem_of_getElem? (i := 850) (by decide +kernel), List.mem_of_getElem? (i := 851) (by decide +kernel)⟩
theorem lw_p38 : lw_okq (⟨"LogServer", "goOnWith", "(I)V"⟩, 20) := ⟨⟨by decide +kernel, by decide +kernel⟩, List.mem_of_getElem? (i := 19) (by decide +kernel), List.mem_of_getElem? (i := 868) (by decide +kernel), List.mem_of_getElem? (i := 869) (by decide +kernel)⟩
theorem lw_p39 : lw_okq (⟨"LogServer", "replyStored", "(IIII)V"⟩, 20) := ⟨⟨by decide +kernel, by decide +kernel⟩, List.mem_of_getElem? (i := 19) (by decide +kernel), List.mem_of_getElem? (i := 897) (by decide +kernel), List.mem_of_getElem? (i := 898) (by decide +kernel)⟩
theorem lw_p40 : lw_okq (⟨"LogServer", "takePiece", "(II)I"⟩, 20) := ⟨⟨by decide +kernel, by decide +kernel⟩, List.mem_of_getElem? (i := 19) (by decide +kernel), List.mem_of_getElem? (i := 901) (by decide +kernel), List.mem_of_getElem? (i := 902) (by decide +kernel)⟩
theorem lw_p41 : lw_okq (⟨"LogServer", "checkCall", "(I)V"⟩, 20) := ⟨⟨by decide +kernel, by decide +kernel⟩, List.mem_of_getElem? (i := 19) (by decide +kernel), List.mem_of_getElem? (i := 993) (by decide +kernel), List.mem_of_getElem? (i := 994) (by decide +kernel)⟩
theorem lw_p42 : lw_okq (⟨"LogServerModel", "draw", "()V"⟩, 60) := ⟨⟨by decide +kernel, by decide +kernel⟩, List.mem_of_getElem? (i := 1017) (by decide +kernel), List.mem_of_getElem? (i := 1023) (by decide +kernel), List.mem_of_getElem? (i := 1024) (by decide +kernel)⟩
theorem lw_p43 : lw_okq (⟨"LogServerModel", "fail", "(I)I"⟩, 60) := ⟨⟨by decide +kernel, by decide +kernel⟩, List.mem_of_getElem? (i := 1017) (by decide +kernel), List.mem_of_getElem? (i := 1222) (by decide +kernel), List.mem_of_getElem? (i := 1223) (by decide +kernel)⟩
theorem lw_p44 : lw_okq (⟨"LogServerModel", "agreed", "(I)I"⟩, 60) := ⟨⟨by decide +kernel, by decide +kernel⟩, List.mem_of_getElem? (i := 1017) (by decide +kernel), List.mem_of_getElem? (i := 1226) (by decide +kernel), List.mem_of_getElem? (i := 1227) (by decide +kernel)⟩
theorem lw_p45 : lw_okq (⟨"LogServerModel", "majority", "(I)Z"⟩, 60) := ⟨⟨by decide +kernel, by decide +kernel⟩, List.mem_of_getElem? (i := 1017) (by decide +kernel), List.mem_of_getElem? (i := 1234) (by decide +kernel), List.mem_of_getElem? (i := 1235) (by decide +kernel)⟩
theorem lw_p46 : lw_okq (⟨"LogServerModel", "code", "()I"⟩, 60) := ⟨⟨by decide +kernel, by decide +kernel⟩, List.mem_of_getElem? (i := 1017) (by decide +kernel), List.mem_of_getElem? (i := 1238) (by decide +kernel), List.mem_of_getElem? (i := 1239) (by decide +kernel)⟩
theorem lw_p47 : lw_okq (⟨"LogServerModel", "codeAt", "(I)I"⟩, 60) := ⟨⟨by decide +kernel, by decide +kernel⟩, List.mem_of_getElem? (i := 1017) (by decide +kernel), List.mem_of_getElem? (i := 1242) (by decide +kernel), List.mem_of_getElem? (i := 1243) (by decide +kernel)⟩
def lw_privs_3 : List (MethodName × Nat) := [(⟨"LogServer", "replyAppended", "(IIII)V"⟩, 20), (⟨"LogServer", "follow", "(I)V"⟩, 20), (⟨"LogServer", "takeAppend", "(IIIIII)V"⟩, 20), (⟨"LogServer", "contradictsCommitted", "(II)Z"⟩, 20), (⟨"LogServer", "writeTold", "(II)V"⟩, 20), (⟨"LogServer", "isOwnPeer", "(II)Z"⟩, 20), (⟨"LogServer", "goOnWith", "(I)V"⟩, 20), (⟨"LogServer", "replyStored", "(IIII)V"⟩, 20), (⟨"LogServer", "takePiece", "(II)I"⟩, 20), (⟨"LogServer", "checkCall", "(I)V"⟩, 20), (⟨"LogServerModel", "draw", "()V"⟩, 60), (⟨"LogServerModel", "fail", "(I)I"⟩, 60), (⟨"LogServerModel", "agreed", "(I)I"⟩, 60), (⟨"LogServerModel", "majority", "(I)Z"⟩, 60), (⟨"LogServerModel", "code", "()I"⟩, 60), (⟨"LogServerModel", "codeAt", "(I)I"⟩, 60)]
theorem lw_r3 : ∀ q ∈ lw_privs_3, lw_okq q := List.forall_mem_cons.mpr ⟨lw_p32, List.forall_mem_cons.mpr ⟨lw_p33, List.forall_mem_cons.mpr ⟨lw_p34, List.forall_mem_cons.mpr ⟨lw_p35, List.forall_mem_cons.mpr ⟨lw_p36, List.forall_mem_cons.mpr ⟨lw_p37, List.forall_mem_cons.mpr ⟨lw_p38, List.forall_mem_cons.mpr ⟨lw_p39, List.forall_mem_cons.mpr ⟨lw_p40, List.forall_mem_cons.mpr ⟨lw_p41, List.forall_mem_cons.mpr ⟨lw_p42, List.forall_mem_cons.mpr ⟨lw_p43, List.forall_mem_cons.mpr ⟨lw_p44, List.forall_mem_cons.mpr ⟨lw_p45, List.forall_mem_cons.mpr ⟨lw_p46, List.forall_mem_cons.mpr ⟨lw_p47, fun _ h => absurd h List.not_mem_nil⟩⟩⟩⟩⟩⟩⟩⟩⟩⟩⟩⟩⟩⟩⟩⟩
theorem lw_p48 : lw_okq (⟨"LogServerModel", "membersAt", "(I)I"⟩, 60) := ⟨⟨by decide +kernel, by decide +kernel⟩, List.mem_of_getElem? (i := 1017) (by decide +kernel), List.mem_of_getElem? (i := 1246) (by decide +kernel), List.mem_of_getElem? (i := 1247) (by decide +kernel)⟩
theorem lw_p49 : lw_okq (⟨"LogServerModel", "stepDown", "(II)V"⟩, 60) := ⟨⟨by decide +kernel, by decide +kernel⟩, List.mem_of_getElem? (i := 1017) (by decide +kernel), List.mem_of_getElem? (i := 1259) (by decide +kernel), List.mem_of_getElem? (i := 1260) (by decide +kernel)⟩
theorem lw_p50 : lw_okq (⟨"LogServerModel", "dropCalls", "()V"⟩, 60) := ⟨⟨by decide +kernel, by decide +kernel⟩, List.mem_of_getElem? (i := 1017) (by decide +kernel), List.mem_of_getElem? (i := 1263) (by decide +kernel), List.mem_of_getElem? (i := 1264) (by decide +kernel)⟩
theorem lw_p51 : lw_okq (⟨"LogServerModel", "callWaits", "(I)Z"⟩, 60) := ⟨⟨by decide +kernel, by decide +kernel⟩, List.mem_of_getElem? (i := 1017) (by decide +kernel), List.mem_of_getElem? (i := 1267) (by decide +kernel), List.mem_of_getElem? (i := 1268) (by decide +kernel)⟩
theorem lw_p52 : lw_okq (⟨"LogServerModel", "settle", "(IZ)V"⟩, 60) := ⟨⟨by decide +kernel, by decide +kernel⟩, List.mem_of_getElem? (i := 1017) (by decide +kernel), List.mem_of_getElem? (i := 1271) (by decide +kernel), List.mem_of_getElem? (i := 1272) (by decide +kernel)⟩
theorem lw_p53 : lw_okq (⟨"LogServerModel", "beat", "()V"⟩, 60) := ⟨⟨by decide +kernel, by decide +kernel⟩, List.mem_of_getElem? (i := 1017) (by decide +kernel), List.mem_of_getElem? (i := 1275) (by decide +kernel), List.mem_of_getElem? (i := 1276) (by decide +kernel)⟩
theorem lw_p54 : lw_okq (⟨"LogServerModel", "peers", "()I"⟩, 60) := ⟨⟨by decide +kernel, by decide +kernel⟩, List.mem_of_getElem? (i := 1017) (by decide +kernel), List.mem_of_getElem? (i := 1279) (by decide +kernel), List.mem_of_getElem? (i := 1280) (by decide +kernel)⟩
theorem lw_p55 : lw_okq (⟨"LogServerModel", "voters", "()I"⟩, 60) := ⟨⟨by decide +kernel, by decide +kernel⟩, List.mem_of_getElem? (i := 1017) (by decide +kernel), List.mem_of_getElem? (i := 1283) (by decide +kernel), List.mem_of_getElem? (i := 1284) (by decide +kernel)⟩
theorem lw_p56 : lw_okq (⟨"LogServerModel", "sendAll", "(Z)V"⟩, 60) := ⟨⟨by decide +kernel, by decide +kernel⟩, List.mem_of_getElem? (i := 1017) (by decide +kernel), List.mem_of_getElem? (i := 1290) (by decide +kernel), List.mem_of_getElem? (i := 1291) (by decide +kernel)⟩
theorem lw_p57 : lw_okq (⟨"LogServerModel", "sendTo", "(IZ)V"⟩, 60) := ⟨⟨by decide +kernel, by decide +kernel⟩, List.mem_of_getElem? (i := 1017) (by decide +kernel), List.mem_of_getElem? (i := 1294) (by decide +kernel), List.mem_of_getElem? (i := 1295) (by decide +kernel)⟩
theorem lw_p58 : lw_okq (⟨"LogServerModel", "sendPiece", "(I)V"⟩, 60) := ⟨⟨by decide +kernel, by decide +kernel⟩, List.mem_of_getElem? (i := 1017) (by decide +kernel), List.mem_of_getElem? (i := 1298) (by decide +kernel), List.mem_of_getElem? (i := 1299) (by decide +kernel)⟩
theorem lw_p59 : lw_okq (⟨"LogServerModel", "begin", "(III)V"⟩, 60) := ⟨⟨by decide +kernel, by decide +kernel⟩, List.mem_of_getElem? (i := 1017) (by decide +kernel), List.mem_of_getElem? (i := 1302) (by decide +kernel), List.mem_of_getElem? (i := 1303) (by decide +kernel)⟩
theorem lw_p60 : lw_okq (⟨"LogServerModel", "add", "(I)V"⟩, 60) := ⟨⟨by decide +kernel, by decide +kernel⟩, List.mem_of_getElem? (i := 1017) (by decide +kernel), List.mem_of_getElem? (i := 1306) (by decide +kernel), List.mem_of_getElem? (i := 1307) (by decide +kernel)⟩
theorem lw_p61 : lw_okq (⟨"LogServerModel", "send", "()V"⟩, 60) := ⟨⟨by decide +kernel, by decide +kernel⟩, List.mem_of_getElem? (i := 1017) (by decide +kernel), List.mem_of_getElem? (i := 1310) (by decide +kernel), List.mem_of_getElem? (i := 1311) (by decide +kernel)⟩
theorem lw_p62 : lw_okq (⟨"LogServerModel", "goes", "(I)V"⟩, 60) := ⟨⟨by decide +kernel, by decide +kernel⟩, List.mem_of_getElem? (i := 1017) (by decide +kernel), List.mem_of_getElem? (i := 1314) (by decide +kernel), List.mem_of_getElem? (i := 1315) (by decide +kernel)⟩
theorem lw_p63 : lw_okq (⟨"LogServerModel", "sendEntries", "(II)V"⟩, 60) := ⟨⟨by decide +kernel, by decide +kernel⟩, List.mem_of_getElem? (i := 1017) (by decide +kernel), List.mem_of_getElem? (i := 1318) (by decide +kernel), List.mem_of_getElem? (i := 1319) (by decide +kernel)⟩
def lw_privs_4 : List (MethodName × Nat) := [(⟨"LogServerModel", "membersAt", "(I)I"⟩, 60), (⟨"LogServerModel", "stepDown", "(II)V"⟩, 60), (⟨"LogServerModel", "dropCalls", "()V"⟩, 60), (⟨"LogServerModel", "callWaits", "(I)Z"⟩, 60), (⟨"LogServerModel", "settle", "(IZ)V"⟩, 60), (⟨"LogServerModel", "beat", "()V"⟩, 60), (⟨"LogServerModel", "peers", "()I"⟩, 60), (⟨"LogServerModel", "voters", "()I"⟩, 60), (⟨"LogServerModel", "sendAll", "(Z)V"⟩, 60), (⟨"LogServerModel", "sendTo", "(IZ)V"⟩, 60), (⟨"LogServerModel", "sendPiece", "(I)V"⟩, 60), (⟨"LogServerModel", "begin", "(III)V"⟩, 60), (⟨"LogServerModel", "add", "(I)V"⟩, 60), (⟨"LogServerModel", "send", "()V"⟩, 60), (⟨"LogServerModel", "goes", "(I)V"⟩, 60), (⟨"LogServerModel", "sendEntries", "(II)V"⟩, 60)]
theorem lw_r4 : ∀ q ∈ lw_privs_4, lw_okq q := List.forall_mem_cons.mpr ⟨lw_p48, List.forall_mem_cons.mpr ⟨lw_p49, List.forall_mem_cons.mpr ⟨lw_p50, List.forall_mem_cons.mpr ⟨lw_p51, List.forall_mem_cons.mpr ⟨lw_p52, List.forall_mem_cons.mpr ⟨lw_p53, List.forall_mem_cons.mpr ⟨lw_p54, List.forall_mem_cons.mpr ⟨lw_p55, List.forall_mem_cons.mpr ⟨lw_p56, List.forall_mem_cons.mpr ⟨lw_p57, List.forall_mem_cons.mpr ⟨lw_p58, List.forall_mem_cons.mpr ⟨lw_p59, List.forall_mem_cons.mpr ⟨lw_p60, List.forall_mem_cons.mpr ⟨lw_p61, List.forall_mem_cons.mpr ⟨lw_p62, List.forall_mem_cons.mpr ⟨lw_p63, fun _ h => absurd h List.not_mem_nil⟩⟩⟩⟩⟩⟩⟩⟩⟩⟩⟩⟩⟩⟩⟩⟩
theorem lw_p64 : lw_okq (⟨"LogServerModel", "termAt", "(I)I"⟩, 60) := ⟨⟨by decide +kernel, by decide +kernel⟩, List.mem_of_getElem? (i := 1017) (by decide +kernel), List.mem_of_getElem? (i := 1322) (by decide +kernel), List.mem_of_getElem? (i := 1323) (by decide +kernel)⟩
theorem lw_p65 : lw_okq (⟨"LogServerModel", "reads", "()V"⟩, 60) := ⟨⟨by decide +kernel, by decide +kernel⟩, List.mem_of_getElem? (i := 1017) (by decide +kernel), List.mem_of_getElem? (i := 1326) (by decide +kernel), List.mem_of_getElem? (i := 1327) (by decide +kernel)⟩
theorem lw_p66 : lw_okq (⟨"LogServerModel", "question", "(II)V"⟩, 60) := ⟨⟨by decide +kernel, by decide +kernel⟩, List.mem_of_getElem? (i := 1017) (by decide +kernel), List.mem_of_getElem? (i := 1330) (by decide +kernel), List.mem_of_getElem? (i := 1331) (by decide +kernel)⟩
theorem lw_p67 : lw_okq (⟨"LogServerModel", "campaign", "()V"⟩, 60) := ⟨⟨by decide +kernel, by decide +kernel⟩, List.mem_of_getElem? (i := 1017) (by decide +kernel), List.mem_of_getElem? (i := 1334) (by decide +kernel), List.mem_of_getElem? (i := 1335) (by decide +kernel)⟩
theorem lw_p68 : lw_okq (⟨"LogServerModel", "lead", "()V"⟩, 60) := ⟨⟨by decide +kernel, by decide +kernel⟩, List.mem_of_getElem? (i := 1017) (by decide +kernel), List.mem_of_getElem? (i := 1342) (by decide +kernel), List.mem_of_getElem? (i := 1343) (by decide +kernel)⟩
theorem lw_p69 : lw_okq (⟨"LogServerModel", "write", "(III)V"⟩, 60) := ⟨⟨by decide +kernel, by decide +kernel⟩, List.mem_of_getElem? (i := 1017) (by decide +kernel), List.mem_of_getElem? (i := 1346) (by decide +kernel), List.mem_of_getElem? (i := 1347) (by decide +kernel)⟩
theorem lw_p70 : lw_okq (⟨"LogServerModel", "count", "()V"⟩, 60) := ⟨⟨by decide +kernel, by decide +kernel⟩, List.mem_of_getElem? (i := 1017) (by decide +kernel), List.mem_of_getElem? (i := 1350) (by decide +kernel), List.mem_of_getElem? (i := 1351) (by decide +kernel)⟩
theorem lw_p71 : lw_okq (⟨"LogServerModel", "apply", "()V"⟩, 60) := ⟨⟨by decide +kernel, by decide +kernel⟩, List.mem_of_getElem? (i := 1017) (by decide +kernel), List.mem_of_getElem? (i := 1354) (by decide +kernel), List.mem_of_getElem? (i := 1355) (by decide +kernel)⟩
theorem lw_p72 : lw_okq (⟨"LogServerModel", "bad", "(IIIII)Z"⟩, 60) := ⟨⟨by decide +kernel, by decide +kernel⟩, List.mem_of_getElem? (i := 1017) (by decide +kernel), List.mem_of_getElem? (i := 1366) (by decide +kernel), List.mem_of_getElem? (i := 1367) (by decide +kernel)⟩
theorem lw_p73 : lw_okq (⟨"LogServerModel", "asNew", "(II)Z"⟩, 60) := ⟨⟨by decide +kernel, by decide +kernel⟩, List.mem_of_getElem? (i := 1017) (by decide +kernel), List.mem_of_getElem? (i := 1374) (by decide +kernel), List.mem_of_getElem? (i := 1375) (by decide +kernel)⟩
theorem lw_p74 : lw_okq (⟨"LogServerModel", "above", "(I)V"⟩, 60) := ⟨⟨by decide +kernel, by decide +kernel⟩, List.mem_of_getElem? (i := 1017) (by decide +kernel), List.mem_of_getElem? (i := 1382) (by decide +kernel), List.mem_of_getElem? (i := 1383) (by decide +kernel)⟩
theorem lw_p75 : lw_okq (⟨"LogServerModel", "reply", "(IIIII)V"⟩, 60) := ⟨⟨by decide +kernel, by decide +kernel⟩, List.mem_of_getElem? (i := 1017) (by decide +kernel), List.mem_of_getElem? (i := 1390) (by decide +kernel), List.mem_of_getElem? (i := 1391) (by decide +kernel)⟩
theorem lw_p76 : lw_okq (⟨"LogServerModel", "followed", "(IIIII)Z"⟩, 60) := ⟨⟨by decide +kernel, by decide +kernel⟩, List.mem_of_getElem? (i := 1017) (by decide +kernel), List.mem_of_getElem? (i := 1410) (by decide +kernel), List.mem_of_getElem? (i := 1411) (by decide +kernel)⟩
theorem lw_p77 : lw_okq (⟨"LogServerModel", "take", "(IIIII)V"⟩, 60) := ⟨⟨by decide +kernel, by decide +kernel⟩, List.mem_of_getElem? (i := 1017) (by decide +kernel), List.mem_of_getElem? (i := 1414) (by decide +kernel), List.mem_of_getElem? (i := 1415) (by decide +kernel)⟩
theorem lw_p78 : lw_okq (⟨"LogServerModel", "heardOf", "(III)Z"⟩, 60) := ⟨⟨by decide +kernel, by decide +kernel⟩, List.mem_of_getElem? (i := 1017) (by decide +kernel), List.mem_of_getElem? (i := 1422) (by decide +kernel), List.mem_of_getElem? (i := 1423) (by decide +kernel)⟩
theorem lw_p79 : lw_okq (⟨"LogServerModel", "goOn", "(I)V"⟩, 60) := ⟨⟨by decide +kernel, by decide +kernel⟩, List.mem_of_getElem? (i := 1017) (by decide +kernel), List.mem_of_getElem? (i := 1426) (by decide +kernel), List.mem_of_getElem? (i := 1427) (by decide +kernel)⟩
def lw_privs_5 : List (MethodName × Nat) := [(⟨"LogServerModel", "termAt", "(I)I"⟩, 60), (⟨"LogServerModel", "reads", "()V"⟩, 60), (⟨"LogServerModel", "question", "(II)V"⟩, 60), (⟨"LogServerModel", "campaign", "()V"⟩, 60), (⟨"LogServerModel", "lead", "()V"⟩, 60), (⟨"LogServerModel", "write", "(III)V"⟩, 60), (⟨"LogServerModel", "count", "()V"⟩, 60), (⟨"LogServerModel", "apply", "()V"⟩, 60), (⟨"LogServerModel", "bad", "(IIIII)Z"⟩, 60), (⟨"LogServerModel", "asNew", "(II)Z"⟩, 60), (⟨"LogServerModel", "above", "(I)V"⟩, 60), (⟨"LogServerModel", "reply", "(IIIII)V"⟩, 60), (⟨"LogServerModel", "followed", "(IIIII)Z"⟩, 60), (⟨"LogServerModel", "take", "(IIIII)V"⟩, 60), (⟨"LogServerModel", "heardOf", "(III)Z"⟩, 60), (⟨"LogServerModel", "goOn", "(I)V"⟩, 60)]
theorem lw_r5 : ∀ q ∈ lw_privs_5, lw_okq q := List.forall_mem_cons.mpr ⟨lw_p64, List.forall_mem_cons.mpr ⟨lw_p65, List.forall_mem_cons.mpr ⟨lw_p66, List.forall_mem_cons.mpr ⟨lw_p67, List.forall_mem_cons.mpr ⟨lw_p68, List.forall_mem_cons.mpr ⟨lw_p69, List.forall_mem_cons.mpr ⟨lw_p70, List.forall_mem_cons.mpr ⟨lw_p71, List.forall_mem_cons.mpr ⟨lw_p72, List.forall_mem_cons.mpr ⟨lw_p73, List.forall_mem_cons.mpr ⟨lw_p74, List.forall_mem_cons.mpr ⟨lw_p75, List.forall_mem_cons.mpr ⟨lw_p76, List.forall_mem_cons.mpr ⟨lw_p77, List.forall_mem_cons.mpr ⟨lw_p78, List.forall_mem_cons.mpr ⟨lw_p79, fun _ h => absurd h List.not_mem_nil⟩⟩⟩⟩⟩⟩⟩⟩⟩⟩⟩⟩⟩⟩⟩⟩
theorem lw_p80 : lw_okq (⟨"LogServerModel", "adopt", "()V"⟩, 60) := ⟨⟨by decide +kernel, by decide +kernel⟩, List.mem_of_getElem? (i := 1017) (by decide +kernel), List.mem_of_getElem? (i := 1438) (by decide +kernel), List.mem_of_getElem? (i := 1439) (by decide +kernel)⟩
theorem lw_p81 : lw_okq (⟨"LogServerModel", "asked", "(II)I"⟩, 60) := ⟨⟨by decide +kernel, by decide +kernel⟩, List.mem_of_getElem? (i := 1017) (by decide +kernel), List.mem_of_getElem? (i := 1454) (by decide +kernel), List.mem_of_getElem? (i := 1455) (by decide +kernel)⟩
theorem lw_p82 : lw_okq (⟨"LogServerModel", "canChange", "()Z"⟩, 60) := ⟨⟨by decide +kernel, by decide +kernel⟩, List.mem_of_getElem? (i := 1017) (by decide +kernel), List.mem_of_getElem? (i := 1466) (by decide +kernel), List.mem_of_getElem? (i := 1467) (by decide +kernel)⟩
theorem lw_p83 : lw_okq (⟨"LogServerModel", "noCall", "(I)Z"⟩, 60) := ⟨⟨by decide +kernel, by decide +kernel⟩, List.mem_of_getElem? (i := 1017) (by decide +kernel), List.mem_of_getElem? (i := 1506) (by decide +kernel), List.mem_of_getElem? (i := 1507) (by decide +kernel)⟩
def lw_privs_6 : List (MethodName × Nat) := [(⟨"LogServerModel", "adopt", "()V"⟩, 60), (⟨"LogServerModel", "asked", "(II)I"⟩, 60), (⟨"LogServerModel", "canChange", "()Z"⟩, 60), (⟨"LogServerModel", "noCall", "(I)Z"⟩, 60)]
theorem lw_r6 : ∀ q ∈ lw_privs_6, lw_okq q := List.forall_mem_cons.mpr ⟨lw_p80, List.forall_mem_cons.mpr ⟨lw_p81, List.forall_mem_cons.mpr ⟨lw_p82, List.forall_mem_cons.mpr ⟨lw_p83, fun _ h => absurd h List.not_mem_nil⟩⟩⟩⟩
def lw_privs : List (MethodName × Nat) := lw_privs_1 ++ (lw_privs_2 ++ (lw_privs_3 ++ (lw_privs_4 ++ (lw_privs_5 ++ (lw_privs_6)))))
def lw_tbl : List Cond := k2_sels lw_privs ++ tables_1
theorem lw_privs_ok : ∀ q ∈ lw_privs, lw_okq q := by
  show ∀ q ∈ lw_privs_1 ++ (lw_privs_2 ++ (lw_privs_3 ++ (lw_privs_4 ++ (lw_privs_5 ++ (lw_privs_6))))), lw_okq q
  exact List.forall_mem_append.mpr ⟨lw_r1, List.forall_mem_append.mpr ⟨lw_r2, List.forall_mem_append.mpr ⟨lw_r3, List.forall_mem_append.mpr ⟨lw_r4, List.forall_mem_append.mpr ⟨lw_r5, lw_r6⟩⟩⟩⟩⟩
-- ===== end of PART A; then your names; then what follows =====
def RX0 : String := "LogServer$Calls"
def TX0 : u_T := fun k => match k with
  | 0 => ("LogServer$Calls", "reads", "[Z", true)
  | 1 => ("LogServer$Calls", "targets", "[I", true)
  | 2 => ("LogServer$Calls", "marks", "[I", true)
  | 3 => ("LogServer$Calls", "outcomes", "[I", true)
  | _ => ("LogServer$Calls", "count", "I", false)
def tyX0 : Nat → FieldType := fun k => match k with
  | 0 => .array .boolean
  | 1 => .array .int
  | 2 => .array .int
  | 3 => .array .int
  | _ => .int
abbrev wsX00 : List Cond := u_ws RX0 TX0 5
theorem nmX0 : ∀ a, a < 5 → ∀ b, b < 5 → a ≠ b → (TX0 a).2.1 ≠ (TX0 b).2.1 := by decide +kernel
theorem tyX0_ok : ∀ k, k < 5 → parseFieldDescriptor (TX0 k).2.2.1 = some (tyX0 k) := by decide +kernel
def RX1 : String := "LogServer$Deeds"
def TX1 : u_T := fun k => match k with
  | 0 => ("LogServer$Deeds", "numbers", "[I", true)
  | 1 => ("LogServer$Deeds", "values", "[I", true)
  | _ => ("LogServer$Deeds", "count", "I", false)
def tyX1 : Nat → FieldType := fun k => match k with
  | 0 => .array .int
  | 1 => .array .int
  | _ => .int
abbrev wsX10 : List Cond := u_ws RX1 TX1 3
theorem nmX1 : ∀ a, a < 3 → ∀ b, b < 3 → a ≠ b → (TX1 a).2.1 ≠ (TX1 b).2.1 := by decide +kernel
theorem tyX1_ok : ∀ k, k < 3 → parseFieldDescriptor (TX1 k).2.2.1 = some (tyX1 k) := by decide +kernel
def RX2 : String := "LogServer$Disk"
def TX2 : u_T := fun k => match k with
  | 0 => ("LogServer$Disk", "terms", "[I", true)
  | 1 => ("LogServer$Disk", "kinds", "[I", true)
  | 2 => ("LogServer$Disk", "values", "[I", true)
  | 3 => ("LogServer$Disk", "term", "I", false)
  | 4 => ("LogServer$Disk", "voted", "I", false)
  | 5 => ("LogServer$Disk", "base", "I", false)
  | 6 => ("LogServer$Disk", "baseTerm", "I", false)
  | 7 => ("LogServer$Disk", "baseCode", "I", false)
  | 8 => ("LogServer$Disk", "baseSize", "I", false)
  | 9 => ("LogServer$Disk", "last", "I", false)
  | 10 => ("LogServer$Disk", "synced", "I", false)
  | 11 => ("LogServer$Disk", "dirty", "Z", false)
  | 12 => ("LogServer$Disk", "membersNumber", "I", false)
  | _ => ("LogServer$Disk", "code", "I", false)
def tyX2 : Nat → FieldType := fun k => match k with
  | 0 => .array .int
  | 1 => .array .int
  | 2 => .array .int
  | 3 => .int
  | 4 => .int
  | 5 => .int
  | 6 => .int
  | 7 => .int
  | 8 => .int
  | 9 => .int
  | 10 => .int
  | 11 => .boolean
  | 12 => .int
  | _ => .int
abbrev wsX20 : List Cond := u_ws RX2 TX2 14
theorem nmX2 : ∀ a, a < 14 → ∀ b, b < 14 → a ≠ b → (TX2 a).2.1 ≠ (TX2 b).2.1 := by decide +kernel
theorem tyX2_ok : ∀ k, k < 14 → parseFieldDescriptor (TX2 k).2.2.1 = some (tyX2 k) := by decide +kernel
def RX3 : String := "LogServer$Lead"
def TX3 : u_T := fun k => match k with
  | 0 => ("LogServer$Lead", "next", "[I", true)
  | 1 => ("LogServer$Lead", "match", "[I", true)
  | 2 => ("LogServer$Lead", "flying", "[I", true)
  | 3 => ("LogServer$Lead", "probing", "[Z", true)
  | 4 => ("LogServer$Lead", "offset", "[I", true)
  | 5 => ("LogServer$Lead", "ack", "[I", true)
  | 6 => ("LogServer$Lead", "seen", "[I", true)
  | 7 => ("LogServer$Lead", "answered", "[Z", true)
  | 8 => ("LogServer$Lead", "first", "I", false)
  | _ => ("LogServer$Lead", "round", "I", false)
def tyX3 : Nat → FieldType := fun k => match k with
  | 0 => .array .int
  | 1 => .array .int
  | 2 => .array .int
  | 3 => .array .boolean
  | 4 => .array .int
  | 5 => .array .int
  | 6 => .array .int
  | 7 => .array .boolean
  | 8 => .int
  | _ => .int
abbrev wsX30 : List Cond := u_ws RX3 TX3 10
theorem nmX3 : ∀ a, a < 10 → ∀ b, b < 10 → a ≠ b → (TX3 a).2.1 ≠ (TX3 b).2.1 := by decide +kernel
theorem tyX3_ok : ∀ k, k < 10 → parseFieldDescriptor (TX3 k).2.2.1 = some (tyX3 k) := by decide +kernel
def RX4 : String := "LogServer$Mail"
def TX4 : u_T := fun k => match k with
  | 0 => ("LogServer$Mail", "draft", "[I", true)
  | 1 => ("LogServer$Mail", "draftLength", "I", false)
  | 2 => ("LogServer$Mail", "waiting", "[I", true)
  | 3 => ("LogServer$Mail", "waitingLengths", "[I", true)
  | 4 => ("LogServer$Mail", "waits", "I", false)
  | 5 => ("LogServer$Mail", "kept", "[I", true)
  | 6 => ("LogServer$Mail", "keptLengths", "[I", true)
  | _ => ("LogServer$Mail", "went", "I", false)
def tyX4 : Nat → FieldType := fun k => match k with
  | 0 => .array .int
  | 1 => .int
  | 2 => .array .int
  | 3 => .array .int
  | 4 => .int
  | 5 => .array .int
  | 6 => .array .int
  | _ => .int
abbrev wsX40 : List Cond := u_ws RX4 TX4 8
theorem nmX4 : ∀ a, a < 8 → ∀ b, b < 8 → a ≠ b → (TX4 a).2.1 ≠ (TX4 b).2.1 := by decide +kernel
theorem tyX4_ok : ∀ k, k < 8 → parseFieldDescriptor (TX4 k).2.2.1 = some (tyX4 k) := by decide +kernel
def RX5 : String := "LogServer$Told"
def TX5 : u_T := fun k => match k with
  | 0 => ("LogServer$Told", "terms", "[I", true)
  | 1 => ("LogServer$Told", "kinds", "[I", true)
  | 2 => ("LogServer$Told", "values", "[I", true)
  | 3 => ("LogServer$Told", "count", "I", false)
  | 4 => ("LogServer$Told", "described", "Z", false)
  | 5 => ("LogServer$Told", "base", "I", false)
  | 6 => ("LogServer$Told", "baseTerm", "I", false)
  | 7 => ("LogServer$Told", "code", "I", false)
  | _ => ("LogServer$Told", "size", "I", false)
def tyX5 : Nat → FieldType := fun k => match k with
  | 0 => .array .int
  | 1 => .array .int
  | 2 => .array .int
  | 3 => .int
  | 4 => .boolean
  | 5 => .int
  | 6 => .int
  | 7 => .int
  | _ => .int
abbrev wsX50 : List Cond := u_ws RX5 TX5 9
theorem nmX5 : ∀ a, a < 9 → ∀ b, b < 9 → a ≠ b → (TX5 a).2.1 ≠ (TX5 b).2.1 := by decide +kernel
theorem tyX5_ok : ∀ k, k < 9 → parseFieldDescriptor (TX5 k).2.2.1 = some (tyX5 k) := by decide +kernel
def RX6 : String := "LogServer"
def TX6 : u_T := fun k => match k with
  | 0 => ("LogServer", "itself", "I", true)
  | 1 => ("LogServer", "disk", "LLogServer$Disk;", true)
  | 2 => ("LogServer", "mail", "LLogServer$Mail;", true)
  | 3 => ("LogServer", "told", "LLogServer$Told;", true)
  | 4 => ("LogServer", "lead", "LLogServer$Lead;", true)
  | 5 => ("LogServer", "calls", "LLogServer$Calls;", true)
  | 6 => ("LogServer", "deeds", "LLogServer$Deeds;", true)
  | 7 => ("LogServer", "row", "J", false)
  | 8 => ("LogServer", "now", "I", false)
  | 9 => ("LogServer", "role", "I", false)
  | 10 => ("LogServer", "leader", "I", false)
  | 11 => ("LogServer", "committed", "I", false)
  | 12 => ("LogServer", "applied", "I", false)
  | 13 => ("LogServer", "heard", "I", false)
  | 14 => ("LogServer", "alarm", "I", false)
  | 15 => ("LogServer", "votes", "I", false)
  | 16 => ("LogServer", "handing", "I", false)
  | 17 => ("LogServer", "handingSince", "I", false)
  | 18 => ("LogServer", "assembling", "I", false)
  | _ => ("LogServer", "got", "I", false)
def tyX6 : Nat → FieldType := fun k => match k with
  | 0 => .int
  | 1 => .object "LogServer$Disk"
  | 2 => .object "LogServer$Mail"
  | 3 => .object "LogServer$Told"
  | 4 => .object "LogServer$Lead"
  | 5 => .object "LogServer$Calls"
  | 6 => .object "LogServer$Deeds"
  | 7 => .long
  | 8 => .int
  | 9 => .int
  | 10 => .int
  | 11 => .int
  | 12 => .int
  | 13 => .int
  | 14 => .int
  | 15 => .int
  | 16 => .int
  | 17 => .int
  | 18 => .int
  | _ => .int
abbrev wsX60 : List Cond := u_ws RX6 TX6 20
theorem nmX6 : ∀ a, a < 20 → ∀ b, b < 20 → a ≠ b → (TX6 a).2.1 ≠ (TX6 b).2.1 := by decide +kernel
theorem tyX6_ok : ∀ k, k < 20 → parseFieldDescriptor (TX6 k).2.2.1 = some (tyX6 k) := by decide +kernel
def RX7 : String := "LogServerModel"
def TX7 : u_T := fun k => match k with
  | 0 => ("LogServerModel", "thrown", "I", false)
  | 1 => ("LogServerModel", "itself", "I", true)
  | 2 => ("LogServerModel", "row", "J", false)
  | 3 => ("LogServerModel", "now", "I", false)
  | 4 => ("LogServerModel", "term", "I", false)
  | 5 => ("LogServerModel", "voted", "I", false)
  | 6 => ("LogServerModel", "terms", "[I", true)
  | 7 => ("LogServerModel", "kinds", "[I", true)
  | 8 => ("LogServerModel", "values", "[I", true)
  | 9 => ("LogServerModel", "base", "I", false)
  | 10 => ("LogServerModel", "last", "I", false)
  | 11 => ("LogServerModel", "baseTerm", "I", false)
  | 12 => ("LogServerModel", "baseCode", "I", false)
  | 13 => ("LogServerModel", "snapshot", "I", false)
  | 14 => ("LogServerModel", "dirty", "Z", false)
  | 15 => ("LogServerModel", "role", "I", false)
  | 16 => ("LogServerModel", "leader", "I", false)
  | 17 => ("LogServerModel", "commit", "I", false)
  | 18 => ("LogServerModel", "applied", "I", false)
  | 19 => ("LogServerModel", "synced", "I", false)
  | 20 => ("LogServerModel", "heard", "I", false)
  | 21 => ("LogServerModel", "alarm", "I", false)
  | 22 => ("LogServerModel", "votes", "I", false)
  | 23 => ("LogServerModel", "handing", "I", false)
  | 24 => ("LogServerModel", "handed", "I", false)
  | 25 => ("LogServerModel", "first", "I", false)
  | 26 => ("LogServerModel", "round", "I", false)
  | 27 => ("LogServerModel", "next", "[I", true)
  | 28 => ("LogServerModel", "match", "[I", true)
  | 29 => ("LogServerModel", "flying", "[I", true)
  | 30 => ("LogServerModel", "offset", "[I", true)
  | 31 => ("LogServerModel", "ack", "[I", true)
  | 32 => ("LogServerModel", "seen", "[I", true)
  | 33 => ("LogServerModel", "probing", "[Z", true)
  | 34 => ("LogServerModel", "answered", "[Z", true)
  | 35 => ("LogServerModel", "assembly", "I", false)
  | 36 => ("LogServerModel", "got", "I", false)
  | 37 => ("LogServerModel", "described", "Z", false)
  | 38 => ("LogServerModel", "toldBase", "I", false)
  | 39 => ("LogServerModel", "toldTerm", "I", false)
  | 40 => ("LogServerModel", "toldCode", "I", false)
  | 41 => ("LogServerModel", "toldSize", "I", false)
  | 42 => ("LogServerModel", "told", "I", false)
  | 43 => ("LogServerModel", "toldTerms", "[I", true)
  | 44 => ("LogServerModel", "toldKinds", "[I", true)
  | 45 => ("LogServerModel", "toldValues", "[I", true)
  | 46 => ("LogServerModel", "letter", "[I", true)
  | 47 => ("LogServerModel", "size", "I", false)
  | 48 => ("LogServerModel", "waiting", "[I", true)
  | 49 => ("LogServerModel", "waits", "I", false)
  | 50 => ("LogServerModel", "went", "I", false)
  | 51 => ("LogServerModel", "gone", "[I", true)
  | 52 => ("LogServerModel", "done", "I", false)
  | 53 => ("LogServerModel", "doneNumbers", "[I", true)
  | 54 => ("LogServerModel", "doneValues", "[I", true)
  | 55 => ("LogServerModel", "calls", "I", false)
  | 56 => ("LogServerModel", "callState", "[I", true)
  | 57 => ("LogServerModel", "callNumber", "[I", true)
  | 58 => ("LogServerModel", "callTerm", "[I", true)
  | _ => ("LogServerModel", "callRound", "[I", true)
def tyX7 : Nat → FieldType := fun k => match k with
  | 0 => .int
  | 1 => .int
  | 2 => .long
  | 3 => .int
  | 4 => .int
  | 5 => .int
  | 6 => .array .int
  | 7 => .array .int
  | 8 => .array .int
  | 9 => .int
  | 10 => .int
  | 11 => .int
  | 12 => .int
  | 13 => .int
  | 14 => .boolean
  | 15 => .int
  | 16 => .int
  | 17 => .int
  | 18 => .int
  | 19 => .int
  | 20 => .int
  | 21 => .int
  | 22 => .int
  | 23 => .int
  | 24 => .int
  | 25 => .int
  | 26 => .int
  | 27 => .array .int
  | 28 => .array .int
  | 29 => .array .int
  | 30 => .array .int
  | 31 => .array .int
  | 32 => .array .int
  | 33 => .array .boolean
  | 34 => .array .boolean
  | 35 => .int
  | 36 => .int
  | 37 => .boolean
  | 38 => .int
  | 39 => .int
  | 40 => .int
  | 41 => .int
  | 42 => .int
  | 43 => .array .int
  | 44 => .array .int
  | 45 => .array .int
  | 46 => .array .int
  | 47 => .int
  | 48 => .array .int
  | 49 => .int
  | 50 => .int
  | 51 => .array .int
  | 52 => .int
  | 53 => .array .int
  | 54 => .array .int
  | 55 => .int
  | 56 => .array .int
  | 57 => .array .int
  | 58 => .array .int
  | _ => .array .int
abbrev wsX70 : List Cond := u_ws RX7 TX7 60
theorem nmX7 : ∀ a, a < 60 → ∀ b, b < 60 → a ≠ b → (TX7 a).2.1 ≠ (TX7 b).2.1 := by decide +kernel
theorem tyX7_ok : ∀ k, k < 60 → parseFieldDescriptor (TX7 k).2.2.1 = some (tyX7 k) := by decide +kernel
abbrev vwCl : List vw_C := [(RX0, TX0, 5), (RX1, TX1, 3), (RX2, TX2, 14), (RX3, TX3, 10), (RX4, TX4, 8), (RX5, TX5, 9), (RX6, TX6, 20), (RX7, TX7, 60)]
