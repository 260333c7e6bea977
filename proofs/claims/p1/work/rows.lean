section
-- ===== PART A: goes FIRST, ahead of the names: the tables' words, and 'selects' of the private methods out of them =====
/-- a private method of a class that the tables say can be made, by its rows of tables_1 -/
def lw_okq (q : MethodName × Nat) : Prop := (q.1.cls ≠ "java/lang/invoke/MethodHandle" ∧ q.1.cls ≠ "java/lang/invoke/VarHandle") ∧ Cond.instantiable q.1.cls q.2 ∈ tables_1 ∧ Cond.privateMethod q.1 ∈ tables_1 ∧ Cond.instanceMethod q.1 ∈ tables_1
theorem lw_p0 : lw_okq (⟨"java/lang/Throwable", "fillInStackTrace", "(I)Ljava/lang/Throwable;"⟩, 6) := ⟨⟨by decide +kernel, by decide +kernel⟩, List.mem_of_getElem? (i := 319) (by decide +kernel), List.mem_of_getElem? (i := 317) (by decide +kernel), List.mem_of_getElem? (i := 318) (by decide +kernel)⟩
theorem lw_p1 : lw_okq (⟨"QuorumStore$Node", "beat", "()V"⟩, 15) := ⟨⟨by decide +kernel, by decide +kernel⟩, List.mem_of_getElem? (i := 62) (by decide +kernel), List.mem_of_getElem? (i := 353) (by decide +kernel), List.mem_of_getElem? (i := 354) (by decide +kernel)⟩
theorem lw_p2 : lw_okq (⟨"QuorumStore$Node", "peers", "()I"⟩, 15) := ⟨⟨by decide +kernel, by decide +kernel⟩, List.mem_of_getElem? (i := 62) (by decide +kernel), List.mem_of_getElem? (i := 357) (by decide +kernel), List.mem_of_getElem? (i := 358) (by decide +kernel)⟩
theorem lw_p3 : lw_okq (⟨"QuorumStore$Node", "sendEach", "(IIIILQuorumStore$Value;)V"⟩, 15) := ⟨⟨by decide +kernel, by decide +kernel⟩, List.mem_of_getElem? (i := 62) (by decide +kernel), List.mem_of_getElem? (i := 430) (by decide +kernel), List.mem_of_getElem? (i := 431) (by decide +kernel)⟩
theorem lw_p4 : lw_okq (⟨"QuorumStore$Node", "rest", "()V"⟩, 15) := ⟨⟨by decide +kernel, by decide +kernel⟩, List.mem_of_getElem? (i := 62) (by decide +kernel), List.mem_of_getElem? (i := 434) (by decide +kernel), List.mem_of_getElem? (i := 435) (by decide +kernel)⟩
theorem lw_p5 : lw_okq (⟨"QuorumStore$Node", "beginToLead", "()V"⟩, 15) := ⟨⟨by decide +kernel, by decide +kernel⟩, List.mem_of_getElem? (i := 62) (by decide +kernel), List.mem_of_getElem? (i := 438) (by decide +kernel), List.mem_of_getElem? (i := 439) (by decide +kernel)⟩
theorem lw_p6 : lw_okq (⟨"QuorumStore$Row", "clearPlace", "(I)V"⟩, 3) := ⟨⟨by decide +kernel, by decide +kernel⟩, List.mem_of_getElem? (i := 68) (by decide +kernel), List.mem_of_getElem? (i := 453) (by decide +kernel), List.mem_of_getElem? (i := 454) (by decide +kernel)⟩
theorem lw_p7 : lw_okq (⟨"QuorumStore$Node", "settle", "()V"⟩, 15) := ⟨⟨by decide +kernel, by decide +kernel⟩, List.mem_of_getElem? (i := 62) (by decide +kernel), List.mem_of_getElem? (i := 471) (by decide +kernel), List.mem_of_getElem? (i := 472) (by decide +kernel)⟩
theorem lw_p8 : lw_okq (⟨"QuorumStore$Node", "openSlot", "()I"⟩, 15) := ⟨⟨by decide +kernel, by decide +kernel⟩, List.mem_of_getElem? (i := 62) (by decide +kernel), List.mem_of_getElem? (i := 479) (by decide +kernel), List.mem_of_getElem? (i := 480) (by decide +kernel)⟩
theorem lw_p9 : lw_okq (⟨"QuorumStore$Lead", "dequeue", "()LQuorumStore$Value;"⟩, 8) := ⟨⟨by decide +kernel, by decide +kernel⟩, List.mem_of_getElem? (i := 88) (by decide +kernel), List.mem_of_getElem? (i := 501) (by decide +kernel), List.mem_of_getElem? (i := 502) (by decide +kernel)⟩
theorem lw_p10 : lw_okq (⟨"QuorumStore$Node", "propose", "(ILQuorumStore$Value;)V"⟩, 15) := ⟨⟨by decide +kernel, by decide +kernel⟩, List.mem_of_getElem? (i := 62) (by decide +kernel), List.mem_of_getElem? (i := 505) (by decide +kernel), List.mem_of_getElem? (i := 506) (by decide +kernel)⟩
theorem lw_p11 : lw_okq (⟨"QuorumStore$Node", "chooseIfAcknowledged", "(I)V"⟩, 15) := ⟨⟨by decide +kernel, by decide +kernel⟩, List.mem_of_getElem? (i := 62) (by decide +kernel), List.mem_of_getElem? (i := 510) (by decide +kernel), List.mem_of_getElem? (i := 511) (by decide +kernel)⟩
theorem lw_p12 : lw_okq (⟨"QuorumStore$Node", "learn", "(ILQuorumStore$Value;)V"⟩, 15) := ⟨⟨by decide +kernel, by decide +kernel⟩, List.mem_of_getElem? (i := 62) (by decide +kernel), List.mem_of_getElem? (i := 514) (by decide +kernel), List.mem_of_getElem? (i := 515) (by decide +kernel)⟩
theorem lw_p13 : lw_okq (⟨"QuorumStore$Node", "applyKnown", "()V"⟩, 15) := ⟨⟨by decide +kernel, by decide +kernel⟩, List.mem_of_getElem? (i := 62) (by decide +kernel), List.mem_of_getElem? (i := 522) (by decide +kernel), List.mem_of_getElem? (i := 523) (by decide +kernel)⟩
theorem lw_p14 : lw_okq (⟨"QuorumStore$State", "forgetConfigsBefore", "(I)V"⟩, 6) := ⟨⟨by decide +kernel, by decide +kernel⟩, List.mem_of_getElem? (i := 166) (by decide +kernel), List.mem_of_getElem? (i := 530) (by decide +kernel), List.mem_of_getElem? (i := 531) (by decide +kernel)⟩
theorem lw_p15 : lw_okq (⟨"QuorumStore$State", "changeMembers", "(II)J"⟩, 6) := ⟨⟨by decide +kernel, by decide +kernel⟩, List.mem_of_getElem? (i := 166) (by decide +kernel), List.mem_of_getElem? (i := 534) (by decide +kernel), List.mem_of_getElem? (i := 535) (by decide +kernel)⟩
def lw_privs_1 : List (MethodName × Nat) := [(⟨"java/lang/Throwable", "fillInStackTrace", "(I)Ljava/lang/Throwable;"⟩, 6), (⟨"QuorumStore$Node", "beat", "()V"⟩, 15), (⟨"QuorumStore$Node", "peers", "()I"⟩, 15), (⟨"QuorumStore$Node", "sendEach", "(IIIILQuorumStore$Value;)V"⟩, 15), (⟨"QuorumStore$Node", "rest", "()V"⟩, 15), (⟨"QuorumStore$Node", "beginToLead", "()V"⟩, 15), (⟨"QuorumStore$Row", "clearPlace", "(I)V"⟩, 3), (⟨"QuorumStore$Node", "settle", "()V"⟩, 15), (⟨"QuorumStore$Node", "openSlot", "()I"⟩, 15), (⟨"QuorumStore$Lead", "dequeue", "()LQuorumStore$Value;"⟩, 8), (⟨"QuorumStore$Node", "propose", "(ILQuorumStore$Value;)V"⟩, 15), (⟨"QuorumStore$Node", "chooseIfAcknowledged", "(I)V"⟩, 15), (⟨"QuorumStore$Node", "learn", "(ILQuorumStore$Value;)V"⟩, 15), (⟨"QuorumStore$Node", "applyKnown", "()V"⟩, 15), (⟨"QuorumStore$State", "forgetConfigsBefore", "(I)V"⟩, 6), (⟨"QuorumStore$State", "changeMembers", "(II)J"⟩, 6)]
theorem lw_r1 : ∀ q ∈ lw_privs_1, lw_okq q := List.forall_mem_cons.mpr ⟨lw_p0, List.forall_mem_cons.mpr ⟨lw_p1, List.forall_mem_cons.mpr ⟨lw_p2, List.forall_mem_cons.mpr ⟨lw_p3, List.forall_mem_cons.mpr ⟨lw_p4, List.forall_mem_cons.mpr ⟨lw_p5, List.forall_mem_cons.mpr ⟨lw_p6, List.forall_mem_cons.mpr ⟨lw_p7, List.forall_mem_cons.mpr ⟨lw_p8, List.forall_mem_cons.mpr ⟨lw_p9, List.forall_mem_cons.mpr ⟨lw_p10, List.forall_mem_cons.mpr ⟨lw_p11, List.forall_mem_cons.mpr ⟨lw_p12, List.forall_mem_cons.mpr ⟨lw_p13, List.forall_mem_cons.mpr ⟨lw_p14, List.forall_mem_cons.mpr ⟨lw_p15, fun _ h => absurd h List.not_mem_nil⟩⟩⟩⟩⟩⟩⟩⟩⟩⟩⟩⟩⟩⟩⟩⟩
theorem lw_p16 : lw_okq (⟨"QuorumStore$State", "changeNumber", "(LQuorumStore$Value;)J"⟩, 6) := ⟨⟨by decide +kernel, by decide +kernel⟩, List.mem_of_getElem? (i := 166) (by decide +kernel), List.mem_of_getElem? (i := 538) (by decide +kernel), List.mem_of_getElem? (i := 539) (by decide +kernel)⟩
theorem lw_p17 : lw_okq (⟨"QuorumStore", "messageAt", "(I)LQuorumStore$Message;"⟩, 3) := ⟨⟨by decide +kernel, by decide +kernel⟩, List.mem_of_getElem? (i := 25) (by decide +kernel), List.mem_of_getElem? (i := 550) (by decide +kernel), List.mem_of_getElem? (i := 551) (by decide +kernel)⟩
theorem lw_p18 : lw_okq (⟨"QuorumStore$Node", "onPrepare", "(LQuorumStore$Message;)V"⟩, 15) := ⟨⟨by decide +kernel, by decide +kernel⟩, List.mem_of_getElem? (i := 62) (by decide +kernel), List.mem_of_getElem? (i := 578) (by decide +kernel), List.mem_of_getElem? (i := 579) (by decide +kernel)⟩
theorem lw_p19 : lw_okq (⟨"QuorumStore$Node", "rejects", "(LQuorumStore$Message;)Z"⟩, 15) := ⟨⟨by decide +kernel, by decide +kernel⟩, List.mem_of_getElem? (i := 62) (by decide +kernel), List.mem_of_getElem? (i := 582) (by decide +kernel), List.mem_of_getElem? (i := 583) (by decide +kernel)⟩
theorem lw_p20 : lw_okq (⟨"QuorumStore$Node", "promise", "(I)V"⟩, 15) := ⟨⟨by decide +kernel, by decide +kernel⟩, List.mem_of_getElem? (i := 62) (by decide +kernel), List.mem_of_getElem? (i := 586) (by decide +kernel), List.mem_of_getElem? (i := 587) (by decide +kernel)⟩
theorem lw_p21 : lw_okq (⟨"QuorumStore$Node", "stepDownBefore", "(I)V"⟩, 15) := ⟨⟨by decide +kernel, by decide +kernel⟩, List.mem_of_getElem? (i := 62) (by decide +kernel), List.mem_of_getElem? (i := 590) (by decide +kernel), List.mem_of_getElem? (i := 591) (by decide +kernel)⟩
theorem lw_p22 : lw_okq (⟨"QuorumStore$Node", "stepDown", "()V"⟩, 15) := ⟨⟨by decide +kernel, by decide +kernel⟩, List.mem_of_getElem? (i := 62) (by decide +kernel), List.mem_of_getElem? (i := 594) (by decide +kernel), List.mem_of_getElem? (i := 595) (by decide +kernel)⟩
theorem lw_p23 : lw_okq (⟨"QuorumStore$Node", "onPromise", "(LQuorumStore$Message;)Z"⟩, 15) := ⟨⟨by decide +kernel, by decide +kernel⟩, List.mem_of_getElem? (i := 62) (by decide +kernel), List.mem_of_getElem? (i := 607) (by decide +kernel), List.mem_of_getElem? (i := 608) (by decide +kernel)⟩
theorem lw_p24 : lw_okq (⟨"QuorumStore$Node", "want", "(I)V"⟩, 15) := ⟨⟨by decide +kernel, by decide +kernel⟩, List.mem_of_getElem? (i := 62) (by decide +kernel), List.mem_of_getElem? (i := 611) (by decide +kernel), List.mem_of_getElem? (i := 612) (by decide +kernel)⟩
theorem lw_p25 : lw_okq (⟨"QuorumStore$Node", "onReject", "(LQuorumStore$Message;)V"⟩, 15) := ⟨⟨by decide +kernel, by decide +kernel⟩, List.mem_of_getElem? (i := 62) (by decide +kernel), List.mem_of_getElem? (i := 615) (by decide +kernel), List.mem_of_getElem? (i := 616) (by decide +kernel)⟩
theorem lw_p26 : lw_okq (⟨"QuorumStore$Node", "onAccept", "(LQuorumStore$Message;)V"⟩, 15) := ⟨⟨by decide +kernel, by decide +kernel⟩, List.mem_of_getElem? (i := 62) (by decide +kernel), List.mem_of_getElem? (i := 619) (by decide +kernel), List.mem_of_getElem? (i := 620) (by decide +kernel)⟩
theorem lw_p27 : lw_okq (⟨"QuorumStore$Node", "follow", "(I)V"⟩, 15) := ⟨⟨by decide +kernel, by decide +kernel⟩, List.mem_of_getElem? (i := 62) (by decide +kernel), List.mem_of_getElem? (i := 623) (by decide +kernel), List.mem_of_getElem? (i := 624) (by decide +kernel)⟩
theorem lw_p28 : lw_okq (⟨"QuorumStore$Node", "onAccepted", "(LQuorumStore$Message;)V"⟩, 15) := ⟨⟨by decide +kernel, by decide +kernel⟩, List.mem_of_getElem? (i := 62) (by decide +kernel), List.mem_of_getElem? (i := 627) (by decide +kernel), List.mem_of_getElem? (i := 628) (by decide +kernel)⟩
theorem lw_p29 : lw_okq (⟨"QuorumStore$Node", "onHeart", "(LQuorumStore$Message;)V"⟩, 15) := ⟨⟨by decide +kernel, by decide +kernel⟩, List.mem_of_getElem? (i := 62) (by decide +kernel), List.mem_of_getElem? (i := 631) (by decide +kernel), List.mem_of_getElem? (i := 632) (by decide +kernel)⟩
theorem lw_p30 : lw_okq (⟨"QuorumStore$Node", "onWant", "(LQuorumStore$Message;)V"⟩, 15) := ⟨⟨by decide +kernel, by decide +kernel⟩, List.mem_of_getElem? (i := 62) (by decide +kernel), List.mem_of_getElem? (i := 635) (by decide +kernel), List.mem_of_getElem? (i := 636) (by decide +kernel)⟩
theorem lw_p31 : lw_okq (⟨"QuorumStore$Node", "onSnapshot", "(LQuorumStore$Message;)V"⟩, 15) := ⟨⟨by decide +kernel, by decide +kernel⟩, List.mem_of_getElem? (i := 62) (by decide +kernel), List.mem_of_getElem? (i := 649) (by decide +kernel), List.mem_of_getElem? (i := 650) (by decide +kernel)⟩
def lw_privs_2 : List (MethodName × Nat) := [(⟨"QuorumStore$State", "changeNumber", "(LQuorumStore$Value;)J"⟩, 6), (⟨"QuorumStore", "messageAt", "(I)LQuorumStore$Message;"⟩, 3), (⟨"QuorumStore$Node", "onPrepare", "(LQuorumStore$Message;)V"⟩, 15), (⟨"QuorumStore$Node", "rejects", "(LQuorumStore$Message;)Z"⟩, 15), (⟨"QuorumStore$Node", "promise", "(I)V"⟩, 15), (⟨"QuorumStore$Node", "stepDownBefore", "(I)V"⟩, 15), (⟨"QuorumStore$Node", "stepDown", "()V"⟩, 15), (⟨"QuorumStore$Node", "onPromise", "(LQuorumStore$Message;)Z"⟩, 15), (⟨"QuorumStore$Node", "want", "(I)V"⟩, 15), (⟨"QuorumStore$Node", "onReject", "(LQuorumStore$Message;)V"⟩, 15), (⟨"QuorumStore$Node", "onAccept", "(LQuorumStore$Message;)V"⟩, 15), (⟨"QuorumStore$Node", "follow", "(I)V"⟩, 15), (⟨"QuorumStore$Node", "onAccepted", "(LQuorumStore$Message;)V"⟩, 15), (⟨"QuorumStore$Node", "onHeart", "(LQuorumStore$Message;)V"⟩, 15), (⟨"QuorumStore$Node", "onWant", "(LQuorumStore$Message;)V"⟩, 15), (⟨"QuorumStore$Node", "onSnapshot", "(LQuorumStore$Message;)V"⟩, 15)]
theorem lw_r2 : ∀ q ∈ lw_privs_2, lw_okq q := List.forall_mem_cons.mpr ⟨lw_p16, List.forall_mem_cons.mpr ⟨lw_p17, List.forall_mem_cons.mpr ⟨lw_p18, List.forall_mem_cons.mpr ⟨lw_p19, List.forall_mem_cons.mpr ⟨lw_p20, List.forall_mem_cons.mpr ⟨lw_p21, List.forall_mem_cons.mpr ⟨lw_p22, List.forall_mem_cons.mpr ⟨lw_p23, List.forall_mem_cons.mpr ⟨lw_p24, List.forall_mem_cons.mpr ⟨lw_p25, List.forall_mem_cons.mpr ⟨lw_p26, List.forall_mem_cons.mpr ⟨lw_p27, List.forall_mem_cons.mpr ⟨lw_p28, List.forall_mem_cons.mpr ⟨lw_p29, List.forall_mem_cons.mpr ⟨lw_p30, List.forall_mem_cons.mpr ⟨lw_p31, fun _ h => absurd h List.not_mem_nil⟩⟩⟩⟩⟩⟩⟩⟩⟩⟩⟩⟩⟩⟩⟩⟩
theorem lw_p32 : lw_okq (⟨"QuorumStore", "nodeAt", "(I)LQuorumStore$Node;"⟩, 3) := ⟨⟨by decide +kernel, by decide +kernel⟩, List.mem_of_getElem? (i := 25) (by decide +kernel), List.mem_of_getElem? (i := 711) (by decide +kernel), List.mem_of_getElem? (i := 712) (by decide +kernel)⟩
theorem lw_p33 : lw_okq (⟨"QuorumStoreModel", "fail", "(I)I"⟩, 10) := ⟨⟨by decide +kernel, by decide +kernel⟩, List.mem_of_getElem? (i := 812) (by decide +kernel), List.mem_of_getElem? (i := 1035) (by decide +kernel), List.mem_of_getElem? (i := 1036) (by decide +kernel)⟩
theorem lw_p34 : lw_okq (⟨"QuorumStoreModel", "tickOnce", "(LQuorumStoreModel$Node;)V"⟩, 10) := ⟨⟨by decide +kernel, by decide +kernel⟩, List.mem_of_getElem? (i := 812) (by decide +kernel), List.mem_of_getElem? (i := 1039) (by decide +kernel), List.mem_of_getElem? (i := 1040) (by decide +kernel)⟩
theorem lw_p35 : lw_okq (⟨"QuorumStoreModel", "lead", "(LQuorumStoreModel$Node;)V"⟩, 10) := ⟨⟨by decide +kernel, by decide +kernel⟩, List.mem_of_getElem? (i := 812) (by decide +kernel), List.mem_of_getElem? (i := 1050) (by decide +kernel), List.mem_of_getElem? (i := 1051) (by decide +kernel)⟩
theorem lw_p36 : lw_okq (⟨"QuorumStoreModel$Slots", "grow", "()V"⟩, 4) := ⟨⟨by decide +kernel, by decide +kernel⟩, List.mem_of_getElem? (i := 827) (by decide +kernel), List.mem_of_getElem? (i := 1070) (by decide +kernel), List.mem_of_getElem? (i := 1071) (by decide +kernel)⟩
theorem lw_p37 : lw_okq (⟨"QuorumStoreModel$Slots", "move", "(II)V"⟩, 4) := ⟨⟨by decide +kernel, by decide +kernel⟩, List.mem_of_getElem? (i := 827) (by decide +kernel), List.mem_of_getElem? (i := 1074) (by decide +kernel), List.mem_of_getElem? (i := 1075) (by decide +kernel)⟩
theorem lw_p38 : lw_okq (⟨"QuorumStoreModel", "say", "(ILQuorumStoreModel$Node;IIILQuorumStoreModel$Value;)V"⟩, 10) := ⟨⟨by decide +kernel, by decide +kernel⟩, List.mem_of_getElem? (i := 812) (by decide +kernel), List.mem_of_getElem? (i := 1081) (by decide +kernel), List.mem_of_getElem? (i := 1082) (by decide +kernel)⟩
theorem lw_p39 : lw_okq (⟨"QuorumStoreModel", "begin", "(ILQuorumStoreModel$Node;III)LQuorumStoreModel$Message;"⟩, 10) := ⟨⟨by decide +kernel, by decide +kernel⟩, List.mem_of_getElem? (i := 812) (by decide +kernel), List.mem_of_getElem? (i := 1085) (by decide +kernel), List.mem_of_getElem? (i := 1086) (by decide +kernel)⟩
theorem lw_p40 : lw_okq (⟨"QuorumStoreModel", "send", "(LQuorumStoreModel$Message;)V"⟩, 10) := ⟨⟨by decide +kernel, by decide +kernel⟩, List.mem_of_getElem? (i := 812) (by decide +kernel), List.mem_of_getElem? (i := 1089) (by decide +kernel), List.mem_of_getElem? (i := 1090) (by decide +kernel)⟩
theorem lw_p41 : lw_okq (⟨"QuorumStoreModel", "work", "(LQuorumStoreModel$Node;)V"⟩, 10) := ⟨⟨by decide +kernel, by decide +kernel⟩, List.mem_of_getElem? (i := 812) (by decide +kernel), List.mem_of_getElem? (i := 1107) (by decide +kernel), List.mem_of_getElem? (i := 1108) (by decide +kernel)⟩
theorem lw_p42 : lw_okq (⟨"QuorumStoreModel", "propose", "(LQuorumStoreModel$Node;ILQuorumStoreModel$Value;)V"⟩, 10) := ⟨⟨by decide +kernel, by decide +kernel⟩, List.mem_of_getElem? (i := 812) (by decide +kernel), List.mem_of_getElem? (i := 1119) (by decide +kernel), List.mem_of_getElem? (i := 1120) (by decide +kernel)⟩
theorem lw_p43 : lw_okq (⟨"QuorumStoreModel", "chosen", "(LQuorumStoreModel$Node;I)V"⟩, 10) := ⟨⟨by decide +kernel, by decide +kernel⟩, List.mem_of_getElem? (i := 812) (by decide +kernel), List.mem_of_getElem? (i := 1123) (by decide +kernel), List.mem_of_getElem? (i := 1124) (by decide +kernel)⟩
theorem lw_p44 : lw_okq (⟨"QuorumStoreModel", "learn", "(LQuorumStoreModel$Node;ILQuorumStoreModel$Value;)V"⟩, 10) := ⟨⟨by decide +kernel, by decide +kernel⟩, List.mem_of_getElem? (i := 812) (by decide +kernel), List.mem_of_getElem? (i := 1131) (by decide +kernel), List.mem_of_getElem? (i := 1132) (by decide +kernel)⟩
theorem lw_p45 : lw_okq (⟨"QuorumStoreModel", "apply", "(LQuorumStoreModel$Node;)Z"⟩, 10) := ⟨⟨by decide +kernel, by decide +kernel⟩, List.mem_of_getElem? (i := 812) (by decide +kernel), List.mem_of_getElem? (i := 1135) (by decide +kernel), List.mem_of_getElem? (i := 1136) (by decide +kernel)⟩
theorem lw_p46 : lw_okq (⟨"QuorumStoreModel", "done", "(LQuorumStoreModel$State;LQuorumStoreModel$Value;)V"⟩, 10) := ⟨⟨by decide +kernel, by decide +kernel⟩, List.mem_of_getElem? (i := 812) (by decide +kernel), List.mem_of_getElem? (i := 1143) (by decide +kernel), List.mem_of_getElem? (i := 1144) (by decide +kernel)⟩
theorem lw_p47 : lw_okq (⟨"QuorumStoreModel", "grown", "(LQuorumStoreModel$Node;I)V"⟩, 10) := ⟨⟨by decide +kernel, by decide +kernel⟩, List.mem_of_getElem? (i := 812) (by decide +kernel), List.mem_of_getElem? (i := 1153) (by decide +kernel), List.mem_of_getElem? (i := 1154) (by decide +kernel)⟩
def lw_privs_3 : List (MethodName × Nat) := [(⟨"QuorumStore", "nodeAt", "(I)LQuorumStore$Node;"⟩, 3), (⟨"QuorumStoreModel", "fail", "(I)I"⟩, 10), (⟨"QuorumStoreModel", "tickOnce", "(LQuorumStoreModel$Node;)V"⟩, 10), (⟨"QuorumStoreModel", "lead", "(LQuorumStoreModel$Node;)V"⟩, 10), (⟨"QuorumStoreModel$Slots", "grow", "()V"⟩, 4), (⟨"QuorumStoreModel$Slots", "move", "(II)V"⟩, 4), (⟨"QuorumStoreModel", "say", "(ILQuorumStoreModel$Node;IIILQuorumStoreModel$Value;)V"⟩, 10), (⟨"QuorumStoreModel", "begin", "(ILQuorumStoreModel$Node;III)LQuorumStoreModel$Message;"⟩, 10), (⟨"QuorumStoreModel", "send", "(LQuorumStoreModel$Message;)V"⟩, 10), (⟨"QuorumStoreModel", "work", "(LQuorumStoreModel$Node;)V"⟩, 10), (⟨"QuorumStoreModel", "propose", "(LQuorumStoreModel$Node;ILQuorumStoreModel$Value;)V"⟩, 10), (⟨"QuorumStoreModel", "chosen", "(LQuorumStoreModel$Node;I)V"⟩, 10), (⟨"QuorumStoreModel", "learn", "(LQuorumStoreModel$Node;ILQuorumStoreModel$Value;)V"⟩, 10), (⟨"QuorumStoreModel", "apply", "(LQuorumStoreModel$Node;)Z"⟩, 10), (⟨"QuorumStoreModel", "done", "(LQuorumStoreModel$State;LQuorumStoreModel$Value;)V"⟩, 10), (⟨"QuorumStoreModel", "grown", "(LQuorumStoreModel$Node;I)V"⟩, 10)]
theorem lw_r3 : ∀ q ∈ lw_privs_3, lw_okq q := List.forall_mem_cons.mpr ⟨lw_p32, List.forall_mem_cons.mpr ⟨lw_p33, List.forall_mem_cons.mpr ⟨lw_p34, List.forall_mem_cons.mpr ⟨lw_p35, List.forall_mem_cons.mpr ⟨lw_p36, List.forall_mem_cons.mpr ⟨lw_p37, List.forall_mem_cons.mpr ⟨lw_p38, List.forall_mem_cons.mpr ⟨lw_p39, List.forall_mem_cons.mpr ⟨lw_p40, List.forall_mem_cons.mpr ⟨lw_p41, List.forall_mem_cons.mpr ⟨lw_p42, List.forall_mem_cons.mpr ⟨lw_p43, List.forall_mem_cons.mpr ⟨lw_p44, List.forall_mem_cons.mpr ⟨lw_p45, List.forall_mem_cons.mpr ⟨lw_p46, List.forall_mem_cons.mpr ⟨lw_p47, fun _ h => absurd h List.not_mem_nil⟩⟩⟩⟩⟩⟩⟩⟩⟩⟩⟩⟩⟩⟩⟩⟩
theorem lw_p48 : lw_okq (⟨"QuorumStoreModel", "none", "(I)Z"⟩, 10) := ⟨⟨by decide +kernel, by decide +kernel⟩, List.mem_of_getElem? (i := 812) (by decide +kernel), List.mem_of_getElem? (i := 1161) (by decide +kernel), List.mem_of_getElem? (i := 1162) (by decide +kernel)⟩
theorem lw_p49 : lw_okq (⟨"QuorumStoreModel", "removed", "(I)V"⟩, 10) := ⟨⟨by decide +kernel, by decide +kernel⟩, List.mem_of_getElem? (i := 812) (by decide +kernel), List.mem_of_getElem? (i := 1165) (by decide +kernel), List.mem_of_getElem? (i := 1166) (by decide +kernel)⟩
theorem lw_p50 : lw_okq (⟨"QuorumStoreModel", "came", "(LQuorumStoreModel$Node;LQuorumStoreModel$Message;)V"⟩, 10) := ⟨⟨by decide +kernel, by decide +kernel⟩, List.mem_of_getElem? (i := 812) (by decide +kernel), List.mem_of_getElem? (i := 1169) (by decide +kernel), List.mem_of_getElem? (i := 1170) (by decide +kernel)⟩
theorem lw_p51 : lw_okq (⟨"QuorumStoreModel", "old", "(LQuorumStoreModel$Node;LQuorumStoreModel$Message;)Z"⟩, 10) := ⟨⟨by decide +kernel, by decide +kernel⟩, List.mem_of_getElem? (i := 812) (by decide +kernel), List.mem_of_getElem? (i := 1173) (by decide +kernel), List.mem_of_getElem? (i := 1174) (by decide +kernel)⟩
theorem lw_p52 : lw_okq (⟨"QuorumStoreModel", "fresh", "(LQuorumStoreModel$Node;I)V"⟩, 10) := ⟨⟨by decide +kernel, by decide +kernel⟩, List.mem_of_getElem? (i := 812) (by decide +kernel), List.mem_of_getElem? (i := 1177) (by decide +kernel), List.mem_of_getElem? (i := 1178) (by decide +kernel)⟩
theorem lw_p53 : lw_okq (⟨"QuorumStoreModel", "want", "(LQuorumStoreModel$Node;I)V"⟩, 10) := ⟨⟨by decide +kernel, by decide +kernel⟩, List.mem_of_getElem? (i := 812) (by decide +kernel), List.mem_of_getElem? (i := 1185) (by decide +kernel), List.mem_of_getElem? (i := 1186) (by decide +kernel)⟩
theorem lw_p54 : lw_okq (⟨"QuorumStoreModel", "wanted", "(LQuorumStoreModel$Node;LQuorumStoreModel$Message;)V"⟩, 10) := ⟨⟨by decide +kernel, by decide +kernel⟩, List.mem_of_getElem? (i := 812) (by decide +kernel), List.mem_of_getElem? (i := 1189) (by decide +kernel), List.mem_of_getElem? (i := 1190) (by decide +kernel)⟩
theorem lw_p55 : lw_okq (⟨"QuorumStoreModel", "snapshot", "(LQuorumStoreModel$Node;LQuorumStoreModel$Message;)V"⟩, 10) := ⟨⟨by decide +kernel, by decide +kernel⟩, List.mem_of_getElem? (i := 812) (by decide +kernel), List.mem_of_getElem? (i := 1198) (by decide +kernel), List.mem_of_getElem? (i := 1199) (by decide +kernel)⟩
def lw_privs_4 : List (MethodName × Nat) := [(⟨"QuorumStoreModel", "none", "(I)Z"⟩, 10), (⟨"QuorumStoreModel", "removed", "(I)V"⟩, 10), (⟨"QuorumStoreModel", "came", "(LQuorumStoreModel$Node;LQuorumStoreModel$Message;)V"⟩, 10), (⟨"QuorumStoreModel", "old", "(LQuorumStoreModel$Node;LQuorumStoreModel$Message;)Z"⟩, 10), (⟨"QuorumStoreModel", "fresh", "(LQuorumStoreModel$Node;I)V"⟩, 10), (⟨"QuorumStoreModel", "want", "(LQuorumStoreModel$Node;I)V"⟩, 10), (⟨"QuorumStoreModel", "wanted", "(LQuorumStoreModel$Node;LQuorumStoreModel$Message;)V"⟩, 10), (⟨"QuorumStoreModel", "snapshot", "(LQuorumStoreModel$Node;LQuorumStoreModel$Message;)V"⟩, 10)]
theorem lw_r4 : ∀ q ∈ lw_privs_4, lw_okq q := List.forall_mem_cons.mpr ⟨lw_p48, List.forall_mem_cons.mpr ⟨lw_p49, List.forall_mem_cons.mpr ⟨lw_p50, List.forall_mem_cons.mpr ⟨lw_p51, List.forall_mem_cons.mpr ⟨lw_p52, List.forall_mem_cons.mpr ⟨lw_p53, List.forall_mem_cons.mpr ⟨lw_p54, List.forall_mem_cons.mpr ⟨lw_p55, fun _ h => absurd h List.not_mem_nil⟩⟩⟩⟩⟩⟩⟩⟩
def lw_privs : List (MethodName × Nat) := lw_privs_1 ++ (lw_privs_2 ++ (lw_privs_3 ++ (lw_privs_4)))
def lw_tbl : List Cond := k2_sels lw_privs ++ tables_1
theorem lw_privs_ok : ∀ q ∈ lw_privs, lw_okq q := by
  show ∀ q ∈ lw_privs_1 ++ (lw_privs_2 ++ (lw_privs_3 ++ (lw_privs_4))), lw_okq q
  exact List.forall_mem_append.mpr ⟨lw_r1, List.forall_mem_append.mpr ⟨lw_r2, List.forall_mem_append.mpr ⟨lw_r3, lw_r4⟩⟩⟩
-- ===== end of PART A; then your names; then what follows =====
end
section
/-! The tables' words that stay under warmer tables, as one list; contracts over them. -/
def xw_ok (w : Cond) : Bool := goodWord w || (match w with
  | .arrayOver (.object _) => true
  | .methodLinkNest .. => true
  | .declares _ => true
  | .castable .. => true
  | _ => false)
theorem xw_warm {w : Cond} {s U : State} (hc : xw_ok w = true) (hW : s.WarmedH U.vm) {a a' : Array Value} (h : w.before a s = true) : w.before a' U = true := by
  by_cases hk : goodWord w = true
  · exact word_at hW (good_of_word hk) h
  · cases w with
    | arrayOver ty => cases ty with
      | object C => exact va_AO.use (va_AO.moved hW.alike (va_AO.of h))
      | _ => simp_all [xw_ok]
    | methodLinkNest a b c d => exact va_Nw.use rfl (va_Nw.warmM hW (va_Nw.of rfl h))
    | declares x => exact va_Nw.use rfl (va_Nw.warmD hW (va_Nw.of rfl h))
    | castable C T => exact va_Nw.use rfl (va_Nw.warmC hW (va_Nw.of rfl h))
    | _ => simp_all [xw_ok]
def xw_T : List Cond := lw_tbl.filter xw_ok
def xw_Tb (U : State) : Prop := ∀ w ∈ xw_T, w.before #[] U = true
theorem xw_Tb.warm {s U : State} (h : xw_Tb s) (hW : s.WarmedH U.vm) : xw_Tb U := fun w hw => xw_warm (List.mem_filter.mp hw).2 hW (h w hw)
theorem xw_Tb.at {s : State} {args : Array Value} (h : xw_Tb s) : ∀ w ∈ xw_T, w.before args s = true := fun w hw => xw_warm (List.mem_filter.mp hw).2 (State.WarmedH.refl s) (h w hw)
theorem xw_in {w : Cond} (i : Nat) (h : tables_1[i]? = some w) (hc : xw_ok w = true) : w ∈ xw_T := List.mem_filter.mpr ⟨List.mem_append_right _ (List.mem_of_getElem? h), hc⟩
theorem xw_se {w : Cond} (i : Nat) (h : (k2_sels lw_privs)[i]? = some w) (hc : xw_ok w = true) : w ∈ xw_T := List.mem_filter.mpr ⟨List.mem_append_left _ (List.mem_of_getElem? h), hc⟩
/-- the tables, and the kinds of the cells -/
def xK (D : va_G) (cl : List vw_C) (tys : List (ClassId × FieldType)) (U : State) : Prop := xw_Tb U ∧ va_K D cl tys U
theorem xK.warm {D : va_G} {cl : List vw_C} {tys : List (ClassId × FieldType)} {s U : State} (h : xK D cl tys s) (hW : s.WarmedH U.vm) : xK D cl tys U := ⟨h.1.warm hW, h.2.moved hW.alike⟩
theorem xK.blind {D : va_G} {cl : List vw_C} {tys : List (ClassId × FieldType)} {U : State} (h : xK D cl tys U) (g : JFrame) (mk : MethodId) (a : Array Value) : xK D cl tys (U.calling g mk a) := h.warm (U := U.calling g mk a) (State.WarmedH.refl U)
/-- what a method's own words say of it -/
def xm_ok (y : MethodName) (bytes : ByteArray) (maxL : Nat) (ret : Option FieldType) (n : Nat) : Prop := Cond.code y bytes maxL ret ∈ xw_T ∧ Cond.initialized y.cls ∈ xw_T ∧ (y.cls ≠ "java/lang/invoke/MethodHandle" ∧ y.cls ≠ "java/lang/invoke/VarHandle" ∧ (parseMethodDescriptor y.desc).map (fun d => d.parameters.length) = some n)
section XB
variable {R : Room} {s : State} {args : Array Value} {own host : String} {index maxL mc ms n : Nat} {y : MethodName} {bytes : ByteArray} {ret : Option FieldType} {rm : Room}
theorem xm_B (hT : xw_Tb s) (hm : xm_ok y bytes maxL ret n) (hrc : rm.cells = mc) (hrs : rm.slots = ms) (hl : Cond.methodLink own index y ∈ xw_T) (hR : rm.frames + 1 ≤ R.frames ∧ 8 + (maxL + 11) + rm.locals ≤ R.locals) :
    CallB R s args own index y bytes maxL ret [.code y bytes maxL ret] rm mc ms n := by
  refine ⟨hrc, hrs, hR.1, hR.2, fun w hw a' U hW => ?_, List.mem_cons_self, hT.at _ hm.1, hT.at _ hm.2.1, ⟨hm.2.2.1, hm.2.2.2.1⟩, fun sig h => ?_, hT.at _ hl⟩
  · have e : w = Cond.code y bytes maxL ret := by simpa using hw
    subst e
    exact (hT.warm hW).at _ hm.1
  · have h2 := hm.2.2.2.2
    rw [h] at h2
    exact (Option.some.inj h2).symm
theorem xm_N (hT : xw_Tb s) (hm : xm_ok y bytes maxL ret n) (hrc : rm.cells = mc) (hrs : rm.slots = ms) (hl : Cond.methodLinkNest own index y host ∈ xw_T) (hR : rm.frames + 1 ≤ R.frames ∧ 8 + (maxL + 11) + rm.locals ≤ R.locals) :
    va_CN R s args own index y host bytes maxL ret [.code y bytes maxL ret] rm mc ms n := by
  refine ⟨⟨hrc, hrs, hR.1, hR.2, fun w hw a' U hW => ?_, List.mem_cons_self⟩, hT.at _ hm.1, hT.at _ hm.2.1, ⟨hm.2.2.1, hm.2.2.2.1⟩, fun sig h => ?_, hT.at _ hl⟩
  · have e : w = Cond.code y bytes maxL ret := by simpa using hw
    subst e
    exact (hT.warm hW).at _ hm.1
  · have h2 := hm.2.2.2.2
    rw [h] at h2
    exact (Option.some.inj h2).symm
end XB
/-! Rows of my own: contracts that only read, contracts that end in a throw, the search of a handler. -/
/-- reads alone: the answer, and not a cell moved -/
def xr_Q (v : Option Value) : Array Value → State → Outcome → State → Prop := fun _ st o t => o = .returned v ∧ t.heap = st.heap
/-- .. an answer of which P alone is known -/
def xr_P (P : Option Value → Prop) : Array Value → State → Outcome → State → Prop := fun _ st o t => (∃ v, o = .returned v ∧ P v) ∧ t.heap = st.heap
/-- it throws an object of the named kind, and no old cell has changed -/
def xt_Q (E : String) (st : State) (o : Outcome) (t : State) : Prop := ∃ x : Addr, o = .threw x ∧ (∃ cell : Cell, t.heap[x]? = some cell ∧ cell.vm.isStatics = false ∧ st.vm.findClass E = some cell.cls) ∧ ∀ q : Nat, q < st.heap.size → t.heap[q]? = st.heap[q]?
def xt_Met (l : Launch) (y : MethodName) (ws : List Cond) (rm : Room) (Pc : Array Value → State → Prop) (E : String) (mc ms : Nat) : Prop :=
  MetFree l y (headSpec ws rm) Pc (fun _ _ _ _ _ => True) (fun _ st o t => xt_Q E st o t ∧ FramedT st o t [] mc ms)
def xt_MQ (below : List Frame) (E : String) (s : State) (mc ms : Nat) : State → Prop := fun t => ∃ o, t.status = .running ∧ Ended t below o ∧ xt_Q E s o t ∧ FramedT s o t [] mc ms
/-- nothing written: every old cell is as it was -/
theorem xt_old {s t : State} {k n : Nat} (h : s.sameButNew ({ t with vm := s.vm } : State) [] k n) : ∀ q : Nat, q < s.heap.size → t.heap[q]? = s.heap[q]? := by
  intro q hq
  have hc : s.heap[q]? = some s.heap[q] := Array.getElem?_eq_getElem hq
  obtain ⟨c', h1, h2, h3, h4⟩ := h.2.2.2.2.2 q _ hc
  have hs : c'.slots = (s.heap[q]).slots := Array.ext_getElem? (fun i => h4 i (by simp))
  have e : c' = s.heap[q] := by rw [h2, hs]
  rw [hc, ← e]
  exact h1
section XR
variable {p : Program} {l : Launch} {e : Env} {R : Room} {s : State} {m : MethodId} {args : Array Value} {below : List Frame} {meth : Method} {c : Code} {H : Heap} {locs : List Loc} {cells slots : Nat} {Q : State → Prop}
variable {cc : ByteArray} {pc : Nat} {ls : Array Slot} {st0 rest : List Value} {a : Array Value}
theorem xr_call {v : Option Value} (hr : va_Run p l e R s m args below meth c H locs cells slots 0 0 (F0 m pc ls st0) rest (xr_Q v a) (fun _ => False))
    (kk : W p l e R s m args below meth c H locs cells slots Q (F0 m (pc + 3) ls (v.toList ++ rest))) : W p l e R s m args below meth c H locs cells slots Q (F0 m pc ls st0) := by
  intro T hT X
  obtain ⟨v', st₀, t, T', L, h0, X', hL, e1, e2, ⟨hv, hh⟩, st⟩ := hr T hT X
  cases hv
  obtain ⟨t2, a1, b1⟩ := kk T' (by rw [e1, hh, h0]) (Stand.forget X' (fun q h => (hL q h).elim))
  exact ⟨t2, st t2 a1, b1⟩
theorem xr_callP {P : Option Value → Prop} (hr : va_Run p l e R s m args below meth c H locs cells slots 0 0 (F0 m pc ls st0) rest (xr_P P a) (fun _ => False))
    (kk : ∀ v, P v → W p l e R s m args below meth c H locs cells slots Q (F0 m (pc + 3) ls (v.toList ++ rest))) : W p l e R s m args below meth c H locs cells slots Q (F0 m pc ls st0) := by
  intro T hT X
  obtain ⟨v', st₀, t, T', L, h0, X', hL, e1, e2, ⟨⟨v, hv, hp⟩, hh⟩, st⟩ := hr T hT X
  cases hv
  obtain ⟨t2, a1, b1⟩ := kk _ hp T' (by rw [e1, hh, h0]) (Stand.forget X' (fun q h => (hL q h).elim))
  exact ⟨t2, st t2 a1, b1⟩
end XR
section XT
variable {l : Launch}
/-- no handlers in a method that the plain word of its code names -/
theorem xt_noH {p : Program} {y : MethodName} {S : Spec} {cc : ByteArray} {maxL : Nat} {ret : Option FieldType} {e : Env} {s : State} {m : MethodId} {args : Array Value} {below : List Frame} {meth : Method} {c : Code} {s₁ : State}
    (B : BodyLoose p l y S cc maxL ret e s m args below meth c s₁) (hc : (Cond.code y cc maxL ret).before args s = true) : c.exceptionTable.toList = [] := by
  obtain ⟨meth', c', h1, h2, -, -, -, -, h7, -⟩ := Cond.code_spec B.named hc
  cases B.method.symm.trans h1
  have X : Stand p l e S.room s m args below meth c s₁ [] 0 0 := Stand.of_body B
  cases X.code.symm.trans h2
  simpa using h7
theorem xt_ofW {y : MethodName} {ws ws' : List Cond} {rm : Room} {Pc : Array Value → State → Prop} {E : String} {mc ms : Nat} {cc : ByteArray} {maxL : Nat} {ret : Option FieldType}
    (hy : plainName y.cls = true) (hw : ws = Cond.code y cc maxL ret :: ws')
    (body : ∀ p e s m args below meth c s₁, BodyLoose p l y (headSpec ws rm) cc maxL ret e s m args below meth c s₁ → c.maxLocals = maxL → c.exceptionTable.toList = [] → Pc args s →
      W p l e (headSpec ws rm).room s m args below meth c s.heap [] 0 0 (xt_MQ below E s mc ms) (entryFrame m args maxL)) : xt_Met l y ws rm Pc E mc ms := by
  refine MetFree.of_bodyS (code := cc) (maxLocals := maxL) (ret := ret) hy ?_ ?_
  · intro args s m h hn
    obtain ⟨meth, c, h1, h2, h3, h4, h5, h6, -, -⟩ := Cond.code_spec hn (atoms_spec (ws := ws) h _ (by rw [hw]; exact List.mem_cons_self))
    exact ⟨meth, c, h1, h2, h3, h4, h5, h6⟩
  · intro p e s m args below meth c s₁ B hml hP _
    have hh0 : s₁.heap = s.heap := by rw [B.state]; rfl
    have hno := xt_noH B (atoms_spec (ws := ws) B.pre _ (by rw [hw]; exact List.mem_cons_self))
    obtain ⟨t, a1, o, b1, b2, b3, b4⟩ := body p e s m args below meth c s₁ B hml hno hP s₁ hh0 (Stand.of_body B)
    exact ⟨t, o, a1, b1, b2, ⟨b3, b4⟩⟩
end XT
/-- where a walk stands: the machine, the code, the tables -/
def xF (p : Program) (m : MethodId) (c : Code) (cc : ByteArray) (nL : Nat) (s : State) (own : String) (D : va_G) (cl : List vw_C) (tys : List (ClassId × FieldType)) : Prop :=
  p.tables.exec = Jvm.exec ∧ c.code = cc ∧ c.maxLocals = nL ∧ s.vm.findClass own = some m.cls ∧ xK D cl tys s
/-- a contract that only reads -/
def xr_C (l : Launch) (D : va_G) (cl : List vw_C) (tys : List (ClassId × FieldType)) (y : MethodName) (bytes : ByteArray) (maxL : Nat) (ret : Option FieldType) (rm : Room) (av : List Value) (wc : va_W) (Qc : Array Value → State → Outcome → State → Prop) : Prop :=
  Met l y [.code y bytes maxL ret] rm (va_Pc av (fun U => xK D cl tys U ∧ va_P D cl wc U.heap)) Qc 0 0 (fun _ => False)
/-- a contract that writes into its cells, and makes some -/
def xe_C (l : Launch) (D : va_G) (cl : List vw_C) (tys : List (ClassId × FieldType)) (y : MethodName) (bytes : ByteArray) (maxL : Nat) (ret : Option FieldType) (rm : Room) (av : List Value) (wc : va_W) (Qc : (Nat → Prop) → Array Value → State → Outcome → State → Prop) (mc ms : Nat) : Prop :=
  ∀ sz : Nat, Met l y [.code y bytes maxL ret] rm (va_Pc av (fun U => U.heap.size = sz ∧ xK D cl tys U ∧ va_P D cl wc U.heap ∧ va_D (fun _ => True) wc)) (Qc (va_A wc sz)) mc ms (va_A wc sz)
def xe_v {S : Type} (D : va_G) (cl : List vw_C) (post : S → Prop) (w1 : S → va_W) (A : Nat → Prop) : Array Value → State → Outcome → State → Prop := va_Qv post (fun u t => va_P D cl (w1 u) t.heap ∧ va_D A (w1 u)) A
def xe_i {S : Type} (D : va_G) (cl : List vw_C) (post : Int32 → S → Prop) (w1 : S → va_W) (A : Nat → Prop) : Array Value → State → Outcome → State → Prop := va_Qi post (fun u t => va_P D cl (w1 u) t.heap ∧ va_D A (w1 u)) A
section XO
variable {l : Launch} {D : va_G} {cl : List vw_C} {tys : List (ClassId × FieldType)} {y : MethodName} {bytes : ByteArray} {maxL : Nat} {ret : Option FieldType} {rm : Room} {av : List Value} {wc : va_W} {mc ms : Nat}
theorem xr_of {Qc : Array Value → State → Outcome → State → Prop} (hy : plainName y.cls = true) (hn : (lg_sl av).length ≤ maxL)
    (body : ∀ (p : Program) (e : Env) (s : State) (m : MethodId) (below : List Frame) (meth : Method) (c : Code) (ls : Array Slot), xF p m c bytes maxL s y.cls D cl tys → meth.sig.returnType = ret → meth.locks = false → va_P D cl wc s.heap → lv_has ls maxL (lv_args 0 av) →
      W p l e rm s m av.toArray below meth c s.heap [] 0 0 (MQ below Qc av.toArray s 0 0 (fun _ => False)) (F0 m 0 ls [])) : xr_C l D cl tys y bytes maxL ret rm av wc Qc := by
  refine Met.ofW (cc := bytes) (maxL := maxL) (ret := ret) hy rfl ?_
  intro p e s m args below meth c s₁ B hml hv
  obtain ⟨rfl, hK, hP⟩ := hv
  have hl := lv_entry av (n := maxL) hn
  rw [lg_entry_eq]
  generalize (lg_sl av ++ List.replicate (maxL - (lg_sl av).length) Slot.unset).toArray = ls at hl ⊢
  exact body p e s m below meth c ls ⟨B.exec, B.bytes, hml, findClass_of_methodNamed B.named, hK⟩ B.returns B.notSynchronized hP hl
theorem xe_of {Qc : (Nat → Prop) → Array Value → State → Outcome → State → Prop} (hy : plainName y.cls = true) (hn : (lg_sl av).length ≤ maxL)
    (body : ∀ (p : Program) (e : Env) (s : State) (m : MethodId) (below : List Frame) (meth : Method) (c : Code) (ls : Array Slot) (A : Nat → Prop), xF p m c bytes maxL s y.cls D cl tys → meth.sig.returnType = ret → meth.locks = false → meth.name = y.name → (∀ q, s.heap.size ≤ q → A q) → va_P D cl wc s.heap → va_D A wc → va_S A s.heap s.heap [] → lv_has ls maxL (lv_args 0 av) →
      W p l e rm s m av.toArray below meth c s.heap [] 0 0 (MQ below (Qc A) av.toArray s mc ms A) (F0 m 0 ls [])) : xe_C l D cl tys y bytes maxL ret rm av wc Qc mc ms := by
  intro sz
  refine Met.ofW (cc := bytes) (maxL := maxL) (ret := ret) hy rfl ?_
  intro p e s m args below meth c s₁ B hml hv
  obtain ⟨rfl, rfl, hK, hP, hD⟩ := hv
  have hl := lv_entry av (n := maxL) hn
  rw [lg_entry_eq]
  generalize (lg_sl av ++ List.replicate (maxL - (lg_sl av).length) Slot.unset).toArray = ls at hl ⊢
  exact body p e s m below meth c ls _ ⟨B.exec, B.bytes, hml, findClass_of_methodNamed B.named, hK⟩ B.returns B.notSynchronized (name_of_methodNamed B.named B.method).1 (fun q h => Or.inr h) hP hD.self va_S.rf hl
end XO
section XU
variable {p : Program} {l : Launch} {e : Env} {R : Room} {s : State} {m : MethodId} {args : Array Value} {below : List Frame} {meth : Method} {c : Code} {H H0 : Heap} {locs : List Loc} {cells slots : Nat} {Q : State → Prop}
variable {D : va_G} {cl : List vw_C} {tys : List (ClassId × FieldType)} {y : MethodName} {bytes cc : ByteArray} {maxL nL n index : Nat} {ret : Option FieldType} {rm : Room} {wc ws : va_W} {mc ms : Nat} {own host : String} {b : Addr} {As rest : List Value} {pc : Nat} {ls : Array Slot} {st0 : List Value} {A : Nat → Prop}
theorem xr_pre {av : List Value} (hK : xK D cl tys s) (hP : va_P D cl wc H) : PreS s H (va_Pc av (fun U => xK D cl tys U ∧ va_P D cl wc U.heap)) av :=
  ⟨fun a U g mk h => ⟨h.1, h.2.1.blind g mk a, h.2.2⟩, fun U hU hW => ⟨rfl, hK.warm hW, by rw [hU]; exact hP⟩⟩
theorem xe_pre {av : List Value} (hK : xK D cl tys s) (hP : va_P D cl wc H) (hD : va_D A wc) : PreS s H (va_Pc av (fun U => U.heap.size = H.size ∧ xK D cl tys U ∧ va_P D cl wc U.heap ∧ va_D (fun _ => True) wc)) av :=
  ⟨fun a U g mk h => ⟨h.1, h.2.1, h.2.2.1.blind g mk a, h.2.2.2.1, h.2.2.2.2⟩, fun U hU hW => ⟨rfl, by rw [hU], hK.warm hW, by rw [hU]; exact hP, hD.weaken (fun _ _ _ _ => trivial)⟩⟩
theorem xs_F (Z : xF p m c cc nL s own D cl tys) : CallFix p m c cc nL s args xw_T own := ⟨Z.1, Z.2.1, Z.2.2.1, Z.2.2.2.1, Z.2.2.2.2.1.at⟩
/-- runs of a virtual method, of a private or nest mate's, of a static one, of a constructor -/
theorem xs_V {Pc : Array Value → State → Prop} {Qc : Array Value → State → Outcome → State → Prop} {free : Addr → Prop} (Z : xF p m c cc nL s own D cl tys) (hM : Met l y [.code y bytes maxL ret] rm Pc Qc mc ms free) (hm : xm_ok y bytes maxL ret n) (kl : Cond.methodLink own index y ∈ xw_T) (ki : Cond.instanceMethod y ∈ xw_T) (ks : Cond.selects y.cls y y ∈ xw_T) (hrc : rm.cells = mc) (hrs : rm.slots = ms) (hR : rm.frames + 1 ≤ R.frames ∧ 8 + (maxL + 11) + rm.locals ≤ R.locals)
    (hv : ∃ cellB : Cell, H[b]? = some cellB ∧ cellB.vm.isStatics = false ∧ s.vm.findClass y.cls = some cellB.cls) (hp : PreS s H Pc (.ref b :: As)) (hn : As.length = n) (hsize : ls.size = nL) (hstack : st0 = As.reverse ++ .ref b :: rest) (hW : (rest.map fun v => v.category).sum ≤ 8) (hdg : decode cc pc = .ok (.invokevirtual index, 3)) (hf : cells + mc ≤ R.cells ∧ slots + ms ≤ R.slots) :
    va_Run p l e R s m args below meth c H locs cells slots mc ms (F0 m pc ls st0) rest (Qc (Value.ref b :: As).toArray) free :=
  va_runV (xs_F Z) hM ⟨xm_B Z.2.2.2.2.1 hm hrc hrs kl hR, Z.2.2.2.2.1.at _ ki, Z.2.2.2.2.1.at _ ks⟩ ⟨hp.1, hv, hp.2⟩ rfl hn hsize hstack (lv_room hW) hdg hf
theorem xs_S {Pc : Array Value → State → Prop} {Qc : Array Value → State → Outcome → State → Prop} {free : Addr → Prop} (Z : xF p m c cc nL s own D cl tys) (hM : Met l y [.code y bytes maxL ret] rm Pc Qc mc ms free) (hm : xm_ok y bytes maxL ret n) (kl : Cond.methodLink own index y ∈ xw_T) (ki : Cond.static y ∈ xw_T) (hrc : rm.cells = mc) (hrs : rm.slots = ms) (hR : rm.frames + 1 ≤ R.frames ∧ 8 + (maxL + 11) + rm.locals ≤ R.locals)
    (hp : PreS s H Pc As) (hn : As.length = n) (hsize : ls.size = nL) (hstack : st0 = As.reverse ++ rest) (hW : (rest.map fun v => v.category).sum ≤ 8) (hdg : decode cc pc = .ok (.invokestatic index, 3)) (hf : cells + mc ≤ R.cells ∧ slots + ms ≤ R.slots) :
    va_Run p l e R s m args below meth c H locs cells slots mc ms (F0 m pc ls st0) rest (Qc As.toArray) free :=
  va_runS (xs_F Z) hM ⟨xm_B Z.2.2.2.2.1 hm hrc hrs kl hR, Z.2.2.2.2.1.at _ ki⟩ hp rfl hn hsize hstack (lv_room hW) hdg hf
theorem xs_SN {Pc : Array Value → State → Prop} {Qc : Array Value → State → Outcome → State → Prop} {free : Addr → Prop} (Z : xF p m c cc nL s own D cl tys) (hM : Met l y [.code y bytes maxL ret] rm Pc Qc mc ms free) (hm : xm_ok y bytes maxL ret n) (kl : Cond.methodLinkNest own index y host ∈ xw_T) (ki : Cond.static y ∈ xw_T) (hrc : rm.cells = mc) (hrs : rm.slots = ms) (hR : rm.frames + 1 ≤ R.frames ∧ 8 + (maxL + 11) + rm.locals ≤ R.locals)
    (hp : PreS s H Pc As) (hn : As.length = n) (hsize : ls.size = nL) (hstack : st0 = As.reverse ++ rest) (hW : (rest.map fun v => v.category).sum ≤ 8) (hdg : decode cc pc = .ok (.invokestatic index, 3)) (hf : cells + mc ≤ R.cells ∧ slots + ms ≤ R.slots) :
    va_Run p l e R s m args below meth c H locs cells slots mc ms (F0 m pc ls st0) rest (Qc As.toArray) free :=
  va_runSN (xs_F Z) hM ⟨xm_N Z.2.2.2.2.1 hm hrc hrs kl hR, Z.2.2.2.2.1.at _ ki, trivial⟩ hp rfl hn hsize hstack (lv_room hW) hdg hf
theorem xs_I {Pc : Array Value → State → Prop} {Qc : Array Value → State → Outcome → State → Prop} {free : Addr → Prop} (Z : xF p m c cc nL s own D cl tys) (hM : Met l y [.code y bytes maxL none] rm Pc Qc mc ms free) (hm : xm_ok y bytes maxL none n) (kl : Cond.methodLink own index y ∈ xw_T) (ki : Cond.instanceMethod y ∈ xw_T) (h1 : y.name = "<init>") (hrc : rm.cells = mc) (hrs : rm.slots = ms) (hR : rm.frames + 1 ≤ R.frames ∧ 8 + (maxL + 11) + rm.locals ≤ R.locals)
    (hp : PreS s H Pc (.ref b :: As)) (hn : As.length = n) (hsize : ls.size = nL) (hstack : st0 = As.reverse ++ .ref b :: rest) (hW : (rest.map fun v => v.category).sum ≤ 8) (hdg : decode cc pc = .ok (.invokespecial index, 3)) (hf : cells + mc ≤ R.cells ∧ slots + ms ≤ R.slots) :
    va_Run p l e R s m args below meth c H locs cells slots mc ms (F0 m pc ls st0) rest (Qc (Value.ref b :: As).toArray) free :=
  va_runI (xs_F Z) hM ⟨xm_B Z.2.2.2.2.1 hm hrc hrs kl hR, h1, Z.2.2.2.2.1.at _ ki⟩ hp rfl hn hsize hstack (lv_room hW) hdg hf
theorem xs_IN {Pc : Array Value → State → Prop} {Qc : Array Value → State → Outcome → State → Prop} {free : Addr → Prop} (Z : xF p m c cc nL s own D cl tys) (hM : Met l y [.code y bytes maxL none] rm Pc Qc mc ms free) (hm : xm_ok y bytes maxL none n) (kl : Cond.methodLinkNest own index y host ∈ xw_T) (ki : Cond.instanceMethod y ∈ xw_T) (h1 : y.name = "<init>") (hrc : rm.cells = mc) (hrs : rm.slots = ms) (hR : rm.frames + 1 ≤ R.frames ∧ 8 + (maxL + 11) + rm.locals ≤ R.locals)
    (hp : PreS s H Pc (.ref b :: As)) (hn : As.length = n) (hsize : ls.size = nL) (hstack : st0 = As.reverse ++ .ref b :: rest) (hW : (rest.map fun v => v.category).sum ≤ 8) (hdg : decode cc pc = .ok (.invokespecial index, 3)) (hf : cells + mc ≤ R.cells ∧ slots + ms ≤ R.slots) :
    va_Run p l e R s m args below meth c H locs cells slots mc ms (F0 m pc ls st0) rest (Qc (Value.ref b :: As).toArray) free :=
  va_runIN (xs_F Z) hM ⟨xm_N Z.2.2.2.2.1 hm hrc hrs kl hR, h1, Z.2.2.2.2.1.at _ ki⟩ hp rfl hn hsize hstack (lv_room hW) hdg hf
/-- behind a call that writes: what came back, beside the rest -/
theorem xe_callv {S : Type} {post : S → Prop} {w1 : S → va_W} {wr : va_W} {a : Array Value} (hr : va_Run p l e R s m args below meth c H locs cells slots mc ms (F0 m pc ls st0) rest (xe_v D cl post w1 (va_A wc H.size) a) (va_A wc H.size))
    (hP : va_P D cl ws H) (hD : va_D A ws) (hS : va_S A H0 H locs) (hA : ∀ q, H0.size ≤ q → A q) (isC isR : List Nat) (hC : isC.map (fun i => ws[i]?) = wc.map some) (hR : isR.map (fun i => ws[i]?) = wr.map some) (hn : va_nd isR = true) (hdis : ∀ i ∈ isR, i ∉ isC)
    (kk : ∀ (u : S) (H1 : Heap) (locs1 : List Loc), post u → va_P D cl (wr ++ w1 u) H1 → va_D A (wr ++ w1 u) → va_S A H0 H1 locs1 → W p l e R s m args below meth c H1 locs1 (cells + mc) (slots + ms) Q (F0 m (pc + 3) ls rest)) : W p l e R s m args below meth c H locs cells slots Q (F0 m pc ls st0) := by
  have hF := va_free (wc := wc) hD hS hA isC hC
  refine va_callv hr hS (fun q _ h => hF q h) hF (fun u t H1 locs1 ht hvm hw hB hz1 hk1 hS1 => ?_)
  obtain ⟨hP1, hD1⟩ := hB
  rw [ht] at hP1
  obtain ⟨hP2, hD2⟩ := va_join hP hD isC isR hC hR hn hdis hk1 hF hP1 hD1
  exact kk u H1 locs1 hw hP2 hD2 hS1
theorem xe_calli {S : Type} {post : Int32 → S → Prop} {w1 : S → va_W} {wr : va_W} {a : Array Value} (hr : va_Run p l e R s m args below meth c H locs cells slots mc ms (F0 m pc ls st0) rest (xe_i D cl post w1 (va_A wc H.size) a) (va_A wc H.size))
    (hP : va_P D cl ws H) (hD : va_D A ws) (hS : va_S A H0 H locs) (hA : ∀ q, H0.size ≤ q → A q) (isC isR : List Nat) (hC : isC.map (fun i => ws[i]?) = wc.map some) (hR : isR.map (fun i => ws[i]?) = wr.map some) (hn : va_nd isR = true) (hdis : ∀ i ∈ isR, i ∉ isC)
    (kk : ∀ (r : Int32) (u : S) (H1 : Heap) (locs1 : List Loc), post r u → va_P D cl (wr ++ w1 u) H1 → va_D A (wr ++ w1 u) → va_S A H0 H1 locs1 → W p l e R s m args below meth c H1 locs1 (cells + mc) (slots + ms) Q (F0 m (pc + 3) ls (.int r :: rest))) : W p l e R s m args below meth c H locs cells slots Q (F0 m pc ls st0) := by
  have hF := va_free (wc := wc) hD hS hA isC hC
  refine va_calli hr hS (fun q _ h => hF q h) hF (fun r u t H1 locs1 ht hvm hw hB hz1 hk1 hS1 => ?_)
  obtain ⟨hP1, hD1⟩ := hB
  rw [ht] at hP1
  obtain ⟨hP2, hD2⟩ := va_join hP hD isC isR hC hR hn hdis hk1 hF hP1 hD1
  exact kk r u H1 locs1 hw hP2 hD2 hS1
end XU
theorem xw_all (ws : List Cond) (is : List Nat) (h : ws = is.filterMap (fun i => tables_1[i]?)) (hc : ws.all xw_ok = true) : ∀ w ∈ ws, w ∈ xw_T := by
  intro w hw
  have h1 := List.all_eq_true.mp hc w hw
  rw [h] at hw
  obtain ⟨i, -, hi⟩ := List.mem_filterMap.mp hw
  exact xw_in i hi h1
end
section
section XC
variable {p : Program} {l : Launch} {e : Env} {R : Room} {s : State} {m : MethodId} {args : Array Value} {below : List Frame} {meth : Method} {c : Code} {T : State} {locs : List Loc} {cells slots : Nat} {H : Heap}
/-- a callee that throws, from the point where it is invoked -/
theorem xt_in (X : Stand p l e R s m args below meth c T locs cells slots) {y : MethodName} {ws : List Cond} {rm : Room} {Pc : Array Value → State → Prop} {E : String} {mc ms maxL len : Nat} {bytes : ByteArray} {ret : Option FieldType} {ig : Instr} {mk : MethodId} {a : Array Value} {g : JFrame}
    (hM : xt_Met l y ws rm Pc E mc ms) (hbl : FrameBlind Pc) (hrc : rm.cells = mc) (hrs : rm.slots = ms) (hfr : rm.frames + 1 ≤ R.frames) (hlo : 8 + (maxL + 11) + rm.locals ≤ R.locals)
    (hws : ∀ w ∈ ws, ∀ (a' : Array Value) (U : State), s.WarmedH U.vm → w.before a' U = true) (hcw : Cond.code y bytes maxL ret ∈ ws) (hini : (Cond.initialized y.cls).before args s = true)
    (hg : g.method = m) (hsize : g.locals.size = c.maxLocals) (hdg : decode c.code g.pc = .ok (ig, len)) (hW : 2 * g.monitorRoom + (g.stack.map fun v => v.category).sum ≤ 8) (hn : T.methodNamed? y = some mk)
    (hcells : cells + mc ≤ R.cells) (hslots : slots + ms ≤ R.slots) (hP : Pc a T) :
    ∃ (x : Addr) (T' : State), Stand p l e R s m args below meth c T' locs (cells + mc) (slots + ms) ∧ (∃ cell : Cell, T'.heap[x]? = some cell ∧ cell.vm.isStatics = false ∧ T.vm.findClass E = some cell.cls) ∧ (∀ q : Nat, q < T.heap.size → T'.heap[q]? = T.heap[q]?) ∧
      Steps p.tables e below (doInvoke e (T.setTop g) [] mk a).1 ((T'.setTop g).pushFrame (.throwing x)) := by
  have h2 := hws _ hcw a T X.warmed
  have h3 : (Cond.initialized y.cls).before a T = true := word_at X.warmed (Or.inl (by first | rfl | simp [Cond.onTables, Cond.keeps, Cond.steady])) hini
  obtain ⟨methY, cY, hmY, hcY, -, hlY, -, -, -, -⟩ := Cond.code_spec hn h2
  obtain ⟨kY, hkY, -⟩ := className_of_methodNamed hn
  have hinitY : kY.init = .initialized := Cond.initialized_spec (findClass_of_methodNamed hn) hkY h3
  have h : At T g.method c below := by rw [hg]; exact X.here
  have happ : (headSpec ws rm).appliesLoose y e.platform (T.calling g mk a) = true :=
    Spec.appliesLoose_calling (g := g) h hdg hn hkY hinitY
      (X.room_calling (g := g) (R' := rm) hsize hmY hcY hfr (by rw [hlY]; omega) (by omega) (by omega)) (atoms_intro fun w hw => hws w hw _ _ X.warmed)
  obtain ⟨mid, hmid⟩ := h.above
  have hfr' : (T.setTop g).frames = (.java g :: mid) ++ below := by rw [State.frames_setTop' g h.top, hmid]; rfl
  obtain ⟨o, s₂, hsteps, -, hend, hq⟩ := Steps.callFree hM p X.admits X.cas X.clock (acts := []) hfr' happ (hbl _ _ _ _ hP) trivial
  have hq' : xt_Q E (T.calling g mk a) o s₂ ∧ FramedT (T.calling g mk a) o s₂ [] mc ms := hq
  obtain ⟨⟨x, rfl, ⟨cell, g1, g2, g3⟩, hold⟩, -, hW₂, hsame⟩ := hq'
  rw [State.frames_setTop' g h.top, X.tail] at hend
  obtain ⟨T', X', hW', hsame', ht⟩ := X.outOfThrown hg hend hW₂ hsame
  have hheap : s₂.heap = T'.heap := by rw [ht]; exact Stand.throwing_heap T' g x
  rw [List.append_nil] at X'
  rw [hheap] at g1 hold
  refine ⟨x, T', X', ⟨cell, g1, g2, g3⟩, hold, ?_⟩
  rw [← ht]
  exact hsteps
/-- a call that throws -/
def xt_Run (p : Program) (l : Launch) (e : Env) (R : Room) (s : State) (m : MethodId) (args : Array Value) (below : List Frame) (meth : Method) (c : Code) (H : Heap) (locs : List Loc) (cells slots mc ms : Nat) (g : JFrame) (rest : List Value) (E : String) : Prop :=
  ∀ T : State, T.heap = H → Stand p l e R s m args below meth c T locs cells slots → ∃ (x : Addr) (T' : State), Stand p l e R s m args below meth c T' locs (cells + mc) (slots + ms) ∧ (∃ cell : Cell, T'.heap[x]? = some cell ∧ cell.vm.isStatics = false ∧ s.vm.findClass E = some cell.cls) ∧ (∀ q : Nat, q < H.size → T'.heap[q]? = H[q]?) ∧
    ∀ tg, Steps p.tables e below ((T'.setTop { g with stack := rest }).pushFrame (.throwing x)) tg → Steps p.tables e below (T.setTop g) tg
variable {y : MethodName} {bytes cc : ByteArray} {maxL nL mc ms n index : Nat} {ret : Option FieldType} {ws : List Cond} {rm : Room} {Pc : Array Value → State → Prop} {E : String} {Ts : List Cond} {own C host : String} {b : Addr} {As rest : List Value} {g : JFrame}
theorem xt_runV (S : CallFix p m c cc nL s args Ts own) (hM : xt_Met l y ws rm Pc E mc ms) (cw : CallW R s args own C index y bytes maxL ret ws rm mc ms n) (hp : PreV s H C b Pc As)
    (hg : g.method = m) (hn : As.length = n) (hsize : g.locals.size = nL) (hstack : g.stack = As.reverse ++ .ref b :: rest) (hW : 2 * g.monitorRoom + (rest.map fun v => v.category).sum ≤ 8) (hdg : decode cc g.pc = .ok (.invokevirtual index, 3)) (hf : cells + mc ≤ R.cells ∧ slots + ms ≤ R.slots) :
    xt_Run p l e R s m args below meth c H locs cells slots mc ms g rest E := by
  obtain ⟨⟨hrc, hrs, hfr, hlo, hws, hcw, hcode, hini, hy, hlen, hlink⟩, hinst, hsel⟩ := cw
  obtain ⟨hx, hb, hml, hown, -⟩ := S
  obtain ⟨hbl, ⟨cellB, hcB, hoB, hclB⟩, hPc⟩ := hp
  intro T hT X
  subst hT
  obtain ⟨mk, methM, hnamed, hmethM, hstM, habM⟩ := Cond.instanceMethod_spec hinst
  obtain ⟨methM', cM, hmethM', -, -, -, -, -, -, hsigM⟩ := Cond.code_spec hnamed hcode
  cases hmethM.symm.trans hmethM'
  obtain ⟨c2, r2, m2, q1, q2, q3, q4, kP, hkP, hkPi⟩ := Cond.selects_spec hsel
  cases hclB.symm.trans q1
  cases (State.methodFound?_of_named hnamed hy).symm.trans q2
  cases hnamed.symm.trans q3
  have hselP : selectMethod e.platform s.vm cellB.cls mk = .method mk := by rw [Launch.admits_selectMethod X.admits]; exact q4
  obtain ⟨vm₁, X₁, hstep₁⟩ := X.invokevirtual hx hown hlink hnamed hmethM hstM hkP hkPi hy (a := b) (cell := cellB) hcB
    (fun z h => by rw [h] at hoB; cases hoB) hselP hmethM habM hkP hkPi (g := g) hg (argsL := As) (rest := rest) (hn.trans (hlen _ hsigM)) hstack (by rw [hb]; exact hdg)
  obtain ⟨x, T', X', ⟨cell, g1, g2, g3⟩, hold, hsteps⟩ := xt_in X₁ (g := { g with stack := rest }) (a := (Value.ref b :: As).toArray) (mk := mk) (ig := .invokevirtual index) (len := 3) hM hbl hrc hrs hfr hlo hws hcw hini hg (hsize.trans hml.symm) (by rw [hb]; exact hdg) hW (X₁.named hnamed) hf.1 hf.2 (hPc (T.setVm vm₁) rfl X₁.warmed)
  have g4 : s.vm.findClass E = some cell.cls := by rw [← X₁.warmed.alike.findClass]; exact g3
  exact ⟨x, T', X', ⟨cell, g1, g2, g4⟩, hold, fun tg h => hstep₁ _ fun acts => by rw [doInvoke_state]; exact hsteps.trans h⟩
/-- no handler here: the caller throws it on -/
theorem xt_pass {pc : Nat} {ls : Array Slot} {st0 : List Value} (hr : xt_Run p l e R s m args below meth c s.heap [] 0 0 mc ms (F0 m pc ls st0) rest E) (hno : c.exceptionTable.toList = []) (hlocks : meth.locks = false) :
    W p l e R s m args below meth c s.heap [] 0 0 (xt_MQ below E s mc ms) (F0 m pc ls st0) := by
  intro T hT X
  obtain ⟨x, T', X', ⟨cell, g1, g2, g3⟩, hold, st⟩ := hr T hT X
  obtain ⟨h1, h2, h3, h4, h5⟩ := X'.leaveThrown x (g := F0 m pc ls rest) rfl rfl rfl (fun z hz => by rw [hno] at hz; cases hz) hlocks
  rw [Nat.zero_add, Nat.zero_add] at h5
  exact ⟨_, st _ h1, .threw x, h2, h3, ⟨x, rfl, ⟨cell, g1, g2, g3⟩, hold⟩, ⟨x, rfl⟩, h4, h5⟩
end XC
section XN
variable {p : Program} {l : Launch} {e : Env} {R : Room} {s : State} {m : MethodId} {args : Array Value} {below : List Frame} {meth : Method} {c : Code} {cc : ByteArray}
/-- new X("..") and the throw of it, where nothing has been written yet -/
theorem xt_throw (hexec : p.tables.exec = Jvm.exec) (hb : c.code = cc) (hl : l.flags = pinnedFlags ++ [noTraceFlag]) {own X tx : String} {names : List String} {ia ib ic q pc : Nat} {ls : Array Slot}
    (hown : s.vm.findClass own = some m.cls) (hclink : (Cond.classLink own ia X).before args s = true) (hinit : (Cond.initialized X).before args s = true)
    (hX : Jvm.Bundle.fit X = true) (hnames : ∀ n ∈ names, Jvm.Bundle.fit n = true) (h : ∀ w ∈ Jvm.Bundle.ownAtoms own ic X names, w.before args s = true) (hZ : vk_R own ib tx q s) (hsz : ls.size = c.maxLocals)
    (hd0 : decode cc pc = .ok (.new ia, 3)) (hd3 : decode cc (pc + 3) = .ok (.dup, 1)) (hd4 : decode cc (pc + 4) = .ok (.ldc ib, 2)) (hd6 : decode cc (pc + 6) = .ok (.invokespecial ic, 3)) (hd9 : decode cc (pc + 9) = .ok (.athrow, 1))
    (hno : c.exceptionTable.toList = []) (hlocks : meth.locks = false) (hRc : 1 ≤ R.cells) (hRs : 6 ≤ R.slots) (hRf : names.length + 3 < R.frames) (hRl : 43 + 13 * (names.length + 1) ≤ R.locals) :
    W p l e R s m args below meth c s.heap [] 0 0 (xt_MQ below X s 1 6) (F0 m pc ls []) := by
  refine W.newc (n := 6) hexec hb hown hclink (h (.instantiable X 6) (by simp [Jvm.Bundle.ownAtoms])) hinit rfl hd0 (by omega) (by omega) (fun cC kC h1 h2 h3 h4 => ?_)
  refine W.eq (g2 := F0 m (pc + 3) ls [.ref s.heap.size]) rfl ?_
  refine lv_dup hexec hb hd3 rfl ?_
  refine va_ldcS hexec hb hown hZ hd4 ?_
  intro T hT X1
  obtain ⟨U, hst, hrun, hend, hW, hsame, ce, hce, hoc⟩ := X1.ctorThrowS hexec (Launch.traces_off hl X1.admits) hown hX hnames h (fun x hx => by cases hx) h1 h2 (a := s.heap.size) (by rw [hT]; simp [freshCell]) (Nat.le_refl _) (msg := .ref q) rfl
    (g := F0 m (pc + 6) ls [.ref q, .ref s.heap.size, .ref s.heap.size]) rfl hsz rfl rfl (rest := []) rfl (by rw [hb]; exact hd6) (by rw [hb]; exact hd9) (by rw [hno]; intro x hx; cases hx) hRf (by simp [Value.category]; omega) hlocks
  exact ⟨U, hst, .threw _, hrun, hend, ⟨_, rfl, ⟨ce, hce, by rw [hoc.vm]; rfl, hoc.cls⟩, xt_old hsame⟩, ⟨_, rfl⟩, hW, hsame⟩
end XN
section XF
/-- what the search of a handler finds, and in which tables it leaves the machine -/
def xf_Finds (e : Env) (s : State) (f : JFrame) (a : Addr) (h : Handler) (s' : State) : Prop := ∀ (Q : Handler → Jvm.Pre) (E : Jvm.CtlPost) (d : Bool) (acts : List Action), Sem.wp (findHandler f a) Q E e d acts s ↔ Q h d acts s'
theorem xf_step {e : Env} {s s' : State} {a : Addr} {f : JFrame} {r : List Frame} {pc : Nat} (hfind : xf_Finds e s f a (.found pc) s') :
    (stepThrowing e s a (.java f :: r)).Is (s'.setFrames (.java { f with pc := pc, stack := [.ref a] } :: r)) [] := by
  have hfind' : ∀ (Q : Handler → Jvm.Pre) (E : Jvm.CtlPost) (d : Bool) (acts : List Action), Sem.wp (findHandler f a) Q E e d acts s ↔ Q (.found pc) d acts s' := hfind
  simp only [stepThrowing, searchFrame, vmDo]
  generalize hr : Sem.go _ e false [] s = res
  obtain ⟨as, rfl, ha⟩ := Sem.eq_ok_of hr (a := Handler.found pc) (s' := s') (acts' := []) (by simp [hfind'])
  exact ⟨rfl, ha⟩
theorem xf_caught {tb : Tables} {e : Env} {s target : State} {g : JFrame} {c : Code} {below : List Frame} {a : Addr} {vm' : Vm} (h : At s g.method c below) {pc : Nat}
    (hfind : xf_Finds e ((s.setTop g).pushFrame (.throwing a)) g a (.found pc) (((s.setTop g).pushFrame (.throwing a)).setVm vm'))
    (hrest : Steps tb e below ((s.setVm vm').setTop { g with pc := pc, stack := [.ref a] }) target) : Steps tb e below ((s.setTop g).pushFrame (.throwing a)) target := by
  obtain ⟨hgo, hw⟩ := h.throwing a
  refine Steps.head hgo hw ?_
  rw [stepThread_throwing (frames_entered h.top _), (xf_step (s := (s.setTop g).pushFrame (.throwing a)) hfind).1]
  obtain ⟨g₀, hg⟩ := Option.isSome_iff_exists.mp h.top
  obtain ⟨r, hr⟩ := State.topJava?_eq_some.mp hg
  have e1 : (((s.setTop g).pushFrame (.throwing a)).setVm vm').setFrames (.java { g with pc := pc, stack := [.ref a] } :: s.frames.tail) = (s.setVm vm').setTop { g with pc := pc, stack := [.ref a] } := by
    have hr' : (s.setVm vm').frames = .java g₀ :: r := hr
    rw [State.setTop_of_frames _ hr', hr, State.pushFrame, State.setTop_of_frames _ hr]
    show (((s.setFrames _).setFrames _).setFrames _).setVm vm' = (s.setFrames _).setVm vm'
    rw [State.setFrames_setFrames, State.setFrames_setFrames]
    rfl
  rw [e1]
  exact hrest
/-- a row of the table that covers the place: its entry may still be open -/
theorem xf_cold {Q : Handler → Jvm.Pre} {E : Jvm.CtlPost} {e : Env} {d : Bool} {acts : List Action} {s : State} {f : JFrame} {a : Addr} {x : ExceptionTableEntry} {t : List ExceptionTableEntry} {c : ClassId} {vm' : Vm} (hx : covers x f.pc = true) (h0 : x.catchType ≠ 0)
    (hg : (Jvm.resolveClass f.method.cls x.catchType).Gives e.toSetting s.vm (.ok c) vm') (hr : vm'.classReady f.method.cls x.catchType c) (hsz : vm'.classes.size ≤ s.vm.classes.size) :
    Sem.wp (findHandler.go f a (x :: t)) Q E e d acts s ↔ Sem.wp (findHandler.go f a (x :: t)) Q E e d acts (s.setVm vm') := by
  obtain ⟨ha, ht⟩ := hg.op (op := VmOp.resolveClass f.method.cls x.catchType) rfl
  obtain ⟨k, hkd, hres⟩ := hr
  obtain ⟨hb1, hb2⟩ := resolveClass_memo e (vm := vm') hkd hres
  simp only [covers] at hx
  have h1 : ((VmOp.resolveClass f.method.cls x.catchType).tables e s.vm).classes.size ≤ s.vm.classes.size := by rw [ht]; exact hsz
  have h2 : ((VmOp.resolveClass f.method.cls x.catchType).tables e (s.setVm vm').vm).classes.size ≤ (s.setVm vm').vm.classes.size := by
    show ((VmOp.resolveClass f.method.cls x.catchType).tables e vm').classes.size ≤ vm'.classes.size
    rw [hb2]; exact Nat.le_refl _
  have e2 : (s.setVm vm').vm = vm' := rfl
  have e3 : (s.setVm vm').setVm vm' = s.setVm vm' := rfl
  simp only [findHandler.go, hx, if_true, wp_bind', beq_iff_eq, h0, if_false]
  rw [Jvm.W.vmOp_same _ h1, Jvm.W.vmOp_same _ h2, ha, ht, e2, hb1, hb2, e3]
end XF
section XH
theorem xf_asg {A B : String} {s : State} {a : Array Value} (h : (Cond.castable A B).before a s = true) {cA cB : ClassId} (hA : s.vm.findClass A = some cA) (hB : s.vm.findClass B = some cB) : s.vm.assignable cA cB = true := by
  obtain ⟨c, t, h1, h2, h3⟩ := Cond.castable_spec (show (Cond.castable A B).holds a s none s [] = true from h)
  cases h1.symm.trans hA
  cases h2.symm.trans hB
  exact h3
theorem xf_nasg {A B : String} {s : State} {a : Array Value} (h : (Cond.not (.castable A B)).before a s = true) {cA cB : ClassId} (hA : s.vm.findClass A = some cA) (hB : s.vm.findClass B = some cB) : s.vm.assignable cA cB = false := by
  simp only [Cond.before, Cond.holds, Cond.value, hA, hB] at h
  simpa using h
/-- one row of the table that covers the place -/
theorem xf_one {Q : Handler → Jvm.Pre} {E : Jvm.CtlPost} {e : Env} {d : Bool} {acts : List Action} {S : State} {f : JFrame} {a : Addr} {x : ExceptionTableEntry} {t : List ExceptionTableEntry} {c : ClassId} {cell : Cell} {vm' : Vm} (hx : covers x f.pc = true) (h0 : x.catchType ≠ 0)
    (hg : (Jvm.resolveClass f.method.cls x.catchType).Gives e.toSetting S.vm (.ok c) vm') (hr : vm'.classReady f.method.cls x.catchType c) (hsz : vm'.classes.size ≤ S.vm.classes.size)
    (hcell : S.heap[a]? = some cell) (hst : cell.vm.isStatics = false) (hk : ∃ k, vm'.classes[cell.cls]? = some k) (hc : ∃ k, vm'.classes[c]? = some k) :
    Sem.wp (findHandler.go f a (x :: t)) Q E e d acts S ↔ if vm'.assignable cell.cls c = true then Q (.found x.handlerPc) d acts (S.setVm vm') else Sem.wp (findHandler.go f a t) Q E e d acts (S.setVm vm') := by
  rw [xf_cold hx h0 hg hr hsz]
  exact Jvm.W.findHandler_go_class (s := S.setVm vm') hx h0 hr hcell (VmData.ne_statics_of hst) hk hc
variable {p : Program} {l : Launch} {e : Env} {R : Room} {s : State} {m : MethodId} {args : Array Value} {below : List Frame} {meth : Method} {c : Code} {T : State} {locs : List Loc} {cells slots : Nat} {H : Heap} {Q : State → Prop}
/-- the first row takes it -/
theorem xf_first (X : Stand p l e R s m args below meth c T locs cells slots) {own E C : String} {a : Addr} {cell : Cell} {g : JFrame} {s1 e1 h1 t1 : Nat} {hh : List (Nat × Nat × Nat × Nat)} (htab : c.exceptionTable.toList.map (fun h => (h.startPc, h.endPc, h.handlerPc, h.catchType)) = (s1, e1, h1, t1) :: hh)
    (hg : g.method = m) (hpc : (decide (s1 ≤ g.pc) && decide (g.pc < e1)) = true) (h0 : t1 ≠ 0) (hown : s.vm.findClass own = some m.cls) (hcl : (Cond.classLink own t1 C).before args s = true) (hcast : (Cond.castable E C).before args s = true) (hcell : T.heap[a]? = some cell) (hst : cell.vm.isStatics = false) (hE : s.vm.findClass E = some cell.cls) :
    ∃ vm', Stand p l e R s m args below meth c (T.setVm vm') locs cells slots ∧ ∀ tg, Steps p.tables e below ((T.setVm vm').setTop { g with pc := h1, stack := [.ref a] }) tg → Steps p.tables e below ((T.setTop g).pushFrame (.throwing a)) tg := by
  subst hg
  have hpl : e.platform.magicAccessors = ({} : Platform).magicAccessors := by rw [X.admits.platform]
  obtain ⟨cc, hfcc, hcl'⟩ := Cond.classLink_spec hown hcl e.platform hpl
  obtain ⟨hg₁, hwarm₁, hready₁⟩ := State.classEntry (e := e) X.warmed hcl'
  have hsz : (T.vm.noted g.method.cls t1 (.cls cc)).classes.size ≤ T.vm.classes.size := by rw [Vm.size_noted]; exact Nat.le_refl _
  generalize T.vm.noted g.method.cls t1 (.cls cc) = vm₁ at hg₁ hwarm₁ hready₁ hsz
  obtain ⟨x, xs, hx1, hx2, hx3⟩ := List.map_eq_cons_iff.mp htab
  simp only [Prod.mk.injEq] at hx2
  obtain ⟨rfl, rfl, rfl, rfl⟩ := hx2
  refine ⟨vm₁, X.noted hwarm₁, fun tg h => xf_caught (c := c) X.here (vm' := vm₁) ?_ h⟩
  intro Q E d acts
  rw [Jvm.W.findHandler_eq (meth := meth) (code := c) (by rw [Stand.throwing_vm]; exact X.method') X.code, hx1,
    xf_one (vm' := vm₁) (c := cc) (cell := cell) hpc h0 (by rw [Stand.throwing_vm]; exact hg₁) hready₁ (by rw [Stand.throwing_vm]; exact hsz) (by rw [Stand.throwing_heap]; exact hcell) hst (Vm.classAt_of_findClass (by rw [hwarm₁.alike.findClass]; exact hE)) (Vm.classAt_of_findClass (by rw [hwarm₁.alike.findClass]; exact hfcc)),
    if_pos (by rw [hwarm₁.alike.assignable]; exact xf_asg hcast hE hfcc)]
/-- the first row is of another kind, the second takes it -/
theorem xf_second (X : Stand p l e R s m args below meth c T locs cells slots) {own E C C2 : String} {a : Addr} {cell : Cell} {g : JFrame} {s1 e1 h1 t1 s2 e2 h2 t2 : Nat} {hh : List (Nat × Nat × Nat × Nat)} (htab : c.exceptionTable.toList.map (fun h => (h.startPc, h.endPc, h.handlerPc, h.catchType)) = (s1, e1, h1, t1) :: (s2, e2, h2, t2) :: hh)
    (hg : g.method = m) (hpc : (decide (s1 ≤ g.pc) && decide (g.pc < e1)) = true) (h0 : t1 ≠ 0) (hpc2 : (decide (s2 ≤ g.pc) && decide (g.pc < e2)) = true) (h02 : t2 ≠ 0) (hown : s.vm.findClass own = some m.cls) (hcl : (Cond.classLink own t1 C).before args s = true) (hcl2 : (Cond.classLink own t2 C2).before args s = true) (hcast : (Cond.not (.castable E C)).before args s = true) (hcast2 : (Cond.castable E C2).before args s = true) (hcell : T.heap[a]? = some cell) (hst : cell.vm.isStatics = false) (hE : s.vm.findClass E = some cell.cls) :
    ∃ vm', Stand p l e R s m args below meth c (T.setVm vm') locs cells slots ∧ ∀ tg, Steps p.tables e below ((T.setVm vm').setTop { g with pc := h2, stack := [.ref a] }) tg → Steps p.tables e below ((T.setTop g).pushFrame (.throwing a)) tg := by
  subst hg
  have hpl : e.platform.magicAccessors = ({} : Platform).magicAccessors := by rw [X.admits.platform]
  obtain ⟨cc, hfcc, hcl'⟩ := Cond.classLink_spec hown hcl e.platform hpl
  obtain ⟨cc2, hfcc2, hcl2'⟩ := Cond.classLink_spec hown hcl2 e.platform hpl
  obtain ⟨hg₁, hwarm₁, hready₁⟩ := State.classEntry (e := e) X.warmed hcl'
  have hsz : (T.vm.noted g.method.cls t1 (.cls cc)).classes.size ≤ T.vm.classes.size := by rw [Vm.size_noted]; exact Nat.le_refl _
  generalize T.vm.noted g.method.cls t1 (.cls cc) = vm₁ at hg₁ hwarm₁ hready₁ hsz
  obtain ⟨hg₂, hwarm₂, hready₂⟩ := State.classEntry (e := e) hwarm₁ hcl2'
  have hsz2 : (vm₁.noted g.method.cls t2 (.cls cc2)).classes.size ≤ vm₁.classes.size := by rw [Vm.size_noted]; exact Nat.le_refl _
  generalize vm₁.noted g.method.cls t2 (.cls cc2) = vm₂ at hg₂ hwarm₂ hready₂ hsz2
  obtain ⟨x, xs, hx1, hx2, hx3⟩ := List.map_eq_cons_iff.mp htab
  obtain ⟨x', xs', hy1, hy2, hy3⟩ := List.map_eq_cons_iff.mp hx3
  subst hy1
  simp only [Prod.mk.injEq] at hx2 hy2
  obtain ⟨rfl, rfl, rfl, rfl⟩ := hx2
  obtain ⟨rfl, rfl, rfl, rfl⟩ := hy2
  refine ⟨vm₂, X.noted hwarm₂, fun tg h => xf_caught (c := c) X.here (vm' := vm₂) ?_ h⟩
  intro Q E d acts
  rw [Jvm.W.findHandler_eq (meth := meth) (code := c) (by rw [Stand.throwing_vm]; exact X.method') X.code, hx1,
    xf_one (vm' := vm₁) (c := cc) (cell := cell) hpc h0 (by rw [Stand.throwing_vm]; exact hg₁) hready₁ (by rw [Stand.throwing_vm]; exact hsz) (by rw [Stand.throwing_heap]; exact hcell) hst (Vm.classAt_of_findClass (by rw [hwarm₁.alike.findClass]; exact hE)) (Vm.classAt_of_findClass (by rw [hwarm₁.alike.findClass]; exact hfcc)),
    if_neg (by rw [hwarm₁.alike.assignable, xf_nasg hcast hE hfcc]; decide),
    xf_one (S := ((T.setTop g).pushFrame (Frame.throwing a)).setVm vm₁) (vm' := vm₂) (c := cc2) (cell := cell) hpc2 h02 hg₂ hready₂ hsz2 (by show ((T.setTop g).pushFrame (Frame.throwing a)).heap[a]? = _; rw [Stand.throwing_heap]; exact hcell) hst (Vm.classAt_of_findClass (by rw [hwarm₂.alike.findClass]; exact hE)) (Vm.classAt_of_findClass (by rw [hwarm₂.alike.findClass]; exact hfcc2)),
    if_pos (by rw [hwarm₂.alike.assignable]; exact xf_asg hcast2 hE hfcc2)]
  exact Iff.rfl
/-- a call that throws, and the handler that takes it: the walk goes on there; old cells are as they were -/
theorem xt_catch {mc ms pc hpc : Nat} {ls : Array Slot} {st0 rest : List Value} {E : String} (hr : xt_Run p l e R s m args below meth c H locs cells slots mc ms (F0 m pc ls st0) rest E)
    (hf : ∀ (T : State) (a : Addr) (cell : Cell), Stand p l e R s m args below meth c T locs (cells + mc) (slots + ms) → T.heap[a]? = some cell → cell.vm.isStatics = false → s.vm.findClass E = some cell.cls →
      ∃ vm', Stand p l e R s m args below meth c (T.setVm vm') locs (cells + mc) (slots + ms) ∧ ∀ tg, Steps p.tables e below ((T.setVm vm').setTop (F0 m hpc ls [.ref a])) tg → Steps p.tables e below ((T.setTop (F0 m pc ls rest)).pushFrame (.throwing a)) tg)
    (kk : ∀ (H1 : Heap) (x : Addr), (∀ q : Nat, q < H.size → H1[q]? = H[q]?) → W p l e R s m args below meth c H1 locs (cells + mc) (slots + ms) Q (F0 m hpc ls [.ref x])) : W p l e R s m args below meth c H locs cells slots Q (F0 m pc ls st0) := by
  intro T hT X
  obtain ⟨x, T', X', ⟨cell, g1, g2, g3⟩, hold, st⟩ := hr T hT X
  obtain ⟨vm', X2, st2⟩ := hf T' x cell X' g1 g2 g3
  obtain ⟨t, a1, b1⟩ := kk T'.heap x hold (T'.setVm vm') rfl X2
  exact ⟨t, st _ (st2 _ a1), b1⟩
end XH
end
section
/-! Names: fields of the kinds of objects, the words of the tables by their places, the methods. Written by a program of mine (wip/p1/gen_names.py). -/
def TX0 : u_T := fun k => match k with
  | 0 => ("QuorumStore$Lead", "nothing", "LQuorumStore$Value;", true)
  | 1 => ("QuorumStore$Lead", "grants", "I", false)
  | 2 => ("QuorumStore$Lead", "best", "LQuorumStore$Row;", true)
  | 3 => ("QuorumStore$Lead", "proposals", "LQuorumStore$Row;", true)
  | 4 => ("QuorumStore$Lead", "queue", "[LQuorumStore$Value;", true)
  | 5 => ("QuorumStore$Lead", "queued", "I", false)
  | 6 => ("QuorumStore$Lead", "settledAt", "I", false)
  | _ => ("QuorumStore$Lead", "settledPeers", "I", false)
def tyX0 : Nat → FieldType := fun k => match k with
  | 0 => .object "QuorumStore$Value"
  | 1 => .int
  | 2 => .object "QuorumStore$Row"
  | 3 => .object "QuorumStore$Row"
  | 4 => .array (.object "QuorumStore$Value")
  | 5 => .int
  | 6 => .int
  | _ => .int
theorem nmX0 : ∀ a, a < 8 → ∀ b, b < 8 → a ≠ b → (TX0 a).2.1 ≠ (TX0 b).2.1 := by decide +kernel
theorem okX0 : ∀ k, k < 8 → parseFieldDescriptor (TX0 k).2.2.1 = some (tyX0 k) := by decide +kernel
theorem inX0 : ∀ w ∈ u_ws "QuorumStore$Lead" TX0 8, w ∈ xw_T := xw_all _ [148, 150, 152, 154, 156, 158, 160, 162] (by decide +kernel) (by decide +kernel)
def TX1 : u_T := fun k => match k with
  | 0 => ("QuorumStore$Message", "kind", "I", true)
  | 1 => ("QuorumStore$Message", "from", "I", true)
  | 2 => ("QuorumStore$Message", "to", "I", true)
  | 3 => ("QuorumStore$Message", "ballot", "I", true)
  | 4 => ("QuorumStore$Message", "slot", "I", true)
  | 5 => ("QuorumStore$Message", "value", "LQuorumStore$Value;", true)
  | 6 => ("QuorumStore$Message", "list", "LQuorumStore$Row;", false)
  | _ => ("QuorumStore$Message", "state", "LQuorumStore$State;", false)
def tyX1 : Nat → FieldType := fun k => match k with
  | 0 => .int
  | 1 => .int
  | 2 => .int
  | 3 => .int
  | 4 => .int
  | 5 => .object "QuorumStore$Value"
  | 6 => .object "QuorumStore$Row"
  | _ => .object "QuorumStore$State"
theorem nmX1 : ∀ a, a < 8 → ∀ b, b < 8 → a ≠ b → (TX1 a).2.1 ≠ (TX1 b).2.1 := by decide +kernel
theorem okX1 : ∀ k, k < 8 → parseFieldDescriptor (TX1 k).2.2.1 = some (tyX1 k) := by decide +kernel
theorem inX1 : ∀ w ∈ u_ws "QuorumStore$Message" TX1 8, w ∈ xw_T := xw_all _ [399, 401, 403, 405, 407, 409, 411, 413] (by decide +kernel) (by decide +kernel)
def TX2 : u_T := fun k => match k with
  | 0 => ("QuorumStore$Network", "row", "[LQuorumStore$Message;", true)
  | 1 => ("QuorumStore$Network", "size", "I", false)
  | 2 => ("QuorumStore$Network", "sent", "I", false)
  | 3 => ("QuorumStore$Network", "lost", "I", false)
  | _ => ("QuorumStore$Network", "delivered", "I", false)
def tyX2 : Nat → FieldType := fun k => match k with
  | 0 => .array (.object "QuorumStore$Message")
  | 1 => .int
  | 2 => .int
  | 3 => .int
  | _ => .int
theorem nmX2 : ∀ a, a < 5 → ∀ b, b < 5 → a ≠ b → (TX2 a).2.1 ≠ (TX2 b).2.1 := by decide +kernel
theorem okX2 : ∀ k, k < 5 → parseFieldDescriptor (TX2 k).2.2.1 = some (tyX2 k) := by decide +kernel
theorem inX2 : ∀ w ∈ u_ws "QuorumStore$Network" TX2 5, w ∈ xw_T := xw_all _ [49, 51, 53, 55, 57] (by decide +kernel) (by decide +kernel)
def TX3 : u_T := fun k => match k with
  | 0 => ("QuorumStore$Node", "number", "I", true)
  | 1 => ("QuorumStore$Node", "network", "LQuorumStore$Network;", true)
  | 2 => ("QuorumStore$Node", "promised", "I", false)
  | 3 => ("QuorumStore$Node", "applied", "I", false)
  | 4 => ("QuorumStore$Node", "base", "I", false)
  | 5 => ("QuorumStore$Node", "state", "LQuorumStore$State;", true)
  | 6 => ("QuorumStore$Node", "accepted", "LQuorumStore$Row;", true)
  | 7 => ("QuorumStore$Node", "known", "LQuorumStore$Row;", true)
  | 8 => ("QuorumStore$Node", "live", "Z", false)
  | 9 => ("QuorumStore$Node", "leads", "Z", false)
  | 10 => ("QuorumStore$Node", "ballot", "I", false)
  | 11 => ("QuorumStore$Node", "timer", "I", false)
  | 12 => ("QuorumStore$Node", "leader", "I", false)
  | 13 => ("QuorumStore$Node", "told", "I", false)
  | _ => ("QuorumStore$Node", "lead", "LQuorumStore$Lead;", true)
def tyX3 : Nat → FieldType := fun k => match k with
  | 0 => .int
  | 1 => .object "QuorumStore$Network"
  | 2 => .int
  | 3 => .int
  | 4 => .int
  | 5 => .object "QuorumStore$State"
  | 6 => .object "QuorumStore$Row"
  | 7 => .object "QuorumStore$Row"
  | 8 => .boolean
  | 9 => .boolean
  | 10 => .int
  | 11 => .int
  | 12 => .int
  | 13 => .int
  | _ => .object "QuorumStore$Lead"
theorem nmX3 : ∀ a, a < 15 → ∀ b, b < 15 → a ≠ b → (TX3 a).2.1 ≠ (TX3 b).2.1 := by decide +kernel
theorem okX3 : ∀ k, k < 15 → parseFieldDescriptor (TX3 k).2.2.1 = some (tyX3 k) := by decide +kernel
theorem inX3 : ∀ w ∈ u_ws "QuorumStore$Node" TX3 15, w ∈ xw_T := xw_all _ [224, 226, 228, 230, 232, 234, 236, 238, 240, 242, 244, 246, 248, 250, 252] (by decide +kernel) (by decide +kernel)
def TX4 : u_T := fun k => match k with
  | 0 => ("QuorumStore$Row", "slots", "[I", true)
  | 1 => ("QuorumStore$Row", "marks", "[I", true)
  | _ => ("QuorumStore$Row", "values", "[LQuorumStore$Value;", true)
def tyX4 : Nat → FieldType := fun k => match k with
  | 0 => .array (.int)
  | 1 => .array (.int)
  | _ => .array (.object "QuorumStore$Value")
theorem nmX4 : ∀ a, a < 3 → ∀ b, b < 3 → a ≠ b → (TX4 a).2.1 ≠ (TX4 b).2.1 := by decide +kernel
theorem okX4 : ∀ k, k < 3 → parseFieldDescriptor (TX4 k).2.2.1 = some (tyX4 k) := by decide +kernel
theorem inX4 : ∀ w ∈ u_ws "QuorumStore$Row" TX4 3, w ∈ xw_T := xw_all _ [79, 81, 83] (by decide +kernel) (by decide +kernel)
def TX5 : u_T := fun k => match k with
  | 0 => ("QuorumStore$State", "numbers", "[J", true)
  | 1 => ("QuorumStore$State", "seqs", "[I", true)
  | 2 => ("QuorumStore$State", "results", "[J", true)
  | 3 => ("QuorumStore$State", "configSlots", "[I", true)
  | 4 => ("QuorumStore$State", "configMasks", "[I", true)
  | _ => ("QuorumStore$State", "configs", "I", false)
def tyX5 : Nat → FieldType := fun k => match k with
  | 0 => .array (.long)
  | 1 => .array (.int)
  | 2 => .array (.long)
  | 3 => .array (.int)
  | 4 => .array (.int)
  | _ => .int
theorem nmX5 : ∀ a, a < 6 → ∀ b, b < 6 → a ≠ b → (TX5 a).2.1 ≠ (TX5 b).2.1 := by decide +kernel
theorem okX5 : ∀ k, k < 6 → parseFieldDescriptor (TX5 k).2.2.1 = some (tyX5 k) := by decide +kernel
theorem inX5 : ∀ w ∈ u_ws "QuorumStore$State" TX5 6, w ∈ xw_T := xw_all _ [183, 185, 187, 189, 191, 193] (by decide +kernel) (by decide +kernel)
def TX6 : u_T := fun k => match k with
  | 0 => ("QuorumStore$Value", "kind", "I", true)
  | 1 => ("QuorumStore$Value", "client", "I", true)
  | 2 => ("QuorumStore$Value", "seq", "I", true)
  | 3 => ("QuorumStore$Value", "key", "I", true)
  | 4 => ("QuorumStore$Value", "a", "I", true)
  | _ => ("QuorumStore$Value", "b", "I", true)
def tyX6 : Nat → FieldType := fun k => match k with
  | 0 => .int
  | 1 => .int
  | 2 => .int
  | 3 => .int
  | 4 => .int
  | _ => .int
theorem nmX6 : ∀ a, a < 6 → ∀ b, b < 6 → a ≠ b → (TX6 a).2.1 ≠ (TX6 b).2.1 := by decide +kernel
theorem okX6 : ∀ k, k < 6 → parseFieldDescriptor (TX6 k).2.2.1 = some (tyX6 k) := by decide +kernel
theorem inX6 : ∀ w ∈ u_ws "QuorumStore$Value" TX6 6, w ∈ xw_T := xw_all _ [119, 121, 123, 125, 127, 129] (by decide +kernel) (by decide +kernel)
def TX7 : u_T := fun k => match k with
  | 0 => ("QuorumStore", "network", "LQuorumStore$Network;", true)
  | 1 => ("QuorumStore", "nodes", "[LQuorumStore$Node;", true)
  | _ => ("QuorumStore", "nextKey", "I", false)
def tyX7 : Nat → FieldType := fun k => match k with
  | 0 => .object "QuorumStore$Network"
  | 1 => .array (.object "QuorumStore$Node")
  | _ => .int
theorem nmX7 : ∀ a, a < 3 → ∀ b, b < 3 → a ≠ b → (TX7 a).2.1 ≠ (TX7 b).2.1 := by decide +kernel
theorem okX7 : ∀ k, k < 3 → parseFieldDescriptor (TX7 k).2.2.1 = some (tyX7 k) := by decide +kernel
theorem inX7 : ∀ w ∈ u_ws "QuorumStore" TX7 3, w ∈ xw_T := xw_all _ [258, 260, 262] (by decide +kernel) (by decide +kernel)
def TX8 : u_T := fun k => match k with
  | 0 => ("QuorumStoreModel$Message", "kind", "I", false)
  | 1 => ("QuorumStoreModel$Message", "from", "I", false)
  | 2 => ("QuorumStoreModel$Message", "to", "I", false)
  | 3 => ("QuorumStoreModel$Message", "ballot", "I", false)
  | 4 => ("QuorumStoreModel$Message", "slot", "I", false)
  | 5 => ("QuorumStoreModel$Message", "value", "LQuorumStoreModel$Value;", false)
  | 6 => ("QuorumStoreModel$Message", "list", "LQuorumStoreModel$Slots;", true)
  | _ => ("QuorumStoreModel$Message", "state", "LQuorumStoreModel$State;", true)
def tyX8 : Nat → FieldType := fun k => match k with
  | 0 => .int
  | 1 => .int
  | 2 => .int
  | 3 => .int
  | 4 => .int
  | 5 => .object "QuorumStoreModel$Value"
  | 6 => .object "QuorumStoreModel$Slots"
  | _ => .object "QuorumStoreModel$State"
theorem nmX8 : ∀ a, a < 8 → ∀ b, b < 8 → a ≠ b → (TX8 a).2.1 ≠ (TX8 b).2.1 := by decide +kernel
theorem okX8 : ∀ k, k < 8 → parseFieldDescriptor (TX8 k).2.2.1 = some (tyX8 k) := by decide +kernel
theorem inX8 : ∀ w ∈ u_ws "QuorumStoreModel$Message" TX8 8, w ∈ xw_T := xw_all _ [902, 904, 906, 908, 910, 912, 914, 916] (by decide +kernel) (by decide +kernel)
def TX9 : u_T := fun k => match k with
  | 0 => ("QuorumStoreModel$Node", "number", "I", true)
  | 1 => ("QuorumStoreModel$Node", "live", "Z", false)
  | 2 => ("QuorumStoreModel$Node", "leads", "Z", false)
  | 3 => ("QuorumStoreModel$Node", "promised", "I", false)
  | 4 => ("QuorumStoreModel$Node", "base", "I", false)
  | 5 => ("QuorumStoreModel$Node", "ballot", "I", false)
  | 6 => ("QuorumStoreModel$Node", "timer", "I", false)
  | 7 => ("QuorumStoreModel$Node", "leader", "I", false)
  | 8 => ("QuorumStoreModel$Node", "grants", "I", false)
  | 9 => ("QuorumStoreModel$Node", "told", "I", false)
  | 10 => ("QuorumStoreModel$Node", "state", "LQuorumStoreModel$State;", true)
  | 11 => ("QuorumStoreModel$Node", "accepted", "LQuorumStoreModel$Slots;", true)
  | 12 => ("QuorumStoreModel$Node", "known", "LQuorumStoreModel$Slots;", true)
  | 13 => ("QuorumStoreModel$Node", "best", "LQuorumStoreModel$Slots;", true)
  | 14 => ("QuorumStoreModel$Node", "proposals", "LQuorumStoreModel$Slots;", true)
  | 15 => ("QuorumStoreModel$Node", "queue", "[LQuorumStoreModel$Value;", true)
  | _ => ("QuorumStoreModel$Node", "queued", "I", false)
def tyX9 : Nat → FieldType := fun k => match k with
  | 0 => .int
  | 1 => .boolean
  | 2 => .boolean
  | 3 => .int
  | 4 => .int
  | 5 => .int
  | 6 => .int
  | 7 => .int
  | 8 => .int
  | 9 => .int
  | 10 => .object "QuorumStoreModel$State"
  | 11 => .object "QuorumStoreModel$Slots"
  | 12 => .object "QuorumStoreModel$Slots"
  | 13 => .object "QuorumStoreModel$Slots"
  | 14 => .object "QuorumStoreModel$Slots"
  | 15 => .array (.object "QuorumStoreModel$Value")
  | _ => .int
theorem nmX9 : ∀ a, a < 17 → ∀ b, b < 17 → a ≠ b → (TX9 a).2.1 ≠ (TX9 b).2.1 := by decide +kernel
theorem okX9 : ∀ k, k < 17 → parseFieldDescriptor (TX9 k).2.2.1 = some (tyX9 k) := by decide +kernel
theorem inX9 : ∀ w ∈ u_ws "QuorumStoreModel$Node" TX9 17, w ∈ xw_T := xw_all _ [956, 958, 960, 962, 964, 966, 968, 970, 972, 974, 976, 978, 980, 982, 984, 986, 988] (by decide +kernel) (by decide +kernel)
def TX10 : u_T := fun k => match k with
  | 0 => ("QuorumStoreModel$Slots", "slot", "[I", false)
  | 1 => ("QuorumStoreModel$Slots", "number", "[I", false)
  | 2 => ("QuorumStoreModel$Slots", "value", "[LQuorumStoreModel$Value;", false)
  | _ => ("QuorumStoreModel$Slots", "n", "I", false)
def tyX10 : Nat → FieldType := fun k => match k with
  | 0 => .array (.int)
  | 1 => .array (.int)
  | 2 => .array (.object "QuorumStoreModel$Value")
  | _ => .int
theorem nmX10 : ∀ a, a < 4 → ∀ b, b < 4 → a ≠ b → (TX10 a).2.1 ≠ (TX10 b).2.1 := by decide +kernel
theorem okX10 : ∀ k, k < 4 → parseFieldDescriptor (TX10 k).2.2.1 = some (tyX10 k) := by decide +kernel
theorem inX10 : ∀ w ∈ u_ws "QuorumStoreModel$Slots" TX10 4, w ∈ xw_T := xw_all _ [843, 845, 847, 849] (by decide +kernel) (by decide +kernel)
def TX11 : u_T := fun k => match k with
  | 0 => ("QuorumStoreModel$State", "applied", "I", false)
  | 1 => ("QuorumStoreModel$State", "numbers", "[J", true)
  | 2 => ("QuorumStoreModel$State", "results", "[J", true)
  | 3 => ("QuorumStoreModel$State", "seqs", "[I", true)
  | 4 => ("QuorumStoreModel$State", "from", "[I", false)
  | 5 => ("QuorumStoreModel$State", "mask", "[I", false)
  | _ => ("QuorumStoreModel$State", "configs", "I", false)
def tyX11 : Nat → FieldType := fun k => match k with
  | 0 => .int
  | 1 => .array (.long)
  | 2 => .array (.long)
  | 3 => .array (.int)
  | 4 => .array (.int)
  | 5 => .array (.int)
  | _ => .int
theorem nmX11 : ∀ a, a < 7 → ∀ b, b < 7 → a ≠ b → (TX11 a).2.1 ≠ (TX11 b).2.1 := by decide +kernel
theorem okX11 : ∀ k, k < 7 → parseFieldDescriptor (TX11 k).2.2.1 = some (tyX11 k) := by decide +kernel
theorem inX11 : ∀ w ∈ u_ws "QuorumStoreModel$State" TX11 7, w ∈ xw_T := xw_all _ [871, 873, 875, 877, 879, 881, 883] (by decide +kernel) (by decide +kernel)
def TX12 : u_T := fun k => match k with
  | 0 => ("QuorumStoreModel$Value", "kind", "I", true)
  | 1 => ("QuorumStoreModel$Value", "client", "I", true)
  | 2 => ("QuorumStoreModel$Value", "seq", "I", true)
  | 3 => ("QuorumStoreModel$Value", "key", "I", true)
  | 4 => ("QuorumStoreModel$Value", "a", "I", true)
  | _ => ("QuorumStoreModel$Value", "b", "I", true)
def tyX12 : Nat → FieldType := fun k => match k with
  | 0 => .int
  | 1 => .int
  | 2 => .int
  | 3 => .int
  | 4 => .int
  | _ => .int
theorem nmX12 : ∀ a, a < 6 → ∀ b, b < 6 → a ≠ b → (TX12 a).2.1 ≠ (TX12 b).2.1 := by decide +kernel
theorem okX12 : ∀ k, k < 6 → parseFieldDescriptor (TX12 k).2.2.1 = some (tyX12 k) := by decide +kernel
theorem inX12 : ∀ w ∈ u_ws "QuorumStoreModel$Value" TX12 6, w ∈ xw_T := xw_all _ [1250, 1252, 1254, 1256, 1258, 1260] (by decide +kernel) (by decide +kernel)
def TX13 : u_T := fun k => match k with
  | 0 => ("QuorumStoreModel", "thrown", "I", false)
  | 1 => ("QuorumStoreModel", "key", "I", false)
  | 2 => ("QuorumStoreModel", "sent", "I", false)
  | 3 => ("QuorumStoreModel", "lost", "I", false)
  | 4 => ("QuorumStoreModel", "delivered", "I", false)
  | 5 => ("QuorumStoreModel", "messages", "I", false)
  | 6 => ("QuorumStoreModel", "node", "[LQuorumStoreModel$Node;", true)
  | 7 => ("QuorumStoreModel", "way", "[LQuorumStoreModel$Message;", true)
  | 8 => ("QuorumStoreModel", "hand", "LQuorumStoreModel$Message;", true)
  | _ => ("QuorumStoreModel", "taken", "LQuorumStoreModel$Message;", true)
def tyX13 : Nat → FieldType := fun k => match k with
  | 0 => .int
  | 1 => .int
  | 2 => .int
  | 3 => .int
  | 4 => .int
  | 5 => .int
  | 6 => .array (.object "QuorumStoreModel$Node")
  | 7 => .array (.object "QuorumStoreModel$Message")
  | 8 => .object "QuorumStoreModel$Message"
  | _ => .object "QuorumStoreModel$Message"
theorem nmX13 : ∀ a, a < 10 → ∀ b, b < 10 → a ≠ b → (TX13 a).2.1 ≠ (TX13 b).2.1 := by decide +kernel
theorem okX13 : ∀ k, k < 10 → parseFieldDescriptor (TX13 k).2.2.1 = some (tyX13 k) := by decide +kernel
theorem inX13 : ∀ w ∈ u_ws "QuorumStoreModel" TX13 10, w ∈ xw_T := xw_all _ [1005, 1007, 1009, 1011, 1013, 1015, 1017, 1019, 1021, 1023] (by decide +kernel) (by decide +kernel)
abbrev vwCl : List vw_C := [("QuorumStore$Lead", TX0, 8), ("QuorumStore$Message", TX1, 8), ("QuorumStore$Network", TX2, 5), ("QuorumStore$Node", TX3, 15), ("QuorumStore$Row", TX4, 3), ("QuorumStore$State", TX5, 6), ("QuorumStore$Value", TX6, 6), ("QuorumStore", TX7, 3), ("QuorumStoreModel$Message", TX8, 8), ("QuorumStoreModel$Node", TX9, 17), ("QuorumStoreModel$Slots", TX10, 4), ("QuorumStoreModel$State", TX11, 7), ("QuorumStoreModel$Value", TX12, 6), ("QuorumStoreModel", TX13, 10)]
theorem k_0 : (Cond.initialized "QuorumStoreLaw") ∈ xw_T := xw_in 0 (by decide +kernel) (by decide +kernel)
theorem k_1 : (Cond.initialized "QuorumStore") ∈ xw_T := xw_in 1 (by decide +kernel) (by decide +kernel)
theorem k_2 : (Cond.initialized "QuorumStore$Network") ∈ xw_T := xw_in 2 (by decide +kernel) (by decide +kernel)
theorem k_3 : (Cond.initialized "QuorumStore$Node") ∈ xw_T := xw_in 3 (by decide +kernel) (by decide +kernel)
theorem k_4 : (Cond.initialized "QuorumStore$Row") ∈ xw_T := xw_in 4 (by decide +kernel) (by decide +kernel)
theorem k_5 : (Cond.initialized "QuorumStore$Lead") ∈ xw_T := xw_in 5 (by decide +kernel) (by decide +kernel)
theorem k_6 : (Cond.initialized "QuorumStore$Value") ∈ xw_T := xw_in 6 (by decide +kernel) (by decide +kernel)
theorem k_7 : (Cond.initialized "QuorumStore$State") ∈ xw_T := xw_in 7 (by decide +kernel) (by decide +kernel)
theorem k_8 : (Cond.initialized "QuorumStoreModel") ∈ xw_T := xw_in 8 (by decide +kernel) (by decide +kernel)
theorem k_9 : (Cond.initialized "QuorumStoreModel$Message") ∈ xw_T := xw_in 9 (by decide +kernel) (by decide +kernel)
theorem k_10 : (Cond.initialized "QuorumStoreModel$Slots") ∈ xw_T := xw_in 10 (by decide +kernel) (by decide +kernel)
theorem k_11 : (Cond.initialized "QuorumStoreModel$State") ∈ xw_T := xw_in 11 (by decide +kernel) (by decide +kernel)
theorem k_12 : (Cond.initialized "QuorumStoreModel$Node") ∈ xw_T := xw_in 12 (by decide +kernel) (by decide +kernel)
theorem k_13 : (Cond.initialized "java/lang/Throwable") ∈ xw_T := xw_in 13 (by decide +kernel) (by decide +kernel)
theorem k_14 : (Cond.initialized "java/lang/Exception") ∈ xw_T := xw_in 14 (by decide +kernel) (by decide +kernel)
theorem k_15 : (Cond.initialized "java/lang/RuntimeException") ∈ xw_T := xw_in 15 (by decide +kernel) (by decide +kernel)
theorem k_16 : (Cond.initialized "java/lang/IllegalArgumentException") ∈ xw_T := xw_in 16 (by decide +kernel) (by decide +kernel)
theorem k_17 : (Cond.initialized "QuorumStore$Message") ∈ xw_T := xw_in 17 (by decide +kernel) (by decide +kernel)
theorem k_18 : (Cond.initialized "java/lang/Math") ∈ xw_T := xw_in 18 (by decide +kernel) (by decide +kernel)
theorem k_19 : (Cond.initialized "java/lang/Integer") ∈ xw_T := xw_in 19 (by decide +kernel) (by decide +kernel)
theorem k_20 : (Cond.initialized "java/util/NoSuchElementException") ∈ xw_T := xw_in 20 (by decide +kernel) (by decide +kernel)
theorem k_21 : (Cond.initialized "java/lang/System") ∈ xw_T := xw_in 21 (by decide +kernel) (by decide +kernel)
theorem k_22 : (Cond.initialized "java/lang/IllegalStateException") ∈ xw_T := xw_in 22 (by decide +kernel) (by decide +kernel)
theorem k_23 : (Cond.initialized "QuorumStoreModel$Value") ∈ xw_T := xw_in 23 (by decide +kernel) (by decide +kernel)
theorem k_24 : (Cond.classLink "QuorumStoreLaw" (8 : Nat) "QuorumStore") ∈ xw_T := xw_in 24 (by decide +kernel) (by decide +kernel)
theorem k_25 : (Cond.instantiable "QuorumStore" (3 : Nat)) ∈ xw_T := xw_in 25 (by decide +kernel) (by decide +kernel)
theorem k_26 : (Cond.methodLink "QuorumStoreLaw" (67 : Nat) ({ cls := "QuorumStore", name := "<init>", desc := "(I)V" } : Jvm.MethodName)) ∈ xw_T := xw_in 26 (by decide +kernel) (by decide +kernel)
theorem k_27 : (Cond.instanceMethod ({ cls := "QuorumStore", name := "<init>", desc := "(I)V" } : Jvm.MethodName)) ∈ xw_T := xw_in 27 (by decide +kernel) (by decide +kernel)
theorem k_28 : (Cond.code ({ cls := "QuorumStore", name := "<init>", desc := "(I)V" } : Jvm.MethodName) prog_1_method_1_code (5 : Nat) (Option.none : Option Jvm.ClassFile.FieldType)) ∈ xw_T := xw_in 28 (by decide +kernel) (by decide +kernel)
theorem k_29 : (Cond.methodLink "QuorumStore" (1 : Nat) ({ cls := "java/lang/Object", name := "<init>", desc := "()V" } : Jvm.MethodName)) ∈ xw_T := xw_in 29 (by decide +kernel) (by decide +kernel)
theorem k_30 : (Cond.instanceMethod ({ cls := "java/lang/Object", name := "<init>", desc := "()V" } : Jvm.MethodName)) ∈ xw_T := xw_in 30 (by decide +kernel) (by decide +kernel)
theorem k_31 : (Cond.code ({ cls := "java/lang/Object", name := "<init>", desc := "()V" } : Jvm.MethodName) object_method_1_code (1 : Nat) (Option.none : Option Jvm.ClassFile.FieldType)) ∈ xw_T := xw_in 31 (by decide +kernel) (by decide +kernel)
theorem k_32 : (Cond.classLink "QuorumStore" (9 : Nat) "QuorumStore$Network") ∈ xw_T := xw_in 32 (by decide +kernel) (by decide +kernel)
theorem k_33 : (Cond.instantiable "QuorumStore$Network" (5 : Nat)) ∈ xw_T := xw_in 33 (by decide +kernel) (by decide +kernel)
theorem k_34 : (Cond.methodLinkNest "QuorumStore" (11 : Nat) ({ cls := "QuorumStore$Network", name := "<init>", desc := "()V" } : Jvm.MethodName) "QuorumStore") ∈ xw_T := xw_in 34 (by decide +kernel) (by decide +kernel)
theorem k_35 : (Cond.instanceMethod ({ cls := "QuorumStore$Network", name := "<init>", desc := "()V" } : Jvm.MethodName)) ∈ xw_T := xw_in 35 (by decide +kernel) (by decide +kernel)
theorem k_36 : (Cond.code ({ cls := "QuorumStore$Network", name := "<init>", desc := "()V" } : Jvm.MethodName) prog_4_method_1_code (1 : Nat) (Option.none : Option Jvm.ClassFile.FieldType)) ∈ xw_T := xw_in 36 (by decide +kernel) (by decide +kernel)
theorem k_37 : (Cond.methodLink "QuorumStore$Network" (3 : Nat) ({ cls := "java/lang/Object", name := "<init>", desc := "()V" } : Jvm.MethodName)) ∈ xw_T := xw_in 37 (by decide +kernel) (by decide +kernel)
theorem k_38 : (Cond.classLink "QuorumStore$Network" (9 : Nat) "QuorumStore$Message") ∈ xw_T := xw_in 38 (by decide +kernel) (by decide +kernel)
theorem k_39 : (Cond.arrayOver (Jvm.ClassFile.FieldType.object "QuorumStore$Message")) ∈ xw_T := xw_in 39 (by decide +kernel) (by decide +kernel)
theorem k_40 : (Cond.fieldLink "QuorumStore$Network" (11 : Nat) "QuorumStore$Network" "row" "[LQuorumStore$Message;") ∈ xw_T := xw_in 40 (by decide +kernel) (by decide +kernel)
theorem k_41 : (Cond.fieldLink "QuorumStore" (240 : Nat) "QuorumStore$Network" "row" "[LQuorumStore$Message;") ∈ xw_T := xw_in 41 (by decide +kernel) (by decide +kernel)
theorem k_42 : (Cond.fieldLink "QuorumStore$Network" (17 : Nat) "QuorumStore$Network" "size" "I") ∈ xw_T := xw_in 42 (by decide +kernel) (by decide +kernel)
theorem k_43 : (Cond.fieldLink "QuorumStore" (35 : Nat) "QuorumStore$Network" "size" "I") ∈ xw_T := xw_in 43 (by decide +kernel) (by decide +kernel)
theorem k_44 : (Cond.fieldLink "QuorumStore$Network" (21 : Nat) "QuorumStore$Network" "sent" "I") ∈ xw_T := xw_in 44 (by decide +kernel) (by decide +kernel)
theorem k_45 : (Cond.fieldLink "QuorumStore" (230 : Nat) "QuorumStore$Network" "sent" "I") ∈ xw_T := xw_in 45 (by decide +kernel) (by decide +kernel)
theorem k_46 : (Cond.fieldLink "QuorumStore$Network" (24 : Nat) "QuorumStore$Network" "lost" "I") ∈ xw_T := xw_in 46 (by decide +kernel) (by decide +kernel)
theorem k_47 : (Cond.fieldLink "QuorumStore" (233 : Nat) "QuorumStore$Network" "lost" "I") ∈ xw_T := xw_in 47 (by decide +kernel) (by decide +kernel)
theorem k_48 : (Cond.fieldLink "QuorumStore" (56 : Nat) "QuorumStore$Network" "delivered" "I") ∈ xw_T := xw_in 48 (by decide +kernel) (by decide +kernel)
theorem k_60 : (Cond.classLink "QuorumStore" (16 : Nat) "QuorumStore$Node") ∈ xw_T := xw_in 60 (by decide +kernel) (by decide +kernel)
theorem k_61 : (Cond.arrayOver (Jvm.ClassFile.FieldType.object "QuorumStore$Node")) ∈ xw_T := xw_in 61 (by decide +kernel) (by decide +kernel)
theorem k_62 : (Cond.instantiable "QuorumStore$Node" (15 : Nat)) ∈ xw_T := xw_in 62 (by decide +kernel) (by decide +kernel)
theorem k_63 : (Cond.methodLink "QuorumStore" (22 : Nat) ({ cls := "QuorumStore$Node", name := "<init>", desc := "(IILQuorumStore$Network;)V" } : Jvm.MethodName)) ∈ xw_T := xw_in 63 (by decide +kernel) (by decide +kernel)
theorem k_64 : (Cond.instanceMethod ({ cls := "QuorumStore$Node", name := "<init>", desc := "(IILQuorumStore$Network;)V" } : Jvm.MethodName)) ∈ xw_T := xw_in 64 (by decide +kernel) (by decide +kernel)
theorem k_65 : (Cond.code ({ cls := "QuorumStore$Node", name := "<init>", desc := "(IILQuorumStore$Network;)V" } : Jvm.MethodName) prog_5_method_1_code (4 : Nat) (Option.none : Option Jvm.ClassFile.FieldType)) ∈ xw_T := xw_in 65 (by decide +kernel) (by decide +kernel)
theorem k_66 : (Cond.methodLink "QuorumStore$Node" (3 : Nat) ({ cls := "java/lang/Object", name := "<init>", desc := "()V" } : Jvm.MethodName)) ∈ xw_T := xw_in 66 (by decide +kernel) (by decide +kernel)
theorem k_67 : (Cond.classLink "QuorumStore$Node" (9 : Nat) "QuorumStore$Row") ∈ xw_T := xw_in 67 (by decide +kernel) (by decide +kernel)
theorem k_68 : (Cond.instantiable "QuorumStore$Row" (3 : Nat)) ∈ xw_T := xw_in 68 (by decide +kernel) (by decide +kernel)
theorem k_69 : (Cond.methodLink "QuorumStore$Node" (11 : Nat) ({ cls := "QuorumStore$Row", name := "<init>", desc := "(I)V" } : Jvm.MethodName)) ∈ xw_T := xw_in 69 (by decide +kernel) (by decide +kernel)
theorem k_70 : (Cond.instanceMethod ({ cls := "QuorumStore$Row", name := "<init>", desc := "(I)V" } : Jvm.MethodName)) ∈ xw_T := xw_in 70 (by decide +kernel) (by decide +kernel)
theorem k_71 : (Cond.code ({ cls := "QuorumStore$Row", name := "<init>", desc := "(I)V" } : Jvm.MethodName) prog_6_method_1_code (2 : Nat) (Option.none : Option Jvm.ClassFile.FieldType)) ∈ xw_T := xw_in 71 (by decide +kernel) (by decide +kernel)
theorem k_72 : (Cond.methodLink "QuorumStore$Row" (1 : Nat) ({ cls := "java/lang/Object", name := "<init>", desc := "()V" } : Jvm.MethodName)) ∈ xw_T := xw_in 72 (by decide +kernel) (by decide +kernel)
theorem k_73 : (Cond.classLink "QuorumStore$Row" (16 : Nat) "QuorumStore$Value") ∈ xw_T := xw_in 73 (by decide +kernel) (by decide +kernel)
theorem k_74 : (Cond.arrayOver (Jvm.ClassFile.FieldType.object "QuorumStore$Value")) ∈ xw_T := xw_in 74 (by decide +kernel) (by decide +kernel)
theorem k_75 : (Cond.fieldLink "QuorumStore$Row" (7 : Nat) "QuorumStore$Row" "slots" "[I") ∈ xw_T := xw_in 75 (by decide +kernel) (by decide +kernel)
theorem k_76 : (Cond.fieldLink "QuorumStore$Row" (13 : Nat) "QuorumStore$Row" "marks" "[I") ∈ xw_T := xw_in 76 (by decide +kernel) (by decide +kernel)
theorem k_77 : (Cond.fieldLink "QuorumStore$Row" (18 : Nat) "QuorumStore$Row" "values" "[LQuorumStore$Value;") ∈ xw_T := xw_in 77 (by decide +kernel) (by decide +kernel)
theorem k_78 : (Cond.fieldLink "QuorumStore$Lead" (70 : Nat) "QuorumStore$Row" "values" "[LQuorumStore$Value;") ∈ xw_T := xw_in 78 (by decide +kernel) (by decide +kernel)
theorem k_86 : (Cond.arrayClass Jvm.ClassFile.FieldType.int) ∈ xw_T := xw_in 86 (by decide +kernel) (by decide +kernel)
theorem k_87 : (Cond.classLink "QuorumStore$Node" (23 : Nat) "QuorumStore$Lead") ∈ xw_T := xw_in 87 (by decide +kernel) (by decide +kernel)
theorem k_88 : (Cond.instantiable "QuorumStore$Lead" (8 : Nat)) ∈ xw_T := xw_in 88 (by decide +kernel) (by decide +kernel)
theorem k_89 : (Cond.methodLinkNest "QuorumStore$Node" (25 : Nat) ({ cls := "QuorumStore$Lead", name := "<init>", desc := "()V" } : Jvm.MethodName) "QuorumStore") ∈ xw_T := xw_in 89 (by decide +kernel) (by decide +kernel)
theorem k_90 : (Cond.instanceMethod ({ cls := "QuorumStore$Lead", name := "<init>", desc := "()V" } : Jvm.MethodName)) ∈ xw_T := xw_in 90 (by decide +kernel) (by decide +kernel)
theorem k_91 : (Cond.code ({ cls := "QuorumStore$Lead", name := "<init>", desc := "()V" } : Jvm.MethodName) prog_2_method_1_code (1 : Nat) (Option.none : Option Jvm.ClassFile.FieldType)) ∈ xw_T := xw_in 91 (by decide +kernel) (by decide +kernel)
theorem k_92 : (Cond.methodLink "QuorumStore$Lead" (3 : Nat) ({ cls := "java/lang/Object", name := "<init>", desc := "()V" } : Jvm.MethodName)) ∈ xw_T := xw_in 92 (by decide +kernel) (by decide +kernel)
theorem k_93 : (Cond.classLink "QuorumStore$Lead" (9 : Nat) "QuorumStore$Value") ∈ xw_T := xw_in 93 (by decide +kernel) (by decide +kernel)
theorem k_94 : (Cond.instantiable "QuorumStore$Value" (6 : Nat)) ∈ xw_T := xw_in 94 (by decide +kernel) (by decide +kernel)
theorem k_95 : (Cond.methodLink "QuorumStore$Lead" (11 : Nat) ({ cls := "QuorumStore$Value", name := "<init>", desc := "(IIIIII)V" } : Jvm.MethodName)) ∈ xw_T := xw_in 95 (by decide +kernel) (by decide +kernel)
theorem k_96 : (Cond.instanceMethod ({ cls := "QuorumStore$Value", name := "<init>", desc := "(IIIIII)V" } : Jvm.MethodName)) ∈ xw_T := xw_in 96 (by decide +kernel) (by decide +kernel)
theorem k_97 : (Cond.code ({ cls := "QuorumStore$Value", name := "<init>", desc := "(IIIIII)V" } : Jvm.MethodName) prog_8_method_1_code (7 : Nat) (Option.none : Option Jvm.ClassFile.FieldType)) ∈ xw_T := xw_in 97 (by decide +kernel) (by decide +kernel)
theorem k_98 : (Cond.methodLink "QuorumStore$Value" (1 : Nat) ({ cls := "java/lang/Object", name := "<init>", desc := "()V" } : Jvm.MethodName)) ∈ xw_T := xw_in 98 (by decide +kernel) (by decide +kernel)
theorem k_99 : (Cond.fieldLink "QuorumStore$Value" (7 : Nat) "QuorumStore$Value" "kind" "I") ∈ xw_T := xw_in 99 (by decide +kernel) (by decide +kernel)
theorem k_100 : (Cond.fieldLink "QuorumStore$State" (48 : Nat) "QuorumStore$Value" "kind" "I") ∈ xw_T := xw_in 100 (by decide +kernel) (by decide +kernel)
theorem k_101 : (Cond.fieldLink "QuorumStore" (168 : Nat) "QuorumStore$Value" "kind" "I") ∈ xw_T := xw_in 101 (by decide +kernel) (by decide +kernel)
theorem k_102 : (Cond.fieldLink "QuorumStore$Value" (13 : Nat) "QuorumStore$Value" "client" "I") ∈ xw_T := xw_in 102 (by decide +kernel) (by decide +kernel)
theorem k_103 : (Cond.fieldLink "QuorumStore$State" (56 : Nat) "QuorumStore$Value" "client" "I") ∈ xw_T := xw_in 103 (by decide +kernel) (by decide +kernel)
theorem k_104 : (Cond.fieldLink "QuorumStore$Lead" (73 : Nat) "QuorumStore$Value" "client" "I") ∈ xw_T := xw_in 104 (by decide +kernel) (by decide +kernel)
theorem k_105 : (Cond.fieldLink "QuorumStore" (169 : Nat) "QuorumStore$Value" "client" "I") ∈ xw_T := xw_in 105 (by decide +kernel) (by decide +kernel)
theorem k_106 : (Cond.fieldLink "QuorumStore$Value" (16 : Nat) "QuorumStore$Value" "seq" "I") ∈ xw_T := xw_in 106 (by decide +kernel) (by decide +kernel)
theorem k_107 : (Cond.fieldLink "QuorumStore$State" (53 : Nat) "QuorumStore$Value" "seq" "I") ∈ xw_T := xw_in 107 (by decide +kernel) (by decide +kernel)
theorem k_108 : (Cond.fieldLink "QuorumStore$Lead" (76 : Nat) "QuorumStore$Value" "seq" "I") ∈ xw_T := xw_in 108 (by decide +kernel) (by decide +kernel)
theorem k_109 : (Cond.fieldLink "QuorumStore" (172 : Nat) "QuorumStore$Value" "seq" "I") ∈ xw_T := xw_in 109 (by decide +kernel) (by decide +kernel)
theorem k_110 : (Cond.fieldLink "QuorumStore$Value" (19 : Nat) "QuorumStore$Value" "key" "I") ∈ xw_T := xw_in 110 (by decide +kernel) (by decide +kernel)
theorem k_111 : (Cond.fieldLink "QuorumStore$State" (70 : Nat) "QuorumStore$Value" "key" "I") ∈ xw_T := xw_in 111 (by decide +kernel) (by decide +kernel)
theorem k_112 : (Cond.fieldLink "QuorumStore" (175 : Nat) "QuorumStore$Value" "key" "I") ∈ xw_T := xw_in 112 (by decide +kernel) (by decide +kernel)
theorem k_113 : (Cond.fieldLink "QuorumStore$Value" (22 : Nat) "QuorumStore$Value" "a" "I") ∈ xw_T := xw_in 113 (by decide +kernel) (by decide +kernel)
theorem k_114 : (Cond.fieldLink "QuorumStore$State" (59 : Nat) "QuorumStore$Value" "a" "I") ∈ xw_T := xw_in 114 (by decide +kernel) (by decide +kernel)
theorem k_115 : (Cond.fieldLink "QuorumStore" (178 : Nat) "QuorumStore$Value" "a" "I") ∈ xw_T := xw_in 115 (by decide +kernel) (by decide +kernel)
theorem k_116 : (Cond.fieldLink "QuorumStore$Value" (25 : Nat) "QuorumStore$Value" "b" "I") ∈ xw_T := xw_in 116 (by decide +kernel) (by decide +kernel)
theorem k_117 : (Cond.fieldLink "QuorumStore$State" (73 : Nat) "QuorumStore$Value" "b" "I") ∈ xw_T := xw_in 117 (by decide +kernel) (by decide +kernel)
theorem k_118 : (Cond.fieldLink "QuorumStore" (181 : Nat) "QuorumStore$Value" "b" "I") ∈ xw_T := xw_in 118 (by decide +kernel) (by decide +kernel)
theorem k_132 : (Cond.classLink "QuorumStore$Lead" (20 : Nat) "QuorumStore$Row") ∈ xw_T := xw_in 132 (by decide +kernel) (by decide +kernel)
theorem k_133 : (Cond.methodLink "QuorumStore$Lead" (22 : Nat) ({ cls := "QuorumStore$Row", name := "<init>", desc := "(I)V" } : Jvm.MethodName)) ∈ xw_T := xw_in 133 (by decide +kernel) (by decide +kernel)
theorem k_134 : (Cond.fieldLink "QuorumStore$Lead" (14 : Nat) "QuorumStore$Lead" "nothing" "LQuorumStore$Value;") ∈ xw_T := xw_in 134 (by decide +kernel) (by decide +kernel)
theorem k_135 : (Cond.fieldLink "QuorumStore$Lead" (36 : Nat) "QuorumStore$Lead" "grants" "I") ∈ xw_T := xw_in 135 (by decide +kernel) (by decide +kernel)
theorem k_136 : (Cond.fieldLink "QuorumStore$Node" (103 : Nat) "QuorumStore$Lead" "grants" "I") ∈ xw_T := xw_in 136 (by decide +kernel) (by decide +kernel)
theorem k_137 : (Cond.fieldLink "QuorumStore" (216 : Nat) "QuorumStore$Lead" "grants" "I") ∈ xw_T := xw_in 137 (by decide +kernel) (by decide +kernel)
theorem k_138 : (Cond.fieldLink "QuorumStore$Lead" (25 : Nat) "QuorumStore$Lead" "best" "LQuorumStore$Row;") ∈ xw_T := xw_in 138 (by decide +kernel) (by decide +kernel)
theorem k_139 : (Cond.fieldLink "QuorumStore$Node" (164 : Nat) "QuorumStore$Lead" "best" "LQuorumStore$Row;") ∈ xw_T := xw_in 139 (by decide +kernel) (by decide +kernel)
theorem k_140 : (Cond.fieldLink "QuorumStore$Lead" (29 : Nat) "QuorumStore$Lead" "proposals" "LQuorumStore$Row;") ∈ xw_T := xw_in 140 (by decide +kernel) (by decide +kernel)
theorem k_141 : (Cond.fieldLink "QuorumStore$Node" (106 : Nat) "QuorumStore$Lead" "proposals" "LQuorumStore$Row;") ∈ xw_T := xw_in 141 (by decide +kernel) (by decide +kernel)
theorem k_142 : (Cond.fieldLink "QuorumStore" (219 : Nat) "QuorumStore$Lead" "proposals" "LQuorumStore$Row;") ∈ xw_T := xw_in 142 (by decide +kernel) (by decide +kernel)
theorem k_143 : (Cond.fieldLink "QuorumStore$Lead" (32 : Nat) "QuorumStore$Lead" "queue" "[LQuorumStore$Value;") ∈ xw_T := xw_in 143 (by decide +kernel) (by decide +kernel)
theorem k_144 : (Cond.fieldLink "QuorumStore$Lead" (43 : Nat) "QuorumStore$Lead" "queued" "I") ∈ xw_T := xw_in 144 (by decide +kernel) (by decide +kernel)
theorem k_145 : (Cond.fieldLink "QuorumStore" (211 : Nat) "QuorumStore$Lead" "queued" "I") ∈ xw_T := xw_in 145 (by decide +kernel) (by decide +kernel)
theorem k_146 : (Cond.fieldLink "QuorumStore$Node" (133 : Nat) "QuorumStore$Lead" "settledAt" "I") ∈ xw_T := xw_in 146 (by decide +kernel) (by decide +kernel)
theorem k_147 : (Cond.fieldLink "QuorumStore$Node" (136 : Nat) "QuorumStore$Lead" "settledPeers" "I") ∈ xw_T := xw_in 147 (by decide +kernel) (by decide +kernel)
theorem k_165 : (Cond.classLink "QuorumStore$Node" (38 : Nat) "QuorumStore$State") ∈ xw_T := xw_in 165 (by decide +kernel) (by decide +kernel)
theorem k_166 : (Cond.instantiable "QuorumStore$State" (6 : Nat)) ∈ xw_T := xw_in 166 (by decide +kernel) (by decide +kernel)
theorem k_167 : (Cond.methodLink "QuorumStore$Node" (40 : Nat) ({ cls := "QuorumStore$State", name := "<init>", desc := "(I)V" } : Jvm.MethodName)) ∈ xw_T := xw_in 167 (by decide +kernel) (by decide +kernel)
theorem k_168 : (Cond.instanceMethod ({ cls := "QuorumStore$State", name := "<init>", desc := "(I)V" } : Jvm.MethodName)) ∈ xw_T := xw_in 168 (by decide +kernel) (by decide +kernel)
theorem k_169 : (Cond.code ({ cls := "QuorumStore$State", name := "<init>", desc := "(I)V" } : Jvm.MethodName) prog_7_method_1_code (3 : Nat) (Option.none : Option Jvm.ClassFile.FieldType)) ∈ xw_T := xw_in 169 (by decide +kernel) (by decide +kernel)
theorem k_170 : (Cond.methodLink "QuorumStore$State" (3 : Nat) ({ cls := "java/lang/Object", name := "<init>", desc := "()V" } : Jvm.MethodName)) ∈ xw_T := xw_in 170 (by decide +kernel) (by decide +kernel)
theorem k_171 : (Cond.constantLong "QuorumStore$State" (28 : Nat) (1099511627776 : Int64)) ∈ xw_T := xw_in 171 (by decide +kernel) (by decide +kernel)
theorem k_172 : (Cond.fieldLink "QuorumStore$State" (9 : Nat) "QuorumStore$State" "numbers" "[J") ∈ xw_T := xw_in 172 (by decide +kernel) (by decide +kernel)
theorem k_173 : (Cond.fieldLink "QuorumStore" (156 : Nat) "QuorumStore$State" "numbers" "[J") ∈ xw_T := xw_in 173 (by decide +kernel) (by decide +kernel)
theorem k_174 : (Cond.fieldLink "QuorumStore$State" (15 : Nat) "QuorumStore$State" "seqs" "[I") ∈ xw_T := xw_in 174 (by decide +kernel) (by decide +kernel)
theorem k_175 : (Cond.fieldLink "QuorumStore" (139 : Nat) "QuorumStore$State" "seqs" "[I") ∈ xw_T := xw_in 175 (by decide +kernel) (by decide +kernel)
theorem k_176 : (Cond.fieldLink "QuorumStore$Node" (184 : Nat) "QuorumStore$State" "seqs" "[I") ∈ xw_T := xw_in 176 (by decide +kernel) (by decide +kernel)
theorem k_177 : (Cond.fieldLink "QuorumStore$State" (19 : Nat) "QuorumStore$State" "results" "[J") ∈ xw_T := xw_in 177 (by decide +kernel) (by decide +kernel)
theorem k_178 : (Cond.fieldLink "QuorumStore" (145 : Nat) "QuorumStore$State" "results" "[J") ∈ xw_T := xw_in 178 (by decide +kernel) (by decide +kernel)
theorem k_179 : (Cond.fieldLink "QuorumStore$State" (22 : Nat) "QuorumStore$State" "configSlots" "[I") ∈ xw_T := xw_in 179 (by decide +kernel) (by decide +kernel)
theorem k_180 : (Cond.fieldLink "QuorumStore$State" (25 : Nat) "QuorumStore$State" "configMasks" "[I") ∈ xw_T := xw_in 180 (by decide +kernel) (by decide +kernel)
theorem k_181 : (Cond.fieldLink "QuorumStore$State" (30 : Nat) "QuorumStore$State" "configs" "I") ∈ xw_T := xw_in 181 (by decide +kernel) (by decide +kernel)
theorem k_182 : (Cond.fieldLink "QuorumStore" (225 : Nat) "QuorumStore$State" "configs" "I") ∈ xw_T := xw_in 182 (by decide +kernel) (by decide +kernel)
theorem k_196 : (Cond.arrayClass Jvm.ClassFile.FieldType.long) ∈ xw_T := xw_in 196 (by decide +kernel) (by decide +kernel)
theorem k_197 : (Cond.fieldLink "QuorumStore$Node" (30 : Nat) "QuorumStore$Node" "number" "I") ∈ xw_T := xw_in 197 (by decide +kernel) (by decide +kernel)
theorem k_198 : (Cond.fieldLink "QuorumStore$Node" (34 : Nat) "QuorumStore$Node" "network" "LQuorumStore$Network;") ∈ xw_T := xw_in 198 (by decide +kernel) (by decide +kernel)
theorem k_199 : (Cond.fieldLink "QuorumStore$Node" (120 : Nat) "QuorumStore$Node" "promised" "I") ∈ xw_T := xw_in 199 (by decide +kernel) (by decide +kernel)
theorem k_200 : (Cond.fieldLink "QuorumStore" (188 : Nat) "QuorumStore$Node" "promised" "I") ∈ xw_T := xw_in 200 (by decide +kernel) (by decide +kernel)
theorem k_201 : (Cond.fieldLink "QuorumStore$Node" (70 : Nat) "QuorumStore$Node" "applied" "I") ∈ xw_T := xw_in 201 (by decide +kernel) (by decide +kernel)
theorem k_202 : (Cond.fieldLink "QuorumStore" (191 : Nat) "QuorumStore$Node" "applied" "I") ∈ xw_T := xw_in 202 (by decide +kernel) (by decide +kernel)
theorem k_203 : (Cond.fieldLink "QuorumStore" (194 : Nat) "QuorumStore$Node" "base" "I") ∈ xw_T := xw_in 203 (by decide +kernel) (by decide +kernel)
theorem k_204 : (Cond.fieldLink "QuorumStore$Node" (181 : Nat) "QuorumStore$Node" "base" "I") ∈ xw_T := xw_in 204 (by decide +kernel) (by decide +kernel)
theorem k_205 : (Cond.fieldLink "QuorumStore$Node" (41 : Nat) "QuorumStore$Node" "state" "LQuorumStore$State;") ∈ xw_T := xw_in 205 (by decide +kernel) (by decide +kernel)
theorem k_206 : (Cond.fieldLink "QuorumStore" (135 : Nat) "QuorumStore$Node" "state" "LQuorumStore$State;") ∈ xw_T := xw_in 206 (by decide +kernel) (by decide +kernel)
theorem k_207 : (Cond.fieldLink "QuorumStore$Node" (14 : Nat) "QuorumStore$Node" "accepted" "LQuorumStore$Row;") ∈ xw_T := xw_in 207 (by decide +kernel) (by decide +kernel)
theorem k_208 : (Cond.fieldLink "QuorumStore" (222 : Nat) "QuorumStore$Node" "accepted" "LQuorumStore$Row;") ∈ xw_T := xw_in 208 (by decide +kernel) (by decide +kernel)
theorem k_209 : (Cond.fieldLink "QuorumStore$Node" (20 : Nat) "QuorumStore$Node" "known" "LQuorumStore$Row;") ∈ xw_T := xw_in 209 (by decide +kernel) (by decide +kernel)
theorem k_210 : (Cond.fieldLink "QuorumStore" (159 : Nat) "QuorumStore$Node" "known" "LQuorumStore$Row;") ∈ xw_T := xw_in 210 (by decide +kernel) (by decide +kernel)
theorem k_211 : (Cond.fieldLink "QuorumStore$Node" (45 : Nat) "QuorumStore$Node" "live" "Z") ∈ xw_T := xw_in 211 (by decide +kernel) (by decide +kernel)
theorem k_212 : (Cond.fieldLink "QuorumStore" (52 : Nat) "QuorumStore$Node" "live" "Z") ∈ xw_T := xw_in 212 (by decide +kernel) (by decide +kernel)
theorem k_213 : (Cond.fieldLink "QuorumStore$Node" (58 : Nat) "QuorumStore$Node" "leads" "Z") ∈ xw_T := xw_in 213 (by decide +kernel) (by decide +kernel)
theorem k_214 : (Cond.fieldLink "QuorumStore" (184 : Nat) "QuorumStore$Node" "leads" "Z") ∈ xw_T := xw_in 214 (by decide +kernel) (by decide +kernel)
theorem k_215 : (Cond.fieldLink "QuorumStore$Node" (61 : Nat) "QuorumStore$Node" "ballot" "I") ∈ xw_T := xw_in 215 (by decide +kernel) (by decide +kernel)
theorem k_216 : (Cond.fieldLink "QuorumStore" (187 : Nat) "QuorumStore$Node" "ballot" "I") ∈ xw_T := xw_in 216 (by decide +kernel) (by decide +kernel)
theorem k_217 : (Cond.fieldLink "QuorumStore$Node" (52 : Nat) "QuorumStore$Node" "timer" "I") ∈ xw_T := xw_in 217 (by decide +kernel) (by decide +kernel)
theorem k_218 : (Cond.fieldLink "QuorumStore" (204 : Nat) "QuorumStore$Node" "timer" "I") ∈ xw_T := xw_in 218 (by decide +kernel) (by decide +kernel)
theorem k_219 : (Cond.fieldLink "QuorumStore$Node" (49 : Nat) "QuorumStore$Node" "leader" "I") ∈ xw_T := xw_in 219 (by decide +kernel) (by decide +kernel)
theorem k_220 : (Cond.fieldLink "QuorumStore" (201 : Nat) "QuorumStore$Node" "leader" "I") ∈ xw_T := xw_in 220 (by decide +kernel) (by decide +kernel)
theorem k_221 : (Cond.fieldLink "QuorumStore$Node" (64 : Nat) "QuorumStore$Node" "told" "I") ∈ xw_T := xw_in 221 (by decide +kernel) (by decide +kernel)
theorem k_222 : (Cond.fieldLink "QuorumStore$Node" (26 : Nat) "QuorumStore$Node" "lead" "LQuorumStore$Lead;") ∈ xw_T := xw_in 222 (by decide +kernel) (by decide +kernel)
theorem k_223 : (Cond.fieldLink "QuorumStore" (207 : Nat) "QuorumStore$Node" "lead" "LQuorumStore$Lead;") ∈ xw_T := xw_in 223 (by decide +kernel) (by decide +kernel)
theorem k_255 : (Cond.fieldLink "QuorumStore" (12 : Nat) "QuorumStore" "network" "LQuorumStore$Network;") ∈ xw_T := xw_in 255 (by decide +kernel) (by decide +kernel)
theorem k_256 : (Cond.fieldLink "QuorumStore" (18 : Nat) "QuorumStore" "nodes" "[LQuorumStore$Node;") ∈ xw_T := xw_in 256 (by decide +kernel) (by decide +kernel)
theorem k_257 : (Cond.fieldLink "QuorumStore" (114 : Nat) "QuorumStore" "nextKey" "I") ∈ xw_T := xw_in 257 (by decide +kernel) (by decide +kernel)
theorem k_265 : (Cond.methodLink "QuorumStoreLaw" (120 : Nat) ({ cls := "QuorumStore", name := "count", desc := "(I)I" } : Jvm.MethodName)) ∈ xw_T := xw_in 265 (by decide +kernel) (by decide +kernel)
theorem k_266 : (Cond.instanceMethod ({ cls := "QuorumStore", name := "count", desc := "(I)I" } : Jvm.MethodName)) ∈ xw_T := xw_in 266 (by decide +kernel) (by decide +kernel)
theorem k_267 : (Cond.selects "QuorumStore" ({ cls := "QuorumStore", name := "count", desc := "(I)I" } : Jvm.MethodName) ({ cls := "QuorumStore", name := "count", desc := "(I)I" } : Jvm.MethodName)) ∈ xw_T := xw_in 267 (by decide +kernel) (by decide +kernel)
theorem k_268 : (Cond.code ({ cls := "QuorumStore", name := "count", desc := "(I)I" } : Jvm.MethodName) prog_1_method_15_code (2 : Nat) (Option.some Jvm.ClassFile.FieldType.int)) ∈ xw_T := xw_in 268 (by decide +kernel) (by decide +kernel)
theorem k_269 : (Cond.methodLink "QuorumStoreLaw" (61 : Nat) ({ cls := "QuorumStoreLaw", name := "cell", desc := "([II)I" } : Jvm.MethodName)) ∈ xw_T := xw_in 269 (by decide +kernel) (by decide +kernel)
theorem k_270 : (Cond.static ({ cls := "QuorumStoreLaw", name := "cell", desc := "([II)I" } : Jvm.MethodName)) ∈ xw_T := xw_in 270 (by decide +kernel) (by decide +kernel)
theorem k_271 : (Cond.code ({ cls := "QuorumStoreLaw", name := "cell", desc := "([II)I" } : Jvm.MethodName) method_2_code (2 : Nat) (Option.some Jvm.ClassFile.FieldType.int)) ∈ xw_T := xw_in 271 (by decide +kernel) (by decide +kernel)
theorem k_272 : (Cond.methodLink "QuorumStoreLaw" (72 : Nat) ({ cls := "QuorumStoreLaw", name := "tick", desc := "(LQuorumStore;I[J)I" } : Jvm.MethodName)) ∈ xw_T := xw_in 272 (by decide +kernel) (by decide +kernel)
theorem k_273 : (Cond.static ({ cls := "QuorumStoreLaw", name := "tick", desc := "(LQuorumStore;I[J)I" } : Jvm.MethodName)) ∈ xw_T := xw_in 273 (by decide +kernel) (by decide +kernel)
theorem k_275 : (Cond.classLink "QuorumStoreLaw" (13 : Nat) "java/lang/IllegalArgumentException") ∈ xw_T := xw_in 275 (by decide +kernel) (by decide +kernel)
theorem k_276 : (Cond.methodLink "QuorumStoreLaw" (7 : Nat) ({ cls := "QuorumStore", name := "tick", desc := "(I)I" } : Jvm.MethodName)) ∈ xw_T := xw_in 276 (by decide +kernel) (by decide +kernel)
theorem k_277 : (Cond.instanceMethod ({ cls := "QuorumStore", name := "tick", desc := "(I)I" } : Jvm.MethodName)) ∈ xw_T := xw_in 277 (by decide +kernel) (by decide +kernel)
theorem k_278 : (Cond.selects "QuorumStore" ({ cls := "QuorumStore", name := "tick", desc := "(I)I" } : Jvm.MethodName) ({ cls := "QuorumStore", name := "tick", desc := "(I)I" } : Jvm.MethodName)) ∈ xw_T := xw_in 278 (by decide +kernel) (by decide +kernel)
theorem k_279 : (Cond.code ({ cls := "QuorumStore", name := "tick", desc := "(I)I" } : Jvm.MethodName) prog_1_method_2_code (4 : Nat) (Option.some Jvm.ClassFile.FieldType.int)) ∈ xw_T := xw_in 279 (by decide +kernel) (by decide +kernel)
theorem k_280 : (Cond.classLink "QuorumStore" (25 : Nat) "java/lang/IllegalArgumentException") ∈ xw_T := xw_in 280 (by decide +kernel) (by decide +kernel)
theorem k_281 : (Cond.instantiable "java/lang/IllegalArgumentException" (6 : Nat)) ∈ xw_T := xw_in 281 (by decide +kernel) (by decide +kernel)
theorem k_282 : (Cond.castable "java/lang/IllegalArgumentException" "java/lang/IllegalArgumentException") ∈ xw_T := xw_in 282 (by decide +kernel) (by decide +kernel)
theorem k_289 : (Cond.selects "java/lang/IllegalArgumentException" ({ cls := "java/lang/Throwable", name := "fillInStackTrace", desc := "(I)Ljava/lang/Throwable;" } : Jvm.MethodName) ({ cls := "java/lang/Throwable", name := "fillInStackTrace", desc := "(I)Ljava/lang/Throwable;" } : Jvm.MethodName)) ∈ xw_T := xw_in 289 (by decide +kernel) (by decide +kernel)
theorem k_290 : (Cond.selects "java/lang/IllegalArgumentException" ({ cls := "java/lang/Throwable", name := "fillInStackTrace", desc := "()Ljava/lang/Throwable;" } : Jvm.MethodName) ({ cls := "java/lang/Throwable", name := "fillInStackTrace", desc := "()Ljava/lang/Throwable;" } : Jvm.MethodName)) ∈ xw_T := xw_in 290 (by decide +kernel) (by decide +kernel)
theorem k_301 : (Cond.fieldLink "java/lang/Throwable" (198 : Nat) "java/lang/Throwable" "backtrace" "Ljava/lang/Object;") ∈ xw_T := xw_in 301 (by decide +kernel) (by decide +kernel)
theorem k_303 : (Cond.instanceMethod ({ cls := "java/lang/Throwable", name := "<init>", desc := "()V" } : Jvm.MethodName)) ∈ xw_T := xw_in 303 (by decide +kernel) (by decide +kernel)
theorem k_305 : (Cond.methodLink "java/lang/Throwable" (1 : Nat) ({ cls := "java/lang/Object", name := "<init>", desc := "()V" } : Jvm.MethodName)) ∈ xw_T := xw_in 305 (by decide +kernel) (by decide +kernel)
theorem k_306 : (Cond.fieldLink "java/lang/Throwable" (13 : Nat) "java/lang/Throwable" "UNASSIGNED_STACK" "[Ljava/lang/StackTraceElement;") ∈ xw_T := xw_in 306 (by decide +kernel) (by decide +kernel)
theorem k_308 : (Cond.fieldLink "java/lang/Throwable" (20 : Nat) "java/lang/Throwable" "SUPPRESSED_SENTINEL" "Ljava/util/List;") ∈ xw_T := xw_in 308 (by decide +kernel) (by decide +kernel)
theorem k_310 : (Cond.methodLink "java/lang/Throwable" (27 : Nat) ({ cls := "java/lang/Throwable", name := "fillInStackTrace", desc := "()Ljava/lang/Throwable;" } : Jvm.MethodName)) ∈ xw_T := xw_in 310 (by decide +kernel) (by decide +kernel)
theorem k_311 : (Cond.instanceMethod ({ cls := "java/lang/Throwable", name := "fillInStackTrace", desc := "()Ljava/lang/Throwable;" } : Jvm.MethodName)) ∈ xw_T := xw_in 311 (by decide +kernel) (by decide +kernel)
theorem k_313 : (Cond.selects "java/lang/IllegalStateException" ({ cls := "java/lang/Throwable", name := "fillInStackTrace", desc := "()Ljava/lang/Throwable;" } : Jvm.MethodName) ({ cls := "java/lang/Throwable", name := "fillInStackTrace", desc := "()Ljava/lang/Throwable;" } : Jvm.MethodName)) ∈ xw_T := xw_in 313 (by decide +kernel) (by decide +kernel)
theorem k_314 : (Cond.selects "java/util/NoSuchElementException" ({ cls := "java/lang/Throwable", name := "fillInStackTrace", desc := "()Ljava/lang/Throwable;" } : Jvm.MethodName) ({ cls := "java/lang/Throwable", name := "fillInStackTrace", desc := "()Ljava/lang/Throwable;" } : Jvm.MethodName)) ∈ xw_T := xw_in 314 (by decide +kernel) (by decide +kernel)
theorem k_316 : (Cond.methodLink "java/lang/Throwable" (202 : Nat) ({ cls := "java/lang/Throwable", name := "fillInStackTrace", desc := "(I)Ljava/lang/Throwable;" } : Jvm.MethodName)) ∈ xw_T := xw_in 316 (by decide +kernel) (by decide +kernel)
theorem k_318 : (Cond.instanceMethod ({ cls := "java/lang/Throwable", name := "fillInStackTrace", desc := "(I)Ljava/lang/Throwable;" } : Jvm.MethodName)) ∈ xw_T := xw_in 318 (by decide +kernel) (by decide +kernel)
theorem k_319 : (Cond.instantiable "java/lang/Throwable" (6 : Nat)) ∈ xw_T := xw_in 319 (by decide +kernel) (by decide +kernel)
theorem k_322 : (Cond.methodLink "QuorumStore" (29 : Nat) ({ cls := "java/lang/IllegalArgumentException", name := "<init>", desc := "(Ljava/lang/String;)V" } : Jvm.MethodName)) ∈ xw_T := xw_in 322 (by decide +kernel) (by decide +kernel)
theorem k_323 : (Cond.instanceMethod ({ cls := "java/lang/IllegalArgumentException", name := "<init>", desc := "(Ljava/lang/String;)V" } : Jvm.MethodName)) ∈ xw_T := xw_in 323 (by decide +kernel) (by decide +kernel)
theorem k_325 : (Cond.methodLink "java/lang/IllegalArgumentException" (7 : Nat) ({ cls := "java/lang/RuntimeException", name := "<init>", desc := "(Ljava/lang/String;)V" } : Jvm.MethodName)) ∈ xw_T := xw_in 325 (by decide +kernel) (by decide +kernel)
theorem k_326 : (Cond.instanceMethod ({ cls := "java/lang/RuntimeException", name := "<init>", desc := "(Ljava/lang/String;)V" } : Jvm.MethodName)) ∈ xw_T := xw_in 326 (by decide +kernel) (by decide +kernel)
theorem k_328 : (Cond.methodLink "java/lang/RuntimeException" (7 : Nat) ({ cls := "java/lang/Exception", name := "<init>", desc := "(Ljava/lang/String;)V" } : Jvm.MethodName)) ∈ xw_T := xw_in 328 (by decide +kernel) (by decide +kernel)
theorem k_329 : (Cond.instanceMethod ({ cls := "java/lang/Exception", name := "<init>", desc := "(Ljava/lang/String;)V" } : Jvm.MethodName)) ∈ xw_T := xw_in 329 (by decide +kernel) (by decide +kernel)
theorem k_331 : (Cond.methodLink "java/lang/Exception" (7 : Nat) ({ cls := "java/lang/Throwable", name := "<init>", desc := "(Ljava/lang/String;)V" } : Jvm.MethodName)) ∈ xw_T := xw_in 331 (by decide +kernel) (by decide +kernel)
theorem k_332 : (Cond.instanceMethod ({ cls := "java/lang/Throwable", name := "<init>", desc := "(Ljava/lang/String;)V" } : Jvm.MethodName)) ∈ xw_T := xw_in 332 (by decide +kernel) (by decide +kernel)
theorem k_334 : (Cond.fieldLink "java/lang/Throwable" (198 : Nat) "java/lang/Throwable" "backtrace" "Ljava/lang/Object;") ∈ xw_T := xw_in 334 (by decide +kernel) (by decide +kernel)
theorem k_335 : (Cond.fieldLink "java/lang/Throwable" (31 : Nat) "java/lang/Throwable" "detailMessage" "Ljava/lang/String;") ∈ xw_T := xw_in 335 (by decide +kernel) (by decide +kernel)
theorem k_336 : (Cond.fieldLink "java/lang/Throwable" (7 : Nat) "java/lang/Throwable" "cause" "Ljava/lang/Throwable;") ∈ xw_T := xw_in 336 (by decide +kernel) (by decide +kernel)
theorem k_337 : (Cond.fieldLink "java/lang/Throwable" (17 : Nat) "java/lang/Throwable" "stackTrace" "[Ljava/lang/StackTraceElement;") ∈ xw_T := xw_in 337 (by decide +kernel) (by decide +kernel)
theorem k_338 : (Cond.fieldLink "java/lang/Throwable" (24 : Nat) "java/lang/Throwable" "suppressedExceptions" "Ljava/util/List;") ∈ xw_T := xw_in 338 (by decide +kernel) (by decide +kernel)
theorem k_347 : (Cond.arrayClass Jvm.ClassFile.FieldType.byte) ∈ xw_T := xw_in 347 (by decide +kernel) (by decide +kernel)
theorem k_348 : (Cond.methodLink "QuorumStore" (32 : Nat) ({ cls := "QuorumStore$Node", name := "passTime", desc := "()V" } : Jvm.MethodName)) ∈ xw_T := xw_in 348 (by decide +kernel) (by decide +kernel)
theorem k_349 : (Cond.instanceMethod ({ cls := "QuorumStore$Node", name := "passTime", desc := "()V" } : Jvm.MethodName)) ∈ xw_T := xw_in 349 (by decide +kernel) (by decide +kernel)
theorem k_350 : (Cond.selects "QuorumStore$Node" ({ cls := "QuorumStore$Node", name := "passTime", desc := "()V" } : Jvm.MethodName) ({ cls := "QuorumStore$Node", name := "passTime", desc := "()V" } : Jvm.MethodName)) ∈ xw_T := xw_in 350 (by decide +kernel) (by decide +kernel)
theorem k_351 : (Cond.code ({ cls := "QuorumStore$Node", name := "passTime", desc := "()V" } : Jvm.MethodName) prog_5_method_9_code (1 : Nat) (Option.none : Option Jvm.ClassFile.FieldType)) ∈ xw_T := xw_in 351 (by decide +kernel) (by decide +kernel)
theorem k_352 : (Cond.methodLink "QuorumStore$Node" (87 : Nat) ({ cls := "QuorumStore$Node", name := "beat", desc := "()V" } : Jvm.MethodName)) ∈ xw_T := xw_in 352 (by decide +kernel) (by decide +kernel)
theorem k_354 : (Cond.instanceMethod ({ cls := "QuorumStore$Node", name := "beat", desc := "()V" } : Jvm.MethodName)) ∈ xw_T := xw_in 354 (by decide +kernel) (by decide +kernel)
theorem k_355 : (Cond.code ({ cls := "QuorumStore$Node", name := "beat", desc := "()V" } : Jvm.MethodName) prog_5_method_10_code (5 : Nat) (Option.none : Option Jvm.ClassFile.FieldType)) ∈ xw_T := xw_in 355 (by decide +kernel) (by decide +kernel)
theorem k_356 : (Cond.methodLink "QuorumStore$Node" (99 : Nat) ({ cls := "QuorumStore$Node", name := "peers", desc := "()I" } : Jvm.MethodName)) ∈ xw_T := xw_in 356 (by decide +kernel) (by decide +kernel)
theorem k_358 : (Cond.instanceMethod ({ cls := "QuorumStore$Node", name := "peers", desc := "()I" } : Jvm.MethodName)) ∈ xw_T := xw_in 358 (by decide +kernel) (by decide +kernel)
theorem k_359 : (Cond.code ({ cls := "QuorumStore$Node", name := "peers", desc := "()I" } : Jvm.MethodName) prog_5_method_6_code (1 : Nat) (Option.some Jvm.ClassFile.FieldType.int)) ∈ xw_T := xw_in 359 (by decide +kernel) (by decide +kernel)
theorem k_360 : (Cond.methodLink "QuorumStore$Node" (73 : Nat) ({ cls := "QuorumStore$State", name := "membersBehind", desc := "(I)I" } : Jvm.MethodName)) ∈ xw_T := xw_in 360 (by decide +kernel) (by decide +kernel)
theorem k_361 : (Cond.instanceMethod ({ cls := "QuorumStore$State", name := "membersBehind", desc := "(I)I" } : Jvm.MethodName)) ∈ xw_T := xw_in 361 (by decide +kernel) (by decide +kernel)
theorem k_362 : (Cond.selects "QuorumStore$State" ({ cls := "QuorumStore$State", name := "membersBehind", desc := "(I)I" } : Jvm.MethodName) ({ cls := "QuorumStore$State", name := "membersBehind", desc := "(I)I" } : Jvm.MethodName)) ∈ xw_T := xw_in 362 (by decide +kernel) (by decide +kernel)
theorem k_363 : (Cond.code ({ cls := "QuorumStore$State", name := "membersBehind", desc := "(I)I" } : Jvm.MethodName) prog_7_method_4_code (4 : Nat) (Option.some Jvm.ClassFile.FieldType.int)) ∈ xw_T := xw_in 363 (by decide +kernel) (by decide +kernel)
theorem k_364 : (Cond.methodLink "QuorumStore$State" (40 : Nat) ({ cls := "QuorumStore$State", name := "configAt", desc := "(I)I" } : Jvm.MethodName)) ∈ xw_T := xw_in 364 (by decide +kernel) (by decide +kernel)
theorem k_365 : (Cond.instanceMethod ({ cls := "QuorumStore$State", name := "configAt", desc := "(I)I" } : Jvm.MethodName)) ∈ xw_T := xw_in 365 (by decide +kernel) (by decide +kernel)
theorem k_366 : (Cond.selects "QuorumStore$State" ({ cls := "QuorumStore$State", name := "configAt", desc := "(I)I" } : Jvm.MethodName) ({ cls := "QuorumStore$State", name := "configAt", desc := "(I)I" } : Jvm.MethodName)) ∈ xw_T := xw_in 366 (by decide +kernel) (by decide +kernel)
theorem k_367 : (Cond.code ({ cls := "QuorumStore$State", name := "configAt", desc := "(I)I" } : Jvm.MethodName) prog_7_method_3_code (3 : Nat) (Option.some Jvm.ClassFile.FieldType.int)) ∈ xw_T := xw_in 367 (by decide +kernel) (by decide +kernel)
theorem k_368 : (Cond.methodLinkNest "QuorumStore$Node" (77 : Nat) ({ cls := "QuorumStore", name := "isIn", desc := "(II)Z" } : Jvm.MethodName) "QuorumStore") ∈ xw_T := xw_in 368 (by decide +kernel) (by decide +kernel)
theorem k_369 : (Cond.static ({ cls := "QuorumStore", name := "isIn", desc := "(II)Z" } : Jvm.MethodName)) ∈ xw_T := xw_in 369 (by decide +kernel) (by decide +kernel)
theorem k_370 : (Cond.code ({ cls := "QuorumStore", name := "isIn", desc := "(II)Z" } : Jvm.MethodName) prog_1_method_19_code (2 : Nat) (Option.some Jvm.ClassFile.FieldType.boolean)) ∈ xw_T := xw_in 370 (by decide +kernel) (by decide +kernel)
theorem k_371 : (Cond.methodLink "QuorumStore$Node" (81 : Nat) ({ cls := "QuorumStore$Network", name := "sendPlain", desc := "(IIIIILQuorumStore$Value;)V" } : Jvm.MethodName)) ∈ xw_T := xw_in 371 (by decide +kernel) (by decide +kernel)
theorem k_372 : (Cond.instanceMethod ({ cls := "QuorumStore$Network", name := "sendPlain", desc := "(IIIIILQuorumStore$Value;)V" } : Jvm.MethodName)) ∈ xw_T := xw_in 372 (by decide +kernel) (by decide +kernel)
theorem k_373 : (Cond.selects "QuorumStore$Network" ({ cls := "QuorumStore$Network", name := "sendPlain", desc := "(IIIIILQuorumStore$Value;)V" } : Jvm.MethodName) ({ cls := "QuorumStore$Network", name := "sendPlain", desc := "(IIIIILQuorumStore$Value;)V" } : Jvm.MethodName)) ∈ xw_T := xw_in 373 (by decide +kernel) (by decide +kernel)
theorem k_374 : (Cond.code ({ cls := "QuorumStore$Network", name := "sendPlain", desc := "(IIIIILQuorumStore$Value;)V" } : Jvm.MethodName) prog_4_method_6_code (7 : Nat) (Option.none : Option Jvm.ClassFile.FieldType)) ∈ xw_T := xw_in 374 (by decide +kernel) (by decide +kernel)
theorem k_375 : (Cond.instantiable "QuorumStore$Message" (8 : Nat)) ∈ xw_T := xw_in 375 (by decide +kernel) (by decide +kernel)
theorem k_376 : (Cond.methodLink "QuorumStore$Network" (27 : Nat) ({ cls := "QuorumStore$Message", name := "<init>", desc := "(IIIIILQuorumStore$Value;)V" } : Jvm.MethodName)) ∈ xw_T := xw_in 376 (by decide +kernel) (by decide +kernel)
theorem k_377 : (Cond.instanceMethod ({ cls := "QuorumStore$Message", name := "<init>", desc := "(IIIIILQuorumStore$Value;)V" } : Jvm.MethodName)) ∈ xw_T := xw_in 377 (by decide +kernel) (by decide +kernel)
theorem k_378 : (Cond.code ({ cls := "QuorumStore$Message", name := "<init>", desc := "(IIIIILQuorumStore$Value;)V" } : Jvm.MethodName) prog_3_method_1_code (7 : Nat) (Option.none : Option Jvm.ClassFile.FieldType)) ∈ xw_T := xw_in 378 (by decide +kernel) (by decide +kernel)
theorem k_379 : (Cond.methodLink "QuorumStore$Message" (1 : Nat) ({ cls := "java/lang/Object", name := "<init>", desc := "()V" } : Jvm.MethodName)) ∈ xw_T := xw_in 379 (by decide +kernel) (by decide +kernel)
theorem k_380 : (Cond.fieldLink "QuorumStore$Message" (7 : Nat) "QuorumStore$Message" "kind" "I") ∈ xw_T := xw_in 380 (by decide +kernel) (by decide +kernel)
theorem k_381 : (Cond.fieldLink "QuorumStore" (75 : Nat) "QuorumStore$Message" "kind" "I") ∈ xw_T := xw_in 381 (by decide +kernel) (by decide +kernel)
theorem k_382 : (Cond.fieldLink "QuorumStore$Node" (199 : Nat) "QuorumStore$Message" "kind" "I") ∈ xw_T := xw_in 382 (by decide +kernel) (by decide +kernel)
theorem k_383 : (Cond.fieldLink "QuorumStore$Message" (13 : Nat) "QuorumStore$Message" "from" "I") ∈ xw_T := xw_in 383 (by decide +kernel) (by decide +kernel)
theorem k_384 : (Cond.fieldLink "QuorumStore" (78 : Nat) "QuorumStore$Message" "from" "I") ∈ xw_T := xw_in 384 (by decide +kernel) (by decide +kernel)
theorem k_385 : (Cond.fieldLink "QuorumStore$Node" (238 : Nat) "QuorumStore$Message" "from" "I") ∈ xw_T := xw_in 385 (by decide +kernel) (by decide +kernel)
theorem k_386 : (Cond.fieldLink "QuorumStore$Message" (16 : Nat) "QuorumStore$Message" "to" "I") ∈ xw_T := xw_in 386 (by decide +kernel) (by decide +kernel)
theorem k_387 : (Cond.fieldLink "QuorumStore" (47 : Nat) "QuorumStore$Message" "to" "I") ∈ xw_T := xw_in 387 (by decide +kernel) (by decide +kernel)
theorem k_388 : (Cond.fieldLink "QuorumStore$Message" (19 : Nat) "QuorumStore$Message" "ballot" "I") ∈ xw_T := xw_in 388 (by decide +kernel) (by decide +kernel)
theorem k_389 : (Cond.fieldLink "QuorumStore" (81 : Nat) "QuorumStore$Message" "ballot" "I") ∈ xw_T := xw_in 389 (by decide +kernel) (by decide +kernel)
theorem k_390 : (Cond.fieldLink "QuorumStore$Node" (237 : Nat) "QuorumStore$Message" "ballot" "I") ∈ xw_T := xw_in 390 (by decide +kernel) (by decide +kernel)
theorem k_391 : (Cond.fieldLink "QuorumStore$Message" (22 : Nat) "QuorumStore$Message" "slot" "I") ∈ xw_T := xw_in 391 (by decide +kernel) (by decide +kernel)
theorem k_392 : (Cond.fieldLink "QuorumStore" (84 : Nat) "QuorumStore$Message" "slot" "I") ∈ xw_T := xw_in 392 (by decide +kernel) (by decide +kernel)
theorem k_393 : (Cond.fieldLink "QuorumStore$Node" (227 : Nat) "QuorumStore$Message" "slot" "I") ∈ xw_T := xw_in 393 (by decide +kernel) (by decide +kernel)
theorem k_394 : (Cond.fieldLink "QuorumStore$Message" (25 : Nat) "QuorumStore$Message" "value" "LQuorumStore$Value;") ∈ xw_T := xw_in 394 (by decide +kernel) (by decide +kernel)
theorem k_395 : (Cond.fieldLink "QuorumStore$Node" (230 : Nat) "QuorumStore$Message" "value" "LQuorumStore$Value;") ∈ xw_T := xw_in 395 (by decide +kernel) (by decide +kernel)
theorem k_396 : (Cond.fieldLink "QuorumStore" (87 : Nat) "QuorumStore$Message" "list" "LQuorumStore$Row;") ∈ xw_T := xw_in 396 (by decide +kernel) (by decide +kernel)
theorem k_397 : (Cond.fieldLink "QuorumStore$Node" (259 : Nat) "QuorumStore$Message" "list" "LQuorumStore$Row;") ∈ xw_T := xw_in 397 (by decide +kernel) (by decide +kernel)
theorem k_398 : (Cond.fieldLink "QuorumStore$Node" (271 : Nat) "QuorumStore$Message" "state" "LQuorumStore$State;") ∈ xw_T := xw_in 398 (by decide +kernel) (by decide +kernel)
theorem k_416 : (Cond.methodLink "QuorumStore$Network" (30 : Nat) ({ cls := "QuorumStore$Network", name := "send", desc := "(LQuorumStore$Message;)V" } : Jvm.MethodName)) ∈ xw_T := xw_in 416 (by decide +kernel) (by decide +kernel)
theorem k_417 : (Cond.instanceMethod ({ cls := "QuorumStore$Network", name := "send", desc := "(LQuorumStore$Message;)V" } : Jvm.MethodName)) ∈ xw_T := xw_in 417 (by decide +kernel) (by decide +kernel)
theorem k_418 : (Cond.selects "QuorumStore$Network" ({ cls := "QuorumStore$Network", name := "send", desc := "(LQuorumStore$Message;)V" } : Jvm.MethodName) ({ cls := "QuorumStore$Network", name := "send", desc := "(LQuorumStore$Message;)V" } : Jvm.MethodName)) ∈ xw_T := xw_in 418 (by decide +kernel) (by decide +kernel)
theorem k_419 : (Cond.code ({ cls := "QuorumStore$Network", name := "send", desc := "(LQuorumStore$Message;)V" } : Jvm.MethodName) prog_4_method_4_code (2 : Nat) (Option.none : Option Jvm.ClassFile.FieldType)) ∈ xw_T := xw_in 419 (by decide +kernel) (by decide +kernel)
theorem k_420 : (Cond.methodLink "QuorumStore$Node" (109 : Nat) ({ cls := "QuorumStore$Row", name := "valueAt", desc := "(I)LQuorumStore$Value;" } : Jvm.MethodName)) ∈ xw_T := xw_in 420 (by decide +kernel) (by decide +kernel)
theorem k_421 : (Cond.instanceMethod ({ cls := "QuorumStore$Row", name := "valueAt", desc := "(I)LQuorumStore$Value;" } : Jvm.MethodName)) ∈ xw_T := xw_in 421 (by decide +kernel) (by decide +kernel)
theorem k_422 : (Cond.selects "QuorumStore$Row" ({ cls := "QuorumStore$Row", name := "valueAt", desc := "(I)LQuorumStore$Value;" } : Jvm.MethodName) ({ cls := "QuorumStore$Row", name := "valueAt", desc := "(I)LQuorumStore$Value;" } : Jvm.MethodName)) ∈ xw_T := xw_in 422 (by decide +kernel) (by decide +kernel)
theorem k_423 : (Cond.code ({ cls := "QuorumStore$Row", name := "valueAt", desc := "(I)LQuorumStore$Value;" } : Jvm.MethodName) prog_6_method_2_code (3 : Nat) (Option.some (Jvm.ClassFile.FieldType.object "QuorumStore$Value"))) ∈ xw_T := xw_in 423 (by decide +kernel) (by decide +kernel)
theorem k_424 : (Cond.methodLink "QuorumStore$Node" (90 : Nat) ({ cls := "QuorumStore$State", name := "configAt", desc := "(I)I" } : Jvm.MethodName)) ∈ xw_T := xw_in 424 (by decide +kernel) (by decide +kernel)
theorem k_425 : (Cond.methodLink "QuorumStore$Node" (113 : Nat) ({ cls := "QuorumStore$Row", name := "markAt", desc := "(I)I" } : Jvm.MethodName)) ∈ xw_T := xw_in 425 (by decide +kernel) (by decide +kernel)
theorem k_426 : (Cond.instanceMethod ({ cls := "QuorumStore$Row", name := "markAt", desc := "(I)I" } : Jvm.MethodName)) ∈ xw_T := xw_in 426 (by decide +kernel) (by decide +kernel)
theorem k_427 : (Cond.selects "QuorumStore$Row" ({ cls := "QuorumStore$Row", name := "markAt", desc := "(I)I" } : Jvm.MethodName) ({ cls := "QuorumStore$Row", name := "markAt", desc := "(I)I" } : Jvm.MethodName)) ∈ xw_T := xw_in 427 (by decide +kernel) (by decide +kernel)
theorem k_428 : (Cond.code ({ cls := "QuorumStore$Row", name := "markAt", desc := "(I)I" } : Jvm.MethodName) prog_6_method_3_code (3 : Nat) (Option.some Jvm.ClassFile.FieldType.int)) ∈ xw_T := xw_in 428 (by decide +kernel) (by decide +kernel)
theorem k_429 : (Cond.methodLink "QuorumStore$Node" (116 : Nat) ({ cls := "QuorumStore$Node", name := "sendEach", desc := "(IIIILQuorumStore$Value;)V" } : Jvm.MethodName)) ∈ xw_T := xw_in 429 (by decide +kernel) (by decide +kernel)
theorem k_431 : (Cond.instanceMethod ({ cls := "QuorumStore$Node", name := "sendEach", desc := "(IIIILQuorumStore$Value;)V" } : Jvm.MethodName)) ∈ xw_T := xw_in 431 (by decide +kernel) (by decide +kernel)
theorem k_432 : (Cond.code ({ cls := "QuorumStore$Node", name := "sendEach", desc := "(IIIILQuorumStore$Value;)V" } : Jvm.MethodName) prog_5_method_7_code (7 : Nat) (Option.none : Option Jvm.ClassFile.FieldType)) ∈ xw_T := xw_in 432 (by decide +kernel) (by decide +kernel)
theorem k_433 : (Cond.methodLink "QuorumStore$Node" (55 : Nat) ({ cls := "QuorumStore$Node", name := "rest", desc := "()V" } : Jvm.MethodName)) ∈ xw_T := xw_in 433 (by decide +kernel) (by decide +kernel)
theorem k_435 : (Cond.instanceMethod ({ cls := "QuorumStore$Node", name := "rest", desc := "()V" } : Jvm.MethodName)) ∈ xw_T := xw_in 435 (by decide +kernel) (by decide +kernel)
theorem k_436 : (Cond.code ({ cls := "QuorumStore$Node", name := "rest", desc := "()V" } : Jvm.MethodName) prog_5_method_4_code (1 : Nat) (Option.none : Option Jvm.ClassFile.FieldType)) ∈ xw_T := xw_in 436 (by decide +kernel) (by decide +kernel)
theorem k_437 : (Cond.methodLink "QuorumStore$Node" (93 : Nat) ({ cls := "QuorumStore$Node", name := "beginToLead", desc := "()V" } : Jvm.MethodName)) ∈ xw_T := xw_in 437 (by decide +kernel) (by decide +kernel)
theorem k_439 : (Cond.instanceMethod ({ cls := "QuorumStore$Node", name := "beginToLead", desc := "()V" } : Jvm.MethodName)) ∈ xw_T := xw_in 439 (by decide +kernel) (by decide +kernel)
theorem k_440 : (Cond.code ({ cls := "QuorumStore$Node", name := "beginToLead", desc := "()V" } : Jvm.MethodName) prog_5_method_11_code (2 : Nat) (Option.none : Option Jvm.ClassFile.FieldType)) ∈ xw_T := xw_in 440 (by decide +kernel) (by decide +kernel)
theorem k_441 : (Cond.methodLink "QuorumStore$Node" (123 : Nat) ({ cls := "java/lang/Math", name := "max", desc := "(II)I" } : Jvm.MethodName)) ∈ xw_T := xw_in 441 (by decide +kernel) (by decide +kernel)
theorem k_442 : (Cond.static ({ cls := "java/lang/Math", name := "max", desc := "(II)I" } : Jvm.MethodName)) ∈ xw_T := xw_in 442 (by decide +kernel) (by decide +kernel)
theorem k_443 : (Cond.code ({ cls := "java/lang/Math", name := "max", desc := "(II)I" } : Jvm.MethodName) prog_20_method_65_code (2 : Nat) (Option.some Jvm.ClassFile.FieldType.int)) ∈ xw_T := xw_in 443 (by decide +kernel) (by decide +kernel)
theorem k_444 : (Cond.methodLink "QuorumStore$Node" (67 : Nat) ({ cls := "QuorumStore$Lead", name := "clear", desc := "()V" } : Jvm.MethodName)) ∈ xw_T := xw_in 444 (by decide +kernel) (by decide +kernel)
theorem k_445 : (Cond.instanceMethod ({ cls := "QuorumStore$Lead", name := "clear", desc := "()V" } : Jvm.MethodName)) ∈ xw_T := xw_in 445 (by decide +kernel) (by decide +kernel)
theorem k_446 : (Cond.selects "QuorumStore$Lead" ({ cls := "QuorumStore$Lead", name := "clear", desc := "()V" } : Jvm.MethodName) ({ cls := "QuorumStore$Lead", name := "clear", desc := "()V" } : Jvm.MethodName)) ∈ xw_T := xw_in 446 (by decide +kernel) (by decide +kernel)
theorem k_447 : (Cond.code ({ cls := "QuorumStore$Lead", name := "clear", desc := "()V" } : Jvm.MethodName) prog_2_method_2_code (2 : Nat) (Option.none : Option Jvm.ClassFile.FieldType)) ∈ xw_T := xw_in 447 (by decide +kernel) (by decide +kernel)
theorem k_448 : (Cond.methodLink "QuorumStore$Lead" (40 : Nat) ({ cls := "QuorumStore$Row", name := "forgetAll", desc := "()V" } : Jvm.MethodName)) ∈ xw_T := xw_in 448 (by decide +kernel) (by decide +kernel)
theorem k_449 : (Cond.instanceMethod ({ cls := "QuorumStore$Row", name := "forgetAll", desc := "()V" } : Jvm.MethodName)) ∈ xw_T := xw_in 449 (by decide +kernel) (by decide +kernel)
theorem k_450 : (Cond.selects "QuorumStore$Row" ({ cls := "QuorumStore$Row", name := "forgetAll", desc := "()V" } : Jvm.MethodName) ({ cls := "QuorumStore$Row", name := "forgetAll", desc := "()V" } : Jvm.MethodName)) ∈ xw_T := xw_in 450 (by decide +kernel) (by decide +kernel)
theorem k_451 : (Cond.code ({ cls := "QuorumStore$Row", name := "forgetAll", desc := "()V" } : Jvm.MethodName) prog_6_method_7_code (2 : Nat) (Option.none : Option Jvm.ClassFile.FieldType)) ∈ xw_T := xw_in 451 (by decide +kernel) (by decide +kernel)
theorem k_452 : (Cond.methodLink "QuorumStore$Row" (22 : Nat) ({ cls := "QuorumStore$Row", name := "clearPlace", desc := "(I)V" } : Jvm.MethodName)) ∈ xw_T := xw_in 452 (by decide +kernel) (by decide +kernel)
theorem k_454 : (Cond.instanceMethod ({ cls := "QuorumStore$Row", name := "clearPlace", desc := "(I)V" } : Jvm.MethodName)) ∈ xw_T := xw_in 454 (by decide +kernel) (by decide +kernel)
theorem k_455 : (Cond.code ({ cls := "QuorumStore$Row", name := "clearPlace", desc := "(I)V" } : Jvm.MethodName) prog_6_method_8_code (2 : Nat) (Option.none : Option Jvm.ClassFile.FieldType)) ∈ xw_T := xw_in 455 (by decide +kernel) (by decide +kernel)
theorem k_456 : (Cond.methodLink "QuorumStore$Node" (129 : Nat) ({ cls := "QuorumStore$Lead", name := "lookAt", desc := "(LQuorumStore$Row;I)V" } : Jvm.MethodName)) ∈ xw_T := xw_in 456 (by decide +kernel) (by decide +kernel)
theorem k_457 : (Cond.instanceMethod ({ cls := "QuorumStore$Lead", name := "lookAt", desc := "(LQuorumStore$Row;I)V" } : Jvm.MethodName)) ∈ xw_T := xw_in 457 (by decide +kernel) (by decide +kernel)
theorem k_458 : (Cond.selects "QuorumStore$Lead" ({ cls := "QuorumStore$Lead", name := "lookAt", desc := "(LQuorumStore$Row;I)V" } : Jvm.MethodName) ({ cls := "QuorumStore$Lead", name := "lookAt", desc := "(LQuorumStore$Row;I)V" } : Jvm.MethodName)) ∈ xw_T := xw_in 458 (by decide +kernel) (by decide +kernel)
theorem k_459 : (Cond.code ({ cls := "QuorumStore$Lead", name := "lookAt", desc := "(LQuorumStore$Row;I)V" } : Jvm.MethodName) prog_2_method_3_code (4 : Nat) (Option.none : Option Jvm.ClassFile.FieldType)) ∈ xw_T := xw_in 459 (by decide +kernel) (by decide +kernel)
theorem k_460 : (Cond.methodLink "QuorumStore$Lead" (46 : Nat) ({ cls := "QuorumStore$Row", name := "markAt", desc := "(I)I" } : Jvm.MethodName)) ∈ xw_T := xw_in 460 (by decide +kernel) (by decide +kernel)
theorem k_461 : (Cond.methodLink "QuorumStore$Lead" (50 : Nat) ({ cls := "QuorumStore$Row", name := "valueAt", desc := "(I)LQuorumStore$Value;" } : Jvm.MethodName)) ∈ xw_T := xw_in 461 (by decide +kernel) (by decide +kernel)
theorem k_462 : (Cond.methodLink "QuorumStore$Lead" (54 : Nat) ({ cls := "QuorumStore$Row", name := "put", desc := "(IILQuorumStore$Value;)V" } : Jvm.MethodName)) ∈ xw_T := xw_in 462 (by decide +kernel) (by decide +kernel)
theorem k_463 : (Cond.instanceMethod ({ cls := "QuorumStore$Row", name := "put", desc := "(IILQuorumStore$Value;)V" } : Jvm.MethodName)) ∈ xw_T := xw_in 463 (by decide +kernel) (by decide +kernel)
theorem k_464 : (Cond.selects "QuorumStore$Row" ({ cls := "QuorumStore$Row", name := "put", desc := "(IILQuorumStore$Value;)V" } : Jvm.MethodName) ({ cls := "QuorumStore$Row", name := "put", desc := "(IILQuorumStore$Value;)V" } : Jvm.MethodName)) ∈ xw_T := xw_in 464 (by decide +kernel) (by decide +kernel)
theorem k_465 : (Cond.code ({ cls := "QuorumStore$Row", name := "put", desc := "(IILQuorumStore$Value;)V" } : Jvm.MethodName) prog_6_method_4_code (5 : Nat) (Option.none : Option Jvm.ClassFile.FieldType)) ∈ xw_T := xw_in 465 (by decide +kernel) (by decide +kernel)
theorem k_466 : (Cond.methodLink "QuorumStore$Node" (96 : Nat) ({ cls := "QuorumStore$Node", name := "work", desc := "()V" } : Jvm.MethodName)) ∈ xw_T := xw_in 466 (by decide +kernel) (by decide +kernel)
theorem k_467 : (Cond.instanceMethod ({ cls := "QuorumStore$Node", name := "work", desc := "()V" } : Jvm.MethodName)) ∈ xw_T := xw_in 467 (by decide +kernel) (by decide +kernel)
theorem k_468 : (Cond.selects "QuorumStore$Node" ({ cls := "QuorumStore$Node", name := "work", desc := "()V" } : Jvm.MethodName) ({ cls := "QuorumStore$Node", name := "work", desc := "()V" } : Jvm.MethodName)) ∈ xw_T := xw_in 468 (by decide +kernel) (by decide +kernel)
theorem k_469 : (Cond.code ({ cls := "QuorumStore$Node", name := "work", desc := "()V" } : Jvm.MethodName) prog_5_method_12_code (4 : Nat) (Option.none : Option Jvm.ClassFile.FieldType)) ∈ xw_T := xw_in 469 (by decide +kernel) (by decide +kernel)
theorem k_470 : (Cond.methodLink "QuorumStore$Node" (139 : Nat) ({ cls := "QuorumStore$Node", name := "settle", desc := "()V" } : Jvm.MethodName)) ∈ xw_T := xw_in 470 (by decide +kernel) (by decide +kernel)
theorem k_472 : (Cond.instanceMethod ({ cls := "QuorumStore$Node", name := "settle", desc := "()V" } : Jvm.MethodName)) ∈ xw_T := xw_in 472 (by decide +kernel) (by decide +kernel)
theorem k_473 : (Cond.code ({ cls := "QuorumStore$Node", name := "settle", desc := "()V" } : Jvm.MethodName) prog_5_method_13_code (2 : Nat) (Option.none : Option Jvm.ClassFile.FieldType)) ∈ xw_T := xw_in 473 (by decide +kernel) (by decide +kernel)
theorem k_474 : (Cond.methodLink "QuorumStore$Node" (161 : Nat) ({ cls := "QuorumStore$Row", name := "forgetUpTo", desc := "(I)V" } : Jvm.MethodName)) ∈ xw_T := xw_in 474 (by decide +kernel) (by decide +kernel)
theorem k_475 : (Cond.instanceMethod ({ cls := "QuorumStore$Row", name := "forgetUpTo", desc := "(I)V" } : Jvm.MethodName)) ∈ xw_T := xw_in 475 (by decide +kernel) (by decide +kernel)
theorem k_476 : (Cond.selects "QuorumStore$Row" ({ cls := "QuorumStore$Row", name := "forgetUpTo", desc := "(I)V" } : Jvm.MethodName) ({ cls := "QuorumStore$Row", name := "forgetUpTo", desc := "(I)V" } : Jvm.MethodName)) ∈ xw_T := xw_in 476 (by decide +kernel) (by decide +kernel)
theorem k_477 : (Cond.code ({ cls := "QuorumStore$Row", name := "forgetUpTo", desc := "(I)V" } : Jvm.MethodName) prog_6_method_6_code (3 : Nat) (Option.none : Option Jvm.ClassFile.FieldType)) ∈ xw_T := xw_in 477 (by decide +kernel) (by decide +kernel)
theorem k_478 : (Cond.methodLink "QuorumStore$Node" (142 : Nat) ({ cls := "QuorumStore$Node", name := "openSlot", desc := "()I" } : Jvm.MethodName)) ∈ xw_T := xw_in 478 (by decide +kernel) (by decide +kernel)
theorem k_480 : (Cond.instanceMethod ({ cls := "QuorumStore$Node", name := "openSlot", desc := "()I" } : Jvm.MethodName)) ∈ xw_T := xw_in 480 (by decide +kernel) (by decide +kernel)
theorem k_481 : (Cond.code ({ cls := "QuorumStore$Node", name := "openSlot", desc := "()I" } : Jvm.MethodName) prog_5_method_14_code (2 : Nat) (Option.some Jvm.ClassFile.FieldType.int)) ∈ xw_T := xw_in 481 (by decide +kernel) (by decide +kernel)
theorem k_482 : (Cond.methodLinkNest "QuorumStore$Node" (145 : Nat) ({ cls := "QuorumStore", name := "isMajority", desc := "(II)Z" } : Jvm.MethodName) "QuorumStore") ∈ xw_T := xw_in 482 (by decide +kernel) (by decide +kernel)
theorem k_483 : (Cond.static ({ cls := "QuorumStore", name := "isMajority", desc := "(II)Z" } : Jvm.MethodName)) ∈ xw_T := xw_in 483 (by decide +kernel) (by decide +kernel)
theorem k_484 : (Cond.code ({ cls := "QuorumStore", name := "isMajority", desc := "(II)Z" } : Jvm.MethodName) prog_1_method_20_code (2 : Nat) (Option.some Jvm.ClassFile.FieldType.boolean)) ∈ xw_T := xw_in 484 (by decide +kernel) (by decide +kernel)
theorem k_485 : (Cond.methodLink "QuorumStore" (246 : Nat) ({ cls := "java/lang/Integer", name := "bitCount", desc := "(I)I" } : Jvm.MethodName)) ∈ xw_T := xw_in 485 (by decide +kernel) (by decide +kernel)
theorem k_486 : (Cond.static ({ cls := "java/lang/Integer", name := "bitCount", desc := "(I)I" } : Jvm.MethodName)) ∈ xw_T := xw_in 486 (by decide +kernel) (by decide +kernel)
theorem k_487 : (Cond.code ({ cls := "java/lang/Integer", name := "bitCount", desc := "(I)I" } : Jvm.MethodName) prog_19_method_49_code (1 : Nat) (Option.some Jvm.ClassFile.FieldType.int)) ∈ xw_T := xw_in 487 (by decide +kernel) (by decide +kernel)
theorem k_488 : (Cond.constant "java/lang/Integer" (265 : Nat) (1431655765 : Int32)) ∈ xw_T := xw_in 488 (by decide +kernel) (by decide +kernel)
theorem k_489 : (Cond.constant "java/lang/Integer" (266 : Nat) (858993459 : Int32)) ∈ xw_T := xw_in 489 (by decide +kernel) (by decide +kernel)
theorem k_490 : (Cond.constant "java/lang/Integer" (267 : Nat) (252645135 : Int32)) ∈ xw_T := xw_in 490 (by decide +kernel) (by decide +kernel)
theorem k_491 : (Cond.methodLink "QuorumStore$Node" (148 : Nat) ({ cls := "QuorumStore$Lead", name := "valueFor", desc := "(I)LQuorumStore$Value;" } : Jvm.MethodName)) ∈ xw_T := xw_in 491 (by decide +kernel) (by decide +kernel)
theorem k_492 : (Cond.instanceMethod ({ cls := "QuorumStore$Lead", name := "valueFor", desc := "(I)LQuorumStore$Value;" } : Jvm.MethodName)) ∈ xw_T := xw_in 492 (by decide +kernel) (by decide +kernel)
theorem k_493 : (Cond.selects "QuorumStore$Lead" ({ cls := "QuorumStore$Lead", name := "valueFor", desc := "(I)LQuorumStore$Value;" } : Jvm.MethodName) ({ cls := "QuorumStore$Lead", name := "valueFor", desc := "(I)LQuorumStore$Value;" } : Jvm.MethodName)) ∈ xw_T := xw_in 493 (by decide +kernel) (by decide +kernel)
theorem k_494 : (Cond.code ({ cls := "QuorumStore$Lead", name := "valueFor", desc := "(I)LQuorumStore$Value;" } : Jvm.MethodName) prog_2_method_4_code (3 : Nat) (Option.some (Jvm.ClassFile.FieldType.object "QuorumStore$Value"))) ∈ xw_T := xw_in 494 (by decide +kernel) (by decide +kernel)
theorem k_495 : (Cond.methodLink "QuorumStore$Lead" (58 : Nat) ({ cls := "QuorumStore$Row", name := "lastSlot", desc := "()I" } : Jvm.MethodName)) ∈ xw_T := xw_in 495 (by decide +kernel) (by decide +kernel)
theorem k_496 : (Cond.instanceMethod ({ cls := "QuorumStore$Row", name := "lastSlot", desc := "()I" } : Jvm.MethodName)) ∈ xw_T := xw_in 496 (by decide +kernel) (by decide +kernel)
theorem k_497 : (Cond.selects "QuorumStore$Row" ({ cls := "QuorumStore$Row", name := "lastSlot", desc := "()I" } : Jvm.MethodName) ({ cls := "QuorumStore$Row", name := "lastSlot", desc := "()I" } : Jvm.MethodName)) ∈ xw_T := xw_in 497 (by decide +kernel) (by decide +kernel)
theorem k_498 : (Cond.code ({ cls := "QuorumStore$Row", name := "lastSlot", desc := "()I" } : Jvm.MethodName) prog_6_method_10_code (3 : Nat) (Option.some Jvm.ClassFile.FieldType.int)) ∈ xw_T := xw_in 498 (by decide +kernel) (by decide +kernel)
theorem k_499 : (Cond.methodLink "QuorumStore$Row" (26 : Nat) ({ cls := "java/lang/Math", name := "max", desc := "(II)I" } : Jvm.MethodName)) ∈ xw_T := xw_in 499 (by decide +kernel) (by decide +kernel)
theorem k_500 : (Cond.methodLink "QuorumStore$Lead" (62 : Nat) ({ cls := "QuorumStore$Lead", name := "dequeue", desc := "()LQuorumStore$Value;" } : Jvm.MethodName)) ∈ xw_T := xw_in 500 (by decide +kernel) (by decide +kernel)
theorem k_502 : (Cond.instanceMethod ({ cls := "QuorumStore$Lead", name := "dequeue", desc := "()LQuorumStore$Value;" } : Jvm.MethodName)) ∈ xw_T := xw_in 502 (by decide +kernel) (by decide +kernel)
theorem k_503 : (Cond.code ({ cls := "QuorumStore$Lead", name := "dequeue", desc := "()LQuorumStore$Value;" } : Jvm.MethodName) prog_2_method_7_code (3 : Nat) (Option.some (Jvm.ClassFile.FieldType.object "QuorumStore$Value"))) ∈ xw_T := xw_in 503 (by decide +kernel) (by decide +kernel)
theorem k_504 : (Cond.methodLink "QuorumStore$Node" (151 : Nat) ({ cls := "QuorumStore$Node", name := "propose", desc := "(ILQuorumStore$Value;)V" } : Jvm.MethodName)) ∈ xw_T := xw_in 504 (by decide +kernel) (by decide +kernel)
theorem k_506 : (Cond.instanceMethod ({ cls := "QuorumStore$Node", name := "propose", desc := "(ILQuorumStore$Value;)V" } : Jvm.MethodName)) ∈ xw_T := xw_in 506 (by decide +kernel) (by decide +kernel)
theorem k_507 : (Cond.code ({ cls := "QuorumStore$Node", name := "propose", desc := "(ILQuorumStore$Value;)V" } : Jvm.MethodName) prog_5_method_15_code (5 : Nat) (Option.none : Option Jvm.ClassFile.FieldType)) ∈ xw_T := xw_in 507 (by decide +kernel) (by decide +kernel)
theorem k_508 : (Cond.methodLink "QuorumStore$Node" (167 : Nat) ({ cls := "QuorumStore$Row", name := "put", desc := "(IILQuorumStore$Value;)V" } : Jvm.MethodName)) ∈ xw_T := xw_in 508 (by decide +kernel) (by decide +kernel)
theorem k_509 : (Cond.methodLink "QuorumStore$Node" (155 : Nat) ({ cls := "QuorumStore$Node", name := "chooseIfAcknowledged", desc := "(I)V" } : Jvm.MethodName)) ∈ xw_T := xw_in 509 (by decide +kernel) (by decide +kernel)
theorem k_511 : (Cond.instanceMethod ({ cls := "QuorumStore$Node", name := "chooseIfAcknowledged", desc := "(I)V" } : Jvm.MethodName)) ∈ xw_T := xw_in 511 (by decide +kernel) (by decide +kernel)
theorem k_512 : (Cond.code ({ cls := "QuorumStore$Node", name := "chooseIfAcknowledged", desc := "(I)V" } : Jvm.MethodName) prog_5_method_16_code (3 : Nat) (Option.none : Option Jvm.ClassFile.FieldType)) ∈ xw_T := xw_in 512 (by decide +kernel) (by decide +kernel)
theorem k_513 : (Cond.methodLink "QuorumStore$Node" (171 : Nat) ({ cls := "QuorumStore$Node", name := "learn", desc := "(ILQuorumStore$Value;)V" } : Jvm.MethodName)) ∈ xw_T := xw_in 513 (by decide +kernel) (by decide +kernel)
theorem k_515 : (Cond.instanceMethod ({ cls := "QuorumStore$Node", name := "learn", desc := "(ILQuorumStore$Value;)V" } : Jvm.MethodName)) ∈ xw_T := xw_in 515 (by decide +kernel) (by decide +kernel)
theorem k_516 : (Cond.code ({ cls := "QuorumStore$Node", name := "learn", desc := "(ILQuorumStore$Value;)V" } : Jvm.MethodName) prog_5_method_17_code (3 : Nat) (Option.none : Option Jvm.ClassFile.FieldType)) ∈ xw_T := xw_in 516 (by decide +kernel) (by decide +kernel)
theorem k_517 : (Cond.methodLink "QuorumStore$Node" (174 : Nat) ({ cls := "QuorumStore$Row", name := "remove", desc := "(I)V" } : Jvm.MethodName)) ∈ xw_T := xw_in 517 (by decide +kernel) (by decide +kernel)
theorem k_518 : (Cond.instanceMethod ({ cls := "QuorumStore$Row", name := "remove", desc := "(I)V" } : Jvm.MethodName)) ∈ xw_T := xw_in 518 (by decide +kernel) (by decide +kernel)
theorem k_519 : (Cond.selects "QuorumStore$Row" ({ cls := "QuorumStore$Row", name := "remove", desc := "(I)V" } : Jvm.MethodName) ({ cls := "QuorumStore$Row", name := "remove", desc := "(I)V" } : Jvm.MethodName)) ∈ xw_T := xw_in 519 (by decide +kernel) (by decide +kernel)
theorem k_520 : (Cond.code ({ cls := "QuorumStore$Row", name := "remove", desc := "(I)V" } : Jvm.MethodName) prog_6_method_5_code (3 : Nat) (Option.none : Option Jvm.ClassFile.FieldType)) ∈ xw_T := xw_in 520 (by decide +kernel) (by decide +kernel)
theorem k_521 : (Cond.methodLink "QuorumStore$Node" (158 : Nat) ({ cls := "QuorumStore$Node", name := "applyKnown", desc := "()V" } : Jvm.MethodName)) ∈ xw_T := xw_in 521 (by decide +kernel) (by decide +kernel)
theorem k_523 : (Cond.instanceMethod ({ cls := "QuorumStore$Node", name := "applyKnown", desc := "()V" } : Jvm.MethodName)) ∈ xw_T := xw_in 523 (by decide +kernel) (by decide +kernel)
theorem k_524 : (Cond.code ({ cls := "QuorumStore$Node", name := "applyKnown", desc := "()V" } : Jvm.MethodName) prog_5_method_18_code (3 : Nat) (Option.none : Option Jvm.ClassFile.FieldType)) ∈ xw_T := xw_in 524 (by decide +kernel) (by decide +kernel)
theorem k_525 : (Cond.methodLink "QuorumStore$Node" (177 : Nat) ({ cls := "QuorumStore$State", name := "apply", desc := "(LQuorumStore$Value;I)V" } : Jvm.MethodName)) ∈ xw_T := xw_in 525 (by decide +kernel) (by decide +kernel)
theorem k_526 : (Cond.instanceMethod ({ cls := "QuorumStore$State", name := "apply", desc := "(LQuorumStore$Value;I)V" } : Jvm.MethodName)) ∈ xw_T := xw_in 526 (by decide +kernel) (by decide +kernel)
theorem k_527 : (Cond.selects "QuorumStore$State" ({ cls := "QuorumStore$State", name := "apply", desc := "(LQuorumStore$Value;I)V" } : Jvm.MethodName) ({ cls := "QuorumStore$State", name := "apply", desc := "(LQuorumStore$Value;I)V" } : Jvm.MethodName)) ∈ xw_T := xw_in 527 (by decide +kernel) (by decide +kernel)
theorem k_528 : (Cond.code ({ cls := "QuorumStore$State", name := "apply", desc := "(LQuorumStore$Value;I)V" } : Jvm.MethodName) prog_7_method_5_code (3 : Nat) (Option.none : Option Jvm.ClassFile.FieldType)) ∈ xw_T := xw_in 528 (by decide +kernel) (by decide +kernel)
theorem k_529 : (Cond.methodLink "QuorumStore$State" (44 : Nat) ({ cls := "QuorumStore$State", name := "forgetConfigsBefore", desc := "(I)V" } : Jvm.MethodName)) ∈ xw_T := xw_in 529 (by decide +kernel) (by decide +kernel)
theorem k_531 : (Cond.instanceMethod ({ cls := "QuorumStore$State", name := "forgetConfigsBefore", desc := "(I)V" } : Jvm.MethodName)) ∈ xw_T := xw_in 531 (by decide +kernel) (by decide +kernel)
theorem k_532 : (Cond.code ({ cls := "QuorumStore$State", name := "forgetConfigsBefore", desc := "(I)V" } : Jvm.MethodName) prog_7_method_6_code (4 : Nat) (Option.none : Option Jvm.ClassFile.FieldType)) ∈ xw_T := xw_in 532 (by decide +kernel) (by decide +kernel)
theorem k_533 : (Cond.methodLink "QuorumStore$State" (62 : Nat) ({ cls := "QuorumStore$State", name := "changeMembers", desc := "(II)J" } : Jvm.MethodName)) ∈ xw_T := xw_in 533 (by decide +kernel) (by decide +kernel)
theorem k_535 : (Cond.instanceMethod ({ cls := "QuorumStore$State", name := "changeMembers", desc := "(II)J" } : Jvm.MethodName)) ∈ xw_T := xw_in 535 (by decide +kernel) (by decide +kernel)
theorem k_536 : (Cond.code ({ cls := "QuorumStore$State", name := "changeMembers", desc := "(II)J" } : Jvm.MethodName) prog_7_method_7_code (3 : Nat) (Option.some Jvm.ClassFile.FieldType.long)) ∈ xw_T := xw_in 536 (by decide +kernel) (by decide +kernel)
theorem k_537 : (Cond.methodLink "QuorumStore$State" (66 : Nat) ({ cls := "QuorumStore$State", name := "changeNumber", desc := "(LQuorumStore$Value;)J" } : Jvm.MethodName)) ∈ xw_T := xw_in 537 (by decide +kernel) (by decide +kernel)
theorem k_539 : (Cond.instanceMethod ({ cls := "QuorumStore$State", name := "changeNumber", desc := "(LQuorumStore$Value;)J" } : Jvm.MethodName)) ∈ xw_T := xw_in 539 (by decide +kernel) (by decide +kernel)
theorem k_540 : (Cond.code ({ cls := "QuorumStore$State", name := "changeNumber", desc := "(LQuorumStore$Value;)J" } : Jvm.MethodName) prog_7_method_8_code (5 : Nat) (Option.some Jvm.ClassFile.FieldType.long)) ∈ xw_T := xw_in 540 (by decide +kernel) (by decide +kernel)
theorem k_541 : (Cond.methodLink "QuorumStoreLaw" (80 : Nat) ({ cls := "QuorumStoreLaw", name := "deliver", desc := "(LQuorumStore;I[J)I" } : Jvm.MethodName)) ∈ xw_T := xw_in 541 (by decide +kernel) (by decide +kernel)
theorem k_542 : (Cond.static ({ cls := "QuorumStoreLaw", name := "deliver", desc := "(LQuorumStore;I[J)I" } : Jvm.MethodName)) ∈ xw_T := xw_in 542 (by decide +kernel) (by decide +kernel)
theorem k_544 : (Cond.classLink "QuorumStoreLaw" (18 : Nat) "java/util/NoSuchElementException") ∈ xw_T := xw_in 544 (by decide +kernel) (by decide +kernel)
theorem k_545 : (Cond.methodLink "QuorumStoreLaw" (15 : Nat) ({ cls := "QuorumStore", name := "deliver", desc := "(I)I" } : Jvm.MethodName)) ∈ xw_T := xw_in 545 (by decide +kernel) (by decide +kernel)
theorem k_546 : (Cond.instanceMethod ({ cls := "QuorumStore", name := "deliver", desc := "(I)I" } : Jvm.MethodName)) ∈ xw_T := xw_in 546 (by decide +kernel) (by decide +kernel)
theorem k_547 : (Cond.selects "QuorumStore" ({ cls := "QuorumStore", name := "deliver", desc := "(I)I" } : Jvm.MethodName) ({ cls := "QuorumStore", name := "deliver", desc := "(I)I" } : Jvm.MethodName)) ∈ xw_T := xw_in 547 (by decide +kernel) (by decide +kernel)
theorem k_548 : (Cond.code ({ cls := "QuorumStore", name := "deliver", desc := "(I)I" } : Jvm.MethodName) prog_1_method_3_code (4 : Nat) (Option.some Jvm.ClassFile.FieldType.int)) ∈ xw_T := xw_in 548 (by decide +kernel) (by decide +kernel)
theorem k_549 : (Cond.methodLink "QuorumStore" (39 : Nat) ({ cls := "QuorumStore", name := "messageAt", desc := "(I)LQuorumStore$Message;" } : Jvm.MethodName)) ∈ xw_T := xw_in 549 (by decide +kernel) (by decide +kernel)
theorem k_551 : (Cond.instanceMethod ({ cls := "QuorumStore", name := "messageAt", desc := "(I)LQuorumStore$Message;" } : Jvm.MethodName)) ∈ xw_T := xw_in 551 (by decide +kernel) (by decide +kernel)
theorem k_552 : (Cond.code ({ cls := "QuorumStore", name := "messageAt", desc := "(I)LQuorumStore$Message;" } : Jvm.MethodName) prog_1_method_17_code (2 : Nat) (Option.some (Jvm.ClassFile.FieldType.object "QuorumStore$Message"))) ∈ xw_T := xw_in 552 (by decide +kernel) (by decide +kernel)
theorem k_553 : (Cond.classLink "QuorumStore" (151 : Nat) "java/util/NoSuchElementException") ∈ xw_T := xw_in 553 (by decide +kernel) (by decide +kernel)
theorem k_554 : (Cond.instantiable "java/util/NoSuchElementException" (6 : Nat)) ∈ xw_T := xw_in 554 (by decide +kernel) (by decide +kernel)
theorem k_555 : (Cond.castable "java/util/NoSuchElementException" "java/util/NoSuchElementException") ∈ xw_T := xw_in 555 (by decide +kernel) (by decide +kernel)
theorem k_556 : (Cond.selects "java/util/NoSuchElementException" ({ cls := "java/lang/Throwable", name := "fillInStackTrace", desc := "(I)Ljava/lang/Throwable;" } : Jvm.MethodName) ({ cls := "java/lang/Throwable", name := "fillInStackTrace", desc := "(I)Ljava/lang/Throwable;" } : Jvm.MethodName)) ∈ xw_T := xw_in 556 (by decide +kernel) (by decide +kernel)
theorem k_563 : (Cond.methodLink "QuorumStore" (155 : Nat) ({ cls := "java/util/NoSuchElementException", name := "<init>", desc := "(Ljava/lang/String;)V" } : Jvm.MethodName)) ∈ xw_T := xw_in 563 (by decide +kernel) (by decide +kernel)
theorem k_564 : (Cond.instanceMethod ({ cls := "java/util/NoSuchElementException", name := "<init>", desc := "(Ljava/lang/String;)V" } : Jvm.MethodName)) ∈ xw_T := xw_in 564 (by decide +kernel) (by decide +kernel)
theorem k_566 : (Cond.methodLink "java/util/NoSuchElementException" (13 : Nat) ({ cls := "java/lang/RuntimeException", name := "<init>", desc := "(Ljava/lang/String;)V" } : Jvm.MethodName)) ∈ xw_T := xw_in 566 (by decide +kernel) (by decide +kernel)
theorem k_569 : (Cond.methodLink "QuorumStore" (43 : Nat) ({ cls := "QuorumStore$Network", name := "removeAt", desc := "(I)V" } : Jvm.MethodName)) ∈ xw_T := xw_in 569 (by decide +kernel) (by decide +kernel)
theorem k_570 : (Cond.instanceMethod ({ cls := "QuorumStore$Network", name := "removeAt", desc := "(I)V" } : Jvm.MethodName)) ∈ xw_T := xw_in 570 (by decide +kernel) (by decide +kernel)
theorem k_571 : (Cond.selects "QuorumStore$Network" ({ cls := "QuorumStore$Network", name := "removeAt", desc := "(I)V" } : Jvm.MethodName) ({ cls := "QuorumStore$Network", name := "removeAt", desc := "(I)V" } : Jvm.MethodName)) ∈ xw_T := xw_in 571 (by decide +kernel) (by decide +kernel)
theorem k_572 : (Cond.code ({ cls := "QuorumStore$Network", name := "removeAt", desc := "(I)V" } : Jvm.MethodName) prog_4_method_3_code (3 : Nat) (Option.none : Option Jvm.ClassFile.FieldType)) ∈ xw_T := xw_in 572 (by decide +kernel) (by decide +kernel)
theorem k_573 : (Cond.methodLink "QuorumStore" (59 : Nat) ({ cls := "QuorumStore$Node", name := "receive", desc := "(LQuorumStore$Message;)V" } : Jvm.MethodName)) ∈ xw_T := xw_in 573 (by decide +kernel) (by decide +kernel)
theorem k_574 : (Cond.instanceMethod ({ cls := "QuorumStore$Node", name := "receive", desc := "(LQuorumStore$Message;)V" } : Jvm.MethodName)) ∈ xw_T := xw_in 574 (by decide +kernel) (by decide +kernel)
theorem k_575 : (Cond.selects "QuorumStore$Node" ({ cls := "QuorumStore$Node", name := "receive", desc := "(LQuorumStore$Message;)V" } : Jvm.MethodName) ({ cls := "QuorumStore$Node", name := "receive", desc := "(LQuorumStore$Message;)V" } : Jvm.MethodName)) ∈ xw_T := xw_in 575 (by decide +kernel) (by decide +kernel)
theorem k_576 : (Cond.code ({ cls := "QuorumStore$Node", name := "receive", desc := "(LQuorumStore$Message;)V" } : Jvm.MethodName) prog_5_method_21_code (3 : Nat) (Option.none : Option Jvm.ClassFile.FieldType)) ∈ xw_T := xw_in 576 (by decide +kernel) (by decide +kernel)
theorem k_577 : (Cond.methodLink "QuorumStore$Node" (204 : Nat) ({ cls := "QuorumStore$Node", name := "onPrepare", desc := "(LQuorumStore$Message;)V" } : Jvm.MethodName)) ∈ xw_T := xw_in 577 (by decide +kernel) (by decide +kernel)
theorem k_579 : (Cond.instanceMethod ({ cls := "QuorumStore$Node", name := "onPrepare", desc := "(LQuorumStore$Message;)V" } : Jvm.MethodName)) ∈ xw_T := xw_in 579 (by decide +kernel) (by decide +kernel)
theorem k_580 : (Cond.code ({ cls := "QuorumStore$Node", name := "onPrepare", desc := "(LQuorumStore$Message;)V" } : Jvm.MethodName) prog_5_method_26_code (3 : Nat) (Option.none : Option Jvm.ClassFile.FieldType)) ∈ xw_T := xw_in 580 (by decide +kernel) (by decide +kernel)
theorem k_581 : (Cond.methodLink "QuorumStore$Node" (247 : Nat) ({ cls := "QuorumStore$Node", name := "rejects", desc := "(LQuorumStore$Message;)Z" } : Jvm.MethodName)) ∈ xw_T := xw_in 581 (by decide +kernel) (by decide +kernel)
theorem k_583 : (Cond.instanceMethod ({ cls := "QuorumStore$Node", name := "rejects", desc := "(LQuorumStore$Message;)Z" } : Jvm.MethodName)) ∈ xw_T := xw_in 583 (by decide +kernel) (by decide +kernel)
theorem k_584 : (Cond.code ({ cls := "QuorumStore$Node", name := "rejects", desc := "(LQuorumStore$Message;)Z" } : Jvm.MethodName) prog_5_method_22_code (2 : Nat) (Option.some Jvm.ClassFile.FieldType.boolean)) ∈ xw_T := xw_in 584 (by decide +kernel) (by decide +kernel)
theorem k_585 : (Cond.methodLink "QuorumStore$Node" (250 : Nat) ({ cls := "QuorumStore$Node", name := "promise", desc := "(I)V" } : Jvm.MethodName)) ∈ xw_T := xw_in 585 (by decide +kernel) (by decide +kernel)
theorem k_587 : (Cond.instanceMethod ({ cls := "QuorumStore$Node", name := "promise", desc := "(I)V" } : Jvm.MethodName)) ∈ xw_T := xw_in 587 (by decide +kernel) (by decide +kernel)
theorem k_588 : (Cond.code ({ cls := "QuorumStore$Node", name := "promise", desc := "(I)V" } : Jvm.MethodName) prog_5_method_23_code (2 : Nat) (Option.none : Option Jvm.ClassFile.FieldType)) ∈ xw_T := xw_in 588 (by decide +kernel) (by decide +kernel)
theorem k_589 : (Cond.methodLink "QuorumStore$Node" (241 : Nat) ({ cls := "QuorumStore$Node", name := "stepDownBefore", desc := "(I)V" } : Jvm.MethodName)) ∈ xw_T := xw_in 589 (by decide +kernel) (by decide +kernel)
theorem k_591 : (Cond.instanceMethod ({ cls := "QuorumStore$Node", name := "stepDownBefore", desc := "(I)V" } : Jvm.MethodName)) ∈ xw_T := xw_in 591 (by decide +kernel) (by decide +kernel)
theorem k_592 : (Cond.code ({ cls := "QuorumStore$Node", name := "stepDownBefore", desc := "(I)V" } : Jvm.MethodName) prog_5_method_24_code (2 : Nat) (Option.none : Option Jvm.ClassFile.FieldType)) ∈ xw_T := xw_in 592 (by decide +kernel) (by decide +kernel)
theorem k_593 : (Cond.methodLink "QuorumStore$Node" (244 : Nat) ({ cls := "QuorumStore$Node", name := "stepDown", desc := "()V" } : Jvm.MethodName)) ∈ xw_T := xw_in 593 (by decide +kernel) (by decide +kernel)
theorem k_595 : (Cond.instanceMethod ({ cls := "QuorumStore$Node", name := "stepDown", desc := "()V" } : Jvm.MethodName)) ∈ xw_T := xw_in 595 (by decide +kernel) (by decide +kernel)
theorem k_596 : (Cond.code ({ cls := "QuorumStore$Node", name := "stepDown", desc := "()V" } : Jvm.MethodName) prog_5_method_5_code (1 : Nat) (Option.none : Option Jvm.ClassFile.FieldType)) ∈ xw_T := xw_in 596 (by decide +kernel) (by decide +kernel)
theorem k_597 : (Cond.classLink "QuorumStore$Node" (200 : Nat) "QuorumStore$Message") ∈ xw_T := xw_in 597 (by decide +kernel) (by decide +kernel)
theorem k_598 : (Cond.methodLink "QuorumStore$Node" (253 : Nat) ({ cls := "QuorumStore$Message", name := "<init>", desc := "(IIIIILQuorumStore$Value;)V" } : Jvm.MethodName)) ∈ xw_T := xw_in 598 (by decide +kernel) (by decide +kernel)
theorem k_599 : (Cond.methodLink "QuorumStore$Node" (255 : Nat) ({ cls := "QuorumStore$Row", name := "twin", desc := "()LQuorumStore$Row;" } : Jvm.MethodName)) ∈ xw_T := xw_in 599 (by decide +kernel) (by decide +kernel)
theorem k_600 : (Cond.instanceMethod ({ cls := "QuorumStore$Row", name := "twin", desc := "()LQuorumStore$Row;" } : Jvm.MethodName)) ∈ xw_T := xw_in 600 (by decide +kernel) (by decide +kernel)
theorem k_601 : (Cond.selects "QuorumStore$Row" ({ cls := "QuorumStore$Row", name := "twin", desc := "()LQuorumStore$Row;" } : Jvm.MethodName) ({ cls := "QuorumStore$Row", name := "twin", desc := "()LQuorumStore$Row;" } : Jvm.MethodName)) ∈ xw_T := xw_in 601 (by decide +kernel) (by decide +kernel)
theorem k_602 : (Cond.code ({ cls := "QuorumStore$Row", name := "twin", desc := "()LQuorumStore$Row;" } : Jvm.MethodName) prog_6_method_11_code (3 : Nat) (Option.some (Jvm.ClassFile.FieldType.object "QuorumStore$Row"))) ∈ xw_T := xw_in 602 (by decide +kernel) (by decide +kernel)
theorem k_603 : (Cond.classLink "QuorumStore$Row" (8 : Nat) "QuorumStore$Row") ∈ xw_T := xw_in 603 (by decide +kernel) (by decide +kernel)
theorem k_604 : (Cond.methodLink "QuorumStore$Row" (32 : Nat) ({ cls := "QuorumStore$Row", name := "<init>", desc := "(I)V" } : Jvm.MethodName)) ∈ xw_T := xw_in 604 (by decide +kernel) (by decide +kernel)
theorem k_605 : (Cond.methodLink "QuorumStore$Node" (262 : Nat) ({ cls := "QuorumStore$Network", name := "send", desc := "(LQuorumStore$Message;)V" } : Jvm.MethodName)) ∈ xw_T := xw_in 605 (by decide +kernel) (by decide +kernel)
theorem k_606 : (Cond.methodLink "QuorumStore$Node" (208 : Nat) ({ cls := "QuorumStore$Node", name := "onPromise", desc := "(LQuorumStore$Message;)Z" } : Jvm.MethodName)) ∈ xw_T := xw_in 606 (by decide +kernel) (by decide +kernel)
theorem k_608 : (Cond.instanceMethod ({ cls := "QuorumStore$Node", name := "onPromise", desc := "(LQuorumStore$Message;)Z" } : Jvm.MethodName)) ∈ xw_T := xw_in 608 (by decide +kernel) (by decide +kernel)
theorem k_609 : (Cond.code ({ cls := "QuorumStore$Node", name := "onPromise", desc := "(LQuorumStore$Message;)Z" } : Jvm.MethodName) prog_5_method_27_code (2 : Nat) (Option.some Jvm.ClassFile.FieldType.boolean)) ∈ xw_T := xw_in 609 (by decide +kernel) (by decide +kernel)
theorem k_610 : (Cond.methodLink "QuorumStore$Node" (265 : Nat) ({ cls := "QuorumStore$Node", name := "want", desc := "(I)V" } : Jvm.MethodName)) ∈ xw_T := xw_in 610 (by decide +kernel) (by decide +kernel)
theorem k_612 : (Cond.instanceMethod ({ cls := "QuorumStore$Node", name := "want", desc := "(I)V" } : Jvm.MethodName)) ∈ xw_T := xw_in 612 (by decide +kernel) (by decide +kernel)
theorem k_613 : (Cond.code ({ cls := "QuorumStore$Node", name := "want", desc := "(I)V" } : Jvm.MethodName) prog_5_method_8_code (2 : Nat) (Option.none : Option Jvm.ClassFile.FieldType)) ∈ xw_T := xw_in 613 (by decide +kernel) (by decide +kernel)
theorem k_614 : (Cond.methodLink "QuorumStore$Node" (212 : Nat) ({ cls := "QuorumStore$Node", name := "onReject", desc := "(LQuorumStore$Message;)V" } : Jvm.MethodName)) ∈ xw_T := xw_in 614 (by decide +kernel) (by decide +kernel)
theorem k_616 : (Cond.instanceMethod ({ cls := "QuorumStore$Node", name := "onReject", desc := "(LQuorumStore$Message;)V" } : Jvm.MethodName)) ∈ xw_T := xw_in 616 (by decide +kernel) (by decide +kernel)
theorem k_617 : (Cond.code ({ cls := "QuorumStore$Node", name := "onReject", desc := "(LQuorumStore$Message;)V" } : Jvm.MethodName) prog_5_method_28_code (2 : Nat) (Option.none : Option Jvm.ClassFile.FieldType)) ∈ xw_T := xw_in 617 (by decide +kernel) (by decide +kernel)
theorem k_618 : (Cond.methodLink "QuorumStore$Node" (215 : Nat) ({ cls := "QuorumStore$Node", name := "onAccept", desc := "(LQuorumStore$Message;)V" } : Jvm.MethodName)) ∈ xw_T := xw_in 618 (by decide +kernel) (by decide +kernel)
theorem k_620 : (Cond.instanceMethod ({ cls := "QuorumStore$Node", name := "onAccept", desc := "(LQuorumStore$Message;)V" } : Jvm.MethodName)) ∈ xw_T := xw_in 620 (by decide +kernel) (by decide +kernel)
theorem k_621 : (Cond.code ({ cls := "QuorumStore$Node", name := "onAccept", desc := "(LQuorumStore$Message;)V" } : Jvm.MethodName) prog_5_method_29_code (2 : Nat) (Option.none : Option Jvm.ClassFile.FieldType)) ∈ xw_T := xw_in 621 (by decide +kernel) (by decide +kernel)
theorem k_622 : (Cond.methodLink "QuorumStore$Node" (268 : Nat) ({ cls := "QuorumStore$Node", name := "follow", desc := "(I)V" } : Jvm.MethodName)) ∈ xw_T := xw_in 622 (by decide +kernel) (by decide +kernel)
theorem k_624 : (Cond.instanceMethod ({ cls := "QuorumStore$Node", name := "follow", desc := "(I)V" } : Jvm.MethodName)) ∈ xw_T := xw_in 624 (by decide +kernel) (by decide +kernel)
theorem k_625 : (Cond.code ({ cls := "QuorumStore$Node", name := "follow", desc := "(I)V" } : Jvm.MethodName) prog_5_method_25_code (2 : Nat) (Option.none : Option Jvm.ClassFile.FieldType)) ∈ xw_T := xw_in 625 (by decide +kernel) (by decide +kernel)
theorem k_626 : (Cond.methodLink "QuorumStore$Node" (218 : Nat) ({ cls := "QuorumStore$Node", name := "onAccepted", desc := "(LQuorumStore$Message;)V" } : Jvm.MethodName)) ∈ xw_T := xw_in 626 (by decide +kernel) (by decide +kernel)
theorem k_628 : (Cond.instanceMethod ({ cls := "QuorumStore$Node", name := "onAccepted", desc := "(LQuorumStore$Message;)V" } : Jvm.MethodName)) ∈ xw_T := xw_in 628 (by decide +kernel) (by decide +kernel)
theorem k_629 : (Cond.code ({ cls := "QuorumStore$Node", name := "onAccepted", desc := "(LQuorumStore$Message;)V" } : Jvm.MethodName) prog_5_method_30_code (4 : Nat) (Option.none : Option Jvm.ClassFile.FieldType)) ∈ xw_T := xw_in 629 (by decide +kernel) (by decide +kernel)
theorem k_630 : (Cond.methodLink "QuorumStore$Node" (221 : Nat) ({ cls := "QuorumStore$Node", name := "onHeart", desc := "(LQuorumStore$Message;)V" } : Jvm.MethodName)) ∈ xw_T := xw_in 630 (by decide +kernel) (by decide +kernel)
theorem k_632 : (Cond.instanceMethod ({ cls := "QuorumStore$Node", name := "onHeart", desc := "(LQuorumStore$Message;)V" } : Jvm.MethodName)) ∈ xw_T := xw_in 632 (by decide +kernel) (by decide +kernel)
theorem k_633 : (Cond.code ({ cls := "QuorumStore$Node", name := "onHeart", desc := "(LQuorumStore$Message;)V" } : Jvm.MethodName) prog_5_method_31_code (2 : Nat) (Option.none : Option Jvm.ClassFile.FieldType)) ∈ xw_T := xw_in 633 (by decide +kernel) (by decide +kernel)
theorem k_634 : (Cond.methodLink "QuorumStore$Node" (224 : Nat) ({ cls := "QuorumStore$Node", name := "onWant", desc := "(LQuorumStore$Message;)V" } : Jvm.MethodName)) ∈ xw_T := xw_in 634 (by decide +kernel) (by decide +kernel)
theorem k_636 : (Cond.instanceMethod ({ cls := "QuorumStore$Node", name := "onWant", desc := "(LQuorumStore$Message;)V" } : Jvm.MethodName)) ∈ xw_T := xw_in 636 (by decide +kernel) (by decide +kernel)
theorem k_637 : (Cond.code ({ cls := "QuorumStore$Node", name := "onWant", desc := "(LQuorumStore$Message;)V" } : Jvm.MethodName) prog_5_method_32_code (4 : Nat) (Option.none : Option Jvm.ClassFile.FieldType)) ∈ xw_T := xw_in 637 (by decide +kernel) (by decide +kernel)
theorem k_638 : (Cond.methodLink "QuorumStore$Node" (272 : Nat) ({ cls := "QuorumStore$State", name := "takeOver", desc := "(LQuorumStore$State;)V" } : Jvm.MethodName)) ∈ xw_T := xw_in 638 (by decide +kernel) (by decide +kernel)
theorem k_639 : (Cond.instanceMethod ({ cls := "QuorumStore$State", name := "takeOver", desc := "(LQuorumStore$State;)V" } : Jvm.MethodName)) ∈ xw_T := xw_in 639 (by decide +kernel) (by decide +kernel)
theorem k_640 : (Cond.selects "QuorumStore$State" ({ cls := "QuorumStore$State", name := "takeOver", desc := "(LQuorumStore$State;)V" } : Jvm.MethodName) ({ cls := "QuorumStore$State", name := "takeOver", desc := "(LQuorumStore$State;)V" } : Jvm.MethodName)) ∈ xw_T := xw_in 640 (by decide +kernel) (by decide +kernel)
theorem k_641 : (Cond.code ({ cls := "QuorumStore$State", name := "takeOver", desc := "(LQuorumStore$State;)V" } : Jvm.MethodName) prog_7_method_2_code (2 : Nat) (Option.none : Option Jvm.ClassFile.FieldType)) ∈ xw_T := xw_in 641 (by decide +kernel) (by decide +kernel)
theorem k_642 : (Cond.methodLink "QuorumStore$State" (34 : Nat) ({ cls := "java/lang/System", name := "arraycopy", desc := "(Ljava/lang/Object;ILjava/lang/Object;II)V" } : Jvm.MethodName)) ∈ xw_T := xw_in 642 (by decide +kernel) (by decide +kernel)
theorem k_643 : (Cond.static ({ cls := "java/lang/System", name := "arraycopy", desc := "(Ljava/lang/Object;ILjava/lang/Object;II)V" } : Jvm.MethodName)) ∈ xw_T := xw_in 643 (by decide +kernel) (by decide +kernel)
theorem k_645 : (Cond.methodLink "QuorumStore$Node" (276 : Nat) ({ cls := "java/lang/Math", name := "min", desc := "(II)I" } : Jvm.MethodName)) ∈ xw_T := xw_in 645 (by decide +kernel) (by decide +kernel)
theorem k_646 : (Cond.static ({ cls := "java/lang/Math", name := "min", desc := "(II)I" } : Jvm.MethodName)) ∈ xw_T := xw_in 646 (by decide +kernel) (by decide +kernel)
theorem k_647 : (Cond.code ({ cls := "java/lang/Math", name := "min", desc := "(II)I" } : Jvm.MethodName) prog_20_method_69_code (2 : Nat) (Option.some Jvm.ClassFile.FieldType.int)) ∈ xw_T := xw_in 647 (by decide +kernel) (by decide +kernel)
theorem k_648 : (Cond.methodLink "QuorumStore$Node" (234 : Nat) ({ cls := "QuorumStore$Node", name := "onSnapshot", desc := "(LQuorumStore$Message;)V" } : Jvm.MethodName)) ∈ xw_T := xw_in 648 (by decide +kernel) (by decide +kernel)
theorem k_650 : (Cond.instanceMethod ({ cls := "QuorumStore$Node", name := "onSnapshot", desc := "(LQuorumStore$Message;)V" } : Jvm.MethodName)) ∈ xw_T := xw_in 650 (by decide +kernel) (by decide +kernel)
theorem k_651 : (Cond.code ({ cls := "QuorumStore$Node", name := "onSnapshot", desc := "(LQuorumStore$Message;)V" } : Jvm.MethodName) prog_5_method_33_code (2 : Nat) (Option.none : Option Jvm.ClassFile.FieldType)) ∈ xw_T := xw_in 651 (by decide +kernel) (by decide +kernel)
theorem k_652 : (Cond.methodLink "QuorumStoreLaw" (83 : Nat) ({ cls := "QuorumStoreLaw", name := "drop", desc := "(LQuorumStore;I[J)I" } : Jvm.MethodName)) ∈ xw_T := xw_in 652 (by decide +kernel) (by decide +kernel)
theorem k_653 : (Cond.static ({ cls := "QuorumStoreLaw", name := "drop", desc := "(LQuorumStore;I[J)I" } : Jvm.MethodName)) ∈ xw_T := xw_in 653 (by decide +kernel) (by decide +kernel)
theorem k_655 : (Cond.methodLink "QuorumStoreLaw" (20 : Nat) ({ cls := "QuorumStore", name := "drop", desc := "(I)I" } : Jvm.MethodName)) ∈ xw_T := xw_in 655 (by decide +kernel) (by decide +kernel)
theorem k_656 : (Cond.instanceMethod ({ cls := "QuorumStore", name := "drop", desc := "(I)I" } : Jvm.MethodName)) ∈ xw_T := xw_in 656 (by decide +kernel) (by decide +kernel)
theorem k_657 : (Cond.selects "QuorumStore" ({ cls := "QuorumStore", name := "drop", desc := "(I)I" } : Jvm.MethodName) ({ cls := "QuorumStore", name := "drop", desc := "(I)I" } : Jvm.MethodName)) ∈ xw_T := xw_in 657 (by decide +kernel) (by decide +kernel)
theorem k_658 : (Cond.code ({ cls := "QuorumStore", name := "drop", desc := "(I)I" } : Jvm.MethodName) prog_1_method_4_code (2 : Nat) (Option.some Jvm.ClassFile.FieldType.int)) ∈ xw_T := xw_in 658 (by decide +kernel) (by decide +kernel)
theorem k_659 : (Cond.methodLink "QuorumStoreLaw" (86 : Nat) ({ cls := "QuorumStoreLaw", name := "copy", desc := "(LQuorumStore;I[J)I" } : Jvm.MethodName)) ∈ xw_T := xw_in 659 (by decide +kernel) (by decide +kernel)
theorem k_660 : (Cond.static ({ cls := "QuorumStoreLaw", name := "copy", desc := "(LQuorumStore;I[J)I" } : Jvm.MethodName)) ∈ xw_T := xw_in 660 (by decide +kernel) (by decide +kernel)
theorem k_662 : (Cond.classLink "QuorumStoreLaw" (26 : Nat) "java/lang/IllegalStateException") ∈ xw_T := xw_in 662 (by decide +kernel) (by decide +kernel)
theorem k_663 : (Cond.methodLink "QuorumStoreLaw" (23 : Nat) ({ cls := "QuorumStore", name := "copy", desc := "(I)I" } : Jvm.MethodName)) ∈ xw_T := xw_in 663 (by decide +kernel) (by decide +kernel)
theorem k_664 : (Cond.instanceMethod ({ cls := "QuorumStore", name := "copy", desc := "(I)I" } : Jvm.MethodName)) ∈ xw_T := xw_in 664 (by decide +kernel) (by decide +kernel)
theorem k_665 : (Cond.selects "QuorumStore" ({ cls := "QuorumStore", name := "copy", desc := "(I)I" } : Jvm.MethodName) ({ cls := "QuorumStore", name := "copy", desc := "(I)I" } : Jvm.MethodName)) ∈ xw_T := xw_in 665 (by decide +kernel) (by decide +kernel)
theorem k_666 : (Cond.code ({ cls := "QuorumStore", name := "copy", desc := "(I)I" } : Jvm.MethodName) prog_1_method_5_code (3 : Nat) (Option.some Jvm.ClassFile.FieldType.int)) ∈ xw_T := xw_in 666 (by decide +kernel) (by decide +kernel)
theorem k_667 : (Cond.methodLink "QuorumStore" (63 : Nat) ({ cls := "QuorumStore$Network", name := "isFull", desc := "()Z" } : Jvm.MethodName)) ∈ xw_T := xw_in 667 (by decide +kernel) (by decide +kernel)
theorem k_668 : (Cond.instanceMethod ({ cls := "QuorumStore$Network", name := "isFull", desc := "()Z" } : Jvm.MethodName)) ∈ xw_T := xw_in 668 (by decide +kernel) (by decide +kernel)
theorem k_669 : (Cond.selects "QuorumStore$Network" ({ cls := "QuorumStore$Network", name := "isFull", desc := "()Z" } : Jvm.MethodName) ({ cls := "QuorumStore$Network", name := "isFull", desc := "()Z" } : Jvm.MethodName)) ∈ xw_T := xw_in 669 (by decide +kernel) (by decide +kernel)
theorem k_670 : (Cond.code ({ cls := "QuorumStore$Network", name := "isFull", desc := "()Z" } : Jvm.MethodName) prog_4_method_2_code (1 : Nat) (Option.some Jvm.ClassFile.FieldType.boolean)) ∈ xw_T := xw_in 670 (by decide +kernel) (by decide +kernel)
theorem k_671 : (Cond.classLink "QuorumStore" (67 : Nat) "java/lang/IllegalStateException") ∈ xw_T := xw_in 671 (by decide +kernel) (by decide +kernel)
theorem k_672 : (Cond.instantiable "java/lang/IllegalStateException" (6 : Nat)) ∈ xw_T := xw_in 672 (by decide +kernel) (by decide +kernel)
theorem k_673 : (Cond.castable "java/lang/IllegalStateException" "java/lang/IllegalStateException") ∈ xw_T := xw_in 673 (by decide +kernel) (by decide +kernel)
theorem k_674 : (Cond.selects "java/lang/IllegalStateException" ({ cls := "java/lang/Throwable", name := "fillInStackTrace", desc := "(I)Ljava/lang/Throwable;" } : Jvm.MethodName) ({ cls := "java/lang/Throwable", name := "fillInStackTrace", desc := "(I)Ljava/lang/Throwable;" } : Jvm.MethodName)) ∈ xw_T := xw_in 674 (by decide +kernel) (by decide +kernel)
theorem k_681 : (Cond.methodLink "QuorumStore" (71 : Nat) ({ cls := "java/lang/IllegalStateException", name := "<init>", desc := "(Ljava/lang/String;)V" } : Jvm.MethodName)) ∈ xw_T := xw_in 681 (by decide +kernel) (by decide +kernel)
theorem k_682 : (Cond.instanceMethod ({ cls := "java/lang/IllegalStateException", name := "<init>", desc := "(Ljava/lang/String;)V" } : Jvm.MethodName)) ∈ xw_T := xw_in 682 (by decide +kernel) (by decide +kernel)
theorem k_684 : (Cond.methodLink "java/lang/IllegalStateException" (7 : Nat) ({ cls := "java/lang/RuntimeException", name := "<init>", desc := "(Ljava/lang/String;)V" } : Jvm.MethodName)) ∈ xw_T := xw_in 684 (by decide +kernel) (by decide +kernel)
theorem k_687 : (Cond.methodLink "QuorumStore" (72 : Nat) ({ cls := "QuorumStore$Network", name := "repeat", desc := "(LQuorumStore$Message;)V" } : Jvm.MethodName)) ∈ xw_T := xw_in 687 (by decide +kernel) (by decide +kernel)
theorem k_688 : (Cond.instanceMethod ({ cls := "QuorumStore$Network", name := "repeat", desc := "(LQuorumStore$Message;)V" } : Jvm.MethodName)) ∈ xw_T := xw_in 688 (by decide +kernel) (by decide +kernel)
theorem k_689 : (Cond.selects "QuorumStore$Network" ({ cls := "QuorumStore$Network", name := "repeat", desc := "(LQuorumStore$Message;)V" } : Jvm.MethodName) ({ cls := "QuorumStore$Network", name := "repeat", desc := "(LQuorumStore$Message;)V" } : Jvm.MethodName)) ∈ xw_T := xw_in 689 (by decide +kernel) (by decide +kernel)
theorem k_690 : (Cond.code ({ cls := "QuorumStore$Network", name := "repeat", desc := "(LQuorumStore$Message;)V" } : Jvm.MethodName) prog_4_method_5_code (2 : Nat) (Option.none : Option Jvm.ClassFile.FieldType)) ∈ xw_T := xw_in 690 (by decide +kernel) (by decide +kernel)
theorem k_691 : (Cond.methodLink "QuorumStoreLaw" (89 : Nat) ({ cls := "QuorumStoreLaw", name := "message", desc := "(LQuorumStore;II[J)I" } : Jvm.MethodName)) ∈ xw_T := xw_in 691 (by decide +kernel) (by decide +kernel)
theorem k_692 : (Cond.static ({ cls := "QuorumStoreLaw", name := "message", desc := "(LQuorumStore;II[J)I" } : Jvm.MethodName)) ∈ xw_T := xw_in 692 (by decide +kernel) (by decide +kernel)
theorem k_694 : (Cond.methodLink "QuorumStoreLaw" (28 : Nat) ({ cls := "QuorumStore", name := "message", desc := "(II)I" } : Jvm.MethodName)) ∈ xw_T := xw_in 694 (by decide +kernel) (by decide +kernel)
theorem k_695 : (Cond.instanceMethod ({ cls := "QuorumStore", name := "message", desc := "(II)I" } : Jvm.MethodName)) ∈ xw_T := xw_in 695 (by decide +kernel) (by decide +kernel)
theorem k_696 : (Cond.selects "QuorumStore" ({ cls := "QuorumStore", name := "message", desc := "(II)I" } : Jvm.MethodName) ({ cls := "QuorumStore", name := "message", desc := "(II)I" } : Jvm.MethodName)) ∈ xw_T := xw_in 696 (by decide +kernel) (by decide +kernel)
theorem k_697 : (Cond.code ({ cls := "QuorumStore", name := "message", desc := "(II)I" } : Jvm.MethodName) prog_1_method_6_code (4 : Nat) (Option.some Jvm.ClassFile.FieldType.int)) ∈ xw_T := xw_in 697 (by decide +kernel) (by decide +kernel)
theorem k_698 : (Cond.methodLink "QuorumStore" (91 : Nat) ({ cls := "QuorumStore$Row", name := "size", desc := "()I" } : Jvm.MethodName)) ∈ xw_T := xw_in 698 (by decide +kernel) (by decide +kernel)
theorem k_699 : (Cond.instanceMethod ({ cls := "QuorumStore$Row", name := "size", desc := "()I" } : Jvm.MethodName)) ∈ xw_T := xw_in 699 (by decide +kernel) (by decide +kernel)
theorem k_700 : (Cond.selects "QuorumStore$Row" ({ cls := "QuorumStore$Row", name := "size", desc := "()I" } : Jvm.MethodName) ({ cls := "QuorumStore$Row", name := "size", desc := "()I" } : Jvm.MethodName)) ∈ xw_T := xw_in 700 (by decide +kernel) (by decide +kernel)
theorem k_701 : (Cond.code ({ cls := "QuorumStore$Row", name := "size", desc := "()I" } : Jvm.MethodName) prog_6_method_9_code (3 : Nat) (Option.some Jvm.ClassFile.FieldType.int)) ∈ xw_T := xw_in 701 (by decide +kernel) (by decide +kernel)
theorem k_703 : (Cond.methodLink "QuorumStoreLaw" (93 : Nat) ({ cls := "QuorumStoreLaw", name := "fall", desc := "(LQuorumStore;I)I" } : Jvm.MethodName)) ∈ xw_T := xw_in 703 (by decide +kernel) (by decide +kernel)
theorem k_704 : (Cond.static ({ cls := "QuorumStoreLaw", name := "fall", desc := "(LQuorumStore;I)I" } : Jvm.MethodName)) ∈ xw_T := xw_in 704 (by decide +kernel) (by decide +kernel)
theorem k_706 : (Cond.methodLink "QuorumStoreLaw" (32 : Nat) ({ cls := "QuorumStore", name := "fall", desc := "(I)V" } : Jvm.MethodName)) ∈ xw_T := xw_in 706 (by decide +kernel) (by decide +kernel)
theorem k_707 : (Cond.instanceMethod ({ cls := "QuorumStore", name := "fall", desc := "(I)V" } : Jvm.MethodName)) ∈ xw_T := xw_in 707 (by decide +kernel) (by decide +kernel)
theorem k_708 : (Cond.selects "QuorumStore" ({ cls := "QuorumStore", name := "fall", desc := "(I)V" } : Jvm.MethodName) ({ cls := "QuorumStore", name := "fall", desc := "(I)V" } : Jvm.MethodName)) ∈ xw_T := xw_in 708 (by decide +kernel) (by decide +kernel)
theorem k_709 : (Cond.code ({ cls := "QuorumStore", name := "fall", desc := "(I)V" } : Jvm.MethodName) prog_1_method_7_code (3 : Nat) (Option.none : Option Jvm.ClassFile.FieldType)) ∈ xw_T := xw_in 709 (by decide +kernel) (by decide +kernel)
theorem k_710 : (Cond.methodLink "QuorumStore" (98 : Nat) ({ cls := "QuorumStore", name := "nodeAt", desc := "(I)LQuorumStore$Node;" } : Jvm.MethodName)) ∈ xw_T := xw_in 710 (by decide +kernel) (by decide +kernel)
theorem k_712 : (Cond.instanceMethod ({ cls := "QuorumStore", name := "nodeAt", desc := "(I)LQuorumStore$Node;" } : Jvm.MethodName)) ∈ xw_T := xw_in 712 (by decide +kernel) (by decide +kernel)
theorem k_713 : (Cond.code ({ cls := "QuorumStore", name := "nodeAt", desc := "(I)LQuorumStore$Node;" } : Jvm.MethodName) prog_1_method_16_code (2 : Nat) (Option.some (Jvm.ClassFile.FieldType.object "QuorumStore$Node"))) ∈ xw_T := xw_in 713 (by decide +kernel) (by decide +kernel)
theorem k_716 : (Cond.methodLink "QuorumStore" (104 : Nat) ({ cls := "QuorumStore$Node", name := "stop", desc := "()V" } : Jvm.MethodName)) ∈ xw_T := xw_in 716 (by decide +kernel) (by decide +kernel)
theorem k_717 : (Cond.instanceMethod ({ cls := "QuorumStore$Node", name := "stop", desc := "()V" } : Jvm.MethodName)) ∈ xw_T := xw_in 717 (by decide +kernel) (by decide +kernel)
theorem k_718 : (Cond.selects "QuorumStore$Node" ({ cls := "QuorumStore$Node", name := "stop", desc := "()V" } : Jvm.MethodName) ({ cls := "QuorumStore$Node", name := "stop", desc := "()V" } : Jvm.MethodName)) ∈ xw_T := xw_in 718 (by decide +kernel) (by decide +kernel)
theorem k_719 : (Cond.code ({ cls := "QuorumStore$Node", name := "stop", desc := "()V" } : Jvm.MethodName) prog_5_method_3_code (1 : Nat) (Option.none : Option Jvm.ClassFile.FieldType)) ∈ xw_T := xw_in 719 (by decide +kernel) (by decide +kernel)
theorem k_720 : (Cond.methodLink "QuorumStoreLaw" (97 : Nat) ({ cls := "QuorumStoreLaw", name := "rise", desc := "(LQuorumStore;I)I" } : Jvm.MethodName)) ∈ xw_T := xw_in 720 (by decide +kernel) (by decide +kernel)
theorem k_721 : (Cond.static ({ cls := "QuorumStoreLaw", name := "rise", desc := "(LQuorumStore;I)I" } : Jvm.MethodName)) ∈ xw_T := xw_in 721 (by decide +kernel) (by decide +kernel)
theorem k_723 : (Cond.methodLink "QuorumStoreLaw" (36 : Nat) ({ cls := "QuorumStore", name := "rise", desc := "(I)V" } : Jvm.MethodName)) ∈ xw_T := xw_in 723 (by decide +kernel) (by decide +kernel)
theorem k_724 : (Cond.instanceMethod ({ cls := "QuorumStore", name := "rise", desc := "(I)V" } : Jvm.MethodName)) ∈ xw_T := xw_in 724 (by decide +kernel) (by decide +kernel)
theorem k_725 : (Cond.selects "QuorumStore" ({ cls := "QuorumStore", name := "rise", desc := "(I)V" } : Jvm.MethodName) ({ cls := "QuorumStore", name := "rise", desc := "(I)V" } : Jvm.MethodName)) ∈ xw_T := xw_in 725 (by decide +kernel) (by decide +kernel)
theorem k_726 : (Cond.code ({ cls := "QuorumStore", name := "rise", desc := "(I)V" } : Jvm.MethodName) prog_1_method_8_code (3 : Nat) (Option.none : Option Jvm.ClassFile.FieldType)) ∈ xw_T := xw_in 726 (by decide +kernel) (by decide +kernel)
theorem k_728 : (Cond.methodLink "QuorumStore" (109 : Nat) ({ cls := "QuorumStore$Node", name := "start", desc := "()V" } : Jvm.MethodName)) ∈ xw_T := xw_in 728 (by decide +kernel) (by decide +kernel)
theorem k_729 : (Cond.instanceMethod ({ cls := "QuorumStore$Node", name := "start", desc := "()V" } : Jvm.MethodName)) ∈ xw_T := xw_in 729 (by decide +kernel) (by decide +kernel)
theorem k_730 : (Cond.selects "QuorumStore$Node" ({ cls := "QuorumStore$Node", name := "start", desc := "()V" } : Jvm.MethodName) ({ cls := "QuorumStore$Node", name := "start", desc := "()V" } : Jvm.MethodName)) ∈ xw_T := xw_in 730 (by decide +kernel) (by decide +kernel)
theorem k_731 : (Cond.code ({ cls := "QuorumStore$Node", name := "start", desc := "()V" } : Jvm.MethodName) prog_5_method_2_code (1 : Nat) (Option.none : Option Jvm.ClassFile.FieldType)) ∈ xw_T := xw_in 731 (by decide +kernel) (by decide +kernel)
theorem k_732 : (Cond.methodLink "QuorumStoreLaw" (100 : Nat) ({ cls := "QuorumStoreLaw", name := "key", desc := "(LQuorumStore;I[J)I" } : Jvm.MethodName)) ∈ xw_T := xw_in 732 (by decide +kernel) (by decide +kernel)
theorem k_733 : (Cond.static ({ cls := "QuorumStoreLaw", name := "key", desc := "(LQuorumStore;I[J)I" } : Jvm.MethodName)) ∈ xw_T := xw_in 733 (by decide +kernel) (by decide +kernel)
theorem k_735 : (Cond.methodLink "QuorumStoreLaw" (39 : Nat) ({ cls := "QuorumStore", name := "key", desc := "(I)I" } : Jvm.MethodName)) ∈ xw_T := xw_in 735 (by decide +kernel) (by decide +kernel)
theorem k_736 : (Cond.instanceMethod ({ cls := "QuorumStore", name := "key", desc := "(I)I" } : Jvm.MethodName)) ∈ xw_T := xw_in 736 (by decide +kernel) (by decide +kernel)
theorem k_737 : (Cond.selects "QuorumStore" ({ cls := "QuorumStore", name := "key", desc := "(I)I" } : Jvm.MethodName) ({ cls := "QuorumStore", name := "key", desc := "(I)I" } : Jvm.MethodName)) ∈ xw_T := xw_in 737 (by decide +kernel) (by decide +kernel)
theorem k_738 : (Cond.code ({ cls := "QuorumStore", name := "key", desc := "(I)I" } : Jvm.MethodName) prog_1_method_9_code (3 : Nat) (Option.some Jvm.ClassFile.FieldType.int)) ∈ xw_T := xw_in 738 (by decide +kernel) (by decide +kernel)
theorem k_740 : (Cond.methodLink "QuorumStoreLaw" (103 : Nat) ({ cls := "QuorumStoreLaw", name := "ask", desc := "(LQuorumStore;IIIIII[J)I" } : Jvm.MethodName)) ∈ xw_T := xw_in 740 (by decide +kernel) (by decide +kernel)
theorem k_741 : (Cond.static ({ cls := "QuorumStoreLaw", name := "ask", desc := "(LQuorumStore;IIIIII[J)I" } : Jvm.MethodName)) ∈ xw_T := xw_in 741 (by decide +kernel) (by decide +kernel)
theorem k_743 : (Cond.methodLink "QuorumStoreLaw" (42 : Nat) ({ cls := "QuorumStore", name := "ask", desc := "(IIIIII)I" } : Jvm.MethodName)) ∈ xw_T := xw_in 743 (by decide +kernel) (by decide +kernel)
theorem k_744 : (Cond.instanceMethod ({ cls := "QuorumStore", name := "ask", desc := "(IIIIII)I" } : Jvm.MethodName)) ∈ xw_T := xw_in 744 (by decide +kernel) (by decide +kernel)
theorem k_745 : (Cond.selects "QuorumStore" ({ cls := "QuorumStore", name := "ask", desc := "(IIIIII)I" } : Jvm.MethodName) ({ cls := "QuorumStore", name := "ask", desc := "(IIIIII)I" } : Jvm.MethodName)) ∈ xw_T := xw_in 745 (by decide +kernel) (by decide +kernel)
theorem k_746 : (Cond.code ({ cls := "QuorumStore", name := "ask", desc := "(IIIIII)I" } : Jvm.MethodName) prog_1_method_10_code (9 : Nat) (Option.some Jvm.ClassFile.FieldType.int)) ∈ xw_T := xw_in 746 (by decide +kernel) (by decide +kernel)
theorem k_747 : (Cond.methodLink "QuorumStore" (117 : Nat) ({ cls := "QuorumStore", name := "checkClient", desc := "(I)V" } : Jvm.MethodName)) ∈ xw_T := xw_in 747 (by decide +kernel) (by decide +kernel)
theorem k_748 : (Cond.static ({ cls := "QuorumStore", name := "checkClient", desc := "(I)V" } : Jvm.MethodName)) ∈ xw_T := xw_in 748 (by decide +kernel) (by decide +kernel)
theorem k_749 : (Cond.code ({ cls := "QuorumStore", name := "checkClient", desc := "(I)V" } : Jvm.MethodName) prog_1_method_18_code (1 : Nat) (Option.none : Option Jvm.ClassFile.FieldType)) ∈ xw_T := xw_in 749 (by decide +kernel) (by decide +kernel)
theorem k_752 : (Cond.methodLink "QuorumStore" (122 : Nat) ({ cls := "QuorumStore$Node", name := "refusal", desc := "(II)I" } : Jvm.MethodName)) ∈ xw_T := xw_in 752 (by decide +kernel) (by decide +kernel)
theorem k_753 : (Cond.instanceMethod ({ cls := "QuorumStore$Node", name := "refusal", desc := "(II)I" } : Jvm.MethodName)) ∈ xw_T := xw_in 753 (by decide +kernel) (by decide +kernel)
theorem k_754 : (Cond.selects "QuorumStore$Node" ({ cls := "QuorumStore$Node", name := "refusal", desc := "(II)I" } : Jvm.MethodName) ({ cls := "QuorumStore$Node", name := "refusal", desc := "(II)I" } : Jvm.MethodName)) ∈ xw_T := xw_in 754 (by decide +kernel) (by decide +kernel)
theorem k_755 : (Cond.code ({ cls := "QuorumStore$Node", name := "refusal", desc := "(II)I" } : Jvm.MethodName) prog_5_method_19_code (3 : Nat) (Option.some Jvm.ClassFile.FieldType.int)) ∈ xw_T := xw_in 755 (by decide +kernel) (by decide +kernel)
theorem k_756 : (Cond.methodLink "QuorumStore$Node" (188 : Nat) ({ cls := "QuorumStore$Lead", name := "isPending", desc := "(II)Z" } : Jvm.MethodName)) ∈ xw_T := xw_in 756 (by decide +kernel) (by decide +kernel)
theorem k_757 : (Cond.instanceMethod ({ cls := "QuorumStore$Lead", name := "isPending", desc := "(II)Z" } : Jvm.MethodName)) ∈ xw_T := xw_in 757 (by decide +kernel) (by decide +kernel)
theorem k_758 : (Cond.selects "QuorumStore$Lead" ({ cls := "QuorumStore$Lead", name := "isPending", desc := "(II)Z" } : Jvm.MethodName) ({ cls := "QuorumStore$Lead", name := "isPending", desc := "(II)Z" } : Jvm.MethodName)) ∈ xw_T := xw_in 758 (by decide +kernel) (by decide +kernel)
theorem k_759 : (Cond.code ({ cls := "QuorumStore$Lead", name := "isPending", desc := "(II)Z" } : Jvm.MethodName) prog_2_method_8_code (3 : Nat) (Option.some Jvm.ClassFile.FieldType.boolean)) ∈ xw_T := xw_in 759 (by decide +kernel) (by decide +kernel)
theorem k_760 : (Cond.methodLink "QuorumStore$Lead" (66 : Nat) ({ cls := "QuorumStore$Lead", name := "isAmong", desc := "([LQuorumStore$Value;II)Z" } : Jvm.MethodName)) ∈ xw_T := xw_in 760 (by decide +kernel) (by decide +kernel)
theorem k_761 : (Cond.static ({ cls := "QuorumStore$Lead", name := "isAmong", desc := "([LQuorumStore$Value;II)Z" } : Jvm.MethodName)) ∈ xw_T := xw_in 761 (by decide +kernel) (by decide +kernel)
theorem k_762 : (Cond.code ({ cls := "QuorumStore$Lead", name := "isAmong", desc := "([LQuorumStore$Value;II)Z" } : Jvm.MethodName) prog_2_method_9_code (7 : Nat) (Option.some Jvm.ClassFile.FieldType.boolean)) ∈ xw_T := xw_in 762 (by decide +kernel) (by decide +kernel)
theorem k_763 : (Cond.methodLink "QuorumStore$Node" (191 : Nat) ({ cls := "QuorumStore$Lead", name := "isQueueFull", desc := "()Z" } : Jvm.MethodName)) ∈ xw_T := xw_in 763 (by decide +kernel) (by decide +kernel)
theorem k_764 : (Cond.instanceMethod ({ cls := "QuorumStore$Lead", name := "isQueueFull", desc := "()Z" } : Jvm.MethodName)) ∈ xw_T := xw_in 764 (by decide +kernel) (by decide +kernel)
theorem k_765 : (Cond.selects "QuorumStore$Lead" ({ cls := "QuorumStore$Lead", name := "isQueueFull", desc := "()Z" } : Jvm.MethodName) ({ cls := "QuorumStore$Lead", name := "isQueueFull", desc := "()Z" } : Jvm.MethodName)) ∈ xw_T := xw_in 765 (by decide +kernel) (by decide +kernel)
theorem k_766 : (Cond.code ({ cls := "QuorumStore$Lead", name := "isQueueFull", desc := "()Z" } : Jvm.MethodName) prog_2_method_5_code (1 : Nat) (Option.some Jvm.ClassFile.FieldType.boolean)) ∈ xw_T := xw_in 766 (by decide +kernel) (by decide +kernel)
theorem k_767 : (Cond.classLink "QuorumStore" (126 : Nat) "QuorumStore$Value") ∈ xw_T := xw_in 767 (by decide +kernel) (by decide +kernel)
theorem k_768 : (Cond.methodLink "QuorumStore" (128 : Nat) ({ cls := "QuorumStore$Value", name := "<init>", desc := "(IIIIII)V" } : Jvm.MethodName)) ∈ xw_T := xw_in 768 (by decide +kernel) (by decide +kernel)
theorem k_769 : (Cond.methodLink "QuorumStore" (131 : Nat) ({ cls := "QuorumStore$Node", name := "take", desc := "(LQuorumStore$Value;)V" } : Jvm.MethodName)) ∈ xw_T := xw_in 769 (by decide +kernel) (by decide +kernel)
theorem k_770 : (Cond.instanceMethod ({ cls := "QuorumStore$Node", name := "take", desc := "(LQuorumStore$Value;)V" } : Jvm.MethodName)) ∈ xw_T := xw_in 770 (by decide +kernel) (by decide +kernel)
theorem k_771 : (Cond.selects "QuorumStore$Node" ({ cls := "QuorumStore$Node", name := "take", desc := "(LQuorumStore$Value;)V" } : Jvm.MethodName) ({ cls := "QuorumStore$Node", name := "take", desc := "(LQuorumStore$Value;)V" } : Jvm.MethodName)) ∈ xw_T := xw_in 771 (by decide +kernel) (by decide +kernel)
theorem k_772 : (Cond.code ({ cls := "QuorumStore$Node", name := "take", desc := "(LQuorumStore$Value;)V" } : Jvm.MethodName) prog_5_method_20_code (2 : Nat) (Option.none : Option Jvm.ClassFile.FieldType)) ∈ xw_T := xw_in 772 (by decide +kernel) (by decide +kernel)
theorem k_773 : (Cond.methodLink "QuorumStore$Node" (195 : Nat) ({ cls := "QuorumStore$Lead", name := "enqueue", desc := "(LQuorumStore$Value;)V" } : Jvm.MethodName)) ∈ xw_T := xw_in 773 (by decide +kernel) (by decide +kernel)
theorem k_774 : (Cond.instanceMethod ({ cls := "QuorumStore$Lead", name := "enqueue", desc := "(LQuorumStore$Value;)V" } : Jvm.MethodName)) ∈ xw_T := xw_in 774 (by decide +kernel) (by decide +kernel)
theorem k_775 : (Cond.selects "QuorumStore$Lead" ({ cls := "QuorumStore$Lead", name := "enqueue", desc := "(LQuorumStore$Value;)V" } : Jvm.MethodName) ({ cls := "QuorumStore$Lead", name := "enqueue", desc := "(LQuorumStore$Value;)V" } : Jvm.MethodName)) ∈ xw_T := xw_in 775 (by decide +kernel) (by decide +kernel)
theorem k_776 : (Cond.code ({ cls := "QuorumStore$Lead", name := "enqueue", desc := "(LQuorumStore$Value;)V" } : Jvm.MethodName) prog_2_method_6_code (2 : Nat) (Option.none : Option Jvm.ClassFile.FieldType)) ∈ xw_T := xw_in 776 (by decide +kernel) (by decide +kernel)
theorem k_777 : (Cond.methodLink "QuorumStoreLaw" (107 : Nat) ({ cls := "QuorumStoreLaw", name := "answer", desc := "(LQuorumStore;III[J)I" } : Jvm.MethodName)) ∈ xw_T := xw_in 777 (by decide +kernel) (by decide +kernel)
theorem k_778 : (Cond.static ({ cls := "QuorumStoreLaw", name := "answer", desc := "(LQuorumStore;III[J)I" } : Jvm.MethodName)) ∈ xw_T := xw_in 778 (by decide +kernel) (by decide +kernel)
theorem k_780 : (Cond.methodLink "QuorumStoreLaw" (46 : Nat) ({ cls := "QuorumStore", name := "answer", desc := "(III)J" } : Jvm.MethodName)) ∈ xw_T := xw_in 780 (by decide +kernel) (by decide +kernel)
theorem k_781 : (Cond.instanceMethod ({ cls := "QuorumStore", name := "answer", desc := "(III)J" } : Jvm.MethodName)) ∈ xw_T := xw_in 781 (by decide +kernel) (by decide +kernel)
theorem k_782 : (Cond.selects "QuorumStore" ({ cls := "QuorumStore", name := "answer", desc := "(III)J" } : Jvm.MethodName) ({ cls := "QuorumStore", name := "answer", desc := "(III)J" } : Jvm.MethodName)) ∈ xw_T := xw_in 782 (by decide +kernel) (by decide +kernel)
theorem k_783 : (Cond.code ({ cls := "QuorumStore", name := "answer", desc := "(III)J" } : Jvm.MethodName) prog_1_method_11_code (5 : Nat) (Option.some Jvm.ClassFile.FieldType.long)) ∈ xw_T := xw_in 783 (by decide +kernel) (by decide +kernel)
theorem k_785 : (Cond.methodLink "QuorumStoreLaw" (111 : Nat) ({ cls := "QuorumStoreLaw", name := "number", desc := "(LQuorumStore;II[J)I" } : Jvm.MethodName)) ∈ xw_T := xw_in 785 (by decide +kernel) (by decide +kernel)
theorem k_786 : (Cond.static ({ cls := "QuorumStoreLaw", name := "number", desc := "(LQuorumStore;II[J)I" } : Jvm.MethodName)) ∈ xw_T := xw_in 786 (by decide +kernel) (by decide +kernel)
theorem k_788 : (Cond.methodLink "QuorumStoreLaw" (50 : Nat) ({ cls := "QuorumStore", name := "number", desc := "(II)J" } : Jvm.MethodName)) ∈ xw_T := xw_in 788 (by decide +kernel) (by decide +kernel)
theorem k_789 : (Cond.instanceMethod ({ cls := "QuorumStore", name := "number", desc := "(II)J" } : Jvm.MethodName)) ∈ xw_T := xw_in 789 (by decide +kernel) (by decide +kernel)
theorem k_790 : (Cond.selects "QuorumStore" ({ cls := "QuorumStore", name := "number", desc := "(II)J" } : Jvm.MethodName) ({ cls := "QuorumStore", name := "number", desc := "(II)J" } : Jvm.MethodName)) ∈ xw_T := xw_in 790 (by decide +kernel) (by decide +kernel)
theorem k_791 : (Cond.code ({ cls := "QuorumStore", name := "number", desc := "(II)J" } : Jvm.MethodName) prog_1_method_12_code (4 : Nat) (Option.some Jvm.ClassFile.FieldType.long)) ∈ xw_T := xw_in 791 (by decide +kernel) (by decide +kernel)
theorem k_793 : (Cond.methodLink "QuorumStoreLaw" (114 : Nat) ({ cls := "QuorumStoreLaw", name := "known", desc := "(LQuorumStore;III[J)I" } : Jvm.MethodName)) ∈ xw_T := xw_in 793 (by decide +kernel) (by decide +kernel)
theorem k_794 : (Cond.static ({ cls := "QuorumStoreLaw", name := "known", desc := "(LQuorumStore;III[J)I" } : Jvm.MethodName)) ∈ xw_T := xw_in 794 (by decide +kernel) (by decide +kernel)
theorem k_796 : (Cond.methodLink "QuorumStoreLaw" (54 : Nat) ({ cls := "QuorumStore", name := "known", desc := "(III)I" } : Jvm.MethodName)) ∈ xw_T := xw_in 796 (by decide +kernel) (by decide +kernel)
theorem k_797 : (Cond.instanceMethod ({ cls := "QuorumStore", name := "known", desc := "(III)I" } : Jvm.MethodName)) ∈ xw_T := xw_in 797 (by decide +kernel) (by decide +kernel)
theorem k_798 : (Cond.selects "QuorumStore" ({ cls := "QuorumStore", name := "known", desc := "(III)I" } : Jvm.MethodName) ({ cls := "QuorumStore", name := "known", desc := "(III)I" } : Jvm.MethodName)) ∈ xw_T := xw_in 798 (by decide +kernel) (by decide +kernel)
theorem k_799 : (Cond.code ({ cls := "QuorumStore", name := "known", desc := "(III)I" } : Jvm.MethodName) prog_1_method_13_code (5 : Nat) (Option.some Jvm.ClassFile.FieldType.int)) ∈ xw_T := xw_in 799 (by decide +kernel) (by decide +kernel)
theorem k_800 : (Cond.methodLink "QuorumStore" (162 : Nat) ({ cls := "QuorumStore$Row", name := "valueAt", desc := "(I)LQuorumStore$Value;" } : Jvm.MethodName)) ∈ xw_T := xw_in 800 (by decide +kernel) (by decide +kernel)
theorem k_802 : (Cond.methodLink "QuorumStoreLaw" (117 : Nat) ({ cls := "QuorumStoreLaw", name := "about", desc := "(LQuorumStore;II[J)I" } : Jvm.MethodName)) ∈ xw_T := xw_in 802 (by decide +kernel) (by decide +kernel)
theorem k_803 : (Cond.static ({ cls := "QuorumStoreLaw", name := "about", desc := "(LQuorumStore;II[J)I" } : Jvm.MethodName)) ∈ xw_T := xw_in 803 (by decide +kernel) (by decide +kernel)
theorem k_805 : (Cond.methodLink "QuorumStoreLaw" (58 : Nat) ({ cls := "QuorumStore", name := "about", desc := "(II)I" } : Jvm.MethodName)) ∈ xw_T := xw_in 805 (by decide +kernel) (by decide +kernel)
theorem k_806 : (Cond.instanceMethod ({ cls := "QuorumStore", name := "about", desc := "(II)I" } : Jvm.MethodName)) ∈ xw_T := xw_in 806 (by decide +kernel) (by decide +kernel)
theorem k_807 : (Cond.selects "QuorumStore" ({ cls := "QuorumStore", name := "about", desc := "(II)I" } : Jvm.MethodName) ({ cls := "QuorumStore", name := "about", desc := "(II)I" } : Jvm.MethodName)) ∈ xw_T := xw_in 807 (by decide +kernel) (by decide +kernel)
theorem k_808 : (Cond.code ({ cls := "QuorumStore", name := "about", desc := "(II)I" } : Jvm.MethodName) prog_1_method_14_code (4 : Nat) (Option.some Jvm.ClassFile.FieldType.int)) ∈ xw_T := xw_in 808 (by decide +kernel) (by decide +kernel)
theorem k_809 : (Cond.methodLink "QuorumStore" (197 : Nat) ({ cls := "QuorumStore$State", name := "configAt", desc := "(I)I" } : Jvm.MethodName)) ∈ xw_T := xw_in 809 (by decide +kernel) (by decide +kernel)
theorem k_811 : (Cond.classLink "QuorumStoreLaw" (69 : Nat) "QuorumStoreModel") ∈ xw_T := xw_in 811 (by decide +kernel) (by decide +kernel)
theorem k_812 : (Cond.instantiable "QuorumStoreModel" (10 : Nat)) ∈ xw_T := xw_in 812 (by decide +kernel) (by decide +kernel)
theorem k_813 : (Cond.methodLink "QuorumStoreLaw" (71 : Nat) ({ cls := "QuorumStoreModel", name := "<init>", desc := "(I)V" } : Jvm.MethodName)) ∈ xw_T := xw_in 813 (by decide +kernel) (by decide +kernel)
theorem k_814 : (Cond.instanceMethod ({ cls := "QuorumStoreModel", name := "<init>", desc := "(I)V" } : Jvm.MethodName)) ∈ xw_T := xw_in 814 (by decide +kernel) (by decide +kernel)
theorem k_815 : (Cond.code ({ cls := "QuorumStoreModel", name := "<init>", desc := "(I)V" } : Jvm.MethodName) prog_10_method_1_code (3 : Nat) (Option.none : Option Jvm.ClassFile.FieldType)) ∈ xw_T := xw_in 815 (by decide +kernel) (by decide +kernel)
theorem k_816 : (Cond.methodLink "QuorumStoreModel" (1 : Nat) ({ cls := "java/lang/Object", name := "<init>", desc := "()V" } : Jvm.MethodName)) ∈ xw_T := xw_in 816 (by decide +kernel) (by decide +kernel)
theorem k_817 : (Cond.classLink "QuorumStoreModel" (9 : Nat) "QuorumStoreModel$Node") ∈ xw_T := xw_in 817 (by decide +kernel) (by decide +kernel)
theorem k_818 : (Cond.arrayOver (Jvm.ClassFile.FieldType.object "QuorumStoreModel$Node")) ∈ xw_T := xw_in 818 (by decide +kernel) (by decide +kernel)
theorem k_819 : (Cond.classLink "QuorumStoreModel" (15 : Nat) "QuorumStoreModel$Message") ∈ xw_T := xw_in 819 (by decide +kernel) (by decide +kernel)
theorem k_820 : (Cond.arrayOver (Jvm.ClassFile.FieldType.object "QuorumStoreModel$Message")) ∈ xw_T := xw_in 820 (by decide +kernel) (by decide +kernel)
theorem k_821 : (Cond.instantiable "QuorumStoreModel$Message" (8 : Nat)) ∈ xw_T := xw_in 821 (by decide +kernel) (by decide +kernel)
theorem k_822 : (Cond.methodLinkNest "QuorumStoreModel" (21 : Nat) ({ cls := "QuorumStoreModel$Message", name := "<init>", desc := "()V" } : Jvm.MethodName) "QuorumStoreModel") ∈ xw_T := xw_in 822 (by decide +kernel) (by decide +kernel)
theorem k_823 : (Cond.instanceMethod ({ cls := "QuorumStoreModel$Message", name := "<init>", desc := "()V" } : Jvm.MethodName)) ∈ xw_T := xw_in 823 (by decide +kernel) (by decide +kernel)
theorem k_824 : (Cond.code ({ cls := "QuorumStoreModel$Message", name := "<init>", desc := "()V" } : Jvm.MethodName) prog_11_method_1_code (1 : Nat) (Option.none : Option Jvm.ClassFile.FieldType)) ∈ xw_T := xw_in 824 (by decide +kernel) (by decide +kernel)
theorem k_825 : (Cond.methodLink "QuorumStoreModel$Message" (1 : Nat) ({ cls := "java/lang/Object", name := "<init>", desc := "()V" } : Jvm.MethodName)) ∈ xw_T := xw_in 825 (by decide +kernel) (by decide +kernel)
theorem k_826 : (Cond.classLink "QuorumStoreModel$Message" (7 : Nat) "QuorumStoreModel$Slots") ∈ xw_T := xw_in 826 (by decide +kernel) (by decide +kernel)
theorem k_827 : (Cond.instantiable "QuorumStoreModel$Slots" (4 : Nat)) ∈ xw_T := xw_in 827 (by decide +kernel) (by decide +kernel)
theorem k_828 : (Cond.methodLinkNest "QuorumStoreModel$Message" (9 : Nat) ({ cls := "QuorumStoreModel$Slots", name := "<init>", desc := "()V" } : Jvm.MethodName) "QuorumStoreModel") ∈ xw_T := xw_in 828 (by decide +kernel) (by decide +kernel)
theorem k_829 : (Cond.instanceMethod ({ cls := "QuorumStoreModel$Slots", name := "<init>", desc := "()V" } : Jvm.MethodName)) ∈ xw_T := xw_in 829 (by decide +kernel) (by decide +kernel)
theorem k_830 : (Cond.code ({ cls := "QuorumStoreModel$Slots", name := "<init>", desc := "()V" } : Jvm.MethodName) prog_13_method_1_code (1 : Nat) (Option.none : Option Jvm.ClassFile.FieldType)) ∈ xw_T := xw_in 830 (by decide +kernel) (by decide +kernel)
theorem k_831 : (Cond.methodLink "QuorumStoreModel$Slots" (3 : Nat) ({ cls := "java/lang/Object", name := "<init>", desc := "()V" } : Jvm.MethodName)) ∈ xw_T := xw_in 831 (by decide +kernel) (by decide +kernel)
theorem k_832 : (Cond.classLink "QuorumStoreModel$Slots" (18 : Nat) "QuorumStoreModel$Value") ∈ xw_T := xw_in 832 (by decide +kernel) (by decide +kernel)
theorem k_833 : (Cond.arrayOver (Jvm.ClassFile.FieldType.object "QuorumStoreModel$Value")) ∈ xw_T := xw_in 833 (by decide +kernel) (by decide +kernel)
theorem k_834 : (Cond.fieldLink "QuorumStoreModel$Slots" (9 : Nat) "QuorumStoreModel$Slots" "slot" "[I") ∈ xw_T := xw_in 834 (by decide +kernel) (by decide +kernel)
theorem k_835 : (Cond.fieldLink "QuorumStoreModel" (226 : Nat) "QuorumStoreModel$Slots" "slot" "[I") ∈ xw_T := xw_in 835 (by decide +kernel) (by decide +kernel)
theorem k_836 : (Cond.fieldLink "QuorumStoreModel$Slots" (15 : Nat) "QuorumStoreModel$Slots" "number" "[I") ∈ xw_T := xw_in 836 (by decide +kernel) (by decide +kernel)
theorem k_837 : (Cond.fieldLink "QuorumStoreModel" (228 : Nat) "QuorumStoreModel$Slots" "number" "[I") ∈ xw_T := xw_in 837 (by decide +kernel) (by decide +kernel)
theorem k_838 : (Cond.fieldLink "QuorumStoreModel$Slots" (20 : Nat) "QuorumStoreModel$Slots" "value" "[LQuorumStoreModel$Value;") ∈ xw_T := xw_in 838 (by decide +kernel) (by decide +kernel)
theorem k_839 : (Cond.fieldLink "QuorumStoreModel" (110 : Nat) "QuorumStoreModel$Slots" "value" "[LQuorumStoreModel$Value;") ∈ xw_T := xw_in 839 (by decide +kernel) (by decide +kernel)
theorem k_840 : (Cond.fieldLink "QuorumStoreModel$Slots" (24 : Nat) "QuorumStoreModel$Slots" "n" "I") ∈ xw_T := xw_in 840 (by decide +kernel) (by decide +kernel)
theorem k_841 : (Cond.fieldLink "QuorumStoreModel$Message" (43 : Nat) "QuorumStoreModel$Slots" "n" "I") ∈ xw_T := xw_in 841 (by decide +kernel) (by decide +kernel)
theorem k_842 : (Cond.fieldLink "QuorumStoreModel" (210 : Nat) "QuorumStoreModel$Slots" "n" "I") ∈ xw_T := xw_in 842 (by decide +kernel) (by decide +kernel)
theorem k_852 : (Cond.classLink "QuorumStoreModel$Message" (16 : Nat) "QuorumStoreModel$State") ∈ xw_T := xw_in 852 (by decide +kernel) (by decide +kernel)
theorem k_853 : (Cond.instantiable "QuorumStoreModel$State" (7 : Nat)) ∈ xw_T := xw_in 853 (by decide +kernel) (by decide +kernel)
theorem k_854 : (Cond.methodLink "QuorumStoreModel$Message" (18 : Nat) ({ cls := "QuorumStoreModel$State", name := "<init>", desc := "()V" } : Jvm.MethodName)) ∈ xw_T := xw_in 854 (by decide +kernel) (by decide +kernel)
theorem k_855 : (Cond.instanceMethod ({ cls := "QuorumStoreModel$State", name := "<init>", desc := "()V" } : Jvm.MethodName)) ∈ xw_T := xw_in 855 (by decide +kernel) (by decide +kernel)
theorem k_856 : (Cond.code ({ cls := "QuorumStoreModel$State", name := "<init>", desc := "()V" } : Jvm.MethodName) prog_14_method_1_code (2 : Nat) (Option.none : Option Jvm.ClassFile.FieldType)) ∈ xw_T := xw_in 856 (by decide +kernel) (by decide +kernel)
theorem k_857 : (Cond.methodLink "QuorumStoreModel$State" (3 : Nat) ({ cls := "java/lang/Object", name := "<init>", desc := "()V" } : Jvm.MethodName)) ∈ xw_T := xw_in 857 (by decide +kernel) (by decide +kernel)
theorem k_858 : (Cond.constantLong "QuorumStoreModel$State" (28 : Nat) (1099511627776 : Int64)) ∈ xw_T := xw_in 858 (by decide +kernel) (by decide +kernel)
theorem k_859 : (Cond.fieldLink "QuorumStoreModel$State" (30 : Nat) "QuorumStoreModel$State" "applied" "I") ∈ xw_T := xw_in 859 (by decide +kernel) (by decide +kernel)
theorem k_860 : (Cond.fieldLink "QuorumStoreModel" (92 : Nat) "QuorumStoreModel$State" "applied" "I") ∈ xw_T := xw_in 860 (by decide +kernel) (by decide +kernel)
theorem k_861 : (Cond.fieldLink "QuorumStoreModel$State" (9 : Nat) "QuorumStoreModel$State" "numbers" "[J") ∈ xw_T := xw_in 861 (by decide +kernel) (by decide +kernel)
theorem k_862 : (Cond.fieldLink "QuorumStoreModel" (139 : Nat) "QuorumStoreModel$State" "numbers" "[J") ∈ xw_T := xw_in 862 (by decide +kernel) (by decide +kernel)
theorem k_863 : (Cond.fieldLink "QuorumStoreModel$State" (15 : Nat) "QuorumStoreModel$State" "results" "[J") ∈ xw_T := xw_in 863 (by decide +kernel) (by decide +kernel)
theorem k_864 : (Cond.fieldLink "QuorumStoreModel" (154 : Nat) "QuorumStoreModel$State" "results" "[J") ∈ xw_T := xw_in 864 (by decide +kernel) (by decide +kernel)
theorem k_865 : (Cond.fieldLink "QuorumStoreModel$State" (18 : Nat) "QuorumStoreModel$State" "seqs" "[I") ∈ xw_T := xw_in 865 (by decide +kernel) (by decide +kernel)
theorem k_866 : (Cond.fieldLink "QuorumStoreModel" (132 : Nat) "QuorumStoreModel$State" "seqs" "[I") ∈ xw_T := xw_in 866 (by decide +kernel) (by decide +kernel)
theorem k_867 : (Cond.fieldLink "QuorumStoreModel$State" (22 : Nat) "QuorumStoreModel$State" "from" "[I") ∈ xw_T := xw_in 867 (by decide +kernel) (by decide +kernel)
theorem k_868 : (Cond.fieldLink "QuorumStoreModel$State" (25 : Nat) "QuorumStoreModel$State" "mask" "[I") ∈ xw_T := xw_in 868 (by decide +kernel) (by decide +kernel)
theorem k_869 : (Cond.fieldLink "QuorumStoreModel$State" (34 : Nat) "QuorumStoreModel$State" "configs" "I") ∈ xw_T := xw_in 869 (by decide +kernel) (by decide +kernel)
theorem k_870 : (Cond.fieldLink "QuorumStoreModel" (324 : Nat) "QuorumStoreModel$State" "configs" "I") ∈ xw_T := xw_in 870 (by decide +kernel) (by decide +kernel)
theorem k_886 : (Cond.fieldLink "QuorumStoreModel$Message" (23 : Nat) "QuorumStoreModel$Message" "kind" "I") ∈ xw_T := xw_in 886 (by decide +kernel) (by decide +kernel)
theorem k_887 : (Cond.fieldLink "QuorumStoreModel" (59 : Nat) "QuorumStoreModel$Message" "kind" "I") ∈ xw_T := xw_in 887 (by decide +kernel) (by decide +kernel)
theorem k_888 : (Cond.fieldLink "QuorumStoreModel$Message" (27 : Nat) "QuorumStoreModel$Message" "from" "I") ∈ xw_T := xw_in 888 (by decide +kernel) (by decide +kernel)
theorem k_889 : (Cond.fieldLink "QuorumStoreModel" (65 : Nat) "QuorumStoreModel$Message" "from" "I") ∈ xw_T := xw_in 889 (by decide +kernel) (by decide +kernel)
theorem k_890 : (Cond.fieldLink "QuorumStoreModel$Message" (30 : Nat) "QuorumStoreModel$Message" "to" "I") ∈ xw_T := xw_in 890 (by decide +kernel) (by decide +kernel)
theorem k_891 : (Cond.fieldLink "QuorumStoreModel" (68 : Nat) "QuorumStoreModel$Message" "to" "I") ∈ xw_T := xw_in 891 (by decide +kernel) (by decide +kernel)
theorem k_892 : (Cond.fieldLink "QuorumStoreModel$Message" (33 : Nat) "QuorumStoreModel$Message" "ballot" "I") ∈ xw_T := xw_in 892 (by decide +kernel) (by decide +kernel)
theorem k_893 : (Cond.fieldLink "QuorumStoreModel" (71 : Nat) "QuorumStoreModel$Message" "ballot" "I") ∈ xw_T := xw_in 893 (by decide +kernel) (by decide +kernel)
theorem k_894 : (Cond.fieldLink "QuorumStoreModel$Message" (36 : Nat) "QuorumStoreModel$Message" "slot" "I") ∈ xw_T := xw_in 894 (by decide +kernel) (by decide +kernel)
theorem k_895 : (Cond.fieldLink "QuorumStoreModel" (74 : Nat) "QuorumStoreModel$Message" "slot" "I") ∈ xw_T := xw_in 895 (by decide +kernel) (by decide +kernel)
theorem k_896 : (Cond.fieldLink "QuorumStoreModel$Message" (39 : Nat) "QuorumStoreModel$Message" "value" "LQuorumStoreModel$Value;") ∈ xw_T := xw_in 896 (by decide +kernel) (by decide +kernel)
theorem k_897 : (Cond.fieldLink "QuorumStoreModel" (77 : Nat) "QuorumStoreModel$Message" "value" "LQuorumStoreModel$Value;") ∈ xw_T := xw_in 897 (by decide +kernel) (by decide +kernel)
theorem k_898 : (Cond.fieldLink "QuorumStoreModel$Message" (10 : Nat) "QuorumStoreModel$Message" "list" "LQuorumStoreModel$Slots;") ∈ xw_T := xw_in 898 (by decide +kernel) (by decide +kernel)
theorem k_899 : (Cond.fieldLink "QuorumStoreModel" (272 : Nat) "QuorumStoreModel$Message" "list" "LQuorumStoreModel$Slots;") ∈ xw_T := xw_in 899 (by decide +kernel) (by decide +kernel)
theorem k_900 : (Cond.fieldLink "QuorumStoreModel$Message" (19 : Nat) "QuorumStoreModel$Message" "state" "LQuorumStoreModel$State;") ∈ xw_T := xw_in 900 (by decide +kernel) (by decide +kernel)
theorem k_901 : (Cond.fieldLink "QuorumStoreModel" (294 : Nat) "QuorumStoreModel$Message" "state" "LQuorumStoreModel$State;") ∈ xw_T := xw_in 901 (by decide +kernel) (by decide +kernel)
theorem k_919 : (Cond.instantiable "QuorumStoreModel$Node" (17 : Nat)) ∈ xw_T := xw_in 919 (by decide +kernel) (by decide +kernel)
theorem k_920 : (Cond.methodLink "QuorumStoreModel" (29 : Nat) ({ cls := "QuorumStoreModel$Node", name := "<init>", desc := "(I)V" } : Jvm.MethodName)) ∈ xw_T := xw_in 920 (by decide +kernel) (by decide +kernel)
theorem k_921 : (Cond.instanceMethod ({ cls := "QuorumStoreModel$Node", name := "<init>", desc := "(I)V" } : Jvm.MethodName)) ∈ xw_T := xw_in 921 (by decide +kernel) (by decide +kernel)
theorem k_922 : (Cond.code ({ cls := "QuorumStoreModel$Node", name := "<init>", desc := "(I)V" } : Jvm.MethodName) prog_12_method_1_code (2 : Nat) (Option.none : Option Jvm.ClassFile.FieldType)) ∈ xw_T := xw_in 922 (by decide +kernel) (by decide +kernel)
theorem k_923 : (Cond.methodLink "QuorumStoreModel$Node" (3 : Nat) ({ cls := "java/lang/Object", name := "<init>", desc := "()V" } : Jvm.MethodName)) ∈ xw_T := xw_in 923 (by decide +kernel) (by decide +kernel)
theorem k_924 : (Cond.classLink "QuorumStoreModel$Node" (19 : Nat) "QuorumStoreModel$State") ∈ xw_T := xw_in 924 (by decide +kernel) (by decide +kernel)
theorem k_925 : (Cond.methodLink "QuorumStoreModel$Node" (21 : Nat) ({ cls := "QuorumStoreModel$State", name := "<init>", desc := "()V" } : Jvm.MethodName)) ∈ xw_T := xw_in 925 (by decide +kernel) (by decide +kernel)
theorem k_926 : (Cond.classLink "QuorumStoreModel$Node" (26 : Nat) "QuorumStoreModel$Slots") ∈ xw_T := xw_in 926 (by decide +kernel) (by decide +kernel)
theorem k_927 : (Cond.methodLinkNest "QuorumStoreModel$Node" (28 : Nat) ({ cls := "QuorumStoreModel$Slots", name := "<init>", desc := "()V" } : Jvm.MethodName) "QuorumStoreModel") ∈ xw_T := xw_in 927 (by decide +kernel) (by decide +kernel)
theorem k_928 : (Cond.classLink "QuorumStoreModel$Node" (42 : Nat) "QuorumStoreModel$Value") ∈ xw_T := xw_in 928 (by decide +kernel) (by decide +kernel)
theorem k_929 : (Cond.fieldLink "QuorumStoreModel$Node" (48 : Nat) "QuorumStoreModel$Node" "number" "I") ∈ xw_T := xw_in 929 (by decide +kernel) (by decide +kernel)
theorem k_930 : (Cond.fieldLink "QuorumStoreModel" (62 : Nat) "QuorumStoreModel$Node" "number" "I") ∈ xw_T := xw_in 930 (by decide +kernel) (by decide +kernel)
theorem k_931 : (Cond.fieldLink "QuorumStoreModel$Node" (9 : Nat) "QuorumStoreModel$Node" "live" "Z") ∈ xw_T := xw_in 931 (by decide +kernel) (by decide +kernel)
theorem k_932 : (Cond.fieldLink "QuorumStoreModel" (256 : Nat) "QuorumStoreModel$Node" "live" "Z") ∈ xw_T := xw_in 932 (by decide +kernel) (by decide +kernel)
theorem k_933 : (Cond.fieldLink "QuorumStoreModel" (173 : Nat) "QuorumStoreModel$Node" "leads" "Z") ∈ xw_T := xw_in 933 (by decide +kernel) (by decide +kernel)
theorem k_934 : (Cond.fieldLink "QuorumStoreModel" (195 : Nat) "QuorumStoreModel$Node" "promised" "I") ∈ xw_T := xw_in 934 (by decide +kernel) (by decide +kernel)
theorem k_935 : (Cond.fieldLink "QuorumStoreModel" (123 : Nat) "QuorumStoreModel$Node" "base" "I") ∈ xw_T := xw_in 935 (by decide +kernel) (by decide +kernel)
theorem k_936 : (Cond.fieldLink "QuorumStoreModel" (186 : Nat) "QuorumStoreModel$Node" "ballot" "I") ∈ xw_T := xw_in 936 (by decide +kernel) (by decide +kernel)
theorem k_937 : (Cond.fieldLink "QuorumStoreModel$Node" (51 : Nat) "QuorumStoreModel$Node" "timer" "I") ∈ xw_T := xw_in 937 (by decide +kernel) (by decide +kernel)
theorem k_938 : (Cond.fieldLink "QuorumStoreModel" (219 : Nat) "QuorumStoreModel$Node" "timer" "I") ∈ xw_T := xw_in 938 (by decide +kernel) (by decide +kernel)
theorem k_939 : (Cond.fieldLink "QuorumStoreModel$Node" (15 : Nat) "QuorumStoreModel$Node" "leader" "I") ∈ xw_T := xw_in 939 (by decide +kernel) (by decide +kernel)
theorem k_940 : (Cond.fieldLink "QuorumStoreModel" (216 : Nat) "QuorumStoreModel$Node" "leader" "I") ∈ xw_T := xw_in 940 (by decide +kernel) (by decide +kernel)
theorem k_941 : (Cond.fieldLink "QuorumStoreModel" (183 : Nat) "QuorumStoreModel$Node" "grants" "I") ∈ xw_T := xw_in 941 (by decide +kernel) (by decide +kernel)
theorem k_942 : (Cond.fieldLink "QuorumStoreModel" (201 : Nat) "QuorumStoreModel$Node" "told" "I") ∈ xw_T := xw_in 942 (by decide +kernel) (by decide +kernel)
theorem k_943 : (Cond.fieldLink "QuorumStoreModel$Node" (22 : Nat) "QuorumStoreModel$Node" "state" "LQuorumStoreModel$State;") ∈ xw_T := xw_in 943 (by decide +kernel) (by decide +kernel)
theorem k_944 : (Cond.fieldLink "QuorumStoreModel" (32 : Nat) "QuorumStoreModel$Node" "state" "LQuorumStoreModel$State;") ∈ xw_T := xw_in 944 (by decide +kernel) (by decide +kernel)
theorem k_945 : (Cond.fieldLink "QuorumStoreModel$Node" (29 : Nat) "QuorumStoreModel$Node" "accepted" "LQuorumStoreModel$Slots;") ∈ xw_T := xw_in 945 (by decide +kernel) (by decide +kernel)
theorem k_946 : (Cond.fieldLink "QuorumStoreModel" (117 : Nat) "QuorumStoreModel$Node" "accepted" "LQuorumStoreModel$Slots;") ∈ xw_T := xw_in 946 (by decide +kernel) (by decide +kernel)
theorem k_947 : (Cond.fieldLink "QuorumStoreModel$Node" (33 : Nat) "QuorumStoreModel$Node" "known" "LQuorumStoreModel$Slots;") ∈ xw_T := xw_in 947 (by decide +kernel) (by decide +kernel)
theorem k_948 : (Cond.fieldLink "QuorumStoreModel" (98 : Nat) "QuorumStoreModel$Node" "known" "LQuorumStoreModel$Slots;") ∈ xw_T := xw_in 948 (by decide +kernel) (by decide +kernel)
theorem k_949 : (Cond.fieldLink "QuorumStoreModel$Node" (36 : Nat) "QuorumStoreModel$Node" "best" "LQuorumStoreModel$Slots;") ∈ xw_T := xw_in 949 (by decide +kernel) (by decide +kernel)
theorem k_950 : (Cond.fieldLink "QuorumStoreModel" (180 : Nat) "QuorumStoreModel$Node" "best" "LQuorumStoreModel$Slots;") ∈ xw_T := xw_in 950 (by decide +kernel) (by decide +kernel)
theorem k_951 : (Cond.fieldLink "QuorumStoreModel$Node" (39 : Nat) "QuorumStoreModel$Node" "proposals" "LQuorumStoreModel$Slots;") ∈ xw_T := xw_in 951 (by decide +kernel) (by decide +kernel)
theorem k_952 : (Cond.fieldLink "QuorumStoreModel" (177 : Nat) "QuorumStoreModel$Node" "proposals" "LQuorumStoreModel$Slots;") ∈ xw_T := xw_in 952 (by decide +kernel) (by decide +kernel)
theorem k_953 : (Cond.fieldLink "QuorumStoreModel$Node" (44 : Nat) "QuorumStoreModel$Node" "queue" "[LQuorumStoreModel$Value;") ∈ xw_T := xw_in 953 (by decide +kernel) (by decide +kernel)
theorem k_954 : (Cond.fieldLink "QuorumStoreModel" (240 : Nat) "QuorumStoreModel$Node" "queue" "[LQuorumStoreModel$Value;") ∈ xw_T := xw_in 954 (by decide +kernel) (by decide +kernel)
theorem k_955 : (Cond.fieldLink "QuorumStoreModel" (213 : Nat) "QuorumStoreModel$Node" "queued" "I") ∈ xw_T := xw_in 955 (by decide +kernel) (by decide +kernel)
theorem k_991 : (Cond.methodLink "QuorumStoreModel" (36 : Nat) ({ cls := "QuorumStoreModel$State", name := "config", desc := "(II)V" } : Jvm.MethodName)) ∈ xw_T := xw_in 991 (by decide +kernel) (by decide +kernel)
theorem k_992 : (Cond.instanceMethod ({ cls := "QuorumStoreModel$State", name := "config", desc := "(II)V" } : Jvm.MethodName)) ∈ xw_T := xw_in 992 (by decide +kernel) (by decide +kernel)
theorem k_993 : (Cond.selects "QuorumStoreModel$State" ({ cls := "QuorumStoreModel$State", name := "config", desc := "(II)V" } : Jvm.MethodName) ({ cls := "QuorumStoreModel$State", name := "config", desc := "(II)V" } : Jvm.MethodName)) ∈ xw_T := xw_in 993 (by decide +kernel) (by decide +kernel)
theorem k_994 : (Cond.code ({ cls := "QuorumStoreModel$State", name := "config", desc := "(II)V" } : Jvm.MethodName) prog_14_method_3_code (6 : Nat) (Option.none : Option Jvm.ClassFile.FieldType)) ∈ xw_T := xw_in 994 (by decide +kernel) (by decide +kernel)
theorem k_995 : (Cond.fieldLink "QuorumStoreModel" (42 : Nat) "QuorumStoreModel" "thrown" "I") ∈ xw_T := xw_in 995 (by decide +kernel) (by decide +kernel)
theorem k_996 : (Cond.fieldLink "QuorumStoreModel" (320 : Nat) "QuorumStoreModel" "key" "I") ∈ xw_T := xw_in 996 (by decide +kernel) (by decide +kernel)
theorem k_997 : (Cond.fieldLink "QuorumStoreModel" (46 : Nat) "QuorumStoreModel" "sent" "I") ∈ xw_T := xw_in 997 (by decide +kernel) (by decide +kernel)
theorem k_998 : (Cond.fieldLink "QuorumStoreModel" (52 : Nat) "QuorumStoreModel" "lost" "I") ∈ xw_T := xw_in 998 (by decide +kernel) (by decide +kernel)
theorem k_999 : (Cond.fieldLink "QuorumStoreModel" (311 : Nat) "QuorumStoreModel" "delivered" "I") ∈ xw_T := xw_in 999 (by decide +kernel) (by decide +kernel)
theorem k_1000 : (Cond.fieldLink "QuorumStoreModel" (49 : Nat) "QuorumStoreModel" "messages" "I") ∈ xw_T := xw_in 1000 (by decide +kernel) (by decide +kernel)
theorem k_1001 : (Cond.fieldLink "QuorumStoreModel" (11 : Nat) "QuorumStoreModel" "node" "[LQuorumStoreModel$Node;") ∈ xw_T := xw_in 1001 (by decide +kernel) (by decide +kernel)
theorem k_1002 : (Cond.fieldLink "QuorumStoreModel" (17 : Nat) "QuorumStoreModel" "way" "[LQuorumStoreModel$Message;") ∈ xw_T := xw_in 1002 (by decide +kernel) (by decide +kernel)
theorem k_1003 : (Cond.fieldLink "QuorumStoreModel" (22 : Nat) "QuorumStoreModel" "hand" "LQuorumStoreModel$Message;") ∈ xw_T := xw_in 1003 (by decide +kernel) (by decide +kernel)
theorem k_1004 : (Cond.fieldLink "QuorumStoreModel" (26 : Nat) "QuorumStoreModel" "taken" "LQuorumStoreModel$Message;") ∈ xw_T := xw_in 1004 (by decide +kernel) (by decide +kernel)
theorem k_1026 : (Cond.methodLink "QuorumStoreLaw" (76 : Nat) ({ cls := "QuorumStoreModel", name := "thrown", desc := "()I" } : Jvm.MethodName)) ∈ xw_T := xw_in 1026 (by decide +kernel) (by decide +kernel)
theorem k_1027 : (Cond.instanceMethod ({ cls := "QuorumStoreModel", name := "thrown", desc := "()I" } : Jvm.MethodName)) ∈ xw_T := xw_in 1027 (by decide +kernel) (by decide +kernel)
theorem k_1028 : (Cond.selects "QuorumStoreModel" ({ cls := "QuorumStoreModel", name := "thrown", desc := "()I" } : Jvm.MethodName) ({ cls := "QuorumStoreModel", name := "thrown", desc := "()I" } : Jvm.MethodName)) ∈ xw_T := xw_in 1028 (by decide +kernel) (by decide +kernel)
theorem k_1029 : (Cond.code ({ cls := "QuorumStoreModel", name := "thrown", desc := "()I" } : Jvm.MethodName) prog_10_method_2_code (1 : Nat) (Option.some Jvm.ClassFile.FieldType.int)) ∈ xw_T := xw_in 1029 (by decide +kernel) (by decide +kernel)
theorem k_1030 : (Cond.methodLink "QuorumStoreLaw" (75 : Nat) ({ cls := "QuorumStoreModel", name := "tick", desc := "(I)I" } : Jvm.MethodName)) ∈ xw_T := xw_in 1030 (by decide +kernel) (by decide +kernel)
theorem k_1031 : (Cond.instanceMethod ({ cls := "QuorumStoreModel", name := "tick", desc := "(I)I" } : Jvm.MethodName)) ∈ xw_T := xw_in 1031 (by decide +kernel) (by decide +kernel)
theorem k_1032 : (Cond.selects "QuorumStoreModel" ({ cls := "QuorumStoreModel", name := "tick", desc := "(I)I" } : Jvm.MethodName) ({ cls := "QuorumStoreModel", name := "tick", desc := "(I)I" } : Jvm.MethodName)) ∈ xw_T := xw_in 1032 (by decide +kernel) (by decide +kernel)
theorem k_1033 : (Cond.code ({ cls := "QuorumStoreModel", name := "tick", desc := "(I)I" } : Jvm.MethodName) prog_10_method_29_code (4 : Nat) (Option.some Jvm.ClassFile.FieldType.int)) ∈ xw_T := xw_in 1033 (by decide +kernel) (by decide +kernel)
theorem k_1034 : (Cond.methodLink "QuorumStoreModel" (298 : Nat) ({ cls := "QuorumStoreModel", name := "fail", desc := "(I)I" } : Jvm.MethodName)) ∈ xw_T := xw_in 1034 (by decide +kernel) (by decide +kernel)
theorem k_1036 : (Cond.instanceMethod ({ cls := "QuorumStoreModel", name := "fail", desc := "(I)I" } : Jvm.MethodName)) ∈ xw_T := xw_in 1036 (by decide +kernel) (by decide +kernel)
theorem k_1037 : (Cond.code ({ cls := "QuorumStoreModel", name := "fail", desc := "(I)I" } : Jvm.MethodName) prog_10_method_3_code (2 : Nat) (Option.some Jvm.ClassFile.FieldType.int)) ∈ xw_T := xw_in 1037 (by decide +kernel) (by decide +kernel)
theorem k_1038 : (Cond.methodLink "QuorumStoreModel" (301 : Nat) ({ cls := "QuorumStoreModel", name := "tickOnce", desc := "(LQuorumStoreModel$Node;)V" } : Jvm.MethodName)) ∈ xw_T := xw_in 1038 (by decide +kernel) (by decide +kernel)
theorem k_1040 : (Cond.instanceMethod ({ cls := "QuorumStoreModel", name := "tickOnce", desc := "(LQuorumStoreModel$Node;)V" } : Jvm.MethodName)) ∈ xw_T := xw_in 1040 (by decide +kernel) (by decide +kernel)
theorem k_1041 : (Cond.code ({ cls := "QuorumStoreModel", name := "tickOnce", desc := "(LQuorumStoreModel$Node;)V" } : Jvm.MethodName) prog_10_method_22_code (7 : Nat) (Option.none : Option Jvm.ClassFile.FieldType)) ∈ xw_T := xw_in 1041 (by decide +kernel) (by decide +kernel)
theorem k_1042 : (Cond.methodLink "QuorumStoreModel" (95 : Nat) ({ cls := "QuorumStoreModel$State", name := "config", desc := "(I)I" } : Jvm.MethodName)) ∈ xw_T := xw_in 1042 (by decide +kernel) (by decide +kernel)
theorem k_1043 : (Cond.instanceMethod ({ cls := "QuorumStoreModel$State", name := "config", desc := "(I)I" } : Jvm.MethodName)) ∈ xw_T := xw_in 1043 (by decide +kernel) (by decide +kernel)
theorem k_1044 : (Cond.selects "QuorumStoreModel$State" ({ cls := "QuorumStoreModel$State", name := "config", desc := "(I)I" } : Jvm.MethodName) ({ cls := "QuorumStoreModel$State", name := "config", desc := "(I)I" } : Jvm.MethodName)) ∈ xw_T := xw_in 1044 (by decide +kernel) (by decide +kernel)
theorem k_1045 : (Cond.code ({ cls := "QuorumStoreModel$State", name := "config", desc := "(I)I" } : Jvm.MethodName) prog_14_method_5_code (4 : Nat) (Option.some Jvm.ClassFile.FieldType.int)) ∈ xw_T := xw_in 1045 (by decide +kernel) (by decide +kernel)
theorem k_1046 : (Cond.methodLink "QuorumStoreModel" (88 : Nat) ({ cls := "QuorumStoreModel", name := "in", desc := "(II)Z" } : Jvm.MethodName)) ∈ xw_T := xw_in 1046 (by decide +kernel) (by decide +kernel)
theorem k_1047 : (Cond.static ({ cls := "QuorumStoreModel", name := "in", desc := "(II)Z" } : Jvm.MethodName)) ∈ xw_T := xw_in 1047 (by decide +kernel) (by decide +kernel)
theorem k_1048 : (Cond.code ({ cls := "QuorumStoreModel", name := "in", desc := "(II)Z" } : Jvm.MethodName) prog_10_method_7_code (2 : Nat) (Option.some Jvm.ClassFile.FieldType.boolean)) ∈ xw_T := xw_in 1048 (by decide +kernel) (by decide +kernel)
theorem k_1049 : (Cond.methodLink "QuorumStoreModel" (259 : Nat) ({ cls := "QuorumStoreModel", name := "lead", desc := "(LQuorumStoreModel$Node;)V" } : Jvm.MethodName)) ∈ xw_T := xw_in 1049 (by decide +kernel) (by decide +kernel)
theorem k_1051 : (Cond.instanceMethod ({ cls := "QuorumStoreModel", name := "lead", desc := "(LQuorumStoreModel$Node;)V" } : Jvm.MethodName)) ∈ xw_T := xw_in 1051 (by decide +kernel) (by decide +kernel)
theorem k_1052 : (Cond.code ({ cls := "QuorumStoreModel", name := "lead", desc := "(LQuorumStoreModel$Node;)V" } : Jvm.MethodName) prog_10_method_15_code (5 : Nat) (Option.none : Option Jvm.ClassFile.FieldType)) ∈ xw_T := xw_in 1052 (by decide +kernel) (by decide +kernel)
theorem k_1053 : (Cond.methodLink "QuorumStoreModel" (198 : Nat) ({ cls := "QuorumStoreModel", name := "round", desc := "(I)I" } : Jvm.MethodName)) ∈ xw_T := xw_in 1053 (by decide +kernel) (by decide +kernel)
theorem k_1054 : (Cond.static ({ cls := "QuorumStoreModel", name := "round", desc := "(I)I" } : Jvm.MethodName)) ∈ xw_T := xw_in 1054 (by decide +kernel) (by decide +kernel)
theorem k_1055 : (Cond.code ({ cls := "QuorumStoreModel", name := "round", desc := "(I)I" } : Jvm.MethodName) prog_10_method_14_code (1 : Nat) (Option.some Jvm.ClassFile.FieldType.int)) ∈ xw_T := xw_in 1055 (by decide +kernel) (by decide +kernel)
theorem k_1056 : (Cond.methodLink "QuorumStoreModel" (204 : Nat) ({ cls := "java/lang/Math", name := "max", desc := "(II)I" } : Jvm.MethodName)) ∈ xw_T := xw_in 1056 (by decide +kernel) (by decide +kernel)
theorem k_1057 : (Cond.methodLink "QuorumStoreModel" (222 : Nat) ({ cls := "QuorumStoreModel", name := "looked", desc := "(LQuorumStoreModel$Node;LQuorumStoreModel$Slots;)V" } : Jvm.MethodName)) ∈ xw_T := xw_in 1057 (by decide +kernel) (by decide +kernel)
theorem k_1058 : (Cond.static ({ cls := "QuorumStoreModel", name := "looked", desc := "(LQuorumStoreModel$Node;LQuorumStoreModel$Slots;)V" } : Jvm.MethodName)) ∈ xw_T := xw_in 1058 (by decide +kernel) (by decide +kernel)
theorem k_1059 : (Cond.code ({ cls := "QuorumStoreModel", name := "looked", desc := "(LQuorumStoreModel$Node;LQuorumStoreModel$Slots;)V" } : Jvm.MethodName) prog_10_method_16_code (5 : Nat) (Option.none : Option Jvm.ClassFile.FieldType)) ∈ xw_T := xw_in 1059 (by decide +kernel) (by decide +kernel)
theorem k_1060 : (Cond.methodLink "QuorumStoreModel" (102 : Nat) ({ cls := "QuorumStoreModel$Slots", name := "find", desc := "(I)I" } : Jvm.MethodName)) ∈ xw_T := xw_in 1060 (by decide +kernel) (by decide +kernel)
theorem k_1061 : (Cond.instanceMethod ({ cls := "QuorumStoreModel$Slots", name := "find", desc := "(I)I" } : Jvm.MethodName)) ∈ xw_T := xw_in 1061 (by decide +kernel) (by decide +kernel)
theorem k_1062 : (Cond.selects "QuorumStoreModel$Slots" ({ cls := "QuorumStoreModel$Slots", name := "find", desc := "(I)I" } : Jvm.MethodName) ({ cls := "QuorumStoreModel$Slots", name := "find", desc := "(I)I" } : Jvm.MethodName)) ∈ xw_T := xw_in 1062 (by decide +kernel) (by decide +kernel)
theorem k_1063 : (Cond.code ({ cls := "QuorumStoreModel$Slots", name := "find", desc := "(I)I" } : Jvm.MethodName) prog_13_method_2_code (3 : Nat) (Option.some Jvm.ClassFile.FieldType.int)) ∈ xw_T := xw_in 1063 (by decide +kernel) (by decide +kernel)
theorem k_1064 : (Cond.methodLink "QuorumStoreModel" (161 : Nat) ({ cls := "QuorumStoreModel$Slots", name := "put", desc := "(IILQuorumStoreModel$Value;)V" } : Jvm.MethodName)) ∈ xw_T := xw_in 1064 (by decide +kernel) (by decide +kernel)
theorem k_1065 : (Cond.instanceMethod ({ cls := "QuorumStoreModel$Slots", name := "put", desc := "(IILQuorumStoreModel$Value;)V" } : Jvm.MethodName)) ∈ xw_T := xw_in 1065 (by decide +kernel) (by decide +kernel)
theorem k_1066 : (Cond.selects "QuorumStoreModel$Slots" ({ cls := "QuorumStoreModel$Slots", name := "put", desc := "(IILQuorumStoreModel$Value;)V" } : Jvm.MethodName) ({ cls := "QuorumStoreModel$Slots", name := "put", desc := "(IILQuorumStoreModel$Value;)V" } : Jvm.MethodName)) ∈ xw_T := xw_in 1066 (by decide +kernel) (by decide +kernel)
theorem k_1067 : (Cond.code ({ cls := "QuorumStoreModel$Slots", name := "put", desc := "(IILQuorumStoreModel$Value;)V" } : Jvm.MethodName) prog_13_method_3_code (5 : Nat) (Option.none : Option Jvm.ClassFile.FieldType)) ∈ xw_T := xw_in 1067 (by decide +kernel) (by decide +kernel)
theorem k_1068 : (Cond.methodLink "QuorumStoreModel$Slots" (28 : Nat) ({ cls := "QuorumStoreModel$Slots", name := "find", desc := "(I)I" } : Jvm.MethodName)) ∈ xw_T := xw_in 1068 (by decide +kernel) (by decide +kernel)
theorem k_1069 : (Cond.methodLink "QuorumStoreModel$Slots" (32 : Nat) ({ cls := "QuorumStoreModel$Slots", name := "grow", desc := "()V" } : Jvm.MethodName)) ∈ xw_T := xw_in 1069 (by decide +kernel) (by decide +kernel)
theorem k_1071 : (Cond.instanceMethod ({ cls := "QuorumStoreModel$Slots", name := "grow", desc := "()V" } : Jvm.MethodName)) ∈ xw_T := xw_in 1071 (by decide +kernel) (by decide +kernel)
theorem k_1072 : (Cond.code ({ cls := "QuorumStoreModel$Slots", name := "grow", desc := "()V" } : Jvm.MethodName) prog_13_method_5_code (5 : Nat) (Option.none : Option Jvm.ClassFile.FieldType)) ∈ xw_T := xw_in 1072 (by decide +kernel) (by decide +kernel)
theorem k_1073 : (Cond.methodLink "QuorumStoreModel$Slots" (35 : Nat) ({ cls := "QuorumStoreModel$Slots", name := "move", desc := "(II)V" } : Jvm.MethodName)) ∈ xw_T := xw_in 1073 (by decide +kernel) (by decide +kernel)
theorem k_1075 : (Cond.instanceMethod ({ cls := "QuorumStoreModel$Slots", name := "move", desc := "(II)V" } : Jvm.MethodName)) ∈ xw_T := xw_in 1075 (by decide +kernel) (by decide +kernel)
theorem k_1076 : (Cond.code ({ cls := "QuorumStoreModel$Slots", name := "move", desc := "(II)V" } : Jvm.MethodName) prog_13_method_4_code (3 : Nat) (Option.none : Option Jvm.ClassFile.FieldType)) ∈ xw_T := xw_in 1076 (by decide +kernel) (by decide +kernel)
theorem k_1077 : (Cond.methodLink "QuorumStoreModel" (157 : Nat) ({ cls := "QuorumStoreModel", name := "peers", desc := "(LQuorumStoreModel$Node;)I" } : Jvm.MethodName)) ∈ xw_T := xw_in 1077 (by decide +kernel) (by decide +kernel)
theorem k_1078 : (Cond.static ({ cls := "QuorumStoreModel", name := "peers", desc := "(LQuorumStoreModel$Node;)I" } : Jvm.MethodName)) ∈ xw_T := xw_in 1078 (by decide +kernel) (by decide +kernel)
theorem k_1079 : (Cond.code ({ cls := "QuorumStoreModel", name := "peers", desc := "(LQuorumStoreModel$Node;)I" } : Jvm.MethodName) prog_10_method_9_code (3 : Nat) (Option.some Jvm.ClassFile.FieldType.int)) ∈ xw_T := xw_in 1079 (by decide +kernel) (by decide +kernel)
theorem k_1080 : (Cond.methodLink "QuorumStoreModel" (187 : Nat) ({ cls := "QuorumStoreModel", name := "say", desc := "(ILQuorumStoreModel$Node;IIILQuorumStoreModel$Value;)V" } : Jvm.MethodName)) ∈ xw_T := xw_in 1080 (by decide +kernel) (by decide +kernel)
theorem k_1082 : (Cond.instanceMethod ({ cls := "QuorumStoreModel", name := "say", desc := "(ILQuorumStoreModel$Node;IIILQuorumStoreModel$Value;)V" } : Jvm.MethodName)) ∈ xw_T := xw_in 1082 (by decide +kernel) (by decide +kernel)
theorem k_1083 : (Cond.code ({ cls := "QuorumStoreModel", name := "say", desc := "(ILQuorumStoreModel$Node;IIILQuorumStoreModel$Value;)V" } : Jvm.MethodName) prog_10_method_6_code (7 : Nat) (Option.none : Option Jvm.ClassFile.FieldType)) ∈ xw_T := xw_in 1083 (by decide +kernel) (by decide +kernel)
theorem k_1084 : (Cond.methodLink "QuorumStoreModel" (81 : Nat) ({ cls := "QuorumStoreModel", name := "begin", desc := "(ILQuorumStoreModel$Node;III)LQuorumStoreModel$Message;" } : Jvm.MethodName)) ∈ xw_T := xw_in 1084 (by decide +kernel) (by decide +kernel)
theorem k_1086 : (Cond.instanceMethod ({ cls := "QuorumStoreModel", name := "begin", desc := "(ILQuorumStoreModel$Node;III)LQuorumStoreModel$Message;" } : Jvm.MethodName)) ∈ xw_T := xw_in 1086 (by decide +kernel) (by decide +kernel)
theorem k_1087 : (Cond.code ({ cls := "QuorumStoreModel", name := "begin", desc := "(ILQuorumStoreModel$Node;III)LQuorumStoreModel$Message;" } : Jvm.MethodName) prog_10_method_5_code (6 : Nat) (Option.some (Jvm.ClassFile.FieldType.object "QuorumStoreModel$Message"))) ∈ xw_T := xw_in 1087 (by decide +kernel) (by decide +kernel)
theorem k_1088 : (Cond.methodLink "QuorumStoreModel" (85 : Nat) ({ cls := "QuorumStoreModel", name := "send", desc := "(LQuorumStoreModel$Message;)V" } : Jvm.MethodName)) ∈ xw_T := xw_in 1088 (by decide +kernel) (by decide +kernel)
theorem k_1090 : (Cond.instanceMethod ({ cls := "QuorumStoreModel", name := "send", desc := "(LQuorumStoreModel$Message;)V" } : Jvm.MethodName)) ∈ xw_T := xw_in 1090 (by decide +kernel) (by decide +kernel)
theorem k_1091 : (Cond.code ({ cls := "QuorumStoreModel", name := "send", desc := "(LQuorumStoreModel$Message;)V" } : Jvm.MethodName) prog_10_method_4_code (2 : Nat) (Option.none : Option Jvm.ClassFile.FieldType)) ∈ xw_T := xw_in 1091 (by decide +kernel) (by decide +kernel)
theorem k_1092 : (Cond.methodLink "QuorumStoreModel" (55 : Nat) ({ cls := "QuorumStoreModel$Message", name := "set", desc := "(LQuorumStoreModel$Message;)V" } : Jvm.MethodName)) ∈ xw_T := xw_in 1092 (by decide +kernel) (by decide +kernel)
theorem k_1093 : (Cond.instanceMethod ({ cls := "QuorumStoreModel$Message", name := "set", desc := "(LQuorumStoreModel$Message;)V" } : Jvm.MethodName)) ∈ xw_T := xw_in 1093 (by decide +kernel) (by decide +kernel)
theorem k_1094 : (Cond.selects "QuorumStoreModel$Message" ({ cls := "QuorumStoreModel$Message", name := "set", desc := "(LQuorumStoreModel$Message;)V" } : Jvm.MethodName) ({ cls := "QuorumStoreModel$Message", name := "set", desc := "(LQuorumStoreModel$Message;)V" } : Jvm.MethodName)) ∈ xw_T := xw_in 1094 (by decide +kernel) (by decide +kernel)
theorem k_1095 : (Cond.code ({ cls := "QuorumStoreModel$Message", name := "set", desc := "(LQuorumStoreModel$Message;)V" } : Jvm.MethodName) prog_11_method_2_code (2 : Nat) (Option.none : Option Jvm.ClassFile.FieldType)) ∈ xw_T := xw_in 1095 (by decide +kernel) (by decide +kernel)
theorem k_1096 : (Cond.methodLink "QuorumStoreModel$Message" (46 : Nat) ({ cls := "QuorumStoreModel$Slots", name := "set", desc := "(LQuorumStoreModel$Slots;)V" } : Jvm.MethodName)) ∈ xw_T := xw_in 1096 (by decide +kernel) (by decide +kernel)
theorem k_1097 : (Cond.instanceMethod ({ cls := "QuorumStoreModel$Slots", name := "set", desc := "(LQuorumStoreModel$Slots;)V" } : Jvm.MethodName)) ∈ xw_T := xw_in 1097 (by decide +kernel) (by decide +kernel)
theorem k_1098 : (Cond.selects "QuorumStoreModel$Slots" ({ cls := "QuorumStoreModel$Slots", name := "set", desc := "(LQuorumStoreModel$Slots;)V" } : Jvm.MethodName) ({ cls := "QuorumStoreModel$Slots", name := "set", desc := "(LQuorumStoreModel$Slots;)V" } : Jvm.MethodName)) ∈ xw_T := xw_in 1098 (by decide +kernel) (by decide +kernel)
theorem k_1099 : (Cond.code ({ cls := "QuorumStoreModel$Slots", name := "set", desc := "(LQuorumStoreModel$Slots;)V" } : Jvm.MethodName) prog_13_method_8_code (3 : Nat) (Option.none : Option Jvm.ClassFile.FieldType)) ∈ xw_T := xw_in 1099 (by decide +kernel) (by decide +kernel)
theorem k_1100 : (Cond.methodLink "QuorumStoreModel$Slots" (43 : Nat) ({ cls := "QuorumStoreModel$Slots", name := "put", desc := "(IILQuorumStoreModel$Value;)V" } : Jvm.MethodName)) ∈ xw_T := xw_in 1100 (by decide +kernel) (by decide +kernel)
theorem k_1101 : (Cond.methodLink "QuorumStoreModel$Message" (50 : Nat) ({ cls := "QuorumStoreModel$State", name := "set", desc := "(LQuorumStoreModel$State;)V" } : Jvm.MethodName)) ∈ xw_T := xw_in 1101 (by decide +kernel) (by decide +kernel)
theorem k_1102 : (Cond.instanceMethod ({ cls := "QuorumStoreModel$State", name := "set", desc := "(LQuorumStoreModel$State;)V" } : Jvm.MethodName)) ∈ xw_T := xw_in 1102 (by decide +kernel) (by decide +kernel)
theorem k_1103 : (Cond.selects "QuorumStoreModel$State" ({ cls := "QuorumStoreModel$State", name := "set", desc := "(LQuorumStoreModel$State;)V" } : Jvm.MethodName) ({ cls := "QuorumStoreModel$State", name := "set", desc := "(LQuorumStoreModel$State;)V" } : Jvm.MethodName)) ∈ xw_T := xw_in 1103 (by decide +kernel) (by decide +kernel)
theorem k_1104 : (Cond.code ({ cls := "QuorumStoreModel$State", name := "set", desc := "(LQuorumStoreModel$State;)V" } : Jvm.MethodName) prog_14_method_2_code (3 : Nat) (Option.none : Option Jvm.ClassFile.FieldType)) ∈ xw_T := xw_in 1104 (by decide +kernel) (by decide +kernel)
theorem k_1105 : (Cond.methodLink "QuorumStoreModel$State" (37 : Nat) ({ cls := "QuorumStoreModel$State", name := "config", desc := "(II)V" } : Jvm.MethodName)) ∈ xw_T := xw_in 1105 (by decide +kernel) (by decide +kernel)
theorem k_1106 : (Cond.methodLink "QuorumStoreModel" (191 : Nat) ({ cls := "QuorumStoreModel", name := "work", desc := "(LQuorumStoreModel$Node;)V" } : Jvm.MethodName)) ∈ xw_T := xw_in 1106 (by decide +kernel) (by decide +kernel)
theorem k_1108 : (Cond.instanceMethod ({ cls := "QuorumStoreModel", name := "work", desc := "(LQuorumStoreModel$Node;)V" } : Jvm.MethodName)) ∈ xw_T := xw_in 1108 (by decide +kernel) (by decide +kernel)
theorem k_1109 : (Cond.code ({ cls := "QuorumStoreModel", name := "work", desc := "(LQuorumStoreModel$Node;)V" } : Jvm.MethodName) prog_10_method_19_code (7 : Nat) (Option.none : Option Jvm.ClassFile.FieldType)) ∈ xw_T := xw_in 1109 (by decide +kernel) (by decide +kernel)
theorem k_1110 : (Cond.methodLink "QuorumStoreModel" (230 : Nat) ({ cls := "QuorumStoreModel", name := "majority", desc := "(II)Z" } : Jvm.MethodName)) ∈ xw_T := xw_in 1110 (by decide +kernel) (by decide +kernel)
theorem k_1111 : (Cond.static ({ cls := "QuorumStoreModel", name := "majority", desc := "(II)Z" } : Jvm.MethodName)) ∈ xw_T := xw_in 1111 (by decide +kernel) (by decide +kernel)
theorem k_1112 : (Cond.code ({ cls := "QuorumStoreModel", name := "majority", desc := "(II)Z" } : Jvm.MethodName) prog_10_method_8_code (5 : Nat) (Option.some Jvm.ClassFile.FieldType.boolean)) ∈ xw_T := xw_in 1112 (by decide +kernel) (by decide +kernel)
theorem k_1113 : (Cond.methodLink "QuorumStoreModel" (233 : Nat) ({ cls := "QuorumStoreModel", name := "greater", desc := "(LQuorumStoreModel$Slots;I)Z" } : Jvm.MethodName)) ∈ xw_T := xw_in 1113 (by decide +kernel) (by decide +kernel)
theorem k_1114 : (Cond.static ({ cls := "QuorumStoreModel", name := "greater", desc := "(LQuorumStoreModel$Slots;I)Z" } : Jvm.MethodName)) ∈ xw_T := xw_in 1114 (by decide +kernel) (by decide +kernel)
theorem k_1115 : (Cond.code ({ cls := "QuorumStoreModel", name := "greater", desc := "(LQuorumStoreModel$Slots;I)Z" } : Jvm.MethodName) prog_10_method_18_code (2 : Nat) (Option.some Jvm.ClassFile.FieldType.boolean)) ∈ xw_T := xw_in 1115 (by decide +kernel) (by decide +kernel)
theorem k_1116 : (Cond.fieldLink "QuorumStoreModel" (237 : Nat) "QuorumStoreModel" "NIL" "LQuorumStoreModel$Value;") ∈ xw_T := xw_in 1116 (by decide +kernel) (by decide +kernel)
theorem k_1118 : (Cond.methodLink "QuorumStoreModel" (243 : Nat) ({ cls := "QuorumStoreModel", name := "propose", desc := "(LQuorumStoreModel$Node;ILQuorumStoreModel$Value;)V" } : Jvm.MethodName)) ∈ xw_T := xw_in 1118 (by decide +kernel) (by decide +kernel)
theorem k_1120 : (Cond.instanceMethod ({ cls := "QuorumStoreModel", name := "propose", desc := "(LQuorumStoreModel$Node;ILQuorumStoreModel$Value;)V" } : Jvm.MethodName)) ∈ xw_T := xw_in 1120 (by decide +kernel) (by decide +kernel)
theorem k_1121 : (Cond.code ({ cls := "QuorumStoreModel", name := "propose", desc := "(LQuorumStoreModel$Node;ILQuorumStoreModel$Value;)V" } : Jvm.MethodName) prog_10_method_20_code (7 : Nat) (Option.none : Option Jvm.ClassFile.FieldType)) ∈ xw_T := xw_in 1121 (by decide +kernel) (by decide +kernel)
theorem k_1122 : (Cond.methodLink "QuorumStoreModel" (247 : Nat) ({ cls := "QuorumStoreModel", name := "chosen", desc := "(LQuorumStoreModel$Node;I)V" } : Jvm.MethodName)) ∈ xw_T := xw_in 1122 (by decide +kernel) (by decide +kernel)
theorem k_1124 : (Cond.instanceMethod ({ cls := "QuorumStoreModel", name := "chosen", desc := "(LQuorumStoreModel$Node;I)V" } : Jvm.MethodName)) ∈ xw_T := xw_in 1124 (by decide +kernel) (by decide +kernel)
theorem k_1125 : (Cond.code ({ cls := "QuorumStoreModel", name := "chosen", desc := "(LQuorumStoreModel$Node;I)V" } : Jvm.MethodName) prog_10_method_21_code (7 : Nat) (Option.none : Option Jvm.ClassFile.FieldType)) ∈ xw_T := xw_in 1125 (by decide +kernel) (by decide +kernel)
theorem k_1126 : (Cond.methodLink "QuorumStoreModel" (250 : Nat) ({ cls := "QuorumStoreModel$Slots", name := "remove", desc := "(I)V" } : Jvm.MethodName)) ∈ xw_T := xw_in 1126 (by decide +kernel) (by decide +kernel)
theorem k_1127 : (Cond.instanceMethod ({ cls := "QuorumStoreModel$Slots", name := "remove", desc := "(I)V" } : Jvm.MethodName)) ∈ xw_T := xw_in 1127 (by decide +kernel) (by decide +kernel)
theorem k_1128 : (Cond.selects "QuorumStoreModel$Slots" ({ cls := "QuorumStoreModel$Slots", name := "remove", desc := "(I)V" } : Jvm.MethodName) ({ cls := "QuorumStoreModel$Slots", name := "remove", desc := "(I)V" } : Jvm.MethodName)) ∈ xw_T := xw_in 1128 (by decide +kernel) (by decide +kernel)
theorem k_1129 : (Cond.code ({ cls := "QuorumStoreModel$Slots", name := "remove", desc := "(I)V" } : Jvm.MethodName) prog_13_method_6_code (3 : Nat) (Option.none : Option Jvm.ClassFile.FieldType)) ∈ xw_T := xw_in 1129 (by decide +kernel) (by decide +kernel)
theorem k_1130 : (Cond.methodLink "QuorumStoreModel" (253 : Nat) ({ cls := "QuorumStoreModel", name := "learn", desc := "(LQuorumStoreModel$Node;ILQuorumStoreModel$Value;)V" } : Jvm.MethodName)) ∈ xw_T := xw_in 1130 (by decide +kernel) (by decide +kernel)
theorem k_1132 : (Cond.instanceMethod ({ cls := "QuorumStoreModel", name := "learn", desc := "(LQuorumStoreModel$Node;ILQuorumStoreModel$Value;)V" } : Jvm.MethodName)) ∈ xw_T := xw_in 1132 (by decide +kernel) (by decide +kernel)
theorem k_1133 : (Cond.code ({ cls := "QuorumStoreModel", name := "learn", desc := "(LQuorumStoreModel$Node;ILQuorumStoreModel$Value;)V" } : Jvm.MethodName) prog_10_method_12_code (6 : Nat) (Option.none : Option Jvm.ClassFile.FieldType)) ∈ xw_T := xw_in 1133 (by decide +kernel) (by decide +kernel)
theorem k_1134 : (Cond.methodLink "QuorumStoreModel" (165 : Nat) ({ cls := "QuorumStoreModel", name := "apply", desc := "(LQuorumStoreModel$Node;)Z" } : Jvm.MethodName)) ∈ xw_T := xw_in 1134 (by decide +kernel) (by decide +kernel)
theorem k_1136 : (Cond.instanceMethod ({ cls := "QuorumStoreModel", name := "apply", desc := "(LQuorumStoreModel$Node;)Z" } : Jvm.MethodName)) ∈ xw_T := xw_in 1136 (by decide +kernel) (by decide +kernel)
theorem k_1137 : (Cond.code ({ cls := "QuorumStoreModel", name := "apply", desc := "(LQuorumStoreModel$Node;)Z" } : Jvm.MethodName) prog_10_method_10_code (5 : Nat) (Option.some Jvm.ClassFile.FieldType.boolean)) ∈ xw_T := xw_in 1137 (by decide +kernel) (by decide +kernel)
theorem k_1138 : (Cond.methodLink "QuorumStoreModel" (107 : Nat) ({ cls := "QuorumStoreModel$State", name := "trim", desc := "()V" } : Jvm.MethodName)) ∈ xw_T := xw_in 1138 (by decide +kernel) (by decide +kernel)
theorem k_1139 : (Cond.instanceMethod ({ cls := "QuorumStoreModel$State", name := "trim", desc := "()V" } : Jvm.MethodName)) ∈ xw_T := xw_in 1139 (by decide +kernel) (by decide +kernel)
theorem k_1140 : (Cond.selects "QuorumStoreModel$State" ({ cls := "QuorumStoreModel$State", name := "trim", desc := "()V" } : Jvm.MethodName) ({ cls := "QuorumStoreModel$State", name := "trim", desc := "()V" } : Jvm.MethodName)) ∈ xw_T := xw_in 1140 (by decide +kernel) (by decide +kernel)
theorem k_1141 : (Cond.code ({ cls := "QuorumStoreModel$State", name := "trim", desc := "()V" } : Jvm.MethodName) prog_14_method_4_code (2 : Nat) (Option.none : Option Jvm.ClassFile.FieldType)) ∈ xw_T := xw_in 1141 (by decide +kernel) (by decide +kernel)
theorem k_1142 : (Cond.methodLink "QuorumStoreModel" (113 : Nat) ({ cls := "QuorumStoreModel", name := "done", desc := "(LQuorumStoreModel$State;LQuorumStoreModel$Value;)V" } : Jvm.MethodName)) ∈ xw_T := xw_in 1142 (by decide +kernel) (by decide +kernel)
theorem k_1144 : (Cond.instanceMethod ({ cls := "QuorumStoreModel", name := "done", desc := "(LQuorumStoreModel$State;LQuorumStoreModel$Value;)V" } : Jvm.MethodName)) ∈ xw_T := xw_in 1144 (by decide +kernel) (by decide +kernel)
theorem k_1145 : (Cond.code ({ cls := "QuorumStoreModel", name := "done", desc := "(LQuorumStoreModel$State;LQuorumStoreModel$Value;)V" } : Jvm.MethodName) prog_10_method_11_code (7 : Nat) (Option.none : Option Jvm.ClassFile.FieldType)) ∈ xw_T := xw_in 1145 (by decide +kernel) (by decide +kernel)
theorem k_1146 : (Cond.constantLong "QuorumStoreModel" (149 : Nat) (1099511627776 : Int64)) ∈ xw_T := xw_in 1146 (by decide +kernel) (by decide +kernel)
theorem k_1147 : (Cond.methodLink "QuorumStoreModel" (120 : Nat) ({ cls := "QuorumStoreModel$Slots", name := "forget", desc := "(I)V" } : Jvm.MethodName)) ∈ xw_T := xw_in 1147 (by decide +kernel) (by decide +kernel)
theorem k_1148 : (Cond.instanceMethod ({ cls := "QuorumStoreModel$Slots", name := "forget", desc := "(I)V" } : Jvm.MethodName)) ∈ xw_T := xw_in 1148 (by decide +kernel) (by decide +kernel)
theorem k_1149 : (Cond.selects "QuorumStoreModel$Slots" ({ cls := "QuorumStoreModel$Slots", name := "forget", desc := "(I)V" } : Jvm.MethodName) ({ cls := "QuorumStoreModel$Slots", name := "forget", desc := "(I)V" } : Jvm.MethodName)) ∈ xw_T := xw_in 1149 (by decide +kernel) (by decide +kernel)
theorem k_1150 : (Cond.code ({ cls := "QuorumStoreModel$Slots", name := "forget", desc := "(I)V" } : Jvm.MethodName) prog_13_method_7_code (2 : Nat) (Option.none : Option Jvm.ClassFile.FieldType)) ∈ xw_T := xw_in 1150 (by decide +kernel) (by decide +kernel)
theorem k_1151 : (Cond.methodLink "QuorumStoreModel$Slots" (39 : Nat) ({ cls := "QuorumStoreModel$Slots", name := "remove", desc := "(I)V" } : Jvm.MethodName)) ∈ xw_T := xw_in 1151 (by decide +kernel) (by decide +kernel)
theorem k_1152 : (Cond.methodLink "QuorumStoreModel" (169 : Nat) ({ cls := "QuorumStoreModel", name := "grown", desc := "(LQuorumStoreModel$Node;I)V" } : Jvm.MethodName)) ∈ xw_T := xw_in 1152 (by decide +kernel) (by decide +kernel)
theorem k_1154 : (Cond.instanceMethod ({ cls := "QuorumStoreModel", name := "grown", desc := "(LQuorumStoreModel$Node;I)V" } : Jvm.MethodName)) ∈ xw_T := xw_in 1154 (by decide +kernel) (by decide +kernel)
theorem k_1155 : (Cond.code ({ cls := "QuorumStoreModel", name := "grown", desc := "(LQuorumStoreModel$Node;I)V" } : Jvm.MethodName) prog_10_method_13_code (5 : Nat) (Option.none : Option Jvm.ClassFile.FieldType)) ∈ xw_T := xw_in 1155 (by decide +kernel) (by decide +kernel)
theorem k_1156 : (Cond.methodLink "QuorumStoreLaw" (82 : Nat) ({ cls := "QuorumStoreModel", name := "deliver", desc := "(I)I" } : Jvm.MethodName)) ∈ xw_T := xw_in 1156 (by decide +kernel) (by decide +kernel)
theorem k_1157 : (Cond.instanceMethod ({ cls := "QuorumStoreModel", name := "deliver", desc := "(I)I" } : Jvm.MethodName)) ∈ xw_T := xw_in 1157 (by decide +kernel) (by decide +kernel)
theorem k_1158 : (Cond.selects "QuorumStoreModel" ({ cls := "QuorumStoreModel", name := "deliver", desc := "(I)I" } : Jvm.MethodName) ({ cls := "QuorumStoreModel", name := "deliver", desc := "(I)I" } : Jvm.MethodName)) ∈ xw_T := xw_in 1158 (by decide +kernel) (by decide +kernel)
theorem k_1159 : (Cond.code ({ cls := "QuorumStoreModel", name := "deliver", desc := "(I)I" } : Jvm.MethodName) prog_10_method_32_code (3 : Nat) (Option.some Jvm.ClassFile.FieldType.int)) ∈ xw_T := xw_in 1159 (by decide +kernel) (by decide +kernel)
theorem k_1160 : (Cond.methodLink "QuorumStoreModel" (304 : Nat) ({ cls := "QuorumStoreModel", name := "none", desc := "(I)Z" } : Jvm.MethodName)) ∈ xw_T := xw_in 1160 (by decide +kernel) (by decide +kernel)
theorem k_1162 : (Cond.instanceMethod ({ cls := "QuorumStoreModel", name := "none", desc := "(I)Z" } : Jvm.MethodName)) ∈ xw_T := xw_in 1162 (by decide +kernel) (by decide +kernel)
theorem k_1163 : (Cond.code ({ cls := "QuorumStoreModel", name := "none", desc := "(I)Z" } : Jvm.MethodName) prog_10_method_30_code (2 : Nat) (Option.some Jvm.ClassFile.FieldType.boolean)) ∈ xw_T := xw_in 1163 (by decide +kernel) (by decide +kernel)
theorem k_1164 : (Cond.methodLink "QuorumStoreModel" (308 : Nat) ({ cls := "QuorumStoreModel", name := "removed", desc := "(I)V" } : Jvm.MethodName)) ∈ xw_T := xw_in 1164 (by decide +kernel) (by decide +kernel)
theorem k_1166 : (Cond.instanceMethod ({ cls := "QuorumStoreModel", name := "removed", desc := "(I)V" } : Jvm.MethodName)) ∈ xw_T := xw_in 1166 (by decide +kernel) (by decide +kernel)
theorem k_1167 : (Cond.code ({ cls := "QuorumStoreModel", name := "removed", desc := "(I)V" } : Jvm.MethodName) prog_10_method_31_code (4 : Nat) (Option.none : Option Jvm.ClassFile.FieldType)) ∈ xw_T := xw_in 1167 (by decide +kernel) (by decide +kernel)
theorem k_1168 : (Cond.methodLink "QuorumStoreModel" (314 : Nat) ({ cls := "QuorumStoreModel", name := "came", desc := "(LQuorumStoreModel$Node;LQuorumStoreModel$Message;)V" } : Jvm.MethodName)) ∈ xw_T := xw_in 1168 (by decide +kernel) (by decide +kernel)
theorem k_1170 : (Cond.instanceMethod ({ cls := "QuorumStoreModel", name := "came", desc := "(LQuorumStoreModel$Node;LQuorumStoreModel$Message;)V" } : Jvm.MethodName)) ∈ xw_T := xw_in 1170 (by decide +kernel) (by decide +kernel)
theorem k_1171 : (Cond.code ({ cls := "QuorumStoreModel", name := "came", desc := "(LQuorumStoreModel$Node;LQuorumStoreModel$Message;)V" } : Jvm.MethodName) prog_10_method_26_code (5 : Nat) (Option.none : Option Jvm.ClassFile.FieldType)) ∈ xw_T := xw_in 1171 (by decide +kernel) (by decide +kernel)
theorem k_1172 : (Cond.methodLink "QuorumStoreModel" (265 : Nat) ({ cls := "QuorumStoreModel", name := "old", desc := "(LQuorumStoreModel$Node;LQuorumStoreModel$Message;)Z" } : Jvm.MethodName)) ∈ xw_T := xw_in 1172 (by decide +kernel) (by decide +kernel)
theorem k_1174 : (Cond.instanceMethod ({ cls := "QuorumStoreModel", name := "old", desc := "(LQuorumStoreModel$Node;LQuorumStoreModel$Message;)Z" } : Jvm.MethodName)) ∈ xw_T := xw_in 1174 (by decide +kernel) (by decide +kernel)
theorem k_1175 : (Cond.code ({ cls := "QuorumStoreModel", name := "old", desc := "(LQuorumStoreModel$Node;LQuorumStoreModel$Message;)Z" } : Jvm.MethodName) prog_10_method_23_code (3 : Nat) (Option.some Jvm.ClassFile.FieldType.boolean)) ∈ xw_T := xw_in 1175 (by decide +kernel) (by decide +kernel)
theorem k_1176 : (Cond.methodLink "QuorumStoreModel" (269 : Nat) ({ cls := "QuorumStoreModel", name := "fresh", desc := "(LQuorumStoreModel$Node;I)V" } : Jvm.MethodName)) ∈ xw_T := xw_in 1176 (by decide +kernel) (by decide +kernel)
theorem k_1178 : (Cond.instanceMethod ({ cls := "QuorumStoreModel", name := "fresh", desc := "(LQuorumStoreModel$Node;I)V" } : Jvm.MethodName)) ∈ xw_T := xw_in 1178 (by decide +kernel) (by decide +kernel)
theorem k_1179 : (Cond.code ({ cls := "QuorumStoreModel", name := "fresh", desc := "(LQuorumStoreModel$Node;I)V" } : Jvm.MethodName) prog_10_method_24_code (3 : Nat) (Option.none : Option Jvm.ClassFile.FieldType)) ∈ xw_T := xw_in 1179 (by decide +kernel) (by decide +kernel)
theorem k_1180 : (Cond.methodLink "QuorumStoreModel" (262 : Nat) ({ cls := "QuorumStoreModel", name := "down", desc := "(LQuorumStoreModel$Node;)V" } : Jvm.MethodName)) ∈ xw_T := xw_in 1180 (by decide +kernel) (by decide +kernel)
theorem k_1181 : (Cond.static ({ cls := "QuorumStoreModel", name := "down", desc := "(LQuorumStoreModel$Node;)V" } : Jvm.MethodName)) ∈ xw_T := xw_in 1181 (by decide +kernel) (by decide +kernel)
theorem k_1182 : (Cond.code ({ cls := "QuorumStoreModel", name := "down", desc := "(LQuorumStoreModel$Node;)V" } : Jvm.MethodName) prog_10_method_17_code (1 : Nat) (Option.none : Option Jvm.ClassFile.FieldType)) ∈ xw_T := xw_in 1182 (by decide +kernel) (by decide +kernel)
theorem k_1183 : (Cond.methodLink "QuorumStoreModel" (275 : Nat) ({ cls := "QuorumStoreModel$Slots", name := "set", desc := "(LQuorumStoreModel$Slots;)V" } : Jvm.MethodName)) ∈ xw_T := xw_in 1183 (by decide +kernel) (by decide +kernel)
theorem k_1184 : (Cond.methodLink "QuorumStoreModel" (278 : Nat) ({ cls := "QuorumStoreModel", name := "want", desc := "(LQuorumStoreModel$Node;I)V" } : Jvm.MethodName)) ∈ xw_T := xw_in 1184 (by decide +kernel) (by decide +kernel)
theorem k_1186 : (Cond.instanceMethod ({ cls := "QuorumStoreModel", name := "want", desc := "(LQuorumStoreModel$Node;I)V" } : Jvm.MethodName)) ∈ xw_T := xw_in 1186 (by decide +kernel) (by decide +kernel)
theorem k_1187 : (Cond.code ({ cls := "QuorumStoreModel", name := "want", desc := "(LQuorumStoreModel$Node;I)V" } : Jvm.MethodName) prog_10_method_25_code (3 : Nat) (Option.none : Option Jvm.ClassFile.FieldType)) ∈ xw_T := xw_in 1187 (by decide +kernel) (by decide +kernel)
theorem k_1188 : (Cond.methodLink "QuorumStoreModel" (281 : Nat) ({ cls := "QuorumStoreModel", name := "wanted", desc := "(LQuorumStoreModel$Node;LQuorumStoreModel$Message;)V" } : Jvm.MethodName)) ∈ xw_T := xw_in 1188 (by decide +kernel) (by decide +kernel)
theorem k_1190 : (Cond.instanceMethod ({ cls := "QuorumStoreModel", name := "wanted", desc := "(LQuorumStoreModel$Node;LQuorumStoreModel$Message;)V" } : Jvm.MethodName)) ∈ xw_T := xw_in 1190 (by decide +kernel) (by decide +kernel)
theorem k_1191 : (Cond.code ({ cls := "QuorumStoreModel", name := "wanted", desc := "(LQuorumStoreModel$Node;LQuorumStoreModel$Message;)V" } : Jvm.MethodName) prog_10_method_27_code (6 : Nat) (Option.none : Option Jvm.ClassFile.FieldType)) ∈ xw_T := xw_in 1191 (by decide +kernel) (by decide +kernel)
theorem k_1192 : (Cond.constantLong "QuorumStoreModel" (288 : Nat) (7 : Int64)) ∈ xw_T := xw_in 1192 (by decide +kernel) (by decide +kernel)
theorem k_1193 : (Cond.methodLink "QuorumStoreModel" (290 : Nat) ({ cls := "java/lang/Math", name := "min", desc := "(JJ)J" } : Jvm.MethodName)) ∈ xw_T := xw_in 1193 (by decide +kernel) (by decide +kernel)
theorem k_1194 : (Cond.static ({ cls := "java/lang/Math", name := "min", desc := "(JJ)J" } : Jvm.MethodName)) ∈ xw_T := xw_in 1194 (by decide +kernel) (by decide +kernel)
theorem k_1195 : (Cond.code ({ cls := "java/lang/Math", name := "min", desc := "(JJ)J" } : Jvm.MethodName) prog_20_method_70_code (4 : Nat) (Option.some Jvm.ClassFile.FieldType.long)) ∈ xw_T := xw_in 1195 (by decide +kernel) (by decide +kernel)
theorem k_1196 : (Cond.methodLink "QuorumStoreModel" (295 : Nat) ({ cls := "QuorumStoreModel$State", name := "set", desc := "(LQuorumStoreModel$State;)V" } : Jvm.MethodName)) ∈ xw_T := xw_in 1196 (by decide +kernel) (by decide +kernel)
theorem k_1197 : (Cond.methodLink "QuorumStoreModel" (285 : Nat) ({ cls := "QuorumStoreModel", name := "snapshot", desc := "(LQuorumStoreModel$Node;LQuorumStoreModel$Message;)V" } : Jvm.MethodName)) ∈ xw_T := xw_in 1197 (by decide +kernel) (by decide +kernel)
theorem k_1199 : (Cond.instanceMethod ({ cls := "QuorumStoreModel", name := "snapshot", desc := "(LQuorumStoreModel$Node;LQuorumStoreModel$Message;)V" } : Jvm.MethodName)) ∈ xw_T := xw_in 1199 (by decide +kernel) (by decide +kernel)
theorem k_1200 : (Cond.code ({ cls := "QuorumStoreModel", name := "snapshot", desc := "(LQuorumStoreModel$Node;LQuorumStoreModel$Message;)V" } : Jvm.MethodName) prog_10_method_28_code (4 : Nat) (Option.none : Option Jvm.ClassFile.FieldType)) ∈ xw_T := xw_in 1200 (by decide +kernel) (by decide +kernel)
theorem k_1201 : (Cond.methodLink "QuorumStoreLaw" (85 : Nat) ({ cls := "QuorumStoreModel", name := "drop", desc := "(I)I" } : Jvm.MethodName)) ∈ xw_T := xw_in 1201 (by decide +kernel) (by decide +kernel)
theorem k_1202 : (Cond.instanceMethod ({ cls := "QuorumStoreModel", name := "drop", desc := "(I)I" } : Jvm.MethodName)) ∈ xw_T := xw_in 1202 (by decide +kernel) (by decide +kernel)
theorem k_1203 : (Cond.selects "QuorumStoreModel" ({ cls := "QuorumStoreModel", name := "drop", desc := "(I)I" } : Jvm.MethodName) ({ cls := "QuorumStoreModel", name := "drop", desc := "(I)I" } : Jvm.MethodName)) ∈ xw_T := xw_in 1203 (by decide +kernel) (by decide +kernel)
theorem k_1204 : (Cond.code ({ cls := "QuorumStoreModel", name := "drop", desc := "(I)I" } : Jvm.MethodName) prog_10_method_33_code (2 : Nat) (Option.some Jvm.ClassFile.FieldType.int)) ∈ xw_T := xw_in 1204 (by decide +kernel) (by decide +kernel)
theorem k_1205 : (Cond.methodLink "QuorumStoreLaw" (88 : Nat) ({ cls := "QuorumStoreModel", name := "copy", desc := "(I)I" } : Jvm.MethodName)) ∈ xw_T := xw_in 1205 (by decide +kernel) (by decide +kernel)
theorem k_1206 : (Cond.instanceMethod ({ cls := "QuorumStoreModel", name := "copy", desc := "(I)I" } : Jvm.MethodName)) ∈ xw_T := xw_in 1206 (by decide +kernel) (by decide +kernel)
theorem k_1207 : (Cond.selects "QuorumStoreModel" ({ cls := "QuorumStoreModel", name := "copy", desc := "(I)I" } : Jvm.MethodName) ({ cls := "QuorumStoreModel", name := "copy", desc := "(I)I" } : Jvm.MethodName)) ∈ xw_T := xw_in 1207 (by decide +kernel) (by decide +kernel)
theorem k_1208 : (Cond.code ({ cls := "QuorumStoreModel", name := "copy", desc := "(I)I" } : Jvm.MethodName) prog_10_method_34_code (2 : Nat) (Option.some Jvm.ClassFile.FieldType.int)) ∈ xw_T := xw_in 1208 (by decide +kernel) (by decide +kernel)
theorem k_1209 : (Cond.methodLink "QuorumStoreLaw" (92 : Nat) ({ cls := "QuorumStoreModel", name := "message", desc := "(II)I" } : Jvm.MethodName)) ∈ xw_T := xw_in 1209 (by decide +kernel) (by decide +kernel)
theorem k_1210 : (Cond.instanceMethod ({ cls := "QuorumStoreModel", name := "message", desc := "(II)I" } : Jvm.MethodName)) ∈ xw_T := xw_in 1210 (by decide +kernel) (by decide +kernel)
theorem k_1211 : (Cond.selects "QuorumStoreModel" ({ cls := "QuorumStoreModel", name := "message", desc := "(II)I" } : Jvm.MethodName) ({ cls := "QuorumStoreModel", name := "message", desc := "(II)I" } : Jvm.MethodName)) ∈ xw_T := xw_in 1211 (by decide +kernel) (by decide +kernel)
theorem k_1212 : (Cond.code ({ cls := "QuorumStoreModel", name := "message", desc := "(II)I" } : Jvm.MethodName) prog_10_method_35_code (4 : Nat) (Option.some Jvm.ClassFile.FieldType.int)) ∈ xw_T := xw_in 1212 (by decide +kernel) (by decide +kernel)
theorem k_1213 : (Cond.methodLink "QuorumStoreLaw" (96 : Nat) ({ cls := "QuorumStoreModel", name := "fall", desc := "(I)V" } : Jvm.MethodName)) ∈ xw_T := xw_in 1213 (by decide +kernel) (by decide +kernel)
theorem k_1214 : (Cond.instanceMethod ({ cls := "QuorumStoreModel", name := "fall", desc := "(I)V" } : Jvm.MethodName)) ∈ xw_T := xw_in 1214 (by decide +kernel) (by decide +kernel)
theorem k_1215 : (Cond.selects "QuorumStoreModel" ({ cls := "QuorumStoreModel", name := "fall", desc := "(I)V" } : Jvm.MethodName) ({ cls := "QuorumStoreModel", name := "fall", desc := "(I)V" } : Jvm.MethodName)) ∈ xw_T := xw_in 1215 (by decide +kernel) (by decide +kernel)
theorem k_1216 : (Cond.code ({ cls := "QuorumStoreModel", name := "fall", desc := "(I)V" } : Jvm.MethodName) prog_10_method_37_code (3 : Nat) (Option.none : Option Jvm.ClassFile.FieldType)) ∈ xw_T := xw_in 1216 (by decide +kernel) (by decide +kernel)
theorem k_1217 : (Cond.methodLink "QuorumStoreModel" (317 : Nat) ({ cls := "QuorumStoreModel", name := "noNode", desc := "(I)Z" } : Jvm.MethodName)) ∈ xw_T := xw_in 1217 (by decide +kernel) (by decide +kernel)
theorem k_1218 : (Cond.static ({ cls := "QuorumStoreModel", name := "noNode", desc := "(I)Z" } : Jvm.MethodName)) ∈ xw_T := xw_in 1218 (by decide +kernel) (by decide +kernel)
theorem k_1219 : (Cond.code ({ cls := "QuorumStoreModel", name := "noNode", desc := "(I)Z" } : Jvm.MethodName) prog_10_method_36_code (1 : Nat) (Option.some Jvm.ClassFile.FieldType.boolean)) ∈ xw_T := xw_in 1219 (by decide +kernel) (by decide +kernel)
theorem k_1220 : (Cond.methodLink "QuorumStoreLaw" (99 : Nat) ({ cls := "QuorumStoreModel", name := "rise", desc := "(I)V" } : Jvm.MethodName)) ∈ xw_T := xw_in 1220 (by decide +kernel) (by decide +kernel)
theorem k_1221 : (Cond.instanceMethod ({ cls := "QuorumStoreModel", name := "rise", desc := "(I)V" } : Jvm.MethodName)) ∈ xw_T := xw_in 1221 (by decide +kernel) (by decide +kernel)
theorem k_1222 : (Cond.selects "QuorumStoreModel" ({ cls := "QuorumStoreModel", name := "rise", desc := "(I)V" } : Jvm.MethodName) ({ cls := "QuorumStoreModel", name := "rise", desc := "(I)V" } : Jvm.MethodName)) ∈ xw_T := xw_in 1222 (by decide +kernel) (by decide +kernel)
theorem k_1223 : (Cond.code ({ cls := "QuorumStoreModel", name := "rise", desc := "(I)V" } : Jvm.MethodName) prog_10_method_38_code (2 : Nat) (Option.none : Option Jvm.ClassFile.FieldType)) ∈ xw_T := xw_in 1223 (by decide +kernel) (by decide +kernel)
theorem k_1224 : (Cond.methodLink "QuorumStoreLaw" (102 : Nat) ({ cls := "QuorumStoreModel", name := "key", desc := "(I)I" } : Jvm.MethodName)) ∈ xw_T := xw_in 1224 (by decide +kernel) (by decide +kernel)
theorem k_1225 : (Cond.instanceMethod ({ cls := "QuorumStoreModel", name := "key", desc := "(I)I" } : Jvm.MethodName)) ∈ xw_T := xw_in 1225 (by decide +kernel) (by decide +kernel)
theorem k_1226 : (Cond.selects "QuorumStoreModel" ({ cls := "QuorumStoreModel", name := "key", desc := "(I)I" } : Jvm.MethodName) ({ cls := "QuorumStoreModel", name := "key", desc := "(I)I" } : Jvm.MethodName)) ∈ xw_T := xw_in 1226 (by decide +kernel) (by decide +kernel)
theorem k_1227 : (Cond.code ({ cls := "QuorumStoreModel", name := "key", desc := "(I)I" } : Jvm.MethodName) prog_10_method_39_code (3 : Nat) (Option.some Jvm.ClassFile.FieldType.int)) ∈ xw_T := xw_in 1227 (by decide +kernel) (by decide +kernel)
theorem k_1228 : (Cond.methodLink "QuorumStoreLaw" (106 : Nat) ({ cls := "QuorumStoreModel", name := "ask", desc := "(IIIIII)I" } : Jvm.MethodName)) ∈ xw_T := xw_in 1228 (by decide +kernel) (by decide +kernel)
theorem k_1229 : (Cond.instanceMethod ({ cls := "QuorumStoreModel", name := "ask", desc := "(IIIIII)I" } : Jvm.MethodName)) ∈ xw_T := xw_in 1229 (by decide +kernel) (by decide +kernel)
theorem k_1230 : (Cond.selects "QuorumStoreModel" ({ cls := "QuorumStoreModel", name := "ask", desc := "(IIIIII)I" } : Jvm.MethodName) ({ cls := "QuorumStoreModel", name := "ask", desc := "(IIIIII)I" } : Jvm.MethodName)) ∈ xw_T := xw_in 1230 (by decide +kernel) (by decide +kernel)
theorem k_1231 : (Cond.code ({ cls := "QuorumStoreModel", name := "ask", desc := "(IIIIII)I" } : Jvm.MethodName) prog_10_method_40_code (9 : Nat) (Option.some Jvm.ClassFile.FieldType.int)) ∈ xw_T := xw_in 1231 (by decide +kernel) (by decide +kernel)
theorem k_1232 : (Cond.classLink "QuorumStoreModel" (127 : Nat) "QuorumStoreModel$Value") ∈ xw_T := xw_in 1232 (by decide +kernel) (by decide +kernel)
theorem k_1233 : (Cond.instantiable "QuorumStoreModel$Value" (6 : Nat)) ∈ xw_T := xw_in 1233 (by decide +kernel) (by decide +kernel)
theorem k_1234 : (Cond.methodLink "QuorumStoreModel" (321 : Nat) ({ cls := "QuorumStoreModel$Value", name := "<init>", desc := "(IIIIII)V" } : Jvm.MethodName)) ∈ xw_T := xw_in 1234 (by decide +kernel) (by decide +kernel)
theorem k_1235 : (Cond.instanceMethod ({ cls := "QuorumStoreModel$Value", name := "<init>", desc := "(IIIIII)V" } : Jvm.MethodName)) ∈ xw_T := xw_in 1235 (by decide +kernel) (by decide +kernel)
theorem k_1236 : (Cond.code ({ cls := "QuorumStoreModel$Value", name := "<init>", desc := "(IIIIII)V" } : Jvm.MethodName) prog_15_method_1_code (7 : Nat) (Option.none : Option Jvm.ClassFile.FieldType)) ∈ xw_T := xw_in 1236 (by decide +kernel) (by decide +kernel)
theorem k_1237 : (Cond.methodLink "QuorumStoreModel$Value" (1 : Nat) ({ cls := "java/lang/Object", name := "<init>", desc := "()V" } : Jvm.MethodName)) ∈ xw_T := xw_in 1237 (by decide +kernel) (by decide +kernel)
theorem k_1238 : (Cond.fieldLink "QuorumStoreModel$Value" (7 : Nat) "QuorumStoreModel$Value" "kind" "I") ∈ xw_T := xw_in 1238 (by decide +kernel) (by decide +kernel)
theorem k_1239 : (Cond.fieldLink "QuorumStoreModel" (126 : Nat) "QuorumStoreModel$Value" "kind" "I") ∈ xw_T := xw_in 1239 (by decide +kernel) (by decide +kernel)
theorem k_1240 : (Cond.fieldLink "QuorumStoreModel$Value" (13 : Nat) "QuorumStoreModel$Value" "client" "I") ∈ xw_T := xw_in 1240 (by decide +kernel) (by decide +kernel)
theorem k_1241 : (Cond.fieldLink "QuorumStoreModel" (136 : Nat) "QuorumStoreModel$Value" "client" "I") ∈ xw_T := xw_in 1241 (by decide +kernel) (by decide +kernel)
theorem k_1242 : (Cond.fieldLink "QuorumStoreModel$Value" (16 : Nat) "QuorumStoreModel$Value" "seq" "I") ∈ xw_T := xw_in 1242 (by decide +kernel) (by decide +kernel)
theorem k_1243 : (Cond.fieldLink "QuorumStoreModel" (129 : Nat) "QuorumStoreModel$Value" "seq" "I") ∈ xw_T := xw_in 1243 (by decide +kernel) (by decide +kernel)
theorem k_1244 : (Cond.fieldLink "QuorumStoreModel$Value" (19 : Nat) "QuorumStoreModel$Value" "key" "I") ∈ xw_T := xw_in 1244 (by decide +kernel) (by decide +kernel)
theorem k_1245 : (Cond.fieldLink "QuorumStoreModel" (143 : Nat) "QuorumStoreModel$Value" "key" "I") ∈ xw_T := xw_in 1245 (by decide +kernel) (by decide +kernel)
theorem k_1246 : (Cond.fieldLink "QuorumStoreModel$Value" (22 : Nat) "QuorumStoreModel$Value" "a" "I") ∈ xw_T := xw_in 1246 (by decide +kernel) (by decide +kernel)
theorem k_1247 : (Cond.fieldLink "QuorumStoreModel" (146 : Nat) "QuorumStoreModel$Value" "a" "I") ∈ xw_T := xw_in 1247 (by decide +kernel) (by decide +kernel)
theorem k_1248 : (Cond.fieldLink "QuorumStoreModel$Value" (25 : Nat) "QuorumStoreModel$Value" "b" "I") ∈ xw_T := xw_in 1248 (by decide +kernel) (by decide +kernel)
theorem k_1249 : (Cond.fieldLink "QuorumStoreModel" (151 : Nat) "QuorumStoreModel$Value" "b" "I") ∈ xw_T := xw_in 1249 (by decide +kernel) (by decide +kernel)
theorem k_1263 : (Cond.methodLink "QuorumStoreLaw" (110 : Nat) ({ cls := "QuorumStoreModel", name := "answer", desc := "(III)J" } : Jvm.MethodName)) ∈ xw_T := xw_in 1263 (by decide +kernel) (by decide +kernel)
theorem k_1264 : (Cond.instanceMethod ({ cls := "QuorumStoreModel", name := "answer", desc := "(III)J" } : Jvm.MethodName)) ∈ xw_T := xw_in 1264 (by decide +kernel) (by decide +kernel)
theorem k_1265 : (Cond.selects "QuorumStoreModel" ({ cls := "QuorumStoreModel", name := "answer", desc := "(III)J" } : Jvm.MethodName) ({ cls := "QuorumStoreModel", name := "answer", desc := "(III)J" } : Jvm.MethodName)) ∈ xw_T := xw_in 1265 (by decide +kernel) (by decide +kernel)
theorem k_1266 : (Cond.code ({ cls := "QuorumStoreModel", name := "answer", desc := "(III)J" } : Jvm.MethodName) prog_10_method_41_code (4 : Nat) (Option.some Jvm.ClassFile.FieldType.long)) ∈ xw_T := xw_in 1266 (by decide +kernel) (by decide +kernel)
theorem k_1267 : (Cond.methodLink "QuorumStoreLaw" (113 : Nat) ({ cls := "QuorumStoreModel", name := "number", desc := "(II)J" } : Jvm.MethodName)) ∈ xw_T := xw_in 1267 (by decide +kernel) (by decide +kernel)
theorem k_1268 : (Cond.instanceMethod ({ cls := "QuorumStoreModel", name := "number", desc := "(II)J" } : Jvm.MethodName)) ∈ xw_T := xw_in 1268 (by decide +kernel) (by decide +kernel)
theorem k_1269 : (Cond.selects "QuorumStoreModel" ({ cls := "QuorumStoreModel", name := "number", desc := "(II)J" } : Jvm.MethodName) ({ cls := "QuorumStoreModel", name := "number", desc := "(II)J" } : Jvm.MethodName)) ∈ xw_T := xw_in 1269 (by decide +kernel) (by decide +kernel)
theorem k_1270 : (Cond.code ({ cls := "QuorumStoreModel", name := "number", desc := "(II)J" } : Jvm.MethodName) prog_10_method_42_code (3 : Nat) (Option.some Jvm.ClassFile.FieldType.long)) ∈ xw_T := xw_in 1270 (by decide +kernel) (by decide +kernel)
theorem k_1271 : (Cond.methodLink "QuorumStoreLaw" (116 : Nat) ({ cls := "QuorumStoreModel", name := "known", desc := "(III)I" } : Jvm.MethodName)) ∈ xw_T := xw_in 1271 (by decide +kernel) (by decide +kernel)
theorem k_1272 : (Cond.instanceMethod ({ cls := "QuorumStoreModel", name := "known", desc := "(III)I" } : Jvm.MethodName)) ∈ xw_T := xw_in 1272 (by decide +kernel) (by decide +kernel)
theorem k_1273 : (Cond.selects "QuorumStoreModel" ({ cls := "QuorumStoreModel", name := "known", desc := "(III)I" } : Jvm.MethodName) ({ cls := "QuorumStoreModel", name := "known", desc := "(III)I" } : Jvm.MethodName)) ∈ xw_T := xw_in 1273 (by decide +kernel) (by decide +kernel)
theorem k_1274 : (Cond.code ({ cls := "QuorumStoreModel", name := "known", desc := "(III)I" } : Jvm.MethodName) prog_10_method_43_code (6 : Nat) (Option.some Jvm.ClassFile.FieldType.int)) ∈ xw_T := xw_in 1274 (by decide +kernel) (by decide +kernel)
theorem k_1275 : (Cond.methodLink "QuorumStoreLaw" (119 : Nat) ({ cls := "QuorumStoreModel", name := "about", desc := "(II)I" } : Jvm.MethodName)) ∈ xw_T := xw_in 1275 (by decide +kernel) (by decide +kernel)
theorem k_1276 : (Cond.instanceMethod ({ cls := "QuorumStoreModel", name := "about", desc := "(II)I" } : Jvm.MethodName)) ∈ xw_T := xw_in 1276 (by decide +kernel) (by decide +kernel)
theorem k_1277 : (Cond.selects "QuorumStoreModel" ({ cls := "QuorumStoreModel", name := "about", desc := "(II)I" } : Jvm.MethodName) ({ cls := "QuorumStoreModel", name := "about", desc := "(II)I" } : Jvm.MethodName)) ∈ xw_T := xw_in 1277 (by decide +kernel) (by decide +kernel)
theorem k_1278 : (Cond.code ({ cls := "QuorumStoreModel", name := "about", desc := "(II)I" } : Jvm.MethodName) prog_10_method_44_code (4 : Nat) (Option.some Jvm.ClassFile.FieldType.int)) ∈ xw_T := xw_in 1278 (by decide +kernel) (by decide +kernel)
theorem k_1279 : (Cond.methodLink "QuorumStoreLaw" (123 : Nat) ({ cls := "QuorumStoreModel", name := "count", desc := "(I)I" } : Jvm.MethodName)) ∈ xw_T := xw_in 1279 (by decide +kernel) (by decide +kernel)
theorem k_1280 : (Cond.instanceMethod ({ cls := "QuorumStoreModel", name := "count", desc := "(I)I" } : Jvm.MethodName)) ∈ xw_T := xw_in 1280 (by decide +kernel) (by decide +kernel)
theorem k_1281 : (Cond.selects "QuorumStoreModel" ({ cls := "QuorumStoreModel", name := "count", desc := "(I)I" } : Jvm.MethodName) ({ cls := "QuorumStoreModel", name := "count", desc := "(I)I" } : Jvm.MethodName)) ∈ xw_T := xw_in 1281 (by decide +kernel) (by decide +kernel)
theorem k_1282 : (Cond.code ({ cls := "QuorumStoreModel", name := "count", desc := "(I)I" } : Jvm.MethodName) prog_10_method_45_code (2 : Nat) (Option.some Jvm.ClassFile.FieldType.int)) ∈ xw_T := xw_in 1282 (by decide +kernel) (by decide +kernel)
theorem ks_0 : Cond.selects "java/lang/Throwable" ⟨"java/lang/Throwable", "fillInStackTrace", "(I)Ljava/lang/Throwable;"⟩ ⟨"java/lang/Throwable", "fillInStackTrace", "(I)Ljava/lang/Throwable;"⟩ ∈ xw_T := xw_se 0 (by decide +kernel) (by decide +kernel)
theorem ks_1 : Cond.selects "QuorumStore$Node" ⟨"QuorumStore$Node", "beat", "()V"⟩ ⟨"QuorumStore$Node", "beat", "()V"⟩ ∈ xw_T := xw_se 1 (by decide +kernel) (by decide +kernel)
theorem ks_2 : Cond.selects "QuorumStore$Node" ⟨"QuorumStore$Node", "peers", "()I"⟩ ⟨"QuorumStore$Node", "peers", "()I"⟩ ∈ xw_T := xw_se 2 (by decide +kernel) (by decide +kernel)
theorem ks_3 : Cond.selects "QuorumStore$Node" ⟨"QuorumStore$Node", "sendEach", "(IIIILQuorumStore$Value;)V"⟩ ⟨"QuorumStore$Node", "sendEach", "(IIIILQuorumStore$Value;)V"⟩ ∈ xw_T := xw_se 3 (by decide +kernel) (by decide +kernel)
theorem ks_4 : Cond.selects "QuorumStore$Node" ⟨"QuorumStore$Node", "rest", "()V"⟩ ⟨"QuorumStore$Node", "rest", "()V"⟩ ∈ xw_T := xw_se 4 (by decide +kernel) (by decide +kernel)
theorem ks_5 : Cond.selects "QuorumStore$Node" ⟨"QuorumStore$Node", "beginToLead", "()V"⟩ ⟨"QuorumStore$Node", "beginToLead", "()V"⟩ ∈ xw_T := xw_se 5 (by decide +kernel) (by decide +kernel)
theorem ks_6 : Cond.selects "QuorumStore$Row" ⟨"QuorumStore$Row", "clearPlace", "(I)V"⟩ ⟨"QuorumStore$Row", "clearPlace", "(I)V"⟩ ∈ xw_T := xw_se 6 (by decide +kernel) (by decide +kernel)
theorem ks_7 : Cond.selects "QuorumStore$Node" ⟨"QuorumStore$Node", "settle", "()V"⟩ ⟨"QuorumStore$Node", "settle", "()V"⟩ ∈ xw_T := xw_se 7 (by decide +kernel) (by decide +kernel)
theorem ks_8 : Cond.selects "QuorumStore$Node" ⟨"QuorumStore$Node", "openSlot", "()I"⟩ ⟨"QuorumStore$Node", "openSlot", "()I"⟩ ∈ xw_T := xw_se 8 (by decide +kernel) (by decide +kernel)
theorem ks_9 : Cond.selects "QuorumStore$Lead" ⟨"QuorumStore$Lead", "dequeue", "()LQuorumStore$Value;"⟩ ⟨"QuorumStore$Lead", "dequeue", "()LQuorumStore$Value;"⟩ ∈ xw_T := xw_se 9 (by decide +kernel) (by decide +kernel)
theorem ks_10 : Cond.selects "QuorumStore$Node" ⟨"QuorumStore$Node", "propose", "(ILQuorumStore$Value;)V"⟩ ⟨"QuorumStore$Node", "propose", "(ILQuorumStore$Value;)V"⟩ ∈ xw_T := xw_se 10 (by decide +kernel) (by decide +kernel)
theorem ks_11 : Cond.selects "QuorumStore$Node" ⟨"QuorumStore$Node", "chooseIfAcknowledged", "(I)V"⟩ ⟨"QuorumStore$Node", "chooseIfAcknowledged", "(I)V"⟩ ∈ xw_T := xw_se 11 (by decide +kernel) (by decide +kernel)
theorem ks_12 : Cond.selects "QuorumStore$Node" ⟨"QuorumStore$Node", "learn", "(ILQuorumStore$Value;)V"⟩ ⟨"QuorumStore$Node", "learn", "(ILQuorumStore$Value;)V"⟩ ∈ xw_T := xw_se 12 (by decide +kernel) (by decide +kernel)
theorem ks_13 : Cond.selects "QuorumStore$Node" ⟨"QuorumStore$Node", "applyKnown", "()V"⟩ ⟨"QuorumStore$Node", "applyKnown", "()V"⟩ ∈ xw_T := xw_se 13 (by decide +kernel) (by decide +kernel)
theorem ks_14 : Cond.selects "QuorumStore$State" ⟨"QuorumStore$State", "forgetConfigsBefore", "(I)V"⟩ ⟨"QuorumStore$State", "forgetConfigsBefore", "(I)V"⟩ ∈ xw_T := xw_se 14 (by decide +kernel) (by decide +kernel)
theorem ks_15 : Cond.selects "QuorumStore$State" ⟨"QuorumStore$State", "changeMembers", "(II)J"⟩ ⟨"QuorumStore$State", "changeMembers", "(II)J"⟩ ∈ xw_T := xw_se 15 (by decide +kernel) (by decide +kernel)
theorem ks_16 : Cond.selects "QuorumStore$State" ⟨"QuorumStore$State", "changeNumber", "(LQuorumStore$Value;)J"⟩ ⟨"QuorumStore$State", "changeNumber", "(LQuorumStore$Value;)J"⟩ ∈ xw_T := xw_se 16 (by decide +kernel) (by decide +kernel)
theorem ks_17 : Cond.selects "QuorumStore" ⟨"QuorumStore", "messageAt", "(I)LQuorumStore$Message;"⟩ ⟨"QuorumStore", "messageAt", "(I)LQuorumStore$Message;"⟩ ∈ xw_T := xw_se 17 (by decide +kernel) (by decide +kernel)
theorem ks_18 : Cond.selects "QuorumStore$Node" ⟨"QuorumStore$Node", "onPrepare", "(LQuorumStore$Message;)V"⟩ ⟨"QuorumStore$Node", "onPrepare", "(LQuorumStore$Message;)V"⟩ ∈ xw_T := xw_se 18 (by decide +kernel) (by decide +kernel)
theorem ks_19 : Cond.selects "QuorumStore$Node" ⟨"QuorumStore$Node", "rejects", "(LQuorumStore$Message;)Z"⟩ ⟨"QuorumStore$Node", "rejects", "(LQuorumStore$Message;)Z"⟩ ∈ xw_T := xw_se 19 (by decide +kernel) (by decide +kernel)
theorem ks_20 : Cond.selects "QuorumStore$Node" ⟨"QuorumStore$Node", "promise", "(I)V"⟩ ⟨"QuorumStore$Node", "promise", "(I)V"⟩ ∈ xw_T := xw_se 20 (by decide +kernel) (by decide +kernel)
theorem ks_21 : Cond.selects "QuorumStore$Node" ⟨"QuorumStore$Node", "stepDownBefore", "(I)V"⟩ ⟨"QuorumStore$Node", "stepDownBefore", "(I)V"⟩ ∈ xw_T := xw_se 21 (by decide +kernel) (by decide +kernel)
theorem ks_22 : Cond.selects "QuorumStore$Node" ⟨"QuorumStore$Node", "stepDown", "()V"⟩ ⟨"QuorumStore$Node", "stepDown", "()V"⟩ ∈ xw_T := xw_se 22 (by decide +kernel) (by decide +kernel)
theorem ks_23 : Cond.selects "QuorumStore$Node" ⟨"QuorumStore$Node", "onPromise", "(LQuorumStore$Message;)Z"⟩ ⟨"QuorumStore$Node", "onPromise", "(LQuorumStore$Message;)Z"⟩ ∈ xw_T := xw_se 23 (by decide +kernel) (by decide +kernel)
theorem ks_24 : Cond.selects "QuorumStore$Node" ⟨"QuorumStore$Node", "want", "(I)V"⟩ ⟨"QuorumStore$Node", "want", "(I)V"⟩ ∈ xw_T := xw_se 24 (by decide +kernel) (by decide +kernel)
theorem ks_25 : Cond.selects "QuorumStore$Node" ⟨"QuorumStore$Node", "onReject", "(LQuorumStore$Message;)V"⟩ ⟨"QuorumStore$Node", "onReject", "(LQuorumStore$Message;)V"⟩ ∈ xw_T := xw_se 25 (by decide +kernel) (by decide +kernel)
theorem ks_26 : Cond.selects "QuorumStore$Node" ⟨"QuorumStore$Node", "onAccept", "(LQuorumStore$Message;)V"⟩ ⟨"QuorumStore$Node", "onAccept", "(LQuorumStore$Message;)V"⟩ ∈ xw_T := xw_se 26 (by decide +kernel) (by decide +kernel)
theorem ks_27 : Cond.selects "QuorumStore$Node" ⟨"QuorumStore$Node", "follow", "(I)V"⟩ ⟨"QuorumStore$Node", "follow", "(I)V"⟩ ∈ xw_T := xw_se 27 (by decide +kernel) (by decide +kernel)
theorem ks_28 : Cond.selects "QuorumStore$Node" ⟨"QuorumStore$Node", "onAccepted", "(LQuorumStore$Message;)V"⟩ ⟨"QuorumStore$Node", "onAccepted", "(LQuorumStore$Message;)V"⟩ ∈ xw_T := xw_se 28 (by decide +kernel) (by decide +kernel)
theorem ks_29 : Cond.selects "QuorumStore$Node" ⟨"QuorumStore$Node", "onHeart", "(LQuorumStore$Message;)V"⟩ ⟨"QuorumStore$Node", "onHeart", "(LQuorumStore$Message;)V"⟩ ∈ xw_T := xw_se 29 (by decide +kernel) (by decide +kernel)
theorem ks_30 : Cond.selects "QuorumStore$Node" ⟨"QuorumStore$Node", "onWant", "(LQuorumStore$Message;)V"⟩ ⟨"QuorumStore$Node", "onWant", "(LQuorumStore$Message;)V"⟩ ∈ xw_T := xw_se 30 (by decide +kernel) (by decide +kernel)
theorem ks_31 : Cond.selects "QuorumStore$Node" ⟨"QuorumStore$Node", "onSnapshot", "(LQuorumStore$Message;)V"⟩ ⟨"QuorumStore$Node", "onSnapshot", "(LQuorumStore$Message;)V"⟩ ∈ xw_T := xw_se 31 (by decide +kernel) (by decide +kernel)
theorem ks_32 : Cond.selects "QuorumStore" ⟨"QuorumStore", "nodeAt", "(I)LQuorumStore$Node;"⟩ ⟨"QuorumStore", "nodeAt", "(I)LQuorumStore$Node;"⟩ ∈ xw_T := xw_se 32 (by decide +kernel) (by decide +kernel)
theorem ks_33 : Cond.selects "QuorumStoreModel" ⟨"QuorumStoreModel", "fail", "(I)I"⟩ ⟨"QuorumStoreModel", "fail", "(I)I"⟩ ∈ xw_T := xw_se 33 (by decide +kernel) (by decide +kernel)
theorem ks_34 : Cond.selects "QuorumStoreModel" ⟨"QuorumStoreModel", "tickOnce", "(LQuorumStoreModel$Node;)V"⟩ ⟨"QuorumStoreModel", "tickOnce", "(LQuorumStoreModel$Node;)V"⟩ ∈ xw_T := xw_se 34 (by decide +kernel) (by decide +kernel)
theorem ks_35 : Cond.selects "QuorumStoreModel" ⟨"QuorumStoreModel", "lead", "(LQuorumStoreModel$Node;)V"⟩ ⟨"QuorumStoreModel", "lead", "(LQuorumStoreModel$Node;)V"⟩ ∈ xw_T := xw_se 35 (by decide +kernel) (by decide +kernel)
theorem ks_36 : Cond.selects "QuorumStoreModel$Slots" ⟨"QuorumStoreModel$Slots", "grow", "()V"⟩ ⟨"QuorumStoreModel$Slots", "grow", "()V"⟩ ∈ xw_T := xw_se 36 (by decide +kernel) (by decide +kernel)
theorem ks_37 : Cond.selects "QuorumStoreModel$Slots" ⟨"QuorumStoreModel$Slots", "move", "(II)V"⟩ ⟨"QuorumStoreModel$Slots", "move", "(II)V"⟩ ∈ xw_T := xw_se 37 (by decide +kernel) (by decide +kernel)
theorem ks_38 : Cond.selects "QuorumStoreModel" ⟨"QuorumStoreModel", "say", "(ILQuorumStoreModel$Node;IIILQuorumStoreModel$Value;)V"⟩ ⟨"QuorumStoreModel", "say", "(ILQuorumStoreModel$Node;IIILQuorumStoreModel$Value;)V"⟩ ∈ xw_T := xw_se 38 (by decide +kernel) (by decide +kernel)
theorem ks_39 : Cond.selects "QuorumStoreModel" ⟨"QuorumStoreModel", "begin", "(ILQuorumStoreModel$Node;III)LQuorumStoreModel$Message;"⟩ ⟨"QuorumStoreModel", "begin", "(ILQuorumStoreModel$Node;III)LQuorumStoreModel$Message;"⟩ ∈ xw_T := xw_se 39 (by decide +kernel) (by decide +kernel)
theorem ks_40 : Cond.selects "QuorumStoreModel" ⟨"QuorumStoreModel", "send", "(LQuorumStoreModel$Message;)V"⟩ ⟨"QuorumStoreModel", "send", "(LQuorumStoreModel$Message;)V"⟩ ∈ xw_T := xw_se 40 (by decide +kernel) (by decide +kernel)
theorem ks_41 : Cond.selects "QuorumStoreModel" ⟨"QuorumStoreModel", "work", "(LQuorumStoreModel$Node;)V"⟩ ⟨"QuorumStoreModel", "work", "(LQuorumStoreModel$Node;)V"⟩ ∈ xw_T := xw_se 41 (by decide +kernel) (by decide +kernel)
theorem ks_42 : Cond.selects "QuorumStoreModel" ⟨"QuorumStoreModel", "propose", "(LQuorumStoreModel$Node;ILQuorumStoreModel$Value;)V"⟩ ⟨"QuorumStoreModel", "propose", "(LQuorumStoreModel$Node;ILQuorumStoreModel$Value;)V"⟩ ∈ xw_T := xw_se 42 (by decide +kernel) (by decide +kernel)
theorem ks_43 : Cond.selects "QuorumStoreModel" ⟨"QuorumStoreModel", "chosen", "(LQuorumStoreModel$Node;I)V"⟩ ⟨"QuorumStoreModel", "chosen", "(LQuorumStoreModel$Node;I)V"⟩ ∈ xw_T := xw_se 43 (by decide +kernel) (by decide +kernel)
theorem ks_44 : Cond.selects "QuorumStoreModel" ⟨"QuorumStoreModel", "learn", "(LQuorumStoreModel$Node;ILQuorumStoreModel$Value;)V"⟩ ⟨"QuorumStoreModel", "learn", "(LQuorumStoreModel$Node;ILQuorumStoreModel$Value;)V"⟩ ∈ xw_T := xw_se 44 (by decide +kernel) (by decide +kernel)
theorem ks_45 : Cond.selects "QuorumStoreModel" ⟨"QuorumStoreModel", "apply", "(LQuorumStoreModel$Node;)Z"⟩ ⟨"QuorumStoreModel", "apply", "(LQuorumStoreModel$Node;)Z"⟩ ∈ xw_T := xw_se 45 (by decide +kernel) (by decide +kernel)
theorem ks_46 : Cond.selects "QuorumStoreModel" ⟨"QuorumStoreModel", "done", "(LQuorumStoreModel$State;LQuorumStoreModel$Value;)V"⟩ ⟨"QuorumStoreModel", "done", "(LQuorumStoreModel$State;LQuorumStoreModel$Value;)V"⟩ ∈ xw_T := xw_se 46 (by decide +kernel) (by decide +kernel)
theorem ks_47 : Cond.selects "QuorumStoreModel" ⟨"QuorumStoreModel", "grown", "(LQuorumStoreModel$Node;I)V"⟩ ⟨"QuorumStoreModel", "grown", "(LQuorumStoreModel$Node;I)V"⟩ ∈ xw_T := xw_se 47 (by decide +kernel) (by decide +kernel)
theorem ks_48 : Cond.selects "QuorumStoreModel" ⟨"QuorumStoreModel", "none", "(I)Z"⟩ ⟨"QuorumStoreModel", "none", "(I)Z"⟩ ∈ xw_T := xw_se 48 (by decide +kernel) (by decide +kernel)
theorem ks_49 : Cond.selects "QuorumStoreModel" ⟨"QuorumStoreModel", "removed", "(I)V"⟩ ⟨"QuorumStoreModel", "removed", "(I)V"⟩ ∈ xw_T := xw_se 49 (by decide +kernel) (by decide +kernel)
theorem ks_50 : Cond.selects "QuorumStoreModel" ⟨"QuorumStoreModel", "came", "(LQuorumStoreModel$Node;LQuorumStoreModel$Message;)V"⟩ ⟨"QuorumStoreModel", "came", "(LQuorumStoreModel$Node;LQuorumStoreModel$Message;)V"⟩ ∈ xw_T := xw_se 50 (by decide +kernel) (by decide +kernel)
theorem ks_51 : Cond.selects "QuorumStoreModel" ⟨"QuorumStoreModel", "old", "(LQuorumStoreModel$Node;LQuorumStoreModel$Message;)Z"⟩ ⟨"QuorumStoreModel", "old", "(LQuorumStoreModel$Node;LQuorumStoreModel$Message;)Z"⟩ ∈ xw_T := xw_se 51 (by decide +kernel) (by decide +kernel)
theorem ks_52 : Cond.selects "QuorumStoreModel" ⟨"QuorumStoreModel", "fresh", "(LQuorumStoreModel$Node;I)V"⟩ ⟨"QuorumStoreModel", "fresh", "(LQuorumStoreModel$Node;I)V"⟩ ∈ xw_T := xw_se 52 (by decide +kernel) (by decide +kernel)
theorem ks_53 : Cond.selects "QuorumStoreModel" ⟨"QuorumStoreModel", "want", "(LQuorumStoreModel$Node;I)V"⟩ ⟨"QuorumStoreModel", "want", "(LQuorumStoreModel$Node;I)V"⟩ ∈ xw_T := xw_se 53 (by decide +kernel) (by decide +kernel)
theorem ks_54 : Cond.selects "QuorumStoreModel" ⟨"QuorumStoreModel", "wanted", "(LQuorumStoreModel$Node;LQuorumStoreModel$Message;)V"⟩ ⟨"QuorumStoreModel", "wanted", "(LQuorumStoreModel$Node;LQuorumStoreModel$Message;)V"⟩ ∈ xw_T := xw_se 54 (by decide +kernel) (by decide +kernel)
theorem ks_55 : Cond.selects "QuorumStoreModel" ⟨"QuorumStoreModel", "snapshot", "(LQuorumStoreModel$Node;LQuorumStoreModel$Message;)V"⟩ ⟨"QuorumStoreModel", "snapshot", "(LQuorumStoreModel$Node;LQuorumStoreModel$Message;)V"⟩ ∈ xw_T := xw_se 55 (by decide +kernel) (by decide +kernel)
abbrev y_Q_init : MethodName := ⟨"QuorumStore", "<init>", "(I)V"⟩
abbrev c_Q_init : ByteArray := prog_1_method_1_code
theorem m_Q_init : xm_ok y_Q_init c_Q_init 5 (Option.none : Option FieldType) 1 := ⟨k_28, k_1, by decide +kernel⟩
abbrev y_Q_tick : MethodName := ⟨"QuorumStore", "tick", "(I)I"⟩
abbrev c_Q_tick : ByteArray := prog_1_method_2_code
theorem m_Q_tick : xm_ok y_Q_tick c_Q_tick 4 (Option.some FieldType.int) 1 := ⟨k_279, k_1, by decide +kernel⟩
abbrev y_Q_deliver : MethodName := ⟨"QuorumStore", "deliver", "(I)I"⟩
abbrev c_Q_deliver : ByteArray := prog_1_method_3_code
theorem m_Q_deliver : xm_ok y_Q_deliver c_Q_deliver 4 (Option.some FieldType.int) 1 := ⟨k_548, k_1, by decide +kernel⟩
abbrev y_Q_drop : MethodName := ⟨"QuorumStore", "drop", "(I)I"⟩
abbrev c_Q_drop : ByteArray := prog_1_method_4_code
theorem m_Q_drop : xm_ok y_Q_drop c_Q_drop 2 (Option.some FieldType.int) 1 := ⟨k_658, k_1, by decide +kernel⟩
abbrev y_Q_copy : MethodName := ⟨"QuorumStore", "copy", "(I)I"⟩
abbrev c_Q_copy : ByteArray := prog_1_method_5_code
theorem m_Q_copy : xm_ok y_Q_copy c_Q_copy 3 (Option.some FieldType.int) 1 := ⟨k_666, k_1, by decide +kernel⟩
abbrev y_Q_message : MethodName := ⟨"QuorumStore", "message", "(II)I"⟩
abbrev c_Q_message : ByteArray := prog_1_method_6_code
theorem m_Q_message : xm_ok y_Q_message c_Q_message 4 (Option.some FieldType.int) 2 := ⟨k_697, k_1, by decide +kernel⟩
abbrev y_Q_fall : MethodName := ⟨"QuorumStore", "fall", "(I)V"⟩
abbrev c_Q_fall : ByteArray := prog_1_method_7_code
theorem m_Q_fall : xm_ok y_Q_fall c_Q_fall 3 (Option.none : Option FieldType) 1 := ⟨k_709, k_1, by decide +kernel⟩
abbrev y_Q_rise : MethodName := ⟨"QuorumStore", "rise", "(I)V"⟩
abbrev c_Q_rise : ByteArray := prog_1_method_8_code
theorem m_Q_rise : xm_ok y_Q_rise c_Q_rise 3 (Option.none : Option FieldType) 1 := ⟨k_726, k_1, by decide +kernel⟩
abbrev y_Q_key : MethodName := ⟨"QuorumStore", "key", "(I)I"⟩
abbrev c_Q_key : ByteArray := prog_1_method_9_code
theorem m_Q_key : xm_ok y_Q_key c_Q_key 3 (Option.some FieldType.int) 1 := ⟨k_738, k_1, by decide +kernel⟩
abbrev y_Q_ask : MethodName := ⟨"QuorumStore", "ask", "(IIIIII)I"⟩
abbrev c_Q_ask : ByteArray := prog_1_method_10_code
theorem m_Q_ask : xm_ok y_Q_ask c_Q_ask 9 (Option.some FieldType.int) 6 := ⟨k_746, k_1, by decide +kernel⟩
abbrev y_Q_answer : MethodName := ⟨"QuorumStore", "answer", "(III)J"⟩
abbrev c_Q_answer : ByteArray := prog_1_method_11_code
theorem m_Q_answer : xm_ok y_Q_answer c_Q_answer 5 (Option.some FieldType.long) 3 := ⟨k_783, k_1, by decide +kernel⟩
abbrev y_Q_number : MethodName := ⟨"QuorumStore", "number", "(II)J"⟩
abbrev c_Q_number : ByteArray := prog_1_method_12_code
theorem m_Q_number : xm_ok y_Q_number c_Q_number 4 (Option.some FieldType.long) 2 := ⟨k_791, k_1, by decide +kernel⟩
abbrev y_Q_known : MethodName := ⟨"QuorumStore", "known", "(III)I"⟩
abbrev c_Q_known : ByteArray := prog_1_method_13_code
theorem m_Q_known : xm_ok y_Q_known c_Q_known 5 (Option.some FieldType.int) 3 := ⟨k_799, k_1, by decide +kernel⟩
abbrev y_Q_about : MethodName := ⟨"QuorumStore", "about", "(II)I"⟩
abbrev c_Q_about : ByteArray := prog_1_method_14_code
theorem m_Q_about : xm_ok y_Q_about c_Q_about 4 (Option.some FieldType.int) 2 := ⟨k_808, k_1, by decide +kernel⟩
abbrev y_Q_count : MethodName := ⟨"QuorumStore", "count", "(I)I"⟩
abbrev c_Q_count : ByteArray := prog_1_method_15_code
theorem m_Q_count : xm_ok y_Q_count c_Q_count 2 (Option.some FieldType.int) 1 := ⟨k_268, k_1, by decide +kernel⟩
abbrev y_Q_nodeAt : MethodName := ⟨"QuorumStore", "nodeAt", "(I)LQuorumStore$Node;"⟩
abbrev c_Q_nodeAt : ByteArray := prog_1_method_16_code
theorem m_Q_nodeAt : xm_ok y_Q_nodeAt c_Q_nodeAt 2 (Option.some (FieldType.object "QuorumStore$Node")) 1 := ⟨k_713, k_1, by decide +kernel⟩
abbrev y_Q_messageAt : MethodName := ⟨"QuorumStore", "messageAt", "(I)LQuorumStore$Message;"⟩
abbrev c_Q_messageAt : ByteArray := prog_1_method_17_code
theorem m_Q_messageAt : xm_ok y_Q_messageAt c_Q_messageAt 2 (Option.some (FieldType.object "QuorumStore$Message")) 1 := ⟨k_552, k_1, by decide +kernel⟩
abbrev y_Q_checkClient : MethodName := ⟨"QuorumStore", "checkClient", "(I)V"⟩
abbrev c_Q_checkClient : ByteArray := prog_1_method_18_code
theorem m_Q_checkClient : xm_ok y_Q_checkClient c_Q_checkClient 1 (Option.none : Option FieldType) 1 := ⟨k_749, k_1, by decide +kernel⟩
abbrev y_Q_isIn : MethodName := ⟨"QuorumStore", "isIn", "(II)Z"⟩
abbrev c_Q_isIn : ByteArray := prog_1_method_19_code
theorem m_Q_isIn : xm_ok y_Q_isIn c_Q_isIn 2 (Option.some FieldType.boolean) 2 := ⟨k_370, k_1, by decide +kernel⟩
abbrev y_Q_isMajority : MethodName := ⟨"QuorumStore", "isMajority", "(II)Z"⟩
abbrev c_Q_isMajority : ByteArray := prog_1_method_20_code
theorem m_Q_isMajority : xm_ok y_Q_isMajority c_Q_isMajority 2 (Option.some FieldType.boolean) 2 := ⟨k_484, k_1, by decide +kernel⟩
abbrev y_P_init : MethodName := ⟨"QuorumStoreModel", "<init>", "(I)V"⟩
abbrev c_P_init : ByteArray := prog_10_method_1_code
theorem m_P_init : xm_ok y_P_init c_P_init 3 (Option.none : Option FieldType) 1 := ⟨k_815, k_8, by decide +kernel⟩
abbrev y_P_thrown : MethodName := ⟨"QuorumStoreModel", "thrown", "()I"⟩
abbrev c_P_thrown : ByteArray := prog_10_method_2_code
theorem m_P_thrown : xm_ok y_P_thrown c_P_thrown 1 (Option.some FieldType.int) 0 := ⟨k_1029, k_8, by decide +kernel⟩
abbrev y_P_fail : MethodName := ⟨"QuorumStoreModel", "fail", "(I)I"⟩
abbrev c_P_fail : ByteArray := prog_10_method_3_code
theorem m_P_fail : xm_ok y_P_fail c_P_fail 2 (Option.some FieldType.int) 1 := ⟨k_1037, k_8, by decide +kernel⟩
abbrev y_P_send : MethodName := ⟨"QuorumStoreModel", "send", "(LQuorumStoreModel$Message;)V"⟩
abbrev c_P_send : ByteArray := prog_10_method_4_code
theorem m_P_send : xm_ok y_P_send c_P_send 2 (Option.none : Option FieldType) 1 := ⟨k_1091, k_8, by decide +kernel⟩
abbrev y_P_begin : MethodName := ⟨"QuorumStoreModel", "begin", "(ILQuorumStoreModel$Node;III)LQuorumStoreModel$Message;"⟩
abbrev c_P_begin : ByteArray := prog_10_method_5_code
theorem m_P_begin : xm_ok y_P_begin c_P_begin 6 (Option.some (FieldType.object "QuorumStoreModel$Message")) 5 := ⟨k_1087, k_8, by decide +kernel⟩
abbrev y_P_say : MethodName := ⟨"QuorumStoreModel", "say", "(ILQuorumStoreModel$Node;IIILQuorumStoreModel$Value;)V"⟩
abbrev c_P_say : ByteArray := prog_10_method_6_code
theorem m_P_say : xm_ok y_P_say c_P_say 7 (Option.none : Option FieldType) 6 := ⟨k_1083, k_8, by decide +kernel⟩
abbrev y_P_in : MethodName := ⟨"QuorumStoreModel", "in", "(II)Z"⟩
abbrev c_P_in : ByteArray := prog_10_method_7_code
theorem m_P_in : xm_ok y_P_in c_P_in 2 (Option.some FieldType.boolean) 2 := ⟨k_1048, k_8, by decide +kernel⟩
abbrev y_P_majority : MethodName := ⟨"QuorumStoreModel", "majority", "(II)Z"⟩
abbrev c_P_majority : ByteArray := prog_10_method_8_code
theorem m_P_majority : xm_ok y_P_majority c_P_majority 5 (Option.some FieldType.boolean) 2 := ⟨k_1112, k_8, by decide +kernel⟩
abbrev y_P_peers : MethodName := ⟨"QuorumStoreModel", "peers", "(LQuorumStoreModel$Node;)I"⟩
abbrev c_P_peers : ByteArray := prog_10_method_9_code
theorem m_P_peers : xm_ok y_P_peers c_P_peers 3 (Option.some FieldType.int) 1 := ⟨k_1079, k_8, by decide +kernel⟩
abbrev y_P_apply : MethodName := ⟨"QuorumStoreModel", "apply", "(LQuorumStoreModel$Node;)Z"⟩
abbrev c_P_apply : ByteArray := prog_10_method_10_code
theorem m_P_apply : xm_ok y_P_apply c_P_apply 5 (Option.some FieldType.boolean) 1 := ⟨k_1137, k_8, by decide +kernel⟩
abbrev y_P_done : MethodName := ⟨"QuorumStoreModel", "done", "(LQuorumStoreModel$State;LQuorumStoreModel$Value;)V"⟩
abbrev c_P_done : ByteArray := prog_10_method_11_code
theorem m_P_done : xm_ok y_P_done c_P_done 7 (Option.none : Option FieldType) 2 := ⟨k_1145, k_8, by decide +kernel⟩
abbrev y_P_learn : MethodName := ⟨"QuorumStoreModel", "learn", "(LQuorumStoreModel$Node;ILQuorumStoreModel$Value;)V"⟩
abbrev c_P_learn : ByteArray := prog_10_method_12_code
theorem m_P_learn : xm_ok y_P_learn c_P_learn 6 (Option.none : Option FieldType) 3 := ⟨k_1133, k_8, by decide +kernel⟩
abbrev y_P_grown : MethodName := ⟨"QuorumStoreModel", "grown", "(LQuorumStoreModel$Node;I)V"⟩
abbrev c_P_grown : ByteArray := prog_10_method_13_code
theorem m_P_grown : xm_ok y_P_grown c_P_grown 5 (Option.none : Option FieldType) 2 := ⟨k_1155, k_8, by decide +kernel⟩
abbrev y_P_round : MethodName := ⟨"QuorumStoreModel", "round", "(I)I"⟩
abbrev c_P_round : ByteArray := prog_10_method_14_code
theorem m_P_round : xm_ok y_P_round c_P_round 1 (Option.some FieldType.int) 1 := ⟨k_1055, k_8, by decide +kernel⟩
abbrev y_P_lead : MethodName := ⟨"QuorumStoreModel", "lead", "(LQuorumStoreModel$Node;)V"⟩
abbrev c_P_lead : ByteArray := prog_10_method_15_code
theorem m_P_lead : xm_ok y_P_lead c_P_lead 5 (Option.none : Option FieldType) 1 := ⟨k_1052, k_8, by decide +kernel⟩
abbrev y_P_looked : MethodName := ⟨"QuorumStoreModel", "looked", "(LQuorumStoreModel$Node;LQuorumStoreModel$Slots;)V"⟩
abbrev c_P_looked : ByteArray := prog_10_method_16_code
theorem m_P_looked : xm_ok y_P_looked c_P_looked 5 (Option.none : Option FieldType) 2 := ⟨k_1059, k_8, by decide +kernel⟩
abbrev y_P_down : MethodName := ⟨"QuorumStoreModel", "down", "(LQuorumStoreModel$Node;)V"⟩
abbrev c_P_down : ByteArray := prog_10_method_17_code
theorem m_P_down : xm_ok y_P_down c_P_down 1 (Option.none : Option FieldType) 1 := ⟨k_1182, k_8, by decide +kernel⟩
abbrev y_P_greater : MethodName := ⟨"QuorumStoreModel", "greater", "(LQuorumStoreModel$Slots;I)Z"⟩
abbrev c_P_greater : ByteArray := prog_10_method_18_code
theorem m_P_greater : xm_ok y_P_greater c_P_greater 2 (Option.some FieldType.boolean) 2 := ⟨k_1115, k_8, by decide +kernel⟩
abbrev y_P_work : MethodName := ⟨"QuorumStoreModel", "work", "(LQuorumStoreModel$Node;)V"⟩
abbrev c_P_work : ByteArray := prog_10_method_19_code
theorem m_P_work : xm_ok y_P_work c_P_work 7 (Option.none : Option FieldType) 1 := ⟨k_1109, k_8, by decide +kernel⟩
abbrev y_P_propose : MethodName := ⟨"QuorumStoreModel", "propose", "(LQuorumStoreModel$Node;ILQuorumStoreModel$Value;)V"⟩
abbrev c_P_propose : ByteArray := prog_10_method_20_code
theorem m_P_propose : xm_ok y_P_propose c_P_propose 7 (Option.none : Option FieldType) 3 := ⟨k_1121, k_8, by decide +kernel⟩
abbrev y_P_chosen : MethodName := ⟨"QuorumStoreModel", "chosen", "(LQuorumStoreModel$Node;I)V"⟩
abbrev c_P_chosen : ByteArray := prog_10_method_21_code
theorem m_P_chosen : xm_ok y_P_chosen c_P_chosen 7 (Option.none : Option FieldType) 2 := ⟨k_1125, k_8, by decide +kernel⟩
abbrev y_P_tickOnce : MethodName := ⟨"QuorumStoreModel", "tickOnce", "(LQuorumStoreModel$Node;)V"⟩
abbrev c_P_tickOnce : ByteArray := prog_10_method_22_code
theorem m_P_tickOnce : xm_ok y_P_tickOnce c_P_tickOnce 7 (Option.none : Option FieldType) 1 := ⟨k_1041, k_8, by decide +kernel⟩
abbrev y_P_old : MethodName := ⟨"QuorumStoreModel", "old", "(LQuorumStoreModel$Node;LQuorumStoreModel$Message;)Z"⟩
abbrev c_P_old : ByteArray := prog_10_method_23_code
theorem m_P_old : xm_ok y_P_old c_P_old 3 (Option.some FieldType.boolean) 2 := ⟨k_1175, k_8, by decide +kernel⟩
abbrev y_P_fresh : MethodName := ⟨"QuorumStoreModel", "fresh", "(LQuorumStoreModel$Node;I)V"⟩
abbrev c_P_fresh : ByteArray := prog_10_method_24_code
theorem m_P_fresh : xm_ok y_P_fresh c_P_fresh 3 (Option.none : Option FieldType) 2 := ⟨k_1179, k_8, by decide +kernel⟩
abbrev y_P_want : MethodName := ⟨"QuorumStoreModel", "want", "(LQuorumStoreModel$Node;I)V"⟩
abbrev c_P_want : ByteArray := prog_10_method_25_code
theorem m_P_want : xm_ok y_P_want c_P_want 3 (Option.none : Option FieldType) 2 := ⟨k_1187, k_8, by decide +kernel⟩
abbrev y_P_came : MethodName := ⟨"QuorumStoreModel", "came", "(LQuorumStoreModel$Node;LQuorumStoreModel$Message;)V"⟩
abbrev c_P_came : ByteArray := prog_10_method_26_code
theorem m_P_came : xm_ok y_P_came c_P_came 5 (Option.none : Option FieldType) 2 := ⟨k_1171, k_8, by decide +kernel⟩
abbrev y_P_wanted : MethodName := ⟨"QuorumStoreModel", "wanted", "(LQuorumStoreModel$Node;LQuorumStoreModel$Message;)V"⟩
abbrev c_P_wanted : ByteArray := prog_10_method_27_code
theorem m_P_wanted : xm_ok y_P_wanted c_P_wanted 6 (Option.none : Option FieldType) 2 := ⟨k_1191, k_8, by decide +kernel⟩
abbrev y_P_snapshot : MethodName := ⟨"QuorumStoreModel", "snapshot", "(LQuorumStoreModel$Node;LQuorumStoreModel$Message;)V"⟩
abbrev c_P_snapshot : ByteArray := prog_10_method_28_code
theorem m_P_snapshot : xm_ok y_P_snapshot c_P_snapshot 4 (Option.none : Option FieldType) 2 := ⟨k_1200, k_8, by decide +kernel⟩
abbrev y_P_tick : MethodName := ⟨"QuorumStoreModel", "tick", "(I)I"⟩
abbrev c_P_tick : ByteArray := prog_10_method_29_code
theorem m_P_tick : xm_ok y_P_tick c_P_tick 4 (Option.some FieldType.int) 1 := ⟨k_1033, k_8, by decide +kernel⟩
abbrev y_P_none : MethodName := ⟨"QuorumStoreModel", "none", "(I)Z"⟩
abbrev c_P_none : ByteArray := prog_10_method_30_code
theorem m_P_none : xm_ok y_P_none c_P_none 2 (Option.some FieldType.boolean) 1 := ⟨k_1163, k_8, by decide +kernel⟩
abbrev y_P_removed : MethodName := ⟨"QuorumStoreModel", "removed", "(I)V"⟩
abbrev c_P_removed : ByteArray := prog_10_method_31_code
theorem m_P_removed : xm_ok y_P_removed c_P_removed 4 (Option.none : Option FieldType) 1 := ⟨k_1167, k_8, by decide +kernel⟩
abbrev y_P_deliver : MethodName := ⟨"QuorumStoreModel", "deliver", "(I)I"⟩
abbrev c_P_deliver : ByteArray := prog_10_method_32_code
theorem m_P_deliver : xm_ok y_P_deliver c_P_deliver 3 (Option.some FieldType.int) 1 := ⟨k_1159, k_8, by decide +kernel⟩
abbrev y_P_drop : MethodName := ⟨"QuorumStoreModel", "drop", "(I)I"⟩
abbrev c_P_drop : ByteArray := prog_10_method_33_code
theorem m_P_drop : xm_ok y_P_drop c_P_drop 2 (Option.some FieldType.int) 1 := ⟨k_1204, k_8, by decide +kernel⟩
abbrev y_P_copy : MethodName := ⟨"QuorumStoreModel", "copy", "(I)I"⟩
abbrev c_P_copy : ByteArray := prog_10_method_34_code
theorem m_P_copy : xm_ok y_P_copy c_P_copy 2 (Option.some FieldType.int) 1 := ⟨k_1208, k_8, by decide +kernel⟩
abbrev y_P_message : MethodName := ⟨"QuorumStoreModel", "message", "(II)I"⟩
abbrev c_P_message : ByteArray := prog_10_method_35_code
theorem m_P_message : xm_ok y_P_message c_P_message 4 (Option.some FieldType.int) 2 := ⟨k_1212, k_8, by decide +kernel⟩
abbrev y_P_noNode : MethodName := ⟨"QuorumStoreModel", "noNode", "(I)Z"⟩
abbrev c_P_noNode : ByteArray := prog_10_method_36_code
theorem m_P_noNode : xm_ok y_P_noNode c_P_noNode 1 (Option.some FieldType.boolean) 1 := ⟨k_1219, k_8, by decide +kernel⟩
abbrev y_P_fall : MethodName := ⟨"QuorumStoreModel", "fall", "(I)V"⟩
abbrev c_P_fall : ByteArray := prog_10_method_37_code
theorem m_P_fall : xm_ok y_P_fall c_P_fall 3 (Option.none : Option FieldType) 1 := ⟨k_1216, k_8, by decide +kernel⟩
abbrev y_P_rise : MethodName := ⟨"QuorumStoreModel", "rise", "(I)V"⟩
abbrev c_P_rise : ByteArray := prog_10_method_38_code
theorem m_P_rise : xm_ok y_P_rise c_P_rise 2 (Option.none : Option FieldType) 1 := ⟨k_1223, k_8, by decide +kernel⟩
abbrev y_P_key : MethodName := ⟨"QuorumStoreModel", "key", "(I)I"⟩
abbrev c_P_key : ByteArray := prog_10_method_39_code
theorem m_P_key : xm_ok y_P_key c_P_key 3 (Option.some FieldType.int) 1 := ⟨k_1227, k_8, by decide +kernel⟩
abbrev y_P_ask : MethodName := ⟨"QuorumStoreModel", "ask", "(IIIIII)I"⟩
abbrev c_P_ask : ByteArray := prog_10_method_40_code
theorem m_P_ask : xm_ok y_P_ask c_P_ask 9 (Option.some FieldType.int) 6 := ⟨k_1231, k_8, by decide +kernel⟩
abbrev y_P_answer : MethodName := ⟨"QuorumStoreModel", "answer", "(III)J"⟩
abbrev c_P_answer : ByteArray := prog_10_method_41_code
theorem m_P_answer : xm_ok y_P_answer c_P_answer 4 (Option.some FieldType.long) 3 := ⟨k_1266, k_8, by decide +kernel⟩
abbrev y_P_number : MethodName := ⟨"QuorumStoreModel", "number", "(II)J"⟩
abbrev c_P_number : ByteArray := prog_10_method_42_code
theorem m_P_number : xm_ok y_P_number c_P_number 3 (Option.some FieldType.long) 2 := ⟨k_1270, k_8, by decide +kernel⟩
abbrev y_P_known : MethodName := ⟨"QuorumStoreModel", "known", "(III)I"⟩
abbrev c_P_known : ByteArray := prog_10_method_43_code
theorem m_P_known : xm_ok y_P_known c_P_known 6 (Option.some FieldType.int) 3 := ⟨k_1274, k_8, by decide +kernel⟩
abbrev y_P_about : MethodName := ⟨"QuorumStoreModel", "about", "(II)I"⟩
abbrev c_P_about : ByteArray := prog_10_method_44_code
theorem m_P_about : xm_ok y_P_about c_P_about 4 (Option.some FieldType.int) 2 := ⟨k_1278, k_8, by decide +kernel⟩
abbrev y_P_count : MethodName := ⟨"QuorumStoreModel", "count", "(I)I"⟩
abbrev c_P_count : ByteArray := prog_10_method_45_code
theorem m_P_count : xm_ok y_P_count c_P_count 2 (Option.some FieldType.int) 1 := ⟨k_1282, k_8, by decide +kernel⟩
abbrev y_L_init : MethodName := ⟨"QuorumStore$Lead", "<init>", "()V"⟩
abbrev c_L_init : ByteArray := prog_2_method_1_code
theorem m_L_init : xm_ok y_L_init c_L_init 1 (Option.none : Option FieldType) 0 := ⟨k_91, k_5, by decide +kernel⟩
abbrev y_L_clear : MethodName := ⟨"QuorumStore$Lead", "clear", "()V"⟩
abbrev c_L_clear : ByteArray := prog_2_method_2_code
theorem m_L_clear : xm_ok y_L_clear c_L_clear 2 (Option.none : Option FieldType) 0 := ⟨k_447, k_5, by decide +kernel⟩
abbrev y_L_lookAt : MethodName := ⟨"QuorumStore$Lead", "lookAt", "(LQuorumStore$Row;I)V"⟩
abbrev c_L_lookAt : ByteArray := prog_2_method_3_code
theorem m_L_lookAt : xm_ok y_L_lookAt c_L_lookAt 4 (Option.none : Option FieldType) 2 := ⟨k_459, k_5, by decide +kernel⟩
abbrev y_L_valueFor : MethodName := ⟨"QuorumStore$Lead", "valueFor", "(I)LQuorumStore$Value;"⟩
abbrev c_L_valueFor : ByteArray := prog_2_method_4_code
theorem m_L_valueFor : xm_ok y_L_valueFor c_L_valueFor 3 (Option.some (FieldType.object "QuorumStore$Value")) 1 := ⟨k_494, k_5, by decide +kernel⟩
abbrev y_L_isQueueFull : MethodName := ⟨"QuorumStore$Lead", "isQueueFull", "()Z"⟩
abbrev c_L_isQueueFull : ByteArray := prog_2_method_5_code
theorem m_L_isQueueFull : xm_ok y_L_isQueueFull c_L_isQueueFull 1 (Option.some FieldType.boolean) 0 := ⟨k_766, k_5, by decide +kernel⟩
abbrev y_L_enqueue : MethodName := ⟨"QuorumStore$Lead", "enqueue", "(LQuorumStore$Value;)V"⟩
abbrev c_L_enqueue : ByteArray := prog_2_method_6_code
theorem m_L_enqueue : xm_ok y_L_enqueue c_L_enqueue 2 (Option.none : Option FieldType) 1 := ⟨k_776, k_5, by decide +kernel⟩
abbrev y_L_dequeue : MethodName := ⟨"QuorumStore$Lead", "dequeue", "()LQuorumStore$Value;"⟩
abbrev c_L_dequeue : ByteArray := prog_2_method_7_code
theorem m_L_dequeue : xm_ok y_L_dequeue c_L_dequeue 3 (Option.some (FieldType.object "QuorumStore$Value")) 0 := ⟨k_503, k_5, by decide +kernel⟩
abbrev y_L_isPending : MethodName := ⟨"QuorumStore$Lead", "isPending", "(II)Z"⟩
abbrev c_L_isPending : ByteArray := prog_2_method_8_code
theorem m_L_isPending : xm_ok y_L_isPending c_L_isPending 3 (Option.some FieldType.boolean) 2 := ⟨k_759, k_5, by decide +kernel⟩
abbrev y_L_isAmong : MethodName := ⟨"QuorumStore$Lead", "isAmong", "([LQuorumStore$Value;II)Z"⟩
abbrev c_L_isAmong : ByteArray := prog_2_method_9_code
theorem m_L_isAmong : xm_ok y_L_isAmong c_L_isAmong 7 (Option.some FieldType.boolean) 3 := ⟨k_762, k_5, by decide +kernel⟩
abbrev y_M_init : MethodName := ⟨"QuorumStore$Message", "<init>", "(IIIIILQuorumStore$Value;)V"⟩
abbrev c_M_init : ByteArray := prog_3_method_1_code
theorem m_M_init : xm_ok y_M_init c_M_init 7 (Option.none : Option FieldType) 6 := ⟨k_378, k_17, by decide +kernel⟩
abbrev y_N_init : MethodName := ⟨"QuorumStore$Network", "<init>", "()V"⟩
abbrev c_N_init : ByteArray := prog_4_method_1_code
theorem m_N_init : xm_ok y_N_init c_N_init 1 (Option.none : Option FieldType) 0 := ⟨k_36, k_2, by decide +kernel⟩
abbrev y_N_isFull : MethodName := ⟨"QuorumStore$Network", "isFull", "()Z"⟩
abbrev c_N_isFull : ByteArray := prog_4_method_2_code
theorem m_N_isFull : xm_ok y_N_isFull c_N_isFull 1 (Option.some FieldType.boolean) 0 := ⟨k_670, k_2, by decide +kernel⟩
abbrev y_N_removeAt : MethodName := ⟨"QuorumStore$Network", "removeAt", "(I)V"⟩
abbrev c_N_removeAt : ByteArray := prog_4_method_3_code
theorem m_N_removeAt : xm_ok y_N_removeAt c_N_removeAt 3 (Option.none : Option FieldType) 1 := ⟨k_572, k_2, by decide +kernel⟩
abbrev y_N_send : MethodName := ⟨"QuorumStore$Network", "send", "(LQuorumStore$Message;)V"⟩
abbrev c_N_send : ByteArray := prog_4_method_4_code
theorem m_N_send : xm_ok y_N_send c_N_send 2 (Option.none : Option FieldType) 1 := ⟨k_419, k_2, by decide +kernel⟩
abbrev y_N_repeat : MethodName := ⟨"QuorumStore$Network", "repeat", "(LQuorumStore$Message;)V"⟩
abbrev c_N_repeat : ByteArray := prog_4_method_5_code
theorem m_N_repeat : xm_ok y_N_repeat c_N_repeat 2 (Option.none : Option FieldType) 1 := ⟨k_690, k_2, by decide +kernel⟩
abbrev y_N_sendPlain : MethodName := ⟨"QuorumStore$Network", "sendPlain", "(IIIIILQuorumStore$Value;)V"⟩
abbrev c_N_sendPlain : ByteArray := prog_4_method_6_code
theorem m_N_sendPlain : xm_ok y_N_sendPlain c_N_sendPlain 7 (Option.none : Option FieldType) 6 := ⟨k_374, k_2, by decide +kernel⟩
abbrev y_D_init : MethodName := ⟨"QuorumStore$Node", "<init>", "(IILQuorumStore$Network;)V"⟩
abbrev c_D_init : ByteArray := prog_5_method_1_code
theorem m_D_init : xm_ok y_D_init c_D_init 4 (Option.none : Option FieldType) 3 := ⟨k_65, k_3, by decide +kernel⟩
abbrev y_D_start : MethodName := ⟨"QuorumStore$Node", "start", "()V"⟩
abbrev c_D_start : ByteArray := prog_5_method_2_code
theorem m_D_start : xm_ok y_D_start c_D_start 1 (Option.none : Option FieldType) 0 := ⟨k_731, k_3, by decide +kernel⟩
abbrev y_D_stop : MethodName := ⟨"QuorumStore$Node", "stop", "()V"⟩
abbrev c_D_stop : ByteArray := prog_5_method_3_code
theorem m_D_stop : xm_ok y_D_stop c_D_stop 1 (Option.none : Option FieldType) 0 := ⟨k_719, k_3, by decide +kernel⟩
abbrev y_D_rest : MethodName := ⟨"QuorumStore$Node", "rest", "()V"⟩
abbrev c_D_rest : ByteArray := prog_5_method_4_code
theorem m_D_rest : xm_ok y_D_rest c_D_rest 1 (Option.none : Option FieldType) 0 := ⟨k_436, k_3, by decide +kernel⟩
abbrev y_D_stepDown : MethodName := ⟨"QuorumStore$Node", "stepDown", "()V"⟩
abbrev c_D_stepDown : ByteArray := prog_5_method_5_code
theorem m_D_stepDown : xm_ok y_D_stepDown c_D_stepDown 1 (Option.none : Option FieldType) 0 := ⟨k_596, k_3, by decide +kernel⟩
abbrev y_D_peers : MethodName := ⟨"QuorumStore$Node", "peers", "()I"⟩
abbrev c_D_peers : ByteArray := prog_5_method_6_code
theorem m_D_peers : xm_ok y_D_peers c_D_peers 1 (Option.some FieldType.int) 0 := ⟨k_359, k_3, by decide +kernel⟩
abbrev y_D_sendEach : MethodName := ⟨"QuorumStore$Node", "sendEach", "(IIIILQuorumStore$Value;)V"⟩
abbrev c_D_sendEach : ByteArray := prog_5_method_7_code
theorem m_D_sendEach : xm_ok y_D_sendEach c_D_sendEach 7 (Option.none : Option FieldType) 5 := ⟨k_432, k_3, by decide +kernel⟩
abbrev y_D_want : MethodName := ⟨"QuorumStore$Node", "want", "(I)V"⟩
abbrev c_D_want : ByteArray := prog_5_method_8_code
theorem m_D_want : xm_ok y_D_want c_D_want 2 (Option.none : Option FieldType) 1 := ⟨k_613, k_3, by decide +kernel⟩
abbrev y_D_passTime : MethodName := ⟨"QuorumStore$Node", "passTime", "()V"⟩
abbrev c_D_passTime : ByteArray := prog_5_method_9_code
theorem m_D_passTime : xm_ok y_D_passTime c_D_passTime 1 (Option.none : Option FieldType) 0 := ⟨k_351, k_3, by decide +kernel⟩
abbrev y_D_beat : MethodName := ⟨"QuorumStore$Node", "beat", "()V"⟩
abbrev c_D_beat : ByteArray := prog_5_method_10_code
theorem m_D_beat : xm_ok y_D_beat c_D_beat 5 (Option.none : Option FieldType) 0 := ⟨k_355, k_3, by decide +kernel⟩
abbrev y_D_beginToLead : MethodName := ⟨"QuorumStore$Node", "beginToLead", "()V"⟩
abbrev c_D_beginToLead : ByteArray := prog_5_method_11_code
theorem m_D_beginToLead : xm_ok y_D_beginToLead c_D_beginToLead 2 (Option.none : Option FieldType) 0 := ⟨k_440, k_3, by decide +kernel⟩
abbrev y_D_work : MethodName := ⟨"QuorumStore$Node", "work", "()V"⟩
abbrev c_D_work : ByteArray := prog_5_method_12_code
theorem m_D_work : xm_ok y_D_work c_D_work 4 (Option.none : Option FieldType) 0 := ⟨k_469, k_3, by decide +kernel⟩
abbrev y_D_settle : MethodName := ⟨"QuorumStore$Node", "settle", "()V"⟩
abbrev c_D_settle : ByteArray := prog_5_method_13_code
theorem m_D_settle : xm_ok y_D_settle c_D_settle 2 (Option.none : Option FieldType) 0 := ⟨k_473, k_3, by decide +kernel⟩
abbrev y_D_openSlot : MethodName := ⟨"QuorumStore$Node", "openSlot", "()I"⟩
abbrev c_D_openSlot : ByteArray := prog_5_method_14_code
theorem m_D_openSlot : xm_ok y_D_openSlot c_D_openSlot 2 (Option.some FieldType.int) 0 := ⟨k_481, k_3, by decide +kernel⟩
abbrev y_D_propose : MethodName := ⟨"QuorumStore$Node", "propose", "(ILQuorumStore$Value;)V"⟩
abbrev c_D_propose : ByteArray := prog_5_method_15_code
theorem m_D_propose : xm_ok y_D_propose c_D_propose 5 (Option.none : Option FieldType) 2 := ⟨k_507, k_3, by decide +kernel⟩
abbrev y_D_chooseIfAcknowledged : MethodName := ⟨"QuorumStore$Node", "chooseIfAcknowledged", "(I)V"⟩
abbrev c_D_chooseIfAcknowledged : ByteArray := prog_5_method_16_code
theorem m_D_chooseIfAcknowledged : xm_ok y_D_chooseIfAcknowledged c_D_chooseIfAcknowledged 3 (Option.none : Option FieldType) 1 := ⟨k_512, k_3, by decide +kernel⟩
abbrev y_D_learn : MethodName := ⟨"QuorumStore$Node", "learn", "(ILQuorumStore$Value;)V"⟩
abbrev c_D_learn : ByteArray := prog_5_method_17_code
theorem m_D_learn : xm_ok y_D_learn c_D_learn 3 (Option.none : Option FieldType) 2 := ⟨k_516, k_3, by decide +kernel⟩
abbrev y_D_applyKnown : MethodName := ⟨"QuorumStore$Node", "applyKnown", "()V"⟩
abbrev c_D_applyKnown : ByteArray := prog_5_method_18_code
theorem m_D_applyKnown : xm_ok y_D_applyKnown c_D_applyKnown 3 (Option.none : Option FieldType) 0 := ⟨k_524, k_3, by decide +kernel⟩
abbrev y_D_refusal : MethodName := ⟨"QuorumStore$Node", "refusal", "(II)I"⟩
abbrev c_D_refusal : ByteArray := prog_5_method_19_code
theorem m_D_refusal : xm_ok y_D_refusal c_D_refusal 3 (Option.some FieldType.int) 2 := ⟨k_755, k_3, by decide +kernel⟩
abbrev y_D_take : MethodName := ⟨"QuorumStore$Node", "take", "(LQuorumStore$Value;)V"⟩
abbrev c_D_take : ByteArray := prog_5_method_20_code
theorem m_D_take : xm_ok y_D_take c_D_take 2 (Option.none : Option FieldType) 1 := ⟨k_772, k_3, by decide +kernel⟩
abbrev y_D_receive : MethodName := ⟨"QuorumStore$Node", "receive", "(LQuorumStore$Message;)V"⟩
abbrev c_D_receive : ByteArray := prog_5_method_21_code
theorem m_D_receive : xm_ok y_D_receive c_D_receive 3 (Option.none : Option FieldType) 1 := ⟨k_576, k_3, by decide +kernel⟩
abbrev y_D_rejects : MethodName := ⟨"QuorumStore$Node", "rejects", "(LQuorumStore$Message;)Z"⟩
abbrev c_D_rejects : ByteArray := prog_5_method_22_code
theorem m_D_rejects : xm_ok y_D_rejects c_D_rejects 2 (Option.some FieldType.boolean) 1 := ⟨k_584, k_3, by decide +kernel⟩
abbrev y_D_promise : MethodName := ⟨"QuorumStore$Node", "promise", "(I)V"⟩
abbrev c_D_promise : ByteArray := prog_5_method_23_code
theorem m_D_promise : xm_ok y_D_promise c_D_promise 2 (Option.none : Option FieldType) 1 := ⟨k_588, k_3, by decide +kernel⟩
abbrev y_D_stepDownBefore : MethodName := ⟨"QuorumStore$Node", "stepDownBefore", "(I)V"⟩
abbrev c_D_stepDownBefore : ByteArray := prog_5_method_24_code
theorem m_D_stepDownBefore : xm_ok y_D_stepDownBefore c_D_stepDownBefore 2 (Option.none : Option FieldType) 1 := ⟨k_592, k_3, by decide +kernel⟩
abbrev y_D_follow : MethodName := ⟨"QuorumStore$Node", "follow", "(I)V"⟩
abbrev c_D_follow : ByteArray := prog_5_method_25_code
theorem m_D_follow : xm_ok y_D_follow c_D_follow 2 (Option.none : Option FieldType) 1 := ⟨k_625, k_3, by decide +kernel⟩
abbrev y_D_onPrepare : MethodName := ⟨"QuorumStore$Node", "onPrepare", "(LQuorumStore$Message;)V"⟩
abbrev c_D_onPrepare : ByteArray := prog_5_method_26_code
theorem m_D_onPrepare : xm_ok y_D_onPrepare c_D_onPrepare 3 (Option.none : Option FieldType) 1 := ⟨k_580, k_3, by decide +kernel⟩
abbrev y_D_onPromise : MethodName := ⟨"QuorumStore$Node", "onPromise", "(LQuorumStore$Message;)Z"⟩
abbrev c_D_onPromise : ByteArray := prog_5_method_27_code
theorem m_D_onPromise : xm_ok y_D_onPromise c_D_onPromise 2 (Option.some FieldType.boolean) 1 := ⟨k_609, k_3, by decide +kernel⟩
abbrev y_D_onReject : MethodName := ⟨"QuorumStore$Node", "onReject", "(LQuorumStore$Message;)V"⟩
abbrev c_D_onReject : ByteArray := prog_5_method_28_code
theorem m_D_onReject : xm_ok y_D_onReject c_D_onReject 2 (Option.none : Option FieldType) 1 := ⟨k_617, k_3, by decide +kernel⟩
abbrev y_D_onAccept : MethodName := ⟨"QuorumStore$Node", "onAccept", "(LQuorumStore$Message;)V"⟩
abbrev c_D_onAccept : ByteArray := prog_5_method_29_code
theorem m_D_onAccept : xm_ok y_D_onAccept c_D_onAccept 2 (Option.none : Option FieldType) 1 := ⟨k_621, k_3, by decide +kernel⟩
abbrev y_D_onAccepted : MethodName := ⟨"QuorumStore$Node", "onAccepted", "(LQuorumStore$Message;)V"⟩
abbrev c_D_onAccepted : ByteArray := prog_5_method_30_code
theorem m_D_onAccepted : xm_ok y_D_onAccepted c_D_onAccepted 4 (Option.none : Option FieldType) 1 := ⟨k_629, k_3, by decide +kernel⟩
abbrev y_D_onHeart : MethodName := ⟨"QuorumStore$Node", "onHeart", "(LQuorumStore$Message;)V"⟩
abbrev c_D_onHeart : ByteArray := prog_5_method_31_code
theorem m_D_onHeart : xm_ok y_D_onHeart c_D_onHeart 2 (Option.none : Option FieldType) 1 := ⟨k_633, k_3, by decide +kernel⟩
abbrev y_D_onWant : MethodName := ⟨"QuorumStore$Node", "onWant", "(LQuorumStore$Message;)V"⟩
abbrev c_D_onWant : ByteArray := prog_5_method_32_code
theorem m_D_onWant : xm_ok y_D_onWant c_D_onWant 4 (Option.none : Option FieldType) 1 := ⟨k_637, k_3, by decide +kernel⟩
abbrev y_D_onSnapshot : MethodName := ⟨"QuorumStore$Node", "onSnapshot", "(LQuorumStore$Message;)V"⟩
abbrev c_D_onSnapshot : ByteArray := prog_5_method_33_code
theorem m_D_onSnapshot : xm_ok y_D_onSnapshot c_D_onSnapshot 2 (Option.none : Option FieldType) 1 := ⟨k_651, k_3, by decide +kernel⟩
abbrev y_R_init : MethodName := ⟨"QuorumStore$Row", "<init>", "(I)V"⟩
abbrev c_R_init : ByteArray := prog_6_method_1_code
theorem m_R_init : xm_ok y_R_init c_R_init 2 (Option.none : Option FieldType) 1 := ⟨k_71, k_4, by decide +kernel⟩
abbrev y_R_valueAt : MethodName := ⟨"QuorumStore$Row", "valueAt", "(I)LQuorumStore$Value;"⟩
abbrev c_R_valueAt : ByteArray := prog_6_method_2_code
theorem m_R_valueAt : xm_ok y_R_valueAt c_R_valueAt 3 (Option.some (FieldType.object "QuorumStore$Value")) 1 := ⟨k_423, k_4, by decide +kernel⟩
abbrev y_R_markAt : MethodName := ⟨"QuorumStore$Row", "markAt", "(I)I"⟩
abbrev c_R_markAt : ByteArray := prog_6_method_3_code
theorem m_R_markAt : xm_ok y_R_markAt c_R_markAt 3 (Option.some FieldType.int) 1 := ⟨k_428, k_4, by decide +kernel⟩
abbrev y_R_put : MethodName := ⟨"QuorumStore$Row", "put", "(IILQuorumStore$Value;)V"⟩
abbrev c_R_put : ByteArray := prog_6_method_4_code
theorem m_R_put : xm_ok y_R_put c_R_put 5 (Option.none : Option FieldType) 3 := ⟨k_465, k_4, by decide +kernel⟩
abbrev y_R_remove : MethodName := ⟨"QuorumStore$Row", "remove", "(I)V"⟩
abbrev c_R_remove : ByteArray := prog_6_method_5_code
theorem m_R_remove : xm_ok y_R_remove c_R_remove 3 (Option.none : Option FieldType) 1 := ⟨k_520, k_4, by decide +kernel⟩
abbrev y_R_forgetUpTo : MethodName := ⟨"QuorumStore$Row", "forgetUpTo", "(I)V"⟩
abbrev c_R_forgetUpTo : ByteArray := prog_6_method_6_code
theorem m_R_forgetUpTo : xm_ok y_R_forgetUpTo c_R_forgetUpTo 3 (Option.none : Option FieldType) 1 := ⟨k_477, k_4, by decide +kernel⟩
abbrev y_R_forgetAll : MethodName := ⟨"QuorumStore$Row", "forgetAll", "()V"⟩
abbrev c_R_forgetAll : ByteArray := prog_6_method_7_code
theorem m_R_forgetAll : xm_ok y_R_forgetAll c_R_forgetAll 2 (Option.none : Option FieldType) 0 := ⟨k_451, k_4, by decide +kernel⟩
abbrev y_R_clearPlace : MethodName := ⟨"QuorumStore$Row", "clearPlace", "(I)V"⟩
abbrev c_R_clearPlace : ByteArray := prog_6_method_8_code
theorem m_R_clearPlace : xm_ok y_R_clearPlace c_R_clearPlace 2 (Option.none : Option FieldType) 1 := ⟨k_455, k_4, by decide +kernel⟩
abbrev y_R_size : MethodName := ⟨"QuorumStore$Row", "size", "()I"⟩
abbrev c_R_size : ByteArray := prog_6_method_9_code
theorem m_R_size : xm_ok y_R_size c_R_size 3 (Option.some FieldType.int) 0 := ⟨k_701, k_4, by decide +kernel⟩
abbrev y_R_lastSlot : MethodName := ⟨"QuorumStore$Row", "lastSlot", "()I"⟩
abbrev c_R_lastSlot : ByteArray := prog_6_method_10_code
theorem m_R_lastSlot : xm_ok y_R_lastSlot c_R_lastSlot 3 (Option.some FieldType.int) 0 := ⟨k_498, k_4, by decide +kernel⟩
abbrev y_R_twin : MethodName := ⟨"QuorumStore$Row", "twin", "()LQuorumStore$Row;"⟩
abbrev c_R_twin : ByteArray := prog_6_method_11_code
theorem m_R_twin : xm_ok y_R_twin c_R_twin 3 (Option.some (FieldType.object "QuorumStore$Row")) 0 := ⟨k_602, k_4, by decide +kernel⟩
abbrev y_S_init : MethodName := ⟨"QuorumStore$State", "<init>", "(I)V"⟩
abbrev c_S_init : ByteArray := prog_7_method_1_code
theorem m_S_init : xm_ok y_S_init c_S_init 3 (Option.none : Option FieldType) 1 := ⟨k_169, k_7, by decide +kernel⟩
abbrev y_S_takeOver : MethodName := ⟨"QuorumStore$State", "takeOver", "(LQuorumStore$State;)V"⟩
abbrev c_S_takeOver : ByteArray := prog_7_method_2_code
theorem m_S_takeOver : xm_ok y_S_takeOver c_S_takeOver 2 (Option.none : Option FieldType) 1 := ⟨k_641, k_7, by decide +kernel⟩
abbrev y_S_configAt : MethodName := ⟨"QuorumStore$State", "configAt", "(I)I"⟩
abbrev c_S_configAt : ByteArray := prog_7_method_3_code
theorem m_S_configAt : xm_ok y_S_configAt c_S_configAt 3 (Option.some FieldType.int) 1 := ⟨k_367, k_7, by decide +kernel⟩
abbrev y_S_membersBehind : MethodName := ⟨"QuorumStore$State", "membersBehind", "(I)I"⟩
abbrev c_S_membersBehind : ByteArray := prog_7_method_4_code
theorem m_S_membersBehind : xm_ok y_S_membersBehind c_S_membersBehind 4 (Option.some FieldType.int) 1 := ⟨k_363, k_7, by decide +kernel⟩
abbrev y_S_apply : MethodName := ⟨"QuorumStore$State", "apply", "(LQuorumStore$Value;I)V"⟩
abbrev c_S_apply : ByteArray := prog_7_method_5_code
theorem m_S_apply : xm_ok y_S_apply c_S_apply 3 (Option.none : Option FieldType) 2 := ⟨k_528, k_7, by decide +kernel⟩
abbrev y_S_forgetConfigsBefore : MethodName := ⟨"QuorumStore$State", "forgetConfigsBefore", "(I)V"⟩
abbrev c_S_forgetConfigsBefore : ByteArray := prog_7_method_6_code
theorem m_S_forgetConfigsBefore : xm_ok y_S_forgetConfigsBefore c_S_forgetConfigsBefore 4 (Option.none : Option FieldType) 1 := ⟨k_532, k_7, by decide +kernel⟩
abbrev y_S_changeMembers : MethodName := ⟨"QuorumStore$State", "changeMembers", "(II)J"⟩
abbrev c_S_changeMembers : ByteArray := prog_7_method_7_code
theorem m_S_changeMembers : xm_ok y_S_changeMembers c_S_changeMembers 3 (Option.some FieldType.long) 2 := ⟨k_536, k_7, by decide +kernel⟩
abbrev y_S_changeNumber : MethodName := ⟨"QuorumStore$State", "changeNumber", "(LQuorumStore$Value;)J"⟩
abbrev c_S_changeNumber : ByteArray := prog_7_method_8_code
theorem m_S_changeNumber : xm_ok y_S_changeNumber c_S_changeNumber 5 (Option.some FieldType.long) 1 := ⟨k_540, k_7, by decide +kernel⟩
abbrev y_V_init : MethodName := ⟨"QuorumStore$Value", "<init>", "(IIIIII)V"⟩
abbrev c_V_init : ByteArray := prog_8_method_1_code
theorem m_V_init : xm_ok y_V_init c_V_init 7 (Option.none : Option FieldType) 6 := ⟨k_97, k_6, by decide +kernel⟩
abbrev y_PM_init : MethodName := ⟨"QuorumStoreModel$Message", "<init>", "()V"⟩
abbrev c_PM_init : ByteArray := prog_11_method_1_code
theorem m_PM_init : xm_ok y_PM_init c_PM_init 1 (Option.none : Option FieldType) 0 := ⟨k_824, k_9, by decide +kernel⟩
abbrev y_PM_set : MethodName := ⟨"QuorumStoreModel$Message", "set", "(LQuorumStoreModel$Message;)V"⟩
abbrev c_PM_set : ByteArray := prog_11_method_2_code
theorem m_PM_set : xm_ok y_PM_set c_PM_set 2 (Option.none : Option FieldType) 1 := ⟨k_1095, k_9, by decide +kernel⟩
abbrev y_PD_init : MethodName := ⟨"QuorumStoreModel$Node", "<init>", "(I)V"⟩
abbrev c_PD_init : ByteArray := prog_12_method_1_code
theorem m_PD_init : xm_ok y_PD_init c_PD_init 2 (Option.none : Option FieldType) 1 := ⟨k_922, k_12, by decide +kernel⟩
abbrev y_PR_init : MethodName := ⟨"QuorumStoreModel$Slots", "<init>", "()V"⟩
abbrev c_PR_init : ByteArray := prog_13_method_1_code
theorem m_PR_init : xm_ok y_PR_init c_PR_init 1 (Option.none : Option FieldType) 0 := ⟨k_830, k_10, by decide +kernel⟩
abbrev y_PR_find : MethodName := ⟨"QuorumStoreModel$Slots", "find", "(I)I"⟩
abbrev c_PR_find : ByteArray := prog_13_method_2_code
theorem m_PR_find : xm_ok y_PR_find c_PR_find 3 (Option.some FieldType.int) 1 := ⟨k_1063, k_10, by decide +kernel⟩
abbrev y_PR_put : MethodName := ⟨"QuorumStoreModel$Slots", "put", "(IILQuorumStoreModel$Value;)V"⟩
abbrev c_PR_put : ByteArray := prog_13_method_3_code
theorem m_PR_put : xm_ok y_PR_put c_PR_put 5 (Option.none : Option FieldType) 3 := ⟨k_1067, k_10, by decide +kernel⟩
abbrev y_PR_move : MethodName := ⟨"QuorumStoreModel$Slots", "move", "(II)V"⟩
abbrev c_PR_move : ByteArray := prog_13_method_4_code
theorem m_PR_move : xm_ok y_PR_move c_PR_move 3 (Option.none : Option FieldType) 2 := ⟨k_1076, k_10, by decide +kernel⟩
abbrev y_PR_grow : MethodName := ⟨"QuorumStoreModel$Slots", "grow", "()V"⟩
abbrev c_PR_grow : ByteArray := prog_13_method_5_code
theorem m_PR_grow : xm_ok y_PR_grow c_PR_grow 5 (Option.none : Option FieldType) 0 := ⟨k_1072, k_10, by decide +kernel⟩
abbrev y_PR_remove : MethodName := ⟨"QuorumStoreModel$Slots", "remove", "(I)V"⟩
abbrev c_PR_remove : ByteArray := prog_13_method_6_code
theorem m_PR_remove : xm_ok y_PR_remove c_PR_remove 3 (Option.none : Option FieldType) 1 := ⟨k_1129, k_10, by decide +kernel⟩
abbrev y_PR_forget : MethodName := ⟨"QuorumStoreModel$Slots", "forget", "(I)V"⟩
abbrev c_PR_forget : ByteArray := prog_13_method_7_code
theorem m_PR_forget : xm_ok y_PR_forget c_PR_forget 2 (Option.none : Option FieldType) 1 := ⟨k_1150, k_10, by decide +kernel⟩
abbrev y_PR_set : MethodName := ⟨"QuorumStoreModel$Slots", "set", "(LQuorumStoreModel$Slots;)V"⟩
abbrev c_PR_set : ByteArray := prog_13_method_8_code
theorem m_PR_set : xm_ok y_PR_set c_PR_set 3 (Option.none : Option FieldType) 1 := ⟨k_1099, k_10, by decide +kernel⟩
abbrev y_PS_init : MethodName := ⟨"QuorumStoreModel$State", "<init>", "()V"⟩
abbrev c_PS_init : ByteArray := prog_14_method_1_code
theorem m_PS_init : xm_ok y_PS_init c_PS_init 2 (Option.none : Option FieldType) 0 := ⟨k_856, k_11, by decide +kernel⟩
abbrev y_PS_set : MethodName := ⟨"QuorumStoreModel$State", "set", "(LQuorumStoreModel$State;)V"⟩
abbrev c_PS_set : ByteArray := prog_14_method_2_code
theorem m_PS_set : xm_ok y_PS_set c_PS_set 3 (Option.none : Option FieldType) 1 := ⟨k_1104, k_11, by decide +kernel⟩
abbrev y_PS_config_II : MethodName := ⟨"QuorumStoreModel$State", "config", "(II)V"⟩
abbrev c_PS_config_II : ByteArray := prog_14_method_3_code
theorem m_PS_config_II : xm_ok y_PS_config_II c_PS_config_II 6 (Option.none : Option FieldType) 2 := ⟨k_994, k_11, by decide +kernel⟩
abbrev y_PS_trim : MethodName := ⟨"QuorumStoreModel$State", "trim", "()V"⟩
abbrev c_PS_trim : ByteArray := prog_14_method_4_code
theorem m_PS_trim : xm_ok y_PS_trim c_PS_trim 2 (Option.none : Option FieldType) 0 := ⟨k_1141, k_11, by decide +kernel⟩
abbrev y_PS_config_I : MethodName := ⟨"QuorumStoreModel$State", "config", "(I)I"⟩
abbrev c_PS_config_I : ByteArray := prog_14_method_5_code
theorem m_PS_config_I : xm_ok y_PS_config_I c_PS_config_I 4 (Option.some FieldType.int) 1 := ⟨k_1045, k_11, by decide +kernel⟩
abbrev y_PV_init : MethodName := ⟨"QuorumStoreModel$Value", "<init>", "(IIIIII)V"⟩
abbrev c_PV_init : ByteArray := prog_15_method_1_code
theorem m_PV_init : xm_ok y_PV_init c_PV_init 7 (Option.none : Option FieldType) 6 := ⟨k_1236, k_23, by decide +kernel⟩
abbrev y_W_cell : MethodName := ⟨"QuorumStoreLaw", "cell", "([II)I"⟩
abbrev c_W_cell : ByteArray := method_2_code
theorem m_W_cell : xm_ok y_W_cell c_W_cell 2 (Option.some FieldType.int) 2 := ⟨k_271, k_0, by decide +kernel⟩
abbrev y_W_tick : MethodName := ⟨"QuorumStoreLaw", "tick", "(LQuorumStore;I[J)I"⟩
abbrev c_W_tick : ByteArray := method_3_code
abbrev y_W_deliver : MethodName := ⟨"QuorumStoreLaw", "deliver", "(LQuorumStore;I[J)I"⟩
abbrev c_W_deliver : ByteArray := method_4_code
abbrev y_W_drop : MethodName := ⟨"QuorumStoreLaw", "drop", "(LQuorumStore;I[J)I"⟩
abbrev c_W_drop : ByteArray := method_5_code
abbrev y_W_copy : MethodName := ⟨"QuorumStoreLaw", "copy", "(LQuorumStore;I[J)I"⟩
abbrev c_W_copy : ByteArray := method_6_code
abbrev y_W_message : MethodName := ⟨"QuorumStoreLaw", "message", "(LQuorumStore;II[J)I"⟩
abbrev c_W_message : ByteArray := method_7_code
abbrev y_W_fall : MethodName := ⟨"QuorumStoreLaw", "fall", "(LQuorumStore;I)I"⟩
abbrev c_W_fall : ByteArray := method_8_code
abbrev y_W_rise : MethodName := ⟨"QuorumStoreLaw", "rise", "(LQuorumStore;I)I"⟩
abbrev c_W_rise : ByteArray := method_9_code
abbrev y_W_key : MethodName := ⟨"QuorumStoreLaw", "key", "(LQuorumStore;I[J)I"⟩
abbrev c_W_key : ByteArray := method_10_code
abbrev y_W_ask : MethodName := ⟨"QuorumStoreLaw", "ask", "(LQuorumStore;IIIIII[J)I"⟩
abbrev c_W_ask : ByteArray := method_11_code
abbrev y_W_answer : MethodName := ⟨"QuorumStoreLaw", "answer", "(LQuorumStore;III[J)I"⟩
abbrev c_W_answer : ByteArray := method_12_code
abbrev y_W_number : MethodName := ⟨"QuorumStoreLaw", "number", "(LQuorumStore;II[J)I"⟩
abbrev c_W_number : ByteArray := method_13_code
abbrev y_W_known : MethodName := ⟨"QuorumStoreLaw", "known", "(LQuorumStore;III[J)I"⟩
abbrev c_W_known : ByteArray := method_14_code
abbrev y_W_about : MethodName := ⟨"QuorumStoreLaw", "about", "(LQuorumStore;II[J)I"⟩
abbrev c_W_about : ByteArray := method_15_code
abbrev y_JO_init : MethodName := ⟨"java/lang/Object", "<init>", "()V"⟩
abbrev c_JO_init : ByteArray := object_method_1_code
abbrev y_JI_bitCount : MethodName := ⟨"java/lang/Integer", "bitCount", "(I)I"⟩
abbrev c_JI_bitCount : ByteArray := prog_19_method_49_code
theorem m_JI_bitCount : xm_ok y_JI_bitCount c_JI_bitCount 1 (Option.some FieldType.int) 1 := ⟨k_487, k_19, by decide +kernel⟩
abbrev y_JM_max : MethodName := ⟨"java/lang/Math", "max", "(II)I"⟩
abbrev c_JM_max : ByteArray := prog_20_method_65_code
theorem m_JM_max : xm_ok y_JM_max c_JM_max 2 (Option.some FieldType.int) 2 := ⟨k_443, k_18, by decide +kernel⟩
abbrev y_JM_min_II : MethodName := ⟨"java/lang/Math", "min", "(II)I"⟩
abbrev c_JM_min_II : ByteArray := prog_20_method_69_code
theorem m_JM_min_II : xm_ok y_JM_min_II c_JM_min_II 2 (Option.some FieldType.int) 2 := ⟨k_647, k_18, by decide +kernel⟩
abbrev y_JM_min_JJ : MethodName := ⟨"java/lang/Math", "min", "(JJ)J"⟩
abbrev c_JM_min_JJ : ByteArray := prog_20_method_70_code
theorem m_JM_min_JJ : xm_ok y_JM_min_JJ c_JM_min_JJ 4 (Option.some FieldType.long) 2 := ⟨k_1195, k_18, by decide +kernel⟩
end
section
/-! Cells by short words; small facts of numbers. -/
abbrev zO (k q : Nat) (fs : List Value) : Nat × va_E := (q, .inr (k, fs))
abbrev zI (t : Nat → ClassId) (q n : Nat) (f : Nat → Int32) : Nat × va_E := (q, .inl (t 0, n, .inl f))
abbrev zJ (t : Nat → ClassId) (q n : Nat) (f : Nat → Int64) : Nat × va_E := (q, .inl (t 1, n, .inr (.inl f)))
abbrev zA (t : Nat → ClassId) (k q n : Nat) (f : Nat → Option Nat) : Nat × va_E := (q, .inl (t k, n, .inr (.inr (.inr (.inr f)))))
abbrev xTY (t : Nat → ClassId) : List (ClassId × FieldType) := [(t 0, .int), (t 1, .long), (t 2, .object "QuorumStore$Value"), (t 3, .object "QuorumStore$Message"), (t 4, .object "QuorumStore$Node"), (t 5, .object "QuorumStoreModel$Value"), (t 6, .object "QuorumStoreModel$Message"), (t 7, .object "QuorumStoreModel$Node")]
theorem xk_ra {U : State} {c d : ClassId} {ty : FieldType} (h1 : va_RA U c ty) (h2 : va_RA U d ty) : c = d := by
  cases ty with
  | object C =>
    obtain ⟨_, _, _, _, _, e1⟩ := h1
    obtain ⟨_, _, _, _, _, e2⟩ := h2
    exact Option.some.inj (e1.symm.trans e2)
  | _ => exact Option.some.inj ((show U.vm.findClass _ = some c from h1).symm.trans h2)
/-- an array made now is of the kind that is known -/
theorem xk_arr {D : va_G} {cl : List vw_C} {tys : List (ClassId × FieldType)} {cA c0 : ClassId} {ty : FieldType} {s : State} {i : Nat} (h : va_K D cl (tys ++ [(cA, ty)]) s) (hi : tys[i]? = some (c0, ty)) : cA = c0 := by
  have h1 := (h.2 tys.length (cA, ty) (by simp)).2
  have h2 := (h.2 i (c0, ty) (by rw [List.getElem?_append_left (List.getElem?_eq_some_iff.mp hi).1]; exact hi)).2
  exact xk_ra h1 h2
/-- the place of a slot in a row of 4, 32 or 64 -/
theorem xv_and (x : Int32) {w : Nat} (hw : w = 4 ∨ w = 32 ∨ w = 64) : vp_in (x &&& (nI w - 1)) w := by
  rcases hw with rfl | rfl | rfl
  · exact pk_andIn x 2 (by decide) (by decide)
  · exact pk_andIn x 5 (by decide) (by decide)
  · exact pk_andIn x 6 (by decide) (by decide)
def xb (m k : Int32) : Int32 := if (m >>> (k &&& 31)) &&& 1 = 0 then 0 else 1
/-- an array with one number at its first place -/
def xm (x : Int32) : Nat → Int32 := fun j => if j = 0 then x else 0
/-- PEERS of the node k where the members are m -/
def xp (m k : Int32) : Int32 := m &&& (((1 : Int32) <<< (k &&& 31)) ^^^ (-1))
end
section
/-! Methods of the class that only read, on what a new object holds. -/
theorem d_R_valueAt_0 : decode c_R_valueAt 0 = .ok (.iload_n 1, 1) := by decide +kernel
theorem d_R_valueAt_1 : decode c_R_valueAt 1 = .ok (.aload_n 0, 1) := by decide +kernel
theorem d_R_valueAt_2 : decode c_R_valueAt 2 = .ok (.getfield 7, 3) := by decide +kernel
theorem d_R_valueAt_5 : decode c_R_valueAt 5 = .ok (.arraylength, 1) := by decide +kernel
theorem d_R_valueAt_6 : decode c_R_valueAt 6 = .ok (.iconst 1, 1) := by decide +kernel
theorem d_R_valueAt_7 : decode c_R_valueAt 7 = .ok (.isub, 1) := by decide +kernel
theorem d_R_valueAt_8 : decode c_R_valueAt 8 = .ok (.iand, 1) := by decide +kernel
theorem d_R_valueAt_9 : decode c_R_valueAt 9 = .ok (.istore_n 2, 1) := by decide +kernel
theorem d_R_valueAt_10 : decode c_R_valueAt 10 = .ok (.aload_n 0, 1) := by decide +kernel
theorem d_R_valueAt_11 : decode c_R_valueAt 11 = .ok (.getfield 7, 3) := by decide +kernel
theorem d_R_valueAt_14 : decode c_R_valueAt 14 = .ok (.iload_n 2, 1) := by decide +kernel
theorem d_R_valueAt_15 : decode c_R_valueAt 15 = .ok (.iaload, 1) := by decide +kernel
theorem d_R_valueAt_16 : decode c_R_valueAt 16 = .ok (.iload_n 1, 1) := by decide +kernel
theorem d_R_valueAt_17 : decode c_R_valueAt 17 = .ok (.if_icmp .ne 12, 3) := by decide +kernel
theorem d_R_valueAt_20 : decode c_R_valueAt 20 = .ok (.aload_n 0, 1) := by decide +kernel
theorem d_R_valueAt_21 : decode c_R_valueAt 21 = .ok (.getfield 18, 3) := by decide +kernel
theorem d_R_valueAt_24 : decode c_R_valueAt 24 = .ok (.iload_n 2, 1) := by decide +kernel
theorem d_R_valueAt_25 : decode c_R_valueAt 25 = .ok (.aaload, 1) := by decide +kernel
theorem d_R_valueAt_26 : decode c_R_valueAt 26 = .ok (.goto 4, 3) := by decide +kernel
theorem d_R_valueAt_29 : decode c_R_valueAt 29 = .ok (.aconst_null, 1) := by decide +kernel
theorem d_R_valueAt_30 : decode c_R_valueAt 30 = .ok (.areturn, 1) := by decide +kernel
set_option maxHeartbeats 4000000 in
set_option maxRecDepth 100000 in
/-- R_valueAt on an empty row -/
theorem C_R_valueAt (l : Launch) (D : va_G) (t : Nat → ClassId) (h a b v w : Nat) (hw : w = 4 ∨ w = 32 ∨ w = 64) (slot : Int32) : xr_C l D vwCl (xTY t) y_R_valueAt c_R_valueAt 3 (Option.some (FieldType.object "QuorumStore$Value")) ({ frames := 0, cells := 0, slots := 0, locals := 0 }) [.ref h, .int slot] [zO 4 h [.ref a, .ref b, .ref v], zI t a w (fun _ => 0), zI t b w (fun _ => 0), zA t 2 v w (fun _ => none)] (xr_Q (some .null)) := by
  refine xr_of (by decide) (Nat.le_of_ble_eq_true rfl) ?_
  intro p e s m below meth c ls Z hr hlocks hP hl
  obtain ⟨hx, hb, hml, hown, hK⟩ := id Z
  have hown : s.vm.findClass "QuorumStore$Row" = some m.cls := hown
  have hts := hK.1.at (args := ([.ref h, .int slot] : List Value).toArray)
  have hl : lv_has ls 3 [(0, .ref h), (1, .int slot)] := hl
  refine lv_iload_n hx hb d_R_valueAt_0 rfl (lv_at hl 1 rfl) ?_
  refine lv_aload_n hx hb d_R_valueAt_1 rfl (lv_at hl 0 rfl) ?_
  refine va_get (ci := 4) (C := "QuorumStore$Row") (T := TX4) (N := 3) hx hb hts inX4 hown hK.2 hP 0 rfl rfl 0 (by decide) (hts _ k_75) (fun _ h9 => h9) rfl d_R_valueAt_2 ?_
  refine va_alen (v := nI w) hx hb hK.2 hP 1 0 rfl rfl rfl d_R_valueAt_5 ?_
  refine lv_iconst (v := 1) hx hb d_R_valueAt_6 (by decide) ?_
  refine lv_isub hx hb d_R_valueAt_7 ?_
  refine lv_iand hx hb d_R_valueAt_8 ?_
  refine lv_topi (fun pl epl => ?_)
  have hpl : vp_in pl w := by rw [epl]; exact xv_and slot hw
  refine lv_istore_n (lv' := [(2, .int pl), (0, .ref h), (1, .int slot)]) hx hb d_R_valueAt_9 rfl hl (by decide) rfl (fun ls hl => ?_)
  refine lv_aload_n hx hb d_R_valueAt_10 rfl (lv_at hl 1 rfl) ?_
  refine va_get (ci := 4) (C := "QuorumStore$Row") (T := TX4) (N := 3) hx hb hts inX4 hown hK.2 hP 0 rfl rfl 0 (by decide) (hts _ k_75) (fun _ h9 => h9) rfl d_R_valueAt_11 ?_
  refine lv_iload_n hx hb d_R_valueAt_14 rfl (lv_at hl 0 rfl) ?_
  refine va_iald hx hb hK.2 hP 1 0 rfl rfl hpl d_R_valueAt_15 ?_
  refine lv_iload_n hx hb d_R_valueAt_16 rfl (lv_at hl 2 rfl) ?_
  refine lv_icmp_ne (tgt := 29) hx hb d_R_valueAt_17 (by decide) (fun c_1 => ?_) (fun c_1 => ?_)
  · refine lv_null hx hb d_R_valueAt_29 ?_
    exact W.aret hx hb hr (Or.inl ⟨_, rfl⟩) (Or.inl rfl) (fun t ht _ => ⟨rfl, ht⟩) (fun q h => by cases h) d_R_valueAt_30
  · refine lv_aload_n hx hb d_R_valueAt_20 rfl (lv_at hl 1 rfl) ?_
    refine va_get (ci := 4) (C := "QuorumStore$Row") (T := TX4) (N := 3) hx hb hts inX4 hown hK.2 hP 0 rfl rfl 2 (by decide) (hts _ k_77) (fun _ h9 => h9) rfl d_R_valueAt_21 ?_
    refine lv_iload_n hx hb d_R_valueAt_24 rfl (lv_at hl 0 rfl) ?_
    refine va_aldq hx hb hK.2 hP 3 2 rfl rfl hpl d_R_valueAt_25 ?_
    refine lv_goto (tgt := 30) hx hb d_R_valueAt_26 (by decide) ?_
    exact W.aret hx hb hr (Or.inl ⟨_, rfl⟩) (Or.inl rfl) (fun t ht _ => ⟨rfl, ht⟩) (fun q h => by cases h) d_R_valueAt_30
theorem d_R_markAt_0 : decode c_R_markAt 0 = .ok (.iload_n 1, 1) := by decide +kernel
theorem d_R_markAt_1 : decode c_R_markAt 1 = .ok (.aload_n 0, 1) := by decide +kernel
theorem d_R_markAt_2 : decode c_R_markAt 2 = .ok (.getfield 7, 3) := by decide +kernel
theorem d_R_markAt_5 : decode c_R_markAt 5 = .ok (.arraylength, 1) := by decide +kernel
theorem d_R_markAt_6 : decode c_R_markAt 6 = .ok (.iconst 1, 1) := by decide +kernel
theorem d_R_markAt_7 : decode c_R_markAt 7 = .ok (.isub, 1) := by decide +kernel
theorem d_R_markAt_8 : decode c_R_markAt 8 = .ok (.iand, 1) := by decide +kernel
theorem d_R_markAt_9 : decode c_R_markAt 9 = .ok (.istore_n 2, 1) := by decide +kernel
theorem d_R_markAt_10 : decode c_R_markAt 10 = .ok (.aload_n 0, 1) := by decide +kernel
theorem d_R_markAt_11 : decode c_R_markAt 11 = .ok (.getfield 7, 3) := by decide +kernel
theorem d_R_markAt_14 : decode c_R_markAt 14 = .ok (.iload_n 2, 1) := by decide +kernel
theorem d_R_markAt_15 : decode c_R_markAt 15 = .ok (.iaload, 1) := by decide +kernel
theorem d_R_markAt_16 : decode c_R_markAt 16 = .ok (.iload_n 1, 1) := by decide +kernel
theorem d_R_markAt_17 : decode c_R_markAt 17 = .ok (.if_icmp .ne 12, 3) := by decide +kernel
theorem d_R_markAt_20 : decode c_R_markAt 20 = .ok (.aload_n 0, 1) := by decide +kernel
theorem d_R_markAt_21 : decode c_R_markAt 21 = .ok (.getfield 13, 3) := by decide +kernel
theorem d_R_markAt_24 : decode c_R_markAt 24 = .ok (.iload_n 2, 1) := by decide +kernel
theorem d_R_markAt_25 : decode c_R_markAt 25 = .ok (.iaload, 1) := by decide +kernel
theorem d_R_markAt_26 : decode c_R_markAt 26 = .ok (.goto 4, 3) := by decide +kernel
theorem d_R_markAt_29 : decode c_R_markAt 29 = .ok (.iconst 0, 1) := by decide +kernel
theorem d_R_markAt_30 : decode c_R_markAt 30 = .ok (.ireturn, 1) := by decide +kernel
set_option maxHeartbeats 4000000 in
set_option maxRecDepth 100000 in
/-- R_markAt on an empty row -/
theorem C_R_markAt (l : Launch) (D : va_G) (t : Nat → ClassId) (h a b v w : Nat) (hw : w = 4 ∨ w = 32 ∨ w = 64) (slot : Int32) : xr_C l D vwCl (xTY t) y_R_markAt c_R_markAt 3 (Option.some FieldType.int) ({ frames := 0, cells := 0, slots := 0, locals := 0 }) [.ref h, .int slot] [zO 4 h [.ref a, .ref b, .ref v], zI t a w (fun _ => 0), zI t b w (fun _ => 0), zA t 2 v w (fun _ => none)] (xr_Q (some (.int 0))) := by
  refine xr_of (by decide) (Nat.le_of_ble_eq_true rfl) ?_
  intro p e s m below meth c ls Z hr hlocks hP hl
  obtain ⟨hx, hb, hml, hown, hK⟩ := id Z
  have hown : s.vm.findClass "QuorumStore$Row" = some m.cls := hown
  have hts := hK.1.at (args := ([.ref h, .int slot] : List Value).toArray)
  have hl : lv_has ls 3 [(0, .ref h), (1, .int slot)] := hl
  refine lv_iload_n hx hb d_R_markAt_0 rfl (lv_at hl 1 rfl) ?_
  refine lv_aload_n hx hb d_R_markAt_1 rfl (lv_at hl 0 rfl) ?_
  refine va_get (ci := 4) (C := "QuorumStore$Row") (T := TX4) (N := 3) hx hb hts inX4 hown hK.2 hP 0 rfl rfl 0 (by decide) (hts _ k_75) (fun _ h9 => h9) rfl d_R_markAt_2 ?_
  refine va_alen (v := nI w) hx hb hK.2 hP 1 0 rfl rfl rfl d_R_markAt_5 ?_
  refine lv_iconst (v := 1) hx hb d_R_markAt_6 (by decide) ?_
  refine lv_isub hx hb d_R_markAt_7 ?_
  refine lv_iand hx hb d_R_markAt_8 ?_
  refine lv_topi (fun pl epl => ?_)
  have hpl : vp_in pl w := by rw [epl]; exact xv_and slot hw
  refine lv_istore_n (lv' := [(2, .int pl), (0, .ref h), (1, .int slot)]) hx hb d_R_markAt_9 rfl hl (by decide) rfl (fun ls hl => ?_)
  refine lv_aload_n hx hb d_R_markAt_10 rfl (lv_at hl 1 rfl) ?_
  refine va_get (ci := 4) (C := "QuorumStore$Row") (T := TX4) (N := 3) hx hb hts inX4 hown hK.2 hP 0 rfl rfl 0 (by decide) (hts _ k_75) (fun _ h9 => h9) rfl d_R_markAt_11 ?_
  refine lv_iload_n hx hb d_R_markAt_14 rfl (lv_at hl 0 rfl) ?_
  refine va_iald hx hb hK.2 hP 1 0 rfl rfl hpl d_R_markAt_15 ?_
  refine lv_iload_n hx hb d_R_markAt_16 rfl (lv_at hl 2 rfl) ?_
  refine lv_icmp_ne (tgt := 29) hx hb d_R_markAt_17 (by decide) (fun c_1 => ?_) (fun c_1 => ?_)
  · refine lv_iconst (v := 0) hx hb d_R_markAt_29 (by decide) ?_
    exact W.iret hx hb hr (fun t ht _ => ⟨rfl, ht⟩) (fun q h => by cases h) d_R_markAt_30
  · refine lv_aload_n hx hb d_R_markAt_20 rfl (lv_at hl 1 rfl) ?_
    refine va_get (ci := 4) (C := "QuorumStore$Row") (T := TX4) (N := 3) hx hb hts inX4 hown hK.2 hP 0 rfl rfl 1 (by decide) (hts _ k_76) (fun _ h9 => h9) rfl d_R_markAt_21 ?_
    refine lv_iload_n hx hb d_R_markAt_24 rfl (lv_at hl 0 rfl) ?_
    refine va_iald hx hb hK.2 hP 2 0 rfl rfl hpl d_R_markAt_25 ?_
    refine lv_goto (tgt := 30) hx hb d_R_markAt_26 (by decide) ?_
    exact W.iret hx hb hr (fun t ht _ => ⟨rfl, ht⟩) (fun q h => by cases h) d_R_markAt_30
theorem d_R_size_0 : decode c_R_size 0 = .ok (.iconst 0, 1) := by decide +kernel
theorem d_R_size_1 : decode c_R_size 1 = .ok (.istore_n 1, 1) := by decide +kernel
theorem d_R_size_2 : decode c_R_size 2 = .ok (.iconst 0, 1) := by decide +kernel
theorem d_R_size_3 : decode c_R_size 3 = .ok (.istore_n 2, 1) := by decide +kernel
theorem d_R_size_4 : decode c_R_size 4 = .ok (.iload_n 2, 1) := by decide +kernel
theorem d_R_size_5 : decode c_R_size 5 = .ok (.aload_n 0, 1) := by decide +kernel
theorem d_R_size_6 : decode c_R_size 6 = .ok (.getfield 7, 3) := by decide +kernel
theorem d_R_size_9 : decode c_R_size 9 = .ok (.arraylength, 1) := by decide +kernel
theorem d_R_size_10 : decode c_R_size 10 = .ok (.if_icmp .ge 21, 3) := by decide +kernel
theorem d_R_size_13 : decode c_R_size 13 = .ok (.aload_n 0, 1) := by decide +kernel
theorem d_R_size_14 : decode c_R_size 14 = .ok (.getfield 7, 3) := by decide +kernel
theorem d_R_size_17 : decode c_R_size 17 = .ok (.iload_n 2, 1) := by decide +kernel
theorem d_R_size_18 : decode c_R_size 18 = .ok (.iaload, 1) := by decide +kernel
theorem d_R_size_19 : decode c_R_size 19 = .ok (.ifCond .eq 6, 3) := by decide +kernel
theorem d_R_size_25 : decode c_R_size 25 = .ok (.iinc 2 1, 3) := by decide +kernel
theorem d_R_size_28 : decode c_R_size 28 = .ok (.goto (-24), 3) := by decide +kernel
theorem d_R_size_31 : decode c_R_size 31 = .ok (.iload_n 1, 1) := by decide +kernel
theorem d_R_size_32 : decode c_R_size 32 = .ok (.ireturn, 1) := by decide +kernel
set_option maxHeartbeats 4000000 in
set_option maxRecDepth 100000 in
/-- size of an empty row -/
theorem C_R_size (l : Launch) (D : va_G) (t : Nat → ClassId) (h a b v w : Nat) (hw : w = 4 ∨ w = 32 ∨ w = 64) : xr_C l D vwCl (xTY t) y_R_size c_R_size 3 (Option.some FieldType.int) ({ frames := 0, cells := 0, slots := 0, locals := 0 }) [.ref h] [zO 4 h [.ref a, .ref b, .ref v], zI t a w (fun _ => 0), zI t b w (fun _ => 0), zA t 2 v w (fun _ => none)] (xr_Q (some (.int 0))) := by
  refine xr_of (by decide) (Nat.le_of_ble_eq_true rfl) ?_
  intro p e s m below meth c ls Z hr hlocks hP hl
  obtain ⟨hx, hb, hml, hown, hK⟩ := id Z
  have hown : s.vm.findClass "QuorumStore$Row" = some m.cls := hown
  have hts := hK.1.at (args := ([.ref h] : List Value).toArray)
  have hl : lv_has ls 3 [(0, .ref h)] := hl
  refine lv_iconst (v := 0) hx hb d_R_size_0 (by decide) ?_
  refine lv_istore_n (lv' := [(1, .int 0), (0, .ref h)]) hx hb d_R_size_1 rfl hl (by decide) rfl (fun ls hl => ?_)
  refine lv_iconst (v := 0) hx hb d_R_size_2 (by decide) ?_
  refine lv_istore_n (lv' := [(2, .int 0), (1, .int 0), (0, .ref h)]) hx hb d_R_size_3 rfl hl (by decide) rfl (fun ls hl => ?_)
  have loop : ∀ (n i : Nat), i + n = w → ∀ (ls : Array Slot), lv_has ls 3 [(2, .int (nI i)), (1, .int 0), (0, .ref h)] → W p l e ({ frames := 0, cells := 0, slots := 0, locals := 0 } : Room) s m ([.ref h] : List Value).toArray below meth c s.heap [] 0 0 (MQ below (xr_Q (some (.int 0))) ([.ref h] : List Value).toArray s 0 0 (fun _ => False)) (F0 m 4 ls []) := by
    intro n
    induction n with
    | zero =>
      intro i hi ls hl
      refine lv_iload_n hx hb d_R_size_4 rfl (lv_at hl 0 rfl) ?_
      refine lv_aload_n hx hb d_R_size_5 rfl (lv_at hl 2 rfl) ?_
      refine va_get (ci := 4) (C := "QuorumStore$Row") (T := TX4) (N := 3) hx hb hts inX4 hown hK.2 hP 0 rfl rfl 0 (by decide) (hts _ k_75) (fun _ h9 => h9) rfl d_R_size_6 ?_
      refine va_alen (v := nI w) hx hb hK.2 hP 1 0 rfl rfl rfl d_R_size_9 ?_
      refine lv_icmp_ge (tgt := 31) hx hb d_R_size_10 (by decide) (fun _ => ?_) (fun c_1 => absurd (nI_le (by omega) (by omega)) c_1)
      refine lv_iload_n hx hb d_R_size_31 rfl (lv_at hl 1 rfl) ?_
      exact W.iret hx hb hr (fun t ht _ => ⟨rfl, ht⟩) (fun q h => by cases h) d_R_size_32
    | succ n ih =>
      intro i hi ls hl
      refine lv_iload_n hx hb d_R_size_4 rfl (lv_at hl 0 rfl) ?_
      refine lv_aload_n hx hb d_R_size_5 rfl (lv_at hl 2 rfl) ?_
      refine va_get (ci := 4) (C := "QuorumStore$Row") (T := TX4) (N := 3) hx hb hts inX4 hown hK.2 hP 0 rfl rfl 0 (by decide) (hts _ k_75) (fun _ h9 => h9) rfl d_R_size_6 ?_
      refine va_alen (v := nI w) hx hb hK.2 hP 1 0 rfl rfl rfl d_R_size_9 ?_
      refine lv_icmp_ge (tgt := 31) hx hb d_R_size_10 (by decide) (fun c_2 => absurd c_2 (nI_ge (by omega) (by omega))) (fun _ => ?_)
      refine lv_aload_n hx hb d_R_size_13 rfl (lv_at hl 2 rfl) ?_
      refine va_get (ci := 4) (C := "QuorumStore$Row") (T := TX4) (N := 3) hx hb hts inX4 hown hK.2 hP 0 rfl rfl 0 (by decide) (hts _ k_75) (fun _ h9 => h9) rfl d_R_size_14 ?_
      refine lv_iload_n hx hb d_R_size_17 rfl (lv_at hl 0 rfl) ?_
      refine va_iald hx hb hK.2 hP 1 0 rfl rfl (vp_in_nI (by omega) (by omega)) d_R_size_18 ?_
      refine lv_if_eq (tgt := 25) hx hb d_R_size_19 (by decide) (fun _ => ?_) (fun c_3 => absurd (rfl) c_3)
      refine lv_iinc (v := nI (i + 1)) (lv' := [(2, .int (nI (i + 1))), (1, .int 0), (0, .ref h)]) hx hb d_R_size_25 hl (k := 0) rfl (nI_1 i) (by decide) rfl (fun ls hl => ?_)
      refine lv_goto (tgt := 4) hx hb d_R_size_28 (by decide) ?_
      exact ih (i + 1) (by omega) ls (lv_sub hl [0, 1, 2] rfl)
  exact loop w 0 (by omega) ls (lv_sub hl [0, 1, 2] rfl)
theorem d_R_lastSlot_0 : decode c_R_lastSlot 0 = .ok (.iconst 0, 1) := by decide +kernel
theorem d_R_lastSlot_1 : decode c_R_lastSlot 1 = .ok (.istore_n 1, 1) := by decide +kernel
theorem d_R_lastSlot_2 : decode c_R_lastSlot 2 = .ok (.iconst 0, 1) := by decide +kernel
theorem d_R_lastSlot_3 : decode c_R_lastSlot 3 = .ok (.istore_n 2, 1) := by decide +kernel
theorem d_R_lastSlot_4 : decode c_R_lastSlot 4 = .ok (.iload_n 2, 1) := by decide +kernel
theorem d_R_lastSlot_5 : decode c_R_lastSlot 5 = .ok (.aload_n 0, 1) := by decide +kernel
theorem d_R_lastSlot_6 : decode c_R_lastSlot 6 = .ok (.getfield 7, 3) := by decide +kernel
theorem d_R_lastSlot_9 : decode c_R_lastSlot 9 = .ok (.arraylength, 1) := by decide +kernel
theorem d_R_lastSlot_10 : decode c_R_lastSlot 10 = .ok (.if_icmp .ge 20, 3) := by decide +kernel
theorem d_R_lastSlot_13 : decode c_R_lastSlot 13 = .ok (.iload_n 1, 1) := by decide +kernel
theorem d_R_lastSlot_14 : decode c_R_lastSlot 14 = .ok (.aload_n 0, 1) := by decide +kernel
theorem d_R_lastSlot_15 : decode c_R_lastSlot 15 = .ok (.getfield 7, 3) := by decide +kernel
theorem d_R_lastSlot_18 : decode c_R_lastSlot 18 = .ok (.iload_n 2, 1) := by decide +kernel
theorem d_R_lastSlot_19 : decode c_R_lastSlot 19 = .ok (.iaload, 1) := by decide +kernel
theorem d_R_lastSlot_20 : decode c_R_lastSlot 20 = .ok (.invokestatic 26, 3) := by decide +kernel
theorem d_R_lastSlot_23 : decode c_R_lastSlot 23 = .ok (.istore_n 1, 1) := by decide +kernel
theorem d_R_lastSlot_24 : decode c_R_lastSlot 24 = .ok (.iinc 2 1, 3) := by decide +kernel
theorem d_R_lastSlot_27 : decode c_R_lastSlot 27 = .ok (.goto (-23), 3) := by decide +kernel
theorem d_R_lastSlot_30 : decode c_R_lastSlot 30 = .ok (.iload_n 1, 1) := by decide +kernel
theorem d_R_lastSlot_31 : decode c_R_lastSlot 31 = .ok (.ireturn, 1) := by decide +kernel
set_option maxHeartbeats 4000000 in
set_option maxRecDepth 100000 in
/-- lastSlot of an empty row -/
theorem C_R_lastSlot (l : Launch) (D : va_G) (t : Nat → ClassId) (h a b v w : Nat) (hw : w = 4 ∨ w = 32 ∨ w = 64) : xr_C l D vwCl (xTY t) y_R_lastSlot c_R_lastSlot 3 (Option.some FieldType.int) ({ frames := 1, cells := 0, slots := 0, locals := 14 }) [.ref h] [zO 4 h [.ref a, .ref b, .ref v], zI t a w (fun _ => 0), zI t b w (fun _ => 0), zA t 2 v w (fun _ => none)] (xr_Q (some (.int 0))) := by
  refine xr_of (by decide) (Nat.le_of_ble_eq_true rfl) ?_
  intro p e s m below meth c ls Z hr hlocks hP hl
  obtain ⟨hx, hb, hml, hown, hK⟩ := id Z
  have hown : s.vm.findClass "QuorumStore$Row" = some m.cls := hown
  have hts := hK.1.at (args := ([.ref h] : List Value).toArray)
  have hl : lv_has ls 3 [(0, .ref h)] := hl
  refine lv_iconst (v := 0) hx hb d_R_lastSlot_0 (by decide) ?_
  refine lv_istore_n (lv' := [(1, .int 0), (0, .ref h)]) hx hb d_R_lastSlot_1 rfl hl (by decide) rfl (fun ls hl => ?_)
  refine lv_iconst (v := 0) hx hb d_R_lastSlot_2 (by decide) ?_
  refine lv_istore_n (lv' := [(2, .int 0), (1, .int 0), (0, .ref h)]) hx hb d_R_lastSlot_3 rfl hl (by decide) rfl (fun ls hl => ?_)
  have loop : ∀ (n i : Nat), i + n = w → ∀ (ls : Array Slot), lv_has ls 3 [(2, .int (nI i)), (1, .int 0), (0, .ref h)] → W p l e ({ frames := 1, cells := 0, slots := 0, locals := 14 } : Room) s m ([.ref h] : List Value).toArray below meth c s.heap [] 0 0 (MQ below (xr_Q (some (.int 0))) ([.ref h] : List Value).toArray s 0 0 (fun _ => False)) (F0 m 4 ls []) := by
    intro n
    induction n with
    | zero =>
      intro i hi ls hl
      refine lv_iload_n hx hb d_R_lastSlot_4 rfl (lv_at hl 0 rfl) ?_
      refine lv_aload_n hx hb d_R_lastSlot_5 rfl (lv_at hl 2 rfl) ?_
      refine va_get (ci := 4) (C := "QuorumStore$Row") (T := TX4) (N := 3) hx hb hts inX4 hown hK.2 hP 0 rfl rfl 0 (by decide) (hts _ k_75) (fun _ h9 => h9) rfl d_R_lastSlot_6 ?_
      refine va_alen (v := nI w) hx hb hK.2 hP 1 0 rfl rfl rfl d_R_lastSlot_9 ?_
      refine lv_icmp_ge (tgt := 30) hx hb d_R_lastSlot_10 (by decide) (fun _ => ?_) (fun c_1 => absurd (nI_le (by omega) (by omega)) c_1)
      refine lv_iload_n hx hb d_R_lastSlot_30 rfl (lv_at hl 1 rfl) ?_
      exact W.iret hx hb hr (fun t ht _ => ⟨rfl, ht⟩) (fun q h => by cases h) d_R_lastSlot_31
    | succ n ih =>
      intro i hi ls hl
      refine lv_iload_n hx hb d_R_lastSlot_4 rfl (lv_at hl 0 rfl) ?_
      refine lv_aload_n hx hb d_R_lastSlot_5 rfl (lv_at hl 2 rfl) ?_
      refine va_get (ci := 4) (C := "QuorumStore$Row") (T := TX4) (N := 3) hx hb hts inX4 hown hK.2 hP 0 rfl rfl 0 (by decide) (hts _ k_75) (fun _ h9 => h9) rfl d_R_lastSlot_6 ?_
      refine va_alen (v := nI w) hx hb hK.2 hP 1 0 rfl rfl rfl d_R_lastSlot_9 ?_
      refine lv_icmp_ge (tgt := 30) hx hb d_R_lastSlot_10 (by decide) (fun c_2 => absurd c_2 (nI_ge (by omega) (by omega))) (fun _ => ?_)
      refine lv_iload_n hx hb d_R_lastSlot_13 rfl (lv_at hl 1 rfl) ?_
      refine lv_aload_n hx hb d_R_lastSlot_14 rfl (lv_at hl 2 rfl) ?_
      refine va_get (ci := 4) (C := "QuorumStore$Row") (T := TX4) (N := 3) hx hb hts inX4 hown hK.2 hP 0 rfl rfl 0 (by decide) (hts _ k_75) (fun _ h9 => h9) rfl d_R_lastSlot_15 ?_
      refine lv_iload_n hx hb d_R_lastSlot_18 rfl (lv_at hl 0 rfl) ?_
      refine va_iald hx hb hK.2 hP 1 0 rfl rfl (vp_in_nI (by omega) (by omega)) d_R_lastSlot_19 ?_
      refine va_mmax hx hb (hml.trans hl.1.symm) hown (hts _ k_499) (hts _ k_442) (hts _ k_18) (hts _ k_443) (Nat.le_of_ble_eq_true rfl) (Nat.le_of_ble_eq_true rfl) (Nat.zero_le _) (Nat.zero_le _) d_R_lastSlot_20 ?_
      refine lv_topi (fun mx emx => ?_)
      obtain rfl : mx = 0 := emx
      refine lv_istore_n (lv' := [(1, .int 0), (2, .int (nI i)), (0, .ref h)]) hx hb d_R_lastSlot_23 rfl hl (by decide) rfl (fun ls hl => ?_)
      refine lv_iinc (v := nI (i + 1)) (lv' := [(2, .int (nI (i + 1))), (1, .int 0), (0, .ref h)]) hx hb d_R_lastSlot_24 hl (k := 1) rfl (nI_1 i) (by decide) rfl (fun ls hl => ?_)
      refine lv_goto (tgt := 4) hx hb d_R_lastSlot_27 (by decide) ?_
      exact ih (i + 1) (by omega) ls (lv_sub hl [0, 1, 2] rfl)
  exact loop w 0 (by omega) ls (lv_sub hl [0, 1, 2] rfl)
theorem d_Q_isIn_0 : decode c_Q_isIn 0 = .ok (.iload_n 0, 1) := by decide +kernel
theorem d_Q_isIn_1 : decode c_Q_isIn 1 = .ok (.iload_n 1, 1) := by decide +kernel
theorem d_Q_isIn_2 : decode c_Q_isIn 2 = .ok (.ishr, 1) := by decide +kernel
theorem d_Q_isIn_3 : decode c_Q_isIn 3 = .ok (.iconst 1, 1) := by decide +kernel
theorem d_Q_isIn_4 : decode c_Q_isIn 4 = .ok (.iand, 1) := by decide +kernel
theorem d_Q_isIn_5 : decode c_Q_isIn 5 = .ok (.ifCond .eq 7, 3) := by decide +kernel
theorem d_Q_isIn_8 : decode c_Q_isIn 8 = .ok (.iconst 1, 1) := by decide +kernel
theorem d_Q_isIn_9 : decode c_Q_isIn 9 = .ok (.goto 4, 3) := by decide +kernel
theorem d_Q_isIn_12 : decode c_Q_isIn 12 = .ok (.iconst 0, 1) := by decide +kernel
theorem d_Q_isIn_13 : decode c_Q_isIn 13 = .ok (.ireturn, 1) := by decide +kernel
set_option maxHeartbeats 4000000 in
set_option maxRecDepth 100000 in
/-- isIn -/
theorem C_Q_isIn (l : Launch) (D : va_G) (t : Nat → ClassId) (a b : Int32) : xr_C l D vwCl (xTY t) y_Q_isIn c_Q_isIn 2 (Option.some FieldType.boolean) ({ frames := 0, cells := 0, slots := 0, locals := 0 }) [.int a, .int b] [] (xr_Q (some (.int (xb a b)))) := by
  refine xr_of (by decide) (Nat.le_of_ble_eq_true rfl) ?_
  intro p e s m below meth c ls Z hr hlocks hP hl
  obtain ⟨hx, hb, hml, hown, hK⟩ := id Z
  have hown : s.vm.findClass "QuorumStore" = some m.cls := hown
  have hts := hK.1.at (args := ([.int a, .int b] : List Value).toArray)
  have hl : lv_has ls 2 [(0, .int a), (1, .int b)] := hl
  refine lv_iload_n hx hb d_Q_isIn_0 rfl (lv_at hl 0 rfl) ?_
  refine lv_iload_n hx hb d_Q_isIn_1 rfl (lv_at hl 1 rfl) ?_
  refine lv_ishr hx hb d_Q_isIn_2 ?_
  refine lv_iconst (v := 1) hx hb d_Q_isIn_3 (by decide) ?_
  refine lv_iand hx hb d_Q_isIn_4 ?_
  refine lv_if_eq (tgt := 12) hx hb d_Q_isIn_5 (by decide) (fun c_1 => ?_) (fun c_1 => ?_)
  · refine lv_iconst (v := 0) hx hb d_Q_isIn_12 (by decide) ?_
    exact W.zret hx hb hr (by decide) (fun t ht _ => ⟨by rw [show xb a b = 0 from if_pos c_1], ht⟩) (fun q h => by cases h) d_Q_isIn_13
  · refine lv_iconst (v := 1) hx hb d_Q_isIn_8 (by decide) ?_
    refine lv_goto (tgt := 13) hx hb d_Q_isIn_9 (by decide) ?_
    exact W.zret hx hb hr (by decide) (fun t ht _ => ⟨by rw [show xb a b = 1 from if_neg c_1], ht⟩) (fun q h => by cases h) d_Q_isIn_13
theorem d_S_configAt_0 : decode c_S_configAt 0 = .ok (.aload_n 0, 1) := by decide +kernel
theorem d_S_configAt_1 : decode c_S_configAt 1 = .ok (.getfield 30, 3) := by decide +kernel
theorem d_S_configAt_4 : decode c_S_configAt 4 = .ok (.iconst 1, 1) := by decide +kernel
theorem d_S_configAt_5 : decode c_S_configAt 5 = .ok (.isub, 1) := by decide +kernel
theorem d_S_configAt_6 : decode c_S_configAt 6 = .ok (.istore_n 2, 1) := by decide +kernel
theorem d_S_configAt_7 : decode c_S_configAt 7 = .ok (.iload_n 2, 1) := by decide +kernel
theorem d_S_configAt_8 : decode c_S_configAt 8 = .ok (.ifCond .le 26, 3) := by decide +kernel
theorem d_S_configAt_34 : decode c_S_configAt 34 = .ok (.aload_n 0, 1) := by decide +kernel
theorem d_S_configAt_35 : decode c_S_configAt 35 = .ok (.getfield 25, 3) := by decide +kernel
theorem d_S_configAt_38 : decode c_S_configAt 38 = .ok (.iconst 0, 1) := by decide +kernel
theorem d_S_configAt_39 : decode c_S_configAt 39 = .ok (.iaload, 1) := by decide +kernel
theorem d_S_configAt_40 : decode c_S_configAt 40 = .ok (.ireturn, 1) := by decide +kernel
set_option maxHeartbeats 4000000 in
set_option maxRecDepth 100000 in
/-- configAt where one pair counts -/
theorem C_S_configAt (l : Launch) (D : va_G) (t : Nat → ClassId) (h n sq r cs cm : Nat) (fn fr : Nat → Int64) (fs fc f : Nat → Int32) (slot : Int32) : xr_C l D vwCl (xTY t) y_S_configAt c_S_configAt 3 (Option.some FieldType.int) ({ frames := 0, cells := 0, slots := 0, locals := 0 }) [.ref h, .int slot] [zO 5 h [.ref n, .ref sq, .ref r, .ref cs, .ref cm, .int 1], zJ t n 32 fn, zI t sq 8 fs, zJ t r 8 fr, zI t cs 4 fc, zI t cm 4 f] (xr_Q (some (.int (f 0)))) := by
  refine xr_of (by decide) (Nat.le_of_ble_eq_true rfl) ?_
  intro p e s m below meth c ls Z hr hlocks hP hl
  obtain ⟨hx, hb, hml, hown, hK⟩ := id Z
  have hown : s.vm.findClass "QuorumStore$State" = some m.cls := hown
  have hts := hK.1.at (args := ([.ref h, .int slot] : List Value).toArray)
  have hl : lv_has ls 3 [(0, .ref h), (1, .int slot)] := hl
  refine lv_aload_n hx hb d_S_configAt_0 rfl (lv_at hl 0 rfl) ?_
  refine va_get (ci := 5) (C := "QuorumStore$State") (T := TX5) (N := 6) hx hb hts inX5 hown hK.2 hP 0 rfl rfl 5 (by decide) (hts _ k_181) (fun _ h9 => h9) rfl d_S_configAt_1 ?_
  refine lv_iconst (v := 1) hx hb d_S_configAt_4 (by decide) ?_
  refine lv_isub hx hb d_S_configAt_5 ?_
  refine lv_istore_n (lv' := [(2, .int ((1) - (1))), (0, .ref h), (1, .int slot)]) hx hb d_S_configAt_6 rfl hl (by decide) rfl (fun ls hl => ?_)
  refine lv_iload_n hx hb d_S_configAt_7 rfl (lv_at hl 0 rfl) ?_
  refine lv_if_le (tgt := 34) hx hb d_S_configAt_8 (by decide) (fun _ => ?_) (fun c_1 => absurd (by decide) c_1)
  refine lv_aload_n hx hb d_S_configAt_34 rfl (lv_at hl 1 rfl) ?_
  refine va_get (ci := 5) (C := "QuorumStore$State") (T := TX5) (N := 6) hx hb hts inX5 hown hK.2 hP 0 rfl rfl 4 (by decide) (hts _ k_180) (fun _ h9 => h9) rfl d_S_configAt_35 ?_
  refine lv_iconst (v := 0) hx hb d_S_configAt_38 (by decide) ?_
  refine va_iald hx hb hK.2 hP 5 0 rfl rfl (by unfold vp_in; decide) d_S_configAt_39 ?_
  exact W.iret hx hb hr (fun t ht _ => ⟨rfl, ht⟩) (fun q h => by cases h) d_S_configAt_40
theorem d_S_membersBehind_0 : decode c_S_membersBehind 0 = .ok (.iconst 0, 1) := by decide +kernel
theorem d_S_membersBehind_1 : decode c_S_membersBehind 1 = .ok (.istore_n 2, 1) := by decide +kernel
theorem d_S_membersBehind_2 : decode c_S_membersBehind 2 = .ok (.iload_n 1, 1) := by decide +kernel
theorem d_S_membersBehind_3 : decode c_S_membersBehind 3 = .ok (.iconst 1, 1) := by decide +kernel
theorem d_S_membersBehind_4 : decode c_S_membersBehind 4 = .ok (.iadd, 1) := by decide +kernel
theorem d_S_membersBehind_5 : decode c_S_membersBehind 5 = .ok (.istore_n 3, 1) := by decide +kernel
theorem d_S_membersBehind_6 : decode c_S_membersBehind 6 = .ok (.iload_n 3, 1) := by decide +kernel
theorem d_S_membersBehind_7 : decode c_S_membersBehind 7 = .ok (.iload_n 1, 1) := by decide +kernel
theorem d_S_membersBehind_8 : decode c_S_membersBehind 8 = .ok (.iconst 4, 1) := by decide +kernel
theorem d_S_membersBehind_9 : decode c_S_membersBehind 9 = .ok (.iadd, 1) := by decide +kernel
theorem d_S_membersBehind_10 : decode c_S_membersBehind 10 = .ok (.if_icmp .gt 17, 3) := by decide +kernel
theorem d_S_membersBehind_13 : decode c_S_membersBehind 13 = .ok (.iload_n 2, 1) := by decide +kernel
theorem d_S_membersBehind_14 : decode c_S_membersBehind 14 = .ok (.aload_n 0, 1) := by decide +kernel
theorem d_S_membersBehind_15 : decode c_S_membersBehind 15 = .ok (.iload_n 3, 1) := by decide +kernel
theorem d_S_membersBehind_16 : decode c_S_membersBehind 16 = .ok (.invokevirtual 40, 3) := by decide +kernel
theorem d_S_membersBehind_19 : decode c_S_membersBehind 19 = .ok (.ior, 1) := by decide +kernel
theorem d_S_membersBehind_20 : decode c_S_membersBehind 20 = .ok (.istore_n 2, 1) := by decide +kernel
theorem d_S_membersBehind_21 : decode c_S_membersBehind 21 = .ok (.iinc 3 1, 3) := by decide +kernel
theorem d_S_membersBehind_24 : decode c_S_membersBehind 24 = .ok (.goto (-18), 3) := by decide +kernel
theorem d_S_membersBehind_27 : decode c_S_membersBehind 27 = .ok (.iload_n 2, 1) := by decide +kernel
theorem d_S_membersBehind_28 : decode c_S_membersBehind 28 = .ok (.ireturn, 1) := by decide +kernel
set_option maxHeartbeats 4000000 in
set_option maxRecDepth 100000 in
/-- membersBehind(0) where one pair counts -/
theorem C_S_membersBehind (l : Launch) (D : va_G) (t : Nat → ClassId) (h n sq r cs cm : Nat) (fn fr : Nat → Int64) (fs fc f : Nat → Int32) : xr_C l D vwCl (xTY t) y_S_membersBehind c_S_membersBehind 4 (Option.some FieldType.int) ({ frames := 1, cells := 0, slots := 0, locals := 22 }) [.ref h, .int 0] [zO 5 h [.ref n, .ref sq, .ref r, .ref cs, .ref cm, .int 1], zJ t n 32 fn, zI t sq 8 fs, zJ t r 8 fr, zI t cs 4 fc, zI t cm 4 f] (xr_Q (some (.int (f 0)))) := by
  refine xr_of (by decide) (Nat.le_of_ble_eq_true rfl) ?_
  intro p e s m below meth c ls Z hr hlocks hP hl
  obtain ⟨hx, hb, hml, hown, hK⟩ := id Z
  have hown : s.vm.findClass "QuorumStore$State" = some m.cls := hown
  have hts := hK.1.at (args := ([.ref h, .int 0] : List Value).toArray)
  have hl : lv_has ls 4 [(0, .ref h), (1, .int 0)] := hl
  refine lv_iconst (v := 0) hx hb d_S_membersBehind_0 (by decide) ?_
  refine lv_istore_n (lv' := [(2, .int 0), (0, .ref h), (1, .int 0)]) hx hb d_S_membersBehind_1 rfl hl (by decide) rfl (fun ls hl => ?_)
  refine lv_iload_n hx hb d_S_membersBehind_2 rfl (lv_at hl 2 rfl) ?_
  refine lv_iconst (v := 1) hx hb d_S_membersBehind_3 (by decide) ?_
  refine lv_iadd hx hb d_S_membersBehind_4 ?_
  refine lv_istore_n (lv' := [(3, .int ((0) + (1))), (2, .int 0), (0, .ref h), (1, .int 0)]) hx hb d_S_membersBehind_5 rfl hl (by decide) rfl (fun ls hl => ?_)
  refine lv_iload_n hx hb d_S_membersBehind_6 rfl (lv_at hl 0 rfl) ?_
  refine lv_iload_n hx hb d_S_membersBehind_7 rfl (lv_at hl 3 rfl) ?_
  refine lv_iconst (v := 4) hx hb d_S_membersBehind_8 (by decide) ?_
  refine lv_iadd hx hb d_S_membersBehind_9 ?_
  refine lv_icmp_gt (tgt := 27) hx hb d_S_membersBehind_10 (by decide) (fun c_1 => absurd c_1 (by decide)) (fun _ => ?_)
  refine lv_iload_n hx hb d_S_membersBehind_13 rfl (lv_at hl 1 rfl) ?_
  refine lv_aload_n hx hb d_S_membersBehind_14 rfl (lv_at hl 2 rfl) ?_
  refine lv_iload_n hx hb d_S_membersBehind_15 rfl (lv_at hl 0 rfl) ?_
  refine xr_call (xs_V (As := [.int ((0) + (1))]) (rest := [.int 0]) Z (C_S_configAt l D t h n sq r cs cm fn fr fs fc f _) m_S_configAt k_364 k_365 k_366 rfl rfl ⟨Nat.le_of_ble_eq_true rfl, Nat.le_of_ble_eq_true rfl⟩ (va_recv hK.2 hP (ci := 5) (q0 := 0) rfl rfl) (xr_pre hK hP) rfl hl.1 rfl (Nat.le_of_ble_eq_true rfl) d_S_membersBehind_16 ⟨Nat.le_of_ble_eq_true rfl, Nat.le_of_ble_eq_true rfl⟩) ?_
  refine lv_ior hx hb d_S_membersBehind_19 ?_
  refine lv_istore_n (lv' := [(2, .int ((0) ||| (f 0))), (3, .int ((0) + (1))), (0, .ref h), (1, .int 0)]) hx hb d_S_membersBehind_20 rfl hl (by decide) rfl (fun ls hl => ?_)
  refine lv_iinc (v := ((0) + (1)) + 1) (lv' := [(3, .int (((0) + (1)) + 1)), (2, .int ((0) ||| (f 0))), (0, .ref h), (1, .int 0)]) hx hb d_S_membersBehind_21 hl (k := 1) rfl rfl (by decide) rfl (fun ls hl => ?_)
  refine lv_goto (tgt := 6) hx hb d_S_membersBehind_24 (by decide) ?_
  refine lv_iload_n hx hb d_S_membersBehind_6 rfl (lv_at hl 0 rfl) ?_
  refine lv_iload_n hx hb d_S_membersBehind_7 rfl (lv_at hl 3 rfl) ?_
  refine lv_iconst (v := 4) hx hb d_S_membersBehind_8 (by decide) ?_
  refine lv_iadd hx hb d_S_membersBehind_9 ?_
  refine lv_icmp_gt (tgt := 27) hx hb d_S_membersBehind_10 (by decide) (fun c_2 => absurd c_2 (by decide)) (fun _ => ?_)
  refine lv_iload_n hx hb d_S_membersBehind_13 rfl (lv_at hl 1 rfl) ?_
  refine lv_aload_n hx hb d_S_membersBehind_14 rfl (lv_at hl 2 rfl) ?_
  refine lv_iload_n hx hb d_S_membersBehind_15 rfl (lv_at hl 0 rfl) ?_
  refine xr_call (xs_V (As := [.int (((0) + (1)) + 1)]) (rest := [.int ((0) ||| (f 0))]) Z (C_S_configAt l D t h n sq r cs cm fn fr fs fc f _) m_S_configAt k_364 k_365 k_366 rfl rfl ⟨Nat.le_of_ble_eq_true rfl, Nat.le_of_ble_eq_true rfl⟩ (va_recv hK.2 hP (ci := 5) (q0 := 0) rfl rfl) (xr_pre hK hP) rfl hl.1 rfl (Nat.le_of_ble_eq_true rfl) d_S_membersBehind_16 ⟨Nat.le_of_ble_eq_true rfl, Nat.le_of_ble_eq_true rfl⟩) ?_
  refine lv_ior hx hb d_S_membersBehind_19 ?_
  refine lv_istore_n (lv' := [(2, .int (((0) ||| (f 0)) ||| (f 0))), (3, .int (((0) + (1)) + 1)), (0, .ref h), (1, .int 0)]) hx hb d_S_membersBehind_20 rfl hl (by decide) rfl (fun ls hl => ?_)
  refine lv_iinc (v := (((0) + (1)) + 1) + 1) (lv' := [(3, .int ((((0) + (1)) + 1) + 1)), (2, .int (((0) ||| (f 0)) ||| (f 0))), (0, .ref h), (1, .int 0)]) hx hb d_S_membersBehind_21 hl (k := 1) rfl rfl (by decide) rfl (fun ls hl => ?_)
  refine lv_goto (tgt := 6) hx hb d_S_membersBehind_24 (by decide) ?_
  refine lv_iload_n hx hb d_S_membersBehind_6 rfl (lv_at hl 0 rfl) ?_
  refine lv_iload_n hx hb d_S_membersBehind_7 rfl (lv_at hl 3 rfl) ?_
  refine lv_iconst (v := 4) hx hb d_S_membersBehind_8 (by decide) ?_
  refine lv_iadd hx hb d_S_membersBehind_9 ?_
  refine lv_icmp_gt (tgt := 27) hx hb d_S_membersBehind_10 (by decide) (fun c_3 => absurd c_3 (by decide)) (fun _ => ?_)
  refine lv_iload_n hx hb d_S_membersBehind_13 rfl (lv_at hl 1 rfl) ?_
  refine lv_aload_n hx hb d_S_membersBehind_14 rfl (lv_at hl 2 rfl) ?_
  refine lv_iload_n hx hb d_S_membersBehind_15 rfl (lv_at hl 0 rfl) ?_
  refine xr_call (xs_V (As := [.int ((((0) + (1)) + 1) + 1)]) (rest := [.int (((0) ||| (f 0)) ||| (f 0))]) Z (C_S_configAt l D t h n sq r cs cm fn fr fs fc f _) m_S_configAt k_364 k_365 k_366 rfl rfl ⟨Nat.le_of_ble_eq_true rfl, Nat.le_of_ble_eq_true rfl⟩ (va_recv hK.2 hP (ci := 5) (q0 := 0) rfl rfl) (xr_pre hK hP) rfl hl.1 rfl (Nat.le_of_ble_eq_true rfl) d_S_membersBehind_16 ⟨Nat.le_of_ble_eq_true rfl, Nat.le_of_ble_eq_true rfl⟩) ?_
  refine lv_ior hx hb d_S_membersBehind_19 ?_
  refine lv_istore_n (lv' := [(2, .int ((((0) ||| (f 0)) ||| (f 0)) ||| (f 0))), (3, .int ((((0) + (1)) + 1) + 1)), (0, .ref h), (1, .int 0)]) hx hb d_S_membersBehind_20 rfl hl (by decide) rfl (fun ls hl => ?_)
  refine lv_iinc (v := ((((0) + (1)) + 1) + 1) + 1) (lv' := [(3, .int (((((0) + (1)) + 1) + 1) + 1)), (2, .int ((((0) ||| (f 0)) ||| (f 0)) ||| (f 0))), (0, .ref h), (1, .int 0)]) hx hb d_S_membersBehind_21 hl (k := 1) rfl rfl (by decide) rfl (fun ls hl => ?_)
  refine lv_goto (tgt := 6) hx hb d_S_membersBehind_24 (by decide) ?_
  refine lv_iload_n hx hb d_S_membersBehind_6 rfl (lv_at hl 0 rfl) ?_
  refine lv_iload_n hx hb d_S_membersBehind_7 rfl (lv_at hl 3 rfl) ?_
  refine lv_iconst (v := 4) hx hb d_S_membersBehind_8 (by decide) ?_
  refine lv_iadd hx hb d_S_membersBehind_9 ?_
  refine lv_icmp_gt (tgt := 27) hx hb d_S_membersBehind_10 (by decide) (fun c_4 => absurd c_4 (by decide)) (fun _ => ?_)
  refine lv_iload_n hx hb d_S_membersBehind_13 rfl (lv_at hl 1 rfl) ?_
  refine lv_aload_n hx hb d_S_membersBehind_14 rfl (lv_at hl 2 rfl) ?_
  refine lv_iload_n hx hb d_S_membersBehind_15 rfl (lv_at hl 0 rfl) ?_
  refine xr_call (xs_V (As := [.int (((((0) + (1)) + 1) + 1) + 1)]) (rest := [.int ((((0) ||| (f 0)) ||| (f 0)) ||| (f 0))]) Z (C_S_configAt l D t h n sq r cs cm fn fr fs fc f _) m_S_configAt k_364 k_365 k_366 rfl rfl ⟨Nat.le_of_ble_eq_true rfl, Nat.le_of_ble_eq_true rfl⟩ (va_recv hK.2 hP (ci := 5) (q0 := 0) rfl rfl) (xr_pre hK hP) rfl hl.1 rfl (Nat.le_of_ble_eq_true rfl) d_S_membersBehind_16 ⟨Nat.le_of_ble_eq_true rfl, Nat.le_of_ble_eq_true rfl⟩) ?_
  refine lv_ior hx hb d_S_membersBehind_19 ?_
  refine lv_istore_n (lv' := [(2, .int (((((0) ||| (f 0)) ||| (f 0)) ||| (f 0)) ||| (f 0))), (3, .int (((((0) + (1)) + 1) + 1) + 1)), (0, .ref h), (1, .int 0)]) hx hb d_S_membersBehind_20 rfl hl (by decide) rfl (fun ls hl => ?_)
  refine lv_iinc (v := (((((0) + (1)) + 1) + 1) + 1) + 1) (lv' := [(3, .int ((((((0) + (1)) + 1) + 1) + 1) + 1)), (2, .int (((((0) ||| (f 0)) ||| (f 0)) ||| (f 0)) ||| (f 0))), (0, .ref h), (1, .int 0)]) hx hb d_S_membersBehind_21 hl (k := 1) rfl rfl (by decide) rfl (fun ls hl => ?_)
  refine lv_goto (tgt := 6) hx hb d_S_membersBehind_24 (by decide) ?_
  refine lv_iload_n hx hb d_S_membersBehind_6 rfl (lv_at hl 0 rfl) ?_
  refine lv_iload_n hx hb d_S_membersBehind_7 rfl (lv_at hl 3 rfl) ?_
  refine lv_iconst (v := 4) hx hb d_S_membersBehind_8 (by decide) ?_
  refine lv_iadd hx hb d_S_membersBehind_9 ?_
  refine lv_icmp_gt (tgt := 27) hx hb d_S_membersBehind_10 (by decide) (fun _ => ?_) (fun c_5 => absurd (by decide) c_5)
  refine lv_iload_n hx hb d_S_membersBehind_27 rfl (lv_at hl 1 rfl) ?_
  exact W.iret hx hb hr (fun t ht _ => ⟨by rw [show ∀ z : Int32, (((0 ||| z) ||| z) ||| z) ||| z = z from fun z => by rw [Int32.zero_or, Int32.or_self, Int32.or_self, Int32.or_self]], ht⟩) (fun q h => by cases h) d_S_membersBehind_28
end
section
/-! More methods of the class that only read. -/
theorem d_JI_bitCount_0 : decode c_JI_bitCount 0 = .ok (.iload_n 0, 1) := by decide +kernel
theorem d_JI_bitCount_1 : decode c_JI_bitCount 1 = .ok (.iload_n 0, 1) := by decide +kernel
theorem d_JI_bitCount_2 : decode c_JI_bitCount 2 = .ok (.iconst 1, 1) := by decide +kernel
theorem d_JI_bitCount_3 : decode c_JI_bitCount 3 = .ok (.iushr, 1) := by decide +kernel
theorem d_JI_bitCount_4 : decode c_JI_bitCount 4 = .ok (.ldc_w 265, 3) := by decide +kernel
theorem d_JI_bitCount_7 : decode c_JI_bitCount 7 = .ok (.iand, 1) := by decide +kernel
theorem d_JI_bitCount_8 : decode c_JI_bitCount 8 = .ok (.isub, 1) := by decide +kernel
theorem d_JI_bitCount_9 : decode c_JI_bitCount 9 = .ok (.istore_n 0, 1) := by decide +kernel
theorem d_JI_bitCount_10 : decode c_JI_bitCount 10 = .ok (.iload_n 0, 1) := by decide +kernel
theorem d_JI_bitCount_11 : decode c_JI_bitCount 11 = .ok (.ldc_w 266, 3) := by decide +kernel
theorem d_JI_bitCount_14 : decode c_JI_bitCount 14 = .ok (.iand, 1) := by decide +kernel
theorem d_JI_bitCount_15 : decode c_JI_bitCount 15 = .ok (.iload_n 0, 1) := by decide +kernel
theorem d_JI_bitCount_16 : decode c_JI_bitCount 16 = .ok (.iconst 2, 1) := by decide +kernel
theorem d_JI_bitCount_17 : decode c_JI_bitCount 17 = .ok (.iushr, 1) := by decide +kernel
theorem d_JI_bitCount_18 : decode c_JI_bitCount 18 = .ok (.ldc_w 266, 3) := by decide +kernel
theorem d_JI_bitCount_21 : decode c_JI_bitCount 21 = .ok (.iand, 1) := by decide +kernel
theorem d_JI_bitCount_22 : decode c_JI_bitCount 22 = .ok (.iadd, 1) := by decide +kernel
theorem d_JI_bitCount_23 : decode c_JI_bitCount 23 = .ok (.istore_n 0, 1) := by decide +kernel
theorem d_JI_bitCount_24 : decode c_JI_bitCount 24 = .ok (.iload_n 0, 1) := by decide +kernel
theorem d_JI_bitCount_25 : decode c_JI_bitCount 25 = .ok (.iload_n 0, 1) := by decide +kernel
theorem d_JI_bitCount_26 : decode c_JI_bitCount 26 = .ok (.iconst 4, 1) := by decide +kernel
theorem d_JI_bitCount_27 : decode c_JI_bitCount 27 = .ok (.iushr, 1) := by decide +kernel
theorem d_JI_bitCount_28 : decode c_JI_bitCount 28 = .ok (.iadd, 1) := by decide +kernel
theorem d_JI_bitCount_29 : decode c_JI_bitCount 29 = .ok (.ldc_w 267, 3) := by decide +kernel
theorem d_JI_bitCount_32 : decode c_JI_bitCount 32 = .ok (.iand, 1) := by decide +kernel
theorem d_JI_bitCount_33 : decode c_JI_bitCount 33 = .ok (.istore_n 0, 1) := by decide +kernel
theorem d_JI_bitCount_34 : decode c_JI_bitCount 34 = .ok (.iload_n 0, 1) := by decide +kernel
theorem d_JI_bitCount_35 : decode c_JI_bitCount 35 = .ok (.iload_n 0, 1) := by decide +kernel
theorem d_JI_bitCount_36 : decode c_JI_bitCount 36 = .ok (.bipush 8, 2) := by decide +kernel
theorem d_JI_bitCount_38 : decode c_JI_bitCount 38 = .ok (.iushr, 1) := by decide +kernel
theorem d_JI_bitCount_39 : decode c_JI_bitCount 39 = .ok (.iadd, 1) := by decide +kernel
theorem d_JI_bitCount_40 : decode c_JI_bitCount 40 = .ok (.istore_n 0, 1) := by decide +kernel
theorem d_JI_bitCount_41 : decode c_JI_bitCount 41 = .ok (.iload_n 0, 1) := by decide +kernel
theorem d_JI_bitCount_42 : decode c_JI_bitCount 42 = .ok (.iload_n 0, 1) := by decide +kernel
theorem d_JI_bitCount_43 : decode c_JI_bitCount 43 = .ok (.bipush 16, 2) := by decide +kernel
theorem d_JI_bitCount_45 : decode c_JI_bitCount 45 = .ok (.iushr, 1) := by decide +kernel
theorem d_JI_bitCount_46 : decode c_JI_bitCount 46 = .ok (.iadd, 1) := by decide +kernel
theorem d_JI_bitCount_47 : decode c_JI_bitCount 47 = .ok (.istore_n 0, 1) := by decide +kernel
theorem d_JI_bitCount_48 : decode c_JI_bitCount 48 = .ok (.iload_n 0, 1) := by decide +kernel
theorem d_JI_bitCount_49 : decode c_JI_bitCount 49 = .ok (.bipush 63, 2) := by decide +kernel
theorem d_JI_bitCount_51 : decode c_JI_bitCount 51 = .ok (.iand, 1) := by decide +kernel
theorem d_JI_bitCount_52 : decode c_JI_bitCount 52 = .ok (.ireturn, 1) := by decide +kernel
set_option maxHeartbeats 4000000 in
set_option maxRecDepth 100000 in
/-- bitCount: it returns a number -/
theorem C_JI_bitCount (l : Launch) (D : va_G) (t : Nat → ClassId) (x : Int32) : xr_C l D vwCl (xTY t) y_JI_bitCount c_JI_bitCount 1 (Option.some FieldType.int) ({ frames := 0, cells := 0, slots := 0, locals := 0 }) [.int x] [] (xr_P (fun v => ∃ b : Int32, v = some (.int b))) := by
  refine xr_of (by decide) (Nat.le_of_ble_eq_true rfl) ?_
  intro p e s m below meth c ls Z hr hlocks hP hl
  obtain ⟨hx, hb, hml, hown, hK⟩ := id Z
  have hown : s.vm.findClass "java/lang/Integer" = some m.cls := hown
  have hts := hK.1.at (args := ([.int x] : List Value).toArray)
  have hl : lv_has ls 1 [(0, .int x)] := hl
  refine lv_iload_n hx hb d_JI_bitCount_0 rfl (lv_at hl 0 rfl) ?_
  refine lv_iload_n hx hb d_JI_bitCount_1 rfl (lv_at hl 0 rfl) ?_
  refine lv_iconst (v := 1) hx hb d_JI_bitCount_2 (by decide) ?_
  refine lv_iushr (v := ((x : Int32).toUInt32 >>> ((1 : Int32).toUInt32 &&& Int32.toUInt32 31)).toInt32) hx hb d_JI_bitCount_3 rfl ?_
  refine lv_ldcw (v := 1431655765) hx hb hown (hts _ k_488) d_JI_bitCount_4 ?_
  refine lv_iand hx hb d_JI_bitCount_7 ?_
  refine lv_isub hx hb d_JI_bitCount_8 ?_
  refine lv_topi (fun z_1 _ => ?_)
  refine lv_istore_n (lv' := [(0, .int z_1)]) hx hb d_JI_bitCount_9 rfl hl (by decide) rfl (fun ls hl => ?_)
  refine lv_iload_n hx hb d_JI_bitCount_10 rfl (lv_at hl 0 rfl) ?_
  refine lv_ldcw (v := 858993459) hx hb hown (hts _ k_489) d_JI_bitCount_11 ?_
  refine lv_iand hx hb d_JI_bitCount_14 ?_
  refine lv_iload_n hx hb d_JI_bitCount_15 rfl (lv_at hl 0 rfl) ?_
  refine lv_iconst (v := 2) hx hb d_JI_bitCount_16 (by decide) ?_
  refine lv_iushr (v := ((z_1 : Int32).toUInt32 >>> ((2 : Int32).toUInt32 &&& Int32.toUInt32 31)).toInt32) hx hb d_JI_bitCount_17 rfl ?_
  refine lv_ldcw (v := 858993459) hx hb hown (hts _ k_489) d_JI_bitCount_18 ?_
  refine lv_iand hx hb d_JI_bitCount_21 ?_
  refine lv_iadd hx hb d_JI_bitCount_22 ?_
  refine lv_topi (fun z_2 _ => ?_)
  refine lv_istore_n (lv' := [(0, .int z_2)]) hx hb d_JI_bitCount_23 rfl hl (by decide) rfl (fun ls hl => ?_)
  refine lv_iload_n hx hb d_JI_bitCount_24 rfl (lv_at hl 0 rfl) ?_
  refine lv_iload_n hx hb d_JI_bitCount_25 rfl (lv_at hl 0 rfl) ?_
  refine lv_iconst (v := 4) hx hb d_JI_bitCount_26 (by decide) ?_
  refine lv_iushr (v := ((z_2 : Int32).toUInt32 >>> ((4 : Int32).toUInt32 &&& Int32.toUInt32 31)).toInt32) hx hb d_JI_bitCount_27 rfl ?_
  refine lv_iadd hx hb d_JI_bitCount_28 ?_
  refine lv_ldcw (v := 252645135) hx hb hown (hts _ k_490) d_JI_bitCount_29 ?_
  refine lv_iand hx hb d_JI_bitCount_32 ?_
  refine lv_topi (fun z_3 _ => ?_)
  refine lv_istore_n (lv' := [(0, .int z_3)]) hx hb d_JI_bitCount_33 rfl hl (by decide) rfl (fun ls hl => ?_)
  refine lv_iload_n hx hb d_JI_bitCount_34 rfl (lv_at hl 0 rfl) ?_
  refine lv_iload_n hx hb d_JI_bitCount_35 rfl (lv_at hl 0 rfl) ?_
  refine lv_bipush (v := 8) hx hb d_JI_bitCount_36 (by decide) ?_
  refine lv_iushr (v := ((z_3 : Int32).toUInt32 >>> ((8 : Int32).toUInt32 &&& Int32.toUInt32 31)).toInt32) hx hb d_JI_bitCount_38 rfl ?_
  refine lv_iadd hx hb d_JI_bitCount_39 ?_
  refine lv_topi (fun z_4 _ => ?_)
  refine lv_istore_n (lv' := [(0, .int z_4)]) hx hb d_JI_bitCount_40 rfl hl (by decide) rfl (fun ls hl => ?_)
  refine lv_iload_n hx hb d_JI_bitCount_41 rfl (lv_at hl 0 rfl) ?_
  refine lv_iload_n hx hb d_JI_bitCount_42 rfl (lv_at hl 0 rfl) ?_
  refine lv_bipush (v := 16) hx hb d_JI_bitCount_43 (by decide) ?_
  refine lv_iushr (v := ((z_4 : Int32).toUInt32 >>> ((16 : Int32).toUInt32 &&& Int32.toUInt32 31)).toInt32) hx hb d_JI_bitCount_45 rfl ?_
  refine lv_iadd hx hb d_JI_bitCount_46 ?_
  refine lv_topi (fun z_5 _ => ?_)
  refine lv_istore_n (lv' := [(0, .int z_5)]) hx hb d_JI_bitCount_47 rfl hl (by decide) rfl (fun ls hl => ?_)
  refine lv_iload_n hx hb d_JI_bitCount_48 rfl (lv_at hl 0 rfl) ?_
  refine lv_bipush (v := 63) hx hb d_JI_bitCount_49 (by decide) ?_
  refine lv_iand hx hb d_JI_bitCount_51 ?_
  exact W.iret hx hb hr (fun t ht _ => ⟨⟨_, rfl, ⟨_, rfl⟩⟩, ht⟩) (fun q h => by cases h) d_JI_bitCount_52
theorem d_Q_isMajority_0 : decode c_Q_isMajority 0 = .ok (.iconst 2, 1) := by decide +kernel
theorem d_Q_isMajority_1 : decode c_Q_isMajority 1 = .ok (.iload_n 0, 1) := by decide +kernel
theorem d_Q_isMajority_2 : decode c_Q_isMajority 2 = .ok (.iload_n 1, 1) := by decide +kernel
theorem d_Q_isMajority_3 : decode c_Q_isMajority 3 = .ok (.iand, 1) := by decide +kernel
theorem d_Q_isMajority_4 : decode c_Q_isMajority 4 = .ok (.invokestatic 246, 3) := by decide +kernel
theorem d_Q_isMajority_7 : decode c_Q_isMajority 7 = .ok (.imul, 1) := by decide +kernel
theorem d_Q_isMajority_8 : decode c_Q_isMajority 8 = .ok (.iload_n 0, 1) := by decide +kernel
theorem d_Q_isMajority_9 : decode c_Q_isMajority 9 = .ok (.invokestatic 246, 3) := by decide +kernel
theorem d_Q_isMajority_12 : decode c_Q_isMajority 12 = .ok (.if_icmp .le 7, 3) := by decide +kernel
theorem d_Q_isMajority_15 : decode c_Q_isMajority 15 = .ok (.iconst 1, 1) := by decide +kernel
theorem d_Q_isMajority_16 : decode c_Q_isMajority 16 = .ok (.goto 4, 3) := by decide +kernel
theorem d_Q_isMajority_19 : decode c_Q_isMajority 19 = .ok (.iconst 0, 1) := by decide +kernel
theorem d_Q_isMajority_20 : decode c_Q_isMajority 20 = .ok (.ireturn, 1) := by decide +kernel
set_option maxHeartbeats 4000000 in
set_option maxRecDepth 100000 in
/-- isMajority: it returns 0 or 1 -/
theorem C_Q_isMajority (l : Launch) (D : va_G) (t : Nat → ClassId) (a b : Int32) : xr_C l D vwCl (xTY t) y_Q_isMajority c_Q_isMajority 2 (Option.some FieldType.boolean) ({ frames := 1, cells := 0, slots := 0, locals := 20 }) [.int a, .int b] [] (xr_P (fun v => ∃ b : Int32, v = some (.int b) ∧ (b = 0 ∨ b = 1))) := by
  refine xr_of (by decide) (Nat.le_of_ble_eq_true rfl) ?_
  intro p e s m below meth c ls Z hr hlocks hP hl
  obtain ⟨hx, hb, hml, hown, hK⟩ := id Z
  have hown : s.vm.findClass "QuorumStore" = some m.cls := hown
  have hts := hK.1.at (args := ([.int a, .int b] : List Value).toArray)
  have hl : lv_has ls 2 [(0, .int a), (1, .int b)] := hl
  refine lv_iconst (v := 2) hx hb d_Q_isMajority_0 (by decide) ?_
  refine lv_iload_n hx hb d_Q_isMajority_1 rfl (lv_at hl 0 rfl) ?_
  refine lv_iload_n hx hb d_Q_isMajority_2 rfl (lv_at hl 1 rfl) ?_
  refine lv_iand hx hb d_Q_isMajority_3 ?_
  refine xr_callP (xs_S (As := [.int ((a) &&& (b))]) (rest := [.int 2]) Z (C_JI_bitCount l D t _) m_JI_bitCount k_485 k_486 rfl rfl ⟨Nat.le_of_ble_eq_true rfl, Nat.le_of_ble_eq_true rfl⟩ (xr_pre hK hP) rfl hl.1 rfl (Nat.le_of_ble_eq_true rfl) d_Q_isMajority_4 ⟨Nat.le_of_ble_eq_true rfl, Nat.le_of_ble_eq_true rfl⟩) (fun v hv => ?_)
  obtain ⟨b_1, rfl⟩ := hv
  refine lv_imul hx hb d_Q_isMajority_7 ?_
  refine lv_iload_n hx hb d_Q_isMajority_8 rfl (lv_at hl 0 rfl) ?_
  refine xr_callP (xs_S (As := [.int a]) (rest := [.int ((2) * (b_1))]) Z (C_JI_bitCount l D t _) m_JI_bitCount k_485 k_486 rfl rfl ⟨Nat.le_of_ble_eq_true rfl, Nat.le_of_ble_eq_true rfl⟩ (xr_pre hK hP) rfl hl.1 rfl (Nat.le_of_ble_eq_true rfl) d_Q_isMajority_9 ⟨Nat.le_of_ble_eq_true rfl, Nat.le_of_ble_eq_true rfl⟩) (fun v hv => ?_)
  obtain ⟨b_2, rfl⟩ := hv
  refine lv_icmp_le (tgt := 19) hx hb d_Q_isMajority_12 (by decide) (fun c_3 => ?_) (fun c_3 => ?_)
  · refine lv_iconst (v := 0) hx hb d_Q_isMajority_19 (by decide) ?_
    exact W.zret hx hb hr (by decide) (fun t ht _ => ⟨⟨_, rfl, ⟨0, rfl, Or.inl rfl⟩⟩, ht⟩) (fun q h => by cases h) d_Q_isMajority_20
  · refine lv_iconst (v := 1) hx hb d_Q_isMajority_15 (by decide) ?_
    refine lv_goto (tgt := 20) hx hb d_Q_isMajority_16 (by decide) ?_
    exact W.zret hx hb hr (by decide) (fun t ht _ => ⟨⟨_, rfl, ⟨1, rfl, Or.inr rfl⟩⟩, ht⟩) (fun q h => by cases h) d_Q_isMajority_20
theorem d_L_dequeue_0 : decode c_L_dequeue 0 = .ok (.aload_n 0, 1) := by decide +kernel
theorem d_L_dequeue_1 : decode c_L_dequeue 1 = .ok (.getfield 43, 3) := by decide +kernel
theorem d_L_dequeue_4 : decode c_L_dequeue 4 = .ok (.ifCond .ne 5, 3) := by decide +kernel
theorem d_L_dequeue_7 : decode c_L_dequeue 7 = .ok (.aconst_null, 1) := by decide +kernel
theorem d_L_dequeue_8 : decode c_L_dequeue 8 = .ok (.areturn, 1) := by decide +kernel
set_option maxHeartbeats 4000000 in
set_option maxRecDepth 100000 in
/-- dequeue of an empty queue -/
theorem C_L_dequeue (l : Launch) (D : va_G) (t : Nat → ClassId) (q : Nat → Nat) (no : Nat) (gr sp : Int32) : xr_C l D vwCl (xTY t) y_L_dequeue c_L_dequeue 3 (Option.some (FieldType.object "QuorumStore$Value")) ({ frames := 0, cells := 0, slots := 0, locals := 0 }) [.ref ((q 15))] [zO 0 (q 15) [.ref no, .int gr, .ref ((q 16)), .ref ((q 20)), .ref ((q 24)), .int 0, .int 0, .int sp], zO 4 (q 16) [.ref ((q 17)), .ref ((q 18)), .ref ((q 19))], zI t (q 17) 32 (fun _ => 0), zI t (q 18) 32 (fun _ => 0), zA t 2 (q 19) 32 (fun _ => none), zO 4 (q 20) [.ref ((q 21)), .ref ((q 22)), .ref ((q 23))], zI t (q 21) 4 (fun _ => 0), zI t (q 22) 4 (fun _ => 0), zA t 2 (q 23) 4 (fun _ => none)] (xr_Q (some .null)) := by
  refine xr_of (by decide) (Nat.le_of_ble_eq_true rfl) ?_
  intro p e s m below meth c ls Z hr hlocks hP hl
  obtain ⟨hx, hb, hml, hown, hK⟩ := id Z
  have hown : s.vm.findClass "QuorumStore$Lead" = some m.cls := hown
  have hts := hK.1.at (args := ([.ref ((q 15))] : List Value).toArray)
  have hl : lv_has ls 3 [(0, .ref ((q 15)))] := hl
  refine lv_aload_n hx hb d_L_dequeue_0 rfl (lv_at hl 0 rfl) ?_
  refine va_get (ci := 0) (C := "QuorumStore$Lead") (T := TX0) (N := 8) hx hb hts inX0 hown hK.2 hP 0 rfl rfl 5 (by decide) (hts _ k_144) (fun _ h9 => h9) rfl d_L_dequeue_1 ?_
  refine lv_if_ne (tgt := 9) hx hb d_L_dequeue_4 (by decide) (fun c_1 => absurd c_1 (fun h => h rfl)) (fun _ => ?_)
  refine lv_null hx hb d_L_dequeue_7 ?_
  exact W.aret hx hb hr (Or.inl ⟨_, rfl⟩) (Or.inl rfl) (fun t ht _ => ⟨rfl, ht⟩) (fun q h => by cases h) d_L_dequeue_8
theorem d_L_valueFor_0 : decode c_L_valueFor 0 = .ok (.aload_n 0, 1) := by decide +kernel
theorem d_L_valueFor_1 : decode c_L_valueFor 1 = .ok (.getfield 25, 3) := by decide +kernel
theorem d_L_valueFor_4 : decode c_L_valueFor 4 = .ok (.iload_n 1, 1) := by decide +kernel
theorem d_L_valueFor_5 : decode c_L_valueFor 5 = .ok (.invokevirtual 50, 3) := by decide +kernel
theorem d_L_valueFor_8 : decode c_L_valueFor 8 = .ok (.astore_n 2, 1) := by decide +kernel
theorem d_L_valueFor_9 : decode c_L_valueFor 9 = .ok (.aload_n 2, 1) := by decide +kernel
theorem d_L_valueFor_10 : decode c_L_valueFor 10 = .ok (.ifnull 5, 3) := by decide +kernel
theorem d_L_valueFor_15 : decode c_L_valueFor 15 = .ok (.aload_n 0, 1) := by decide +kernel
theorem d_L_valueFor_16 : decode c_L_valueFor 16 = .ok (.getfield 25, 3) := by decide +kernel
theorem d_L_valueFor_19 : decode c_L_valueFor 19 = .ok (.invokevirtual 58, 3) := by decide +kernel
theorem d_L_valueFor_22 : decode c_L_valueFor 22 = .ok (.iload_n 1, 1) := by decide +kernel
theorem d_L_valueFor_23 : decode c_L_valueFor 23 = .ok (.if_icmp .gt 14, 3) := by decide +kernel
theorem d_L_valueFor_26 : decode c_L_valueFor 26 = .ok (.aload_n 0, 1) := by decide +kernel
theorem d_L_valueFor_27 : decode c_L_valueFor 27 = .ok (.getfield 29, 3) := by decide +kernel
theorem d_L_valueFor_30 : decode c_L_valueFor 30 = .ok (.invokevirtual 58, 3) := by decide +kernel
theorem d_L_valueFor_33 : decode c_L_valueFor 33 = .ok (.iload_n 1, 1) := by decide +kernel
theorem d_L_valueFor_34 : decode c_L_valueFor 34 = .ok (.if_icmp .le 8, 3) := by decide +kernel
theorem d_L_valueFor_42 : decode c_L_valueFor 42 = .ok (.aload_n 0, 1) := by decide +kernel
theorem d_L_valueFor_43 : decode c_L_valueFor 43 = .ok (.invokevirtual 62, 3) := by decide +kernel
theorem d_L_valueFor_46 : decode c_L_valueFor 46 = .ok (.areturn, 1) := by decide +kernel
set_option maxHeartbeats 4000000 in
set_option maxRecDepth 100000 in
/-- valueFor(1) where nothing is there -/
theorem C_L_valueFor (l : Launch) (D : va_G) (t : Nat → ClassId) (q : Nat → Nat) (no : Nat) (gr sp : Int32) : xr_C l D vwCl (xTY t) y_L_valueFor c_L_valueFor 3 (Option.some (FieldType.object "QuorumStore$Value")) ({ frames := 2, cells := 0, slots := 0, locals := 36 }) [.ref ((q 15)), .int 1] [zO 0 (q 15) [.ref no, .int gr, .ref ((q 16)), .ref ((q 20)), .ref ((q 24)), .int 0, .int 0, .int sp], zO 4 (q 16) [.ref ((q 17)), .ref ((q 18)), .ref ((q 19))], zI t (q 17) 32 (fun _ => 0), zI t (q 18) 32 (fun _ => 0), zA t 2 (q 19) 32 (fun _ => none), zO 4 (q 20) [.ref ((q 21)), .ref ((q 22)), .ref ((q 23))], zI t (q 21) 4 (fun _ => 0), zI t (q 22) 4 (fun _ => 0), zA t 2 (q 23) 4 (fun _ => none)] (xr_Q (some .null)) := by
  refine xr_of (by decide) (Nat.le_of_ble_eq_true rfl) ?_
  intro p e s m below meth c ls Z hr hlocks hP hl
  obtain ⟨hx, hb, hml, hown, hK⟩ := id Z
  have hown : s.vm.findClass "QuorumStore$Lead" = some m.cls := hown
  have hts := hK.1.at (args := ([.ref ((q 15)), .int 1] : List Value).toArray)
  have hl : lv_has ls 3 [(0, .ref ((q 15))), (1, .int 1)] := hl
  refine lv_aload_n hx hb d_L_valueFor_0 rfl (lv_at hl 0 rfl) ?_
  refine va_get (ci := 0) (C := "QuorumStore$Lead") (T := TX0) (N := 8) hx hb hts inX0 hown hK.2 hP 0 rfl rfl 2 (by decide) (hts _ k_138) (fun _ h9 => h9) rfl d_L_valueFor_1 ?_
  refine lv_iload_n hx hb d_L_valueFor_4 rfl (lv_at hl 1 rfl) ?_
  refine xr_call (xs_V (As := [.int 1]) (rest := []) Z (C_R_valueAt l D t (q 16) (q 17) (q 18) (q 19) 32 (by decide) 1) m_R_valueAt k_461 k_421 k_422 rfl rfl ⟨Nat.le_of_ble_eq_true rfl, Nat.le_of_ble_eq_true rfl⟩ (va_recv hK.2 hP (ci := 4) (q0 := 1) rfl rfl) (xr_pre hK (hP.sub [1, 2, 3, 4] rfl)) rfl hl.1 rfl (Nat.le_of_ble_eq_true rfl) d_L_valueFor_5 ⟨Nat.le_of_ble_eq_true rfl, Nat.le_of_ble_eq_true rfl⟩) ?_
  refine lv_astore_nN (lv' := [(2, .null), (0, .ref ((q 15))), (1, .int 1)]) hx hb d_L_valueFor_8 rfl hl (by decide) rfl (fun ls hl => ?_)
  refine lv_aload_nN hx hb d_L_valueFor_9 rfl (lv_at hl 0 rfl) ?_
  refine lv_ifnullN (tgt := 15) hx hb d_L_valueFor_10 (by decide) ?_
  refine lv_aload_n hx hb d_L_valueFor_15 rfl (lv_at hl 1 rfl) ?_
  refine va_get (ci := 0) (C := "QuorumStore$Lead") (T := TX0) (N := 8) hx hb hts inX0 hown hK.2 hP 0 rfl rfl 2 (by decide) (hts _ k_138) (fun _ h9 => h9) rfl d_L_valueFor_16 ?_
  refine xr_call (xs_V (As := []) (rest := []) Z (C_R_lastSlot l D t (q 16) (q 17) (q 18) (q 19) 32 (by decide)) m_R_lastSlot k_495 k_496 k_497 rfl rfl ⟨Nat.le_of_ble_eq_true rfl, Nat.le_of_ble_eq_true rfl⟩ (va_recv hK.2 hP (ci := 4) (q0 := 1) rfl rfl) (xr_pre hK (hP.sub [1, 2, 3, 4] rfl)) rfl hl.1 rfl (Nat.le_of_ble_eq_true rfl) d_L_valueFor_19 ⟨Nat.le_of_ble_eq_true rfl, Nat.le_of_ble_eq_true rfl⟩) ?_
  refine lv_iload_n hx hb d_L_valueFor_22 rfl (lv_at hl 2 rfl) ?_
  refine lv_icmp_gt (tgt := 37) hx hb d_L_valueFor_23 (by decide) (fun c_2 => absurd c_2 (by decide)) (fun _ => ?_)
  refine lv_aload_n hx hb d_L_valueFor_26 rfl (lv_at hl 1 rfl) ?_
  refine va_get (ci := 0) (C := "QuorumStore$Lead") (T := TX0) (N := 8) hx hb hts inX0 hown hK.2 hP 0 rfl rfl 3 (by decide) (hts _ k_140) (fun _ h9 => h9) rfl d_L_valueFor_27 ?_
  refine xr_call (xs_V (As := []) (rest := []) Z (C_R_lastSlot l D t (q 20) (q 21) (q 22) (q 23) 4 (by decide)) m_R_lastSlot k_495 k_496 k_497 rfl rfl ⟨Nat.le_of_ble_eq_true rfl, Nat.le_of_ble_eq_true rfl⟩ (va_recv hK.2 hP (ci := 4) (q0 := 5) rfl rfl) (xr_pre hK (hP.sub [5, 6, 7, 8] rfl)) rfl hl.1 rfl (Nat.le_of_ble_eq_true rfl) d_L_valueFor_30 ⟨Nat.le_of_ble_eq_true rfl, Nat.le_of_ble_eq_true rfl⟩) ?_
  refine lv_iload_n hx hb d_L_valueFor_33 rfl (lv_at hl 2 rfl) ?_
  refine lv_icmp_le (tgt := 42) hx hb d_L_valueFor_34 (by decide) (fun _ => ?_) (fun c_3 => absurd (by decide) c_3)
  refine lv_aload_n hx hb d_L_valueFor_42 rfl (lv_at hl 1 rfl) ?_
  refine xr_call (xs_V (As := []) (rest := []) Z (C_L_dequeue l D t q no gr sp) m_L_dequeue k_500 k_502 ks_9 rfl rfl ⟨Nat.le_of_ble_eq_true rfl, Nat.le_of_ble_eq_true rfl⟩ (va_recv hK.2 hP (ci := 0) (q0 := 0) rfl rfl) (xr_pre hK hP) rfl hl.1 rfl (Nat.le_of_ble_eq_true rfl) d_L_valueFor_43 ⟨Nat.le_of_ble_eq_true rfl, Nat.le_of_ble_eq_true rfl⟩) ?_
  exact W.aret hx hb hr (Or.inl ⟨_, rfl⟩) (Or.inl rfl) (fun t ht _ => ⟨rfl, ht⟩) (fun q h => by cases h) d_L_valueFor_46
theorem d_L_lookAt_0 : decode c_L_lookAt 0 = .ok (.iload_n 2, 1) := by decide +kernel
theorem d_L_lookAt_1 : decode c_L_lookAt 1 = .ok (.iconst 1, 1) := by decide +kernel
theorem d_L_lookAt_2 : decode c_L_lookAt 2 = .ok (.iadd, 1) := by decide +kernel
theorem d_L_lookAt_3 : decode c_L_lookAt 3 = .ok (.istore_n 3, 1) := by decide +kernel
theorem d_L_lookAt_4 : decode c_L_lookAt 4 = .ok (.iload_n 3, 1) := by decide +kernel
theorem d_L_lookAt_5 : decode c_L_lookAt 5 = .ok (.iload_n 2, 1) := by decide +kernel
theorem d_L_lookAt_6 : decode c_L_lookAt 6 = .ok (.bipush 32, 2) := by decide +kernel
theorem d_L_lookAt_8 : decode c_L_lookAt 8 = .ok (.iadd, 1) := by decide +kernel
theorem d_L_lookAt_9 : decode c_L_lookAt 9 = .ok (.if_icmp .gt 43, 3) := by decide +kernel
theorem d_L_lookAt_12 : decode c_L_lookAt 12 = .ok (.aload_n 1, 1) := by decide +kernel
theorem d_L_lookAt_13 : decode c_L_lookAt 13 = .ok (.iload_n 3, 1) := by decide +kernel
theorem d_L_lookAt_14 : decode c_L_lookAt 14 = .ok (.invokevirtual 46, 3) := by decide +kernel
theorem d_L_lookAt_17 : decode c_L_lookAt 17 = .ok (.aload_n 0, 1) := by decide +kernel
theorem d_L_lookAt_18 : decode c_L_lookAt 18 = .ok (.getfield 25, 3) := by decide +kernel
theorem d_L_lookAt_21 : decode c_L_lookAt 21 = .ok (.iload_n 3, 1) := by decide +kernel
theorem d_L_lookAt_22 : decode c_L_lookAt 22 = .ok (.invokevirtual 46, 3) := by decide +kernel
theorem d_L_lookAt_25 : decode c_L_lookAt 25 = .ok (.if_icmp .le 21, 3) := by decide +kernel
theorem d_L_lookAt_46 : decode c_L_lookAt 46 = .ok (.iinc 3 1, 3) := by decide +kernel
theorem d_L_lookAt_49 : decode c_L_lookAt 49 = .ok (.goto (-45), 3) := by decide +kernel
theorem d_L_lookAt_52 : decode c_L_lookAt 52 = .ok (.return_, 1) := by decide +kernel
set_option maxHeartbeats 4000000 in
set_option maxRecDepth 100000 in
/-- lookAt of an empty row -/
theorem C_L_lookAt (l : Launch) (D : va_G) (t : Nat → ClassId) (q : Nat → Nat) (no : Nat) (gr sp : Int32) : xr_C l D vwCl (xTY t) y_L_lookAt c_L_lookAt 4 (Option.none : Option FieldType) ({ frames := 1, cells := 0, slots := 0, locals := 22 }) [.ref ((q 15)), .ref ((q 7)), .int 0] [zO 0 (q 15) [.ref no, .int gr, .ref ((q 16)), .ref ((q 20)), .ref ((q 24)), .int 0, .int 0, .int sp], zO 4 (q 16) [.ref ((q 17)), .ref ((q 18)), .ref ((q 19))], zI t (q 17) 32 (fun _ => 0), zI t (q 18) 32 (fun _ => 0), zA t 2 (q 19) 32 (fun _ => none), zO 4 (q 7) [.ref ((q 8)), .ref ((q 9)), .ref ((q 10))], zI t (q 8) 32 (fun _ => 0), zI t (q 9) 32 (fun _ => 0), zA t 2 (q 10) 32 (fun _ => none)] (xr_Q none) := by
  refine xr_of (by decide) (Nat.le_of_ble_eq_true rfl) ?_
  intro p e s m below meth c ls Z hr hlocks hP hl
  obtain ⟨hx, hb, hml, hown, hK⟩ := id Z
  have hown : s.vm.findClass "QuorumStore$Lead" = some m.cls := hown
  have hts := hK.1.at (args := ([.ref ((q 15)), .ref ((q 7)), .int 0] : List Value).toArray)
  have hl : lv_has ls 4 [(0, .ref ((q 15))), (1, .ref ((q 7))), (2, .int 0)] := hl
  refine lv_iload_n hx hb d_L_lookAt_0 rfl (lv_at hl 2 rfl) ?_
  refine lv_iconst (v := 1) hx hb d_L_lookAt_1 (by decide) ?_
  refine lv_iadd hx hb d_L_lookAt_2 ?_
  refine lv_istore_n (lv' := [(3, .int ((0) + (1))), (0, .ref ((q 15))), (1, .ref ((q 7))), (2, .int 0)]) hx hb d_L_lookAt_3 rfl hl (by decide) rfl (fun ls hl => ?_)
  have loop : ∀ (n i : Nat), i + n = 32 → ∀ (ls : Array Slot), lv_has ls 4 [(3, .int (nI (i + 1))), (0, .ref (q 15)), (1, .ref (q 7)), (2, .int 0)] → W p l e ({ frames := 1, cells := 0, slots := 0, locals := 22 } : Room) s m ([.ref ((q 15)), .ref ((q 7)), .int 0] : List Value).toArray below meth c s.heap [] 0 0 (MQ below (xr_Q none) ([.ref ((q 15)), .ref ((q 7)), .int 0] : List Value).toArray s 0 0 (fun _ => False)) (F0 m 4 ls []) := by
    intro n
    induction n with
    | zero =>
      intro i hi ls hl
      refine lv_iload_n hx hb d_L_lookAt_4 rfl (lv_at hl 0 rfl) ?_
      refine lv_iload_n hx hb d_L_lookAt_5 rfl (lv_at hl 3 rfl) ?_
      refine lv_bipush (v := 32) hx hb d_L_lookAt_6 (by decide) ?_
      refine lv_iadd hx hb d_L_lookAt_8 ?_
      refine lv_icmp_gt (tgt := 52) hx hb d_L_lookAt_9 (by decide) (fun _ => ?_) (fun c_1 => absurd (show nI 32 < nI (i + 1) from nI_lt (by omega) (by omega)) c_1)
      exact W.vret hx hb hr (fun t ht _ => ⟨rfl, ht⟩) (fun q h => by cases h) d_L_lookAt_52
    | succ n ih =>
      intro i hi ls hl
      refine lv_iload_n hx hb d_L_lookAt_4 rfl (lv_at hl 0 rfl) ?_
      refine lv_iload_n hx hb d_L_lookAt_5 rfl (lv_at hl 3 rfl) ?_
      refine lv_bipush (v := 32) hx hb d_L_lookAt_6 (by decide) ?_
      refine lv_iadd hx hb d_L_lookAt_8 ?_
      refine lv_icmp_gt (tgt := 52) hx hb d_L_lookAt_9 (by decide) (fun c_2 => absurd c_2 (show ¬ nI 32 < nI (i + 1) from nI_nlt (by omega) (by omega))) (fun _ => ?_)
      refine lv_aload_n hx hb d_L_lookAt_12 rfl (lv_at hl 2 rfl) ?_
      refine lv_iload_n hx hb d_L_lookAt_13 rfl (lv_at hl 0 rfl) ?_
      refine xr_call (xs_V (As := [.int (nI (i + 1))]) (rest := []) Z (C_R_markAt l D t (q 7) (q 8) (q 9) (q 10) 32 (by decide) _) m_R_markAt k_460 k_426 k_427 rfl rfl ⟨Nat.le_of_ble_eq_true rfl, Nat.le_of_ble_eq_true rfl⟩ (va_recv hK.2 hP (ci := 4) (q0 := 5) rfl rfl) (xr_pre hK (hP.sub [5, 6, 7, 8] rfl)) rfl hl.1 rfl (Nat.le_of_ble_eq_true rfl) d_L_lookAt_14 ⟨Nat.le_of_ble_eq_true rfl, Nat.le_of_ble_eq_true rfl⟩) ?_
      refine lv_aload_n hx hb d_L_lookAt_17 rfl (lv_at hl 1 rfl) ?_
      refine va_get (ci := 0) (C := "QuorumStore$Lead") (T := TX0) (N := 8) hx hb hts inX0 hown hK.2 hP 0 rfl rfl 2 (by decide) (hts _ k_138) (fun _ h9 => h9) rfl d_L_lookAt_18 ?_
      refine lv_iload_n hx hb d_L_lookAt_21 rfl (lv_at hl 0 rfl) ?_
      refine xr_call (xs_V (As := [.int (nI (i + 1))]) (rest := [.int 0]) Z (C_R_markAt l D t (q 16) (q 17) (q 18) (q 19) 32 (by decide) _) m_R_markAt k_460 k_426 k_427 rfl rfl ⟨Nat.le_of_ble_eq_true rfl, Nat.le_of_ble_eq_true rfl⟩ (va_recv hK.2 hP (ci := 4) (q0 := 1) rfl rfl) (xr_pre hK (hP.sub [1, 2, 3, 4] rfl)) rfl hl.1 rfl (Nat.le_of_ble_eq_true rfl) d_L_lookAt_22 ⟨Nat.le_of_ble_eq_true rfl, Nat.le_of_ble_eq_true rfl⟩) ?_
      refine lv_icmp_le (tgt := 46) hx hb d_L_lookAt_25 (by decide) (fun _ => ?_) (fun c_3 => absurd (by decide) c_3)
      refine lv_iinc (v := nI (i + 1 + 1)) (lv' := [(3, .int (nI (i + 1 + 1))), (0, .ref ((q 15))), (1, .ref ((q 7))), (2, .int 0)]) hx hb d_L_lookAt_46 hl (k := 0) rfl (nI_1 (i + 1)) (by decide) rfl (fun ls hl => ?_)
      refine lv_goto (tgt := 4) hx hb d_L_lookAt_49 (by decide) ?_
      exact ih (i + 1) (by omega) ls (lv_sub hl [0, 1, 2, 3] rfl)
  exact loop 32 0 (by omega) ls (lv_sub hl [0, 1, 2, 3] rfl)
theorem d_D_settle_0 : decode c_D_settle 0 = .ok (.aload_n 0, 1) := by decide +kernel
theorem d_D_settle_1 : decode c_D_settle 1 = .ok (.getfield 26, 3) := by decide +kernel
theorem d_D_settle_4 : decode c_D_settle 4 = .ok (.getfield 133, 3) := by decide +kernel
theorem d_D_settle_7 : decode c_D_settle 7 = .ok (.aload_n 0, 1) := by decide +kernel
theorem d_D_settle_8 : decode c_D_settle 8 = .ok (.getfield 70, 3) := by decide +kernel
theorem d_D_settle_11 : decode c_D_settle 11 = .ok (.if_icmp .ne 4, 3) := by decide +kernel
theorem d_D_settle_14 : decode c_D_settle 14 = .ok (.return_, 1) := by decide +kernel
set_option maxHeartbeats 4000000 in
set_option maxRecDepth 100000 in
/-- settle: nothing is due -/
theorem C_D_settle (l : Launch) (D : va_G) (t : Nat → ClassId) (q : Nat → Nat) (nw no : Nat) (nu pr lz bl tm le gr sp mk : Int32) : xr_C l D vwCl (xTY t) y_D_settle c_D_settle 2 (Option.none : Option FieldType) ({ frames := 0, cells := 0, slots := 0, locals := 0 }) [.ref ((q 0))] [zO 3 (q 0) [.int nu, .ref nw, .int pr, .int 0, .int 0, .ref ((q 1)), .ref ((q 7)), .ref ((q 11)), .int 1, .int lz, .int bl, .int tm, .int le, .int 0, .ref ((q 15))], zO 5 (q 1) [.ref ((q 2)), .ref ((q 3)), .ref ((q 4)), .ref ((q 5)), .ref ((q 6)), .int 1], zJ t (q 2) 32 (fun _ => 1099511627776), zI t (q 3) 8 (fun _ => 0), zJ t (q 4) 8 (fun _ => 0), zI t (q 5) 4 (xm 1), zI t (q 6) 4 (xm mk), zO 4 (q 7) [.ref ((q 8)), .ref ((q 9)), .ref ((q 10))], zI t (q 8) 32 (fun _ => 0), zI t (q 9) 32 (fun _ => 0), zA t 2 (q 10) 32 (fun _ => none), zO 4 (q 11) [.ref ((q 12)), .ref ((q 13)), .ref ((q 14))], zI t (q 12) 64 (fun _ => 0), zI t (q 13) 64 (fun _ => 0), zA t 2 (q 14) 64 (fun _ => none), zO 0 (q 15) [.ref no, .int gr, .ref ((q 16)), .ref ((q 20)), .ref ((q 24)), .int 0, .int 0, .int sp], zO 4 (q 16) [.ref ((q 17)), .ref ((q 18)), .ref ((q 19))], zI t (q 17) 32 (fun _ => 0), zI t (q 18) 32 (fun _ => 0), zA t 2 (q 19) 32 (fun _ => none), zO 4 (q 20) [.ref ((q 21)), .ref ((q 22)), .ref ((q 23))], zI t (q 21) 4 (fun _ => 0), zI t (q 22) 4 (fun _ => 0), zA t 2 (q 23) 4 (fun _ => none), zA t 2 (q 24) 16 (fun _ => none)] (xr_Q none) := by
  refine xr_of (by decide) (Nat.le_of_ble_eq_true rfl) ?_
  intro p e s m below meth c ls Z hr hlocks hP hl
  obtain ⟨hx, hb, hml, hown, hK⟩ := id Z
  have hown : s.vm.findClass "QuorumStore$Node" = some m.cls := hown
  have hts := hK.1.at (args := ([.ref ((q 0))] : List Value).toArray)
  have hl : lv_has ls 2 [(0, .ref ((q 0)))] := hl
  refine lv_aload_n hx hb d_D_settle_0 rfl (lv_at hl 0 rfl) ?_
  refine va_get (ci := 3) (C := "QuorumStore$Node") (T := TX3) (N := 15) hx hb hts inX3 hown hK.2 hP 0 rfl rfl 14 (by decide) (hts _ k_222) (fun _ h9 => h9) rfl d_D_settle_1 ?_
  refine va_get (ci := 0) (C := "QuorumStore$Lead") (T := TX0) (N := 8) hx hb hts inX0 hown hK.2 hP 15 rfl rfl 6 (by decide) (hts _ k_146) (fun _ h9 => h9) rfl d_D_settle_4 ?_
  refine lv_aload_n hx hb d_D_settle_7 rfl (lv_at hl 0 rfl) ?_
  refine va_get (ci := 3) (C := "QuorumStore$Node") (T := TX3) (N := 15) hx hb hts inX3 hown hK.2 hP 0 rfl rfl 3 (by decide) (hts _ k_201) (fun _ h9 => h9) rfl d_D_settle_8 ?_
  refine lv_icmp_ne (tgt := 15) hx hb d_D_settle_11 (by decide) (fun c_1 => absurd c_1 (fun h => h rfl)) (fun _ => ?_)
  exact W.vret hx hb hr (fun t ht _ => ⟨rfl, ht⟩) (fun q h => by cases h) d_D_settle_14
theorem d_D_openSlot_0 : decode c_D_openSlot 0 = .ok (.aload_n 0, 1) := by decide +kernel
theorem d_D_openSlot_1 : decode c_D_openSlot 1 = .ok (.getfield 70, 3) := by decide +kernel
theorem d_D_openSlot_4 : decode c_D_openSlot 4 = .ok (.iconst 1, 1) := by decide +kernel
theorem d_D_openSlot_5 : decode c_D_openSlot 5 = .ok (.iadd, 1) := by decide +kernel
theorem d_D_openSlot_6 : decode c_D_openSlot 6 = .ok (.istore_n 1, 1) := by decide +kernel
theorem d_D_openSlot_7 : decode c_D_openSlot 7 = .ok (.iload_n 1, 1) := by decide +kernel
theorem d_D_openSlot_8 : decode c_D_openSlot 8 = .ok (.aload_n 0, 1) := by decide +kernel
theorem d_D_openSlot_9 : decode c_D_openSlot 9 = .ok (.getfield 70, 3) := by decide +kernel
theorem d_D_openSlot_12 : decode c_D_openSlot 12 = .ok (.iconst 4, 1) := by decide +kernel
theorem d_D_openSlot_13 : decode c_D_openSlot 13 = .ok (.iadd, 1) := by decide +kernel
theorem d_D_openSlot_14 : decode c_D_openSlot 14 = .ok (.if_icmp .gt 36, 3) := by decide +kernel
theorem d_D_openSlot_17 : decode c_D_openSlot 17 = .ok (.aload_n 0, 1) := by decide +kernel
theorem d_D_openSlot_18 : decode c_D_openSlot 18 = .ok (.getfield 26, 3) := by decide +kernel
theorem d_D_openSlot_21 : decode c_D_openSlot 21 = .ok (.getfield 106, 3) := by decide +kernel
theorem d_D_openSlot_24 : decode c_D_openSlot 24 = .ok (.iload_n 1, 1) := by decide +kernel
theorem d_D_openSlot_25 : decode c_D_openSlot 25 = .ok (.invokevirtual 109, 3) := by decide +kernel
theorem d_D_openSlot_28 : decode c_D_openSlot 28 = .ok (.ifnonnull 16, 3) := by decide +kernel
theorem d_D_openSlot_31 : decode c_D_openSlot 31 = .ok (.aload_n 0, 1) := by decide +kernel
theorem d_D_openSlot_32 : decode c_D_openSlot 32 = .ok (.getfield 20, 3) := by decide +kernel
theorem d_D_openSlot_35 : decode c_D_openSlot 35 = .ok (.iload_n 1, 1) := by decide +kernel
theorem d_D_openSlot_36 : decode c_D_openSlot 36 = .ok (.invokevirtual 109, 3) := by decide +kernel
theorem d_D_openSlot_39 : decode c_D_openSlot 39 = .ok (.ifnonnull 5, 3) := by decide +kernel
theorem d_D_openSlot_42 : decode c_D_openSlot 42 = .ok (.iload_n 1, 1) := by decide +kernel
theorem d_D_openSlot_43 : decode c_D_openSlot 43 = .ok (.ireturn, 1) := by decide +kernel
set_option maxHeartbeats 4000000 in
set_option maxRecDepth 100000 in
/-- openSlot: the first -/
theorem C_D_openSlot (l : Launch) (D : va_G) (t : Nat → ClassId) (q : Nat → Nat) (nw no : Nat) (nu pr lz bl tm le gr sp mk : Int32) : xr_C l D vwCl (xTY t) y_D_openSlot c_D_openSlot 2 (Option.some FieldType.int) ({ frames := 1, cells := 0, slots := 0, locals := 22 }) [.ref ((q 0))] [zO 3 (q 0) [.int nu, .ref nw, .int pr, .int 0, .int 0, .ref ((q 1)), .ref ((q 7)), .ref ((q 11)), .int 1, .int lz, .int bl, .int tm, .int le, .int 0, .ref ((q 15))], zO 5 (q 1) [.ref ((q 2)), .ref ((q 3)), .ref ((q 4)), .ref ((q 5)), .ref ((q 6)), .int 1], zJ t (q 2) 32 (fun _ => 1099511627776), zI t (q 3) 8 (fun _ => 0), zJ t (q 4) 8 (fun _ => 0), zI t (q 5) 4 (xm 1), zI t (q 6) 4 (xm mk), zO 4 (q 7) [.ref ((q 8)), .ref ((q 9)), .ref ((q 10))], zI t (q 8) 32 (fun _ => 0), zI t (q 9) 32 (fun _ => 0), zA t 2 (q 10) 32 (fun _ => none), zO 4 (q 11) [.ref ((q 12)), .ref ((q 13)), .ref ((q 14))], zI t (q 12) 64 (fun _ => 0), zI t (q 13) 64 (fun _ => 0), zA t 2 (q 14) 64 (fun _ => none), zO 0 (q 15) [.ref no, .int gr, .ref ((q 16)), .ref ((q 20)), .ref ((q 24)), .int 0, .int 0, .int sp], zO 4 (q 16) [.ref ((q 17)), .ref ((q 18)), .ref ((q 19))], zI t (q 17) 32 (fun _ => 0), zI t (q 18) 32 (fun _ => 0), zA t 2 (q 19) 32 (fun _ => none), zO 4 (q 20) [.ref ((q 21)), .ref ((q 22)), .ref ((q 23))], zI t (q 21) 4 (fun _ => 0), zI t (q 22) 4 (fun _ => 0), zA t 2 (q 23) 4 (fun _ => none), zA t 2 (q 24) 16 (fun _ => none)] (xr_Q (some (.int 1))) := by
  refine xr_of (by decide) (Nat.le_of_ble_eq_true rfl) ?_
  intro p e s m below meth c ls Z hr hlocks hP hl
  obtain ⟨hx, hb, hml, hown, hK⟩ := id Z
  have hown : s.vm.findClass "QuorumStore$Node" = some m.cls := hown
  have hts := hK.1.at (args := ([.ref ((q 0))] : List Value).toArray)
  have hl : lv_has ls 2 [(0, .ref ((q 0)))] := hl
  refine lv_aload_n hx hb d_D_openSlot_0 rfl (lv_at hl 0 rfl) ?_
  refine va_get (ci := 3) (C := "QuorumStore$Node") (T := TX3) (N := 15) hx hb hts inX3 hown hK.2 hP 0 rfl rfl 3 (by decide) (hts _ k_201) (fun _ h9 => h9) rfl d_D_openSlot_1 ?_
  refine lv_iconst (v := 1) hx hb d_D_openSlot_4 (by decide) ?_
  refine lv_iadd hx hb d_D_openSlot_5 ?_
  refine lv_istore_n (lv' := [(1, .int ((0) + (1))), (0, .ref ((q 0)))]) hx hb d_D_openSlot_6 rfl hl (by decide) rfl (fun ls hl => ?_)
  refine lv_iload_n hx hb d_D_openSlot_7 rfl (lv_at hl 0 rfl) ?_
  refine lv_aload_n hx hb d_D_openSlot_8 rfl (lv_at hl 1 rfl) ?_
  refine va_get (ci := 3) (C := "QuorumStore$Node") (T := TX3) (N := 15) hx hb hts inX3 hown hK.2 hP 0 rfl rfl 3 (by decide) (hts _ k_201) (fun _ h9 => h9) rfl d_D_openSlot_9 ?_
  refine lv_iconst (v := 4) hx hb d_D_openSlot_12 (by decide) ?_
  refine lv_iadd hx hb d_D_openSlot_13 ?_
  refine lv_icmp_gt (tgt := 50) hx hb d_D_openSlot_14 (by decide) (fun c_1 => absurd c_1 (by decide)) (fun _ => ?_)
  refine lv_aload_n hx hb d_D_openSlot_17 rfl (lv_at hl 1 rfl) ?_
  refine va_get (ci := 3) (C := "QuorumStore$Node") (T := TX3) (N := 15) hx hb hts inX3 hown hK.2 hP 0 rfl rfl 14 (by decide) (hts _ k_222) (fun _ h9 => h9) rfl d_D_openSlot_18 ?_
  refine va_get (ci := 0) (C := "QuorumStore$Lead") (T := TX0) (N := 8) hx hb hts inX0 hown hK.2 hP 15 rfl rfl 3 (by decide) (hts _ k_141) (fun _ h9 => h9) rfl d_D_openSlot_21 ?_
  refine lv_iload_n hx hb d_D_openSlot_24 rfl (lv_at hl 0 rfl) ?_
  refine xr_call (xs_V (As := [.int ((0) + (1))]) (rest := []) Z (C_R_valueAt l D t (q 20) (q 21) (q 22) (q 23) 4 (by decide) _) m_R_valueAt k_420 k_421 k_422 rfl rfl ⟨Nat.le_of_ble_eq_true rfl, Nat.le_of_ble_eq_true rfl⟩ (va_recv hK.2 hP (ci := 4) (q0 := 20) rfl rfl) (xr_pre hK (hP.sub [20, 21, 22, 23] rfl)) rfl hl.1 rfl (Nat.le_of_ble_eq_true rfl) d_D_openSlot_25 ⟨Nat.le_of_ble_eq_true rfl, Nat.le_of_ble_eq_true rfl⟩) ?_
  refine lv_ifnonnullN hx hb d_D_openSlot_28 ?_
  refine lv_aload_n hx hb d_D_openSlot_31 rfl (lv_at hl 1 rfl) ?_
  refine va_get (ci := 3) (C := "QuorumStore$Node") (T := TX3) (N := 15) hx hb hts inX3 hown hK.2 hP 0 rfl rfl 7 (by decide) (hts _ k_209) (fun _ h9 => h9) rfl d_D_openSlot_32 ?_
  refine lv_iload_n hx hb d_D_openSlot_35 rfl (lv_at hl 0 rfl) ?_
  refine xr_call (xs_V (As := [.int ((0) + (1))]) (rest := []) Z (C_R_valueAt l D t (q 11) (q 12) (q 13) (q 14) 64 (by decide) _) m_R_valueAt k_420 k_421 k_422 rfl rfl ⟨Nat.le_of_ble_eq_true rfl, Nat.le_of_ble_eq_true rfl⟩ (va_recv hK.2 hP (ci := 4) (q0 := 11) rfl rfl) (xr_pre hK (hP.sub [11, 12, 13, 14] rfl)) rfl hl.1 rfl (Nat.le_of_ble_eq_true rfl) d_D_openSlot_36 ⟨Nat.le_of_ble_eq_true rfl, Nat.le_of_ble_eq_true rfl⟩) ?_
  refine lv_ifnonnullN hx hb d_D_openSlot_39 ?_
  refine lv_iload_n hx hb d_D_openSlot_42 rfl (lv_at hl 0 rfl) ?_
  exact W.iret hx hb hr (fun t ht _ => ⟨rfl, ht⟩) (fun q h => by cases h) d_D_openSlot_43
theorem d_D_peers_0 : decode c_D_peers 0 = .ok (.aload_n 0, 1) := by decide +kernel
theorem d_D_peers_1 : decode c_D_peers 1 = .ok (.getfield 41, 3) := by decide +kernel
theorem d_D_peers_4 : decode c_D_peers 4 = .ok (.aload_n 0, 1) := by decide +kernel
theorem d_D_peers_5 : decode c_D_peers 5 = .ok (.getfield 70, 3) := by decide +kernel
theorem d_D_peers_8 : decode c_D_peers 8 = .ok (.invokevirtual 73, 3) := by decide +kernel
theorem d_D_peers_11 : decode c_D_peers 11 = .ok (.iconst 1, 1) := by decide +kernel
theorem d_D_peers_12 : decode c_D_peers 12 = .ok (.aload_n 0, 1) := by decide +kernel
theorem d_D_peers_13 : decode c_D_peers 13 = .ok (.getfield 30, 3) := by decide +kernel
theorem d_D_peers_16 : decode c_D_peers 16 = .ok (.ishl, 1) := by decide +kernel
theorem d_D_peers_17 : decode c_D_peers 17 = .ok (.iconst (-1), 1) := by decide +kernel
theorem d_D_peers_18 : decode c_D_peers 18 = .ok (.ixor, 1) := by decide +kernel
theorem d_D_peers_19 : decode c_D_peers 19 = .ok (.iand, 1) := by decide +kernel
theorem d_D_peers_20 : decode c_D_peers 20 = .ok (.ireturn, 1) := by decide +kernel
set_option maxHeartbeats 4000000 in
set_option maxRecDepth 100000 in
/-- peers -/
theorem C_D_peers (l : Launch) (D : va_G) (t : Nat → ClassId) (q : Nat → Nat) (nw no : Nat) (nu pr lz bl tm le gr sp mk : Int32) : xr_C l D vwCl (xTY t) y_D_peers c_D_peers 1 (Option.some FieldType.int) ({ frames := 2, cells := 0, slots := 0, locals := 45 }) [.ref ((q 0))] [zO 3 (q 0) [.int nu, .ref nw, .int pr, .int 0, .int 0, .ref ((q 1)), .ref ((q 7)), .ref ((q 11)), .int 1, .int lz, .int bl, .int tm, .int le, .int 0, .ref ((q 15))], zO 5 (q 1) [.ref ((q 2)), .ref ((q 3)), .ref ((q 4)), .ref ((q 5)), .ref ((q 6)), .int 1], zJ t (q 2) 32 (fun _ => 1099511627776), zI t (q 3) 8 (fun _ => 0), zJ t (q 4) 8 (fun _ => 0), zI t (q 5) 4 (xm 1), zI t (q 6) 4 (xm mk), zO 4 (q 7) [.ref ((q 8)), .ref ((q 9)), .ref ((q 10))], zI t (q 8) 32 (fun _ => 0), zI t (q 9) 32 (fun _ => 0), zA t 2 (q 10) 32 (fun _ => none), zO 4 (q 11) [.ref ((q 12)), .ref ((q 13)), .ref ((q 14))], zI t (q 12) 64 (fun _ => 0), zI t (q 13) 64 (fun _ => 0), zA t 2 (q 14) 64 (fun _ => none), zO 0 (q 15) [.ref no, .int gr, .ref ((q 16)), .ref ((q 20)), .ref ((q 24)), .int 0, .int 0, .int sp], zO 4 (q 16) [.ref ((q 17)), .ref ((q 18)), .ref ((q 19))], zI t (q 17) 32 (fun _ => 0), zI t (q 18) 32 (fun _ => 0), zA t 2 (q 19) 32 (fun _ => none), zO 4 (q 20) [.ref ((q 21)), .ref ((q 22)), .ref ((q 23))], zI t (q 21) 4 (fun _ => 0), zI t (q 22) 4 (fun _ => 0), zA t 2 (q 23) 4 (fun _ => none), zA t 2 (q 24) 16 (fun _ => none)] (xr_Q (some (.int (xp mk nu)))) := by
  refine xr_of (by decide) (Nat.le_of_ble_eq_true rfl) ?_
  intro p e s m below meth c ls Z hr hlocks hP hl
  obtain ⟨hx, hb, hml, hown, hK⟩ := id Z
  have hown : s.vm.findClass "QuorumStore$Node" = some m.cls := hown
  have hts := hK.1.at (args := ([.ref ((q 0))] : List Value).toArray)
  have hl : lv_has ls 1 [(0, .ref ((q 0)))] := hl
  refine lv_aload_n hx hb d_D_peers_0 rfl (lv_at hl 0 rfl) ?_
  refine va_get (ci := 3) (C := "QuorumStore$Node") (T := TX3) (N := 15) hx hb hts inX3 hown hK.2 hP 0 rfl rfl 5 (by decide) (hts _ k_205) (fun _ h9 => h9) rfl d_D_peers_1 ?_
  refine lv_aload_n hx hb d_D_peers_4 rfl (lv_at hl 0 rfl) ?_
  refine va_get (ci := 3) (C := "QuorumStore$Node") (T := TX3) (N := 15) hx hb hts inX3 hown hK.2 hP 0 rfl rfl 3 (by decide) (hts _ k_201) (fun _ h9 => h9) rfl d_D_peers_5 ?_
  refine xr_call (xs_V (As := [.int 0]) (rest := []) Z (C_S_membersBehind l D t (q 1) (q 2) (q 3) (q 4) (q 5) (q 6) _ _ _ _ _) m_S_membersBehind k_360 k_361 k_362 rfl rfl ⟨Nat.le_of_ble_eq_true rfl, Nat.le_of_ble_eq_true rfl⟩ (va_recv hK.2 hP (ci := 5) (q0 := 1) rfl rfl) (xr_pre hK (hP.sub [1, 2, 3, 4, 5, 6] rfl)) rfl hl.1 rfl (Nat.le_of_ble_eq_true rfl) d_D_peers_8 ⟨Nat.le_of_ble_eq_true rfl, Nat.le_of_ble_eq_true rfl⟩) ?_
  refine lv_iconst (v := 1) hx hb d_D_peers_11 (by decide) ?_
  refine lv_aload_n hx hb d_D_peers_12 rfl (lv_at hl 0 rfl) ?_
  refine va_get (ci := 3) (C := "QuorumStore$Node") (T := TX3) (N := 15) hx hb hts inX3 hown hK.2 hP 0 rfl rfl 0 (by decide) (hts _ k_197) (fun _ h9 => h9) rfl d_D_peers_13 ?_
  refine lv_ishl hx hb d_D_peers_16 ?_
  refine lv_iconst (v := (-1)) hx hb d_D_peers_17 (by decide) ?_
  refine lv_ixor hx hb d_D_peers_18 ?_
  refine lv_iand hx hb d_D_peers_19 ?_
  exact W.iret hx hb hr (fun t ht _ => ⟨rfl, ht⟩) (fun q h => by cases h) d_D_peers_20
theorem d_D_refusal_0 : decode c_D_refusal 0 = .ok (.aload_n 0, 1) := by decide +kernel
theorem d_D_refusal_1 : decode c_D_refusal 1 = .ok (.getfield 58, 3) := by decide +kernel
theorem d_D_refusal_4 : decode c_D_refusal 4 = .ok (.ifCond .eq 29, 3) := by decide +kernel
theorem d_D_refusal_33 : decode c_D_refusal 33 = .ok (.iconst (-1), 1) := by decide +kernel
theorem d_D_refusal_34 : decode c_D_refusal 34 = .ok (.ireturn, 1) := by decide +kernel
set_option maxHeartbeats 4000000 in
set_option maxRecDepth 100000 in
/-- refusal of one that does not lead -/
theorem C_D_refusal (l : Launch) (D : va_G) (t : Nat → ClassId) (q : Nat → Nat) (nw no : Nat) (nu pr bl tm le gr sp mk : Int32) (cl sq : Int32) : xr_C l D vwCl (xTY t) y_D_refusal c_D_refusal 3 (Option.some FieldType.int) ({ frames := 0, cells := 0, slots := 0, locals := 0 }) [.ref ((q 0)), .int cl, .int sq] [zO 3 (q 0) [.int nu, .ref nw, .int pr, .int 0, .int 0, .ref ((q 1)), .ref ((q 7)), .ref ((q 11)), .int 1, .int 0, .int bl, .int tm, .int le, .int 0, .ref ((q 15))], zO 5 (q 1) [.ref ((q 2)), .ref ((q 3)), .ref ((q 4)), .ref ((q 5)), .ref ((q 6)), .int 1], zJ t (q 2) 32 (fun _ => 1099511627776), zI t (q 3) 8 (fun _ => 0), zJ t (q 4) 8 (fun _ => 0), zI t (q 5) 4 (xm 1), zI t (q 6) 4 (xm mk), zO 4 (q 7) [.ref ((q 8)), .ref ((q 9)), .ref ((q 10))], zI t (q 8) 32 (fun _ => 0), zI t (q 9) 32 (fun _ => 0), zA t 2 (q 10) 32 (fun _ => none), zO 4 (q 11) [.ref ((q 12)), .ref ((q 13)), .ref ((q 14))], zI t (q 12) 64 (fun _ => 0), zI t (q 13) 64 (fun _ => 0), zA t 2 (q 14) 64 (fun _ => none), zO 0 (q 15) [.ref no, .int gr, .ref ((q 16)), .ref ((q 20)), .ref ((q 24)), .int 0, .int 0, .int sp], zO 4 (q 16) [.ref ((q 17)), .ref ((q 18)), .ref ((q 19))], zI t (q 17) 32 (fun _ => 0), zI t (q 18) 32 (fun _ => 0), zA t 2 (q 19) 32 (fun _ => none), zO 4 (q 20) [.ref ((q 21)), .ref ((q 22)), .ref ((q 23))], zI t (q 21) 4 (fun _ => 0), zI t (q 22) 4 (fun _ => 0), zA t 2 (q 23) 4 (fun _ => none), zA t 2 (q 24) 16 (fun _ => none)] (xr_Q (some (.int (-1)))) := by
  refine xr_of (by decide) (Nat.le_of_ble_eq_true rfl) ?_
  intro p e s m below meth c ls Z hr hlocks hP hl
  obtain ⟨hx, hb, hml, hown, hK⟩ := id Z
  have hown : s.vm.findClass "QuorumStore$Node" = some m.cls := hown
  have hts := hK.1.at (args := ([.ref ((q 0)), .int cl, .int sq] : List Value).toArray)
  have hl : lv_has ls 3 [(0, .ref ((q 0))), (1, .int cl), (2, .int sq)] := hl
  refine lv_aload_n hx hb d_D_refusal_0 rfl (lv_at hl 0 rfl) ?_
  refine va_get (ci := 3) (C := "QuorumStore$Node") (T := TX3) (N := 15) hx hb hts inX3 hown hK.2 hP 0 rfl rfl 9 (by decide) (hts _ k_213) (fun _ h9 => h9) rfl d_D_refusal_1 ?_
  refine lv_if_eq (tgt := 33) hx hb d_D_refusal_4 (by decide) (fun _ => ?_) (fun c_1 => absurd (rfl) c_1)
  refine lv_iconst (v := (-1)) hx hb d_D_refusal_33 (by decide) ?_
  exact W.iret hx hb hr (fun t ht _ => ⟨rfl, ht⟩) (fun q h => by cases h) d_D_refusal_34
theorem d_D_work_0 : decode c_D_work 0 = .ok (.iconst 0, 1) := by decide +kernel
theorem d_D_work_1 : decode c_D_work 1 = .ok (.istore_n 1, 1) := by decide +kernel
theorem d_D_work_2 : decode c_D_work 2 = .ok (.iload_n 1, 1) := by decide +kernel
theorem d_D_work_3 : decode c_D_work 3 = .ok (.sipush 1000, 3) := by decide +kernel
theorem d_D_work_6 : decode c_D_work 6 = .ok (.if_icmp .ge 73, 3) := by decide +kernel
theorem d_D_work_9 : decode c_D_work 9 = .ok (.aload_n 0, 1) := by decide +kernel
theorem d_D_work_10 : decode c_D_work 10 = .ok (.invokevirtual 139, 3) := by decide +kernel
theorem d_D_work_13 : decode c_D_work 13 = .ok (.aload_n 0, 1) := by decide +kernel
theorem d_D_work_14 : decode c_D_work 14 = .ok (.invokevirtual 142, 3) := by decide +kernel
theorem d_D_work_17 : decode c_D_work 17 = .ok (.istore_n 2, 1) := by decide +kernel
theorem d_D_work_18 : decode c_D_work 18 = .ok (.iload_n 2, 1) := by decide +kernel
theorem d_D_work_19 : decode c_D_work 19 = .ok (.ifCond .eq 24, 3) := by decide +kernel
theorem d_D_work_22 : decode c_D_work 22 = .ok (.aload_n 0, 1) := by decide +kernel
theorem d_D_work_23 : decode c_D_work 23 = .ok (.getfield 41, 3) := by decide +kernel
theorem d_D_work_26 : decode c_D_work 26 = .ok (.iload_n 2, 1) := by decide +kernel
theorem d_D_work_27 : decode c_D_work 27 = .ok (.invokevirtual 90, 3) := by decide +kernel
theorem d_D_work_30 : decode c_D_work 30 = .ok (.aload_n 0, 1) := by decide +kernel
theorem d_D_work_31 : decode c_D_work 31 = .ok (.getfield 26, 3) := by decide +kernel
theorem d_D_work_34 : decode c_D_work 34 = .ok (.getfield 103, 3) := by decide +kernel
theorem d_D_work_37 : decode c_D_work 37 = .ok (.invokestatic 145, 3) := by decide +kernel
theorem d_D_work_40 : decode c_D_work 40 = .ok (.ifCond .ne 4, 3) := by decide +kernel
theorem d_D_work_43 : decode c_D_work 43 = .ok (.return_, 1) := by decide +kernel
theorem d_D_work_44 : decode c_D_work 44 = .ok (.aload_n 0, 1) := by decide +kernel
theorem d_D_work_45 : decode c_D_work 45 = .ok (.getfield 26, 3) := by decide +kernel
theorem d_D_work_48 : decode c_D_work 48 = .ok (.iload_n 2, 1) := by decide +kernel
theorem d_D_work_49 : decode c_D_work 49 = .ok (.invokevirtual 148, 3) := by decide +kernel
theorem d_D_work_52 : decode c_D_work 52 = .ok (.astore_n 3, 1) := by decide +kernel
theorem d_D_work_53 : decode c_D_work 53 = .ok (.aload_n 3, 1) := by decide +kernel
theorem d_D_work_54 : decode c_D_work 54 = .ok (.ifnonnull 4, 3) := by decide +kernel
theorem d_D_work_57 : decode c_D_work 57 = .ok (.return_, 1) := by decide +kernel
set_option maxHeartbeats 4000000 in
set_option maxRecDepth 100000 in
/-- work: nothing can be proposed -/
theorem C_D_work (l : Launch) (D : va_G) (t : Nat → ClassId) (q : Nat → Nat) (nw no : Nat) (nu pr lz bl tm le gr sp mk : Int32) : xr_C l D vwCl (xTY t) y_D_work c_D_work 4 (Option.none : Option FieldType) ({ frames := 3, cells := 0, slots := 0, locals := 58 }) [.ref ((q 0))] [zO 3 (q 0) [.int nu, .ref nw, .int pr, .int 0, .int 0, .ref ((q 1)), .ref ((q 7)), .ref ((q 11)), .int 1, .int lz, .int bl, .int tm, .int le, .int 0, .ref ((q 15))], zO 5 (q 1) [.ref ((q 2)), .ref ((q 3)), .ref ((q 4)), .ref ((q 5)), .ref ((q 6)), .int 1], zJ t (q 2) 32 (fun _ => 1099511627776), zI t (q 3) 8 (fun _ => 0), zJ t (q 4) 8 (fun _ => 0), zI t (q 5) 4 (xm 1), zI t (q 6) 4 (xm mk), zO 4 (q 7) [.ref ((q 8)), .ref ((q 9)), .ref ((q 10))], zI t (q 8) 32 (fun _ => 0), zI t (q 9) 32 (fun _ => 0), zA t 2 (q 10) 32 (fun _ => none), zO 4 (q 11) [.ref ((q 12)), .ref ((q 13)), .ref ((q 14))], zI t (q 12) 64 (fun _ => 0), zI t (q 13) 64 (fun _ => 0), zA t 2 (q 14) 64 (fun _ => none), zO 0 (q 15) [.ref no, .int gr, .ref ((q 16)), .ref ((q 20)), .ref ((q 24)), .int 0, .int 0, .int sp], zO 4 (q 16) [.ref ((q 17)), .ref ((q 18)), .ref ((q 19))], zI t (q 17) 32 (fun _ => 0), zI t (q 18) 32 (fun _ => 0), zA t 2 (q 19) 32 (fun _ => none), zO 4 (q 20) [.ref ((q 21)), .ref ((q 22)), .ref ((q 23))], zI t (q 21) 4 (fun _ => 0), zI t (q 22) 4 (fun _ => 0), zA t 2 (q 23) 4 (fun _ => none), zA t 2 (q 24) 16 (fun _ => none)] (xr_Q none) := by
  refine xr_of (by decide) (Nat.le_of_ble_eq_true rfl) ?_
  intro p e s m below meth c ls Z hr hlocks hP hl
  obtain ⟨hx, hb, hml, hown, hK⟩ := id Z
  have hown : s.vm.findClass "QuorumStore$Node" = some m.cls := hown
  have hts := hK.1.at (args := ([.ref ((q 0))] : List Value).toArray)
  have hl : lv_has ls 4 [(0, .ref ((q 0)))] := hl
  refine lv_iconst (v := 0) hx hb d_D_work_0 (by decide) ?_
  refine lv_istore_n (lv' := [(1, .int 0), (0, .ref ((q 0)))]) hx hb d_D_work_1 rfl hl (by decide) rfl (fun ls hl => ?_)
  refine lv_iload_n hx hb d_D_work_2 rfl (lv_at hl 0 rfl) ?_
  refine lv_sipush (v := 1000) hx hb d_D_work_3 (by decide) ?_
  refine lv_icmp_ge (tgt := 79) hx hb d_D_work_6 (by decide) (fun c_1 => absurd c_1 (by decide)) (fun _ => ?_)
  refine lv_aload_n hx hb d_D_work_9 rfl (lv_at hl 1 rfl) ?_
  refine xr_call (xs_V (As := []) (rest := []) Z (C_D_settle l D t q nw no nu pr lz bl tm le gr sp mk) m_D_settle k_470 k_472 ks_7 rfl rfl ⟨Nat.le_of_ble_eq_true rfl, Nat.le_of_ble_eq_true rfl⟩ (va_recv hK.2 hP (ci := 3) (q0 := 0) rfl rfl) (xr_pre hK hP) rfl hl.1 rfl (Nat.le_of_ble_eq_true rfl) d_D_work_10 ⟨Nat.le_of_ble_eq_true rfl, Nat.le_of_ble_eq_true rfl⟩) ?_
  refine lv_aload_n hx hb d_D_work_13 rfl (lv_at hl 1 rfl) ?_
  refine xr_call (xs_V (As := []) (rest := []) Z (C_D_openSlot l D t q nw no nu pr lz bl tm le gr sp mk) m_D_openSlot k_478 k_480 ks_8 rfl rfl ⟨Nat.le_of_ble_eq_true rfl, Nat.le_of_ble_eq_true rfl⟩ (va_recv hK.2 hP (ci := 3) (q0 := 0) rfl rfl) (xr_pre hK hP) rfl hl.1 rfl (Nat.le_of_ble_eq_true rfl) d_D_work_14 ⟨Nat.le_of_ble_eq_true rfl, Nat.le_of_ble_eq_true rfl⟩) ?_
  refine lv_istore_n (lv' := [(2, .int 1), (1, .int 0), (0, .ref ((q 0)))]) hx hb d_D_work_17 rfl hl (by decide) rfl (fun ls hl => ?_)
  refine lv_iload_n hx hb d_D_work_18 rfl (lv_at hl 0 rfl) ?_
  refine lv_if_eq (tgt := 43) hx hb d_D_work_19 (by decide) (fun c_2 => absurd c_2 (by decide)) (fun _ => ?_)
  refine lv_aload_n hx hb d_D_work_22 rfl (lv_at hl 2 rfl) ?_
  refine va_get (ci := 3) (C := "QuorumStore$Node") (T := TX3) (N := 15) hx hb hts inX3 hown hK.2 hP 0 rfl rfl 5 (by decide) (hts _ k_205) (fun _ h9 => h9) rfl d_D_work_23 ?_
  refine lv_iload_n hx hb d_D_work_26 rfl (lv_at hl 0 rfl) ?_
  refine xr_call (xs_V (As := [.int 1]) (rest := []) Z (C_S_configAt l D t (q 1) (q 2) (q 3) (q 4) (q 5) (q 6) _ _ _ _ _ _) m_S_configAt k_424 k_365 k_366 rfl rfl ⟨Nat.le_of_ble_eq_true rfl, Nat.le_of_ble_eq_true rfl⟩ (va_recv hK.2 hP (ci := 5) (q0 := 1) rfl rfl) (xr_pre hK (hP.sub [1, 2, 3, 4, 5, 6] rfl)) rfl hl.1 rfl (Nat.le_of_ble_eq_true rfl) d_D_work_27 ⟨Nat.le_of_ble_eq_true rfl, Nat.le_of_ble_eq_true rfl⟩) ?_
  refine lv_aload_n hx hb d_D_work_30 rfl (lv_at hl 2 rfl) ?_
  refine va_get (ci := 3) (C := "QuorumStore$Node") (T := TX3) (N := 15) hx hb hts inX3 hown hK.2 hP 0 rfl rfl 14 (by decide) (hts _ k_222) (fun _ h9 => h9) rfl d_D_work_31 ?_
  refine va_get (ci := 0) (C := "QuorumStore$Lead") (T := TX0) (N := 8) hx hb hts inX0 hown hK.2 hP 15 rfl rfl 1 (by decide) (hts _ k_136) (fun _ h9 => h9) rfl d_D_work_34 ?_
  refine xr_callP (xs_SN (As := [.int mk, .int gr]) (rest := []) Z (C_Q_isMajority l D t _ _) m_Q_isMajority k_482 k_483 rfl rfl ⟨Nat.le_of_ble_eq_true rfl, Nat.le_of_ble_eq_true rfl⟩ (xr_pre hK (hP.sub [] rfl)) rfl hl.1 rfl (Nat.le_of_ble_eq_true rfl) d_D_work_37 ⟨Nat.le_of_ble_eq_true rfl, Nat.le_of_ble_eq_true rfl⟩) (fun v hv => ?_)
  obtain ⟨b_3, rfl, hb_3⟩ := hv
  refine lv_if_ne (tgt := 44) hx hb d_D_work_40 (by decide) (fun c_4 => ?_) (fun c_4 => ?_)
  · refine lv_aload_n hx hb d_D_work_44 rfl (lv_at hl 2 rfl) ?_
    refine va_get (ci := 3) (C := "QuorumStore$Node") (T := TX3) (N := 15) hx hb hts inX3 hown hK.2 hP 0 rfl rfl 14 (by decide) (hts _ k_222) (fun _ h9 => h9) rfl d_D_work_45 ?_
    refine lv_iload_n hx hb d_D_work_48 rfl (lv_at hl 0 rfl) ?_
    refine xr_call (xs_V (As := [.int 1]) (rest := []) Z (C_L_valueFor l D t q no gr sp) m_L_valueFor k_491 k_492 k_493 rfl rfl ⟨Nat.le_of_ble_eq_true rfl, Nat.le_of_ble_eq_true rfl⟩ (va_recv hK.2 hP (ci := 0) (q0 := 15) rfl rfl) (xr_pre hK (hP.sub [15, 16, 17, 18, 19, 20, 21, 22, 23] rfl)) rfl hl.1 rfl (Nat.le_of_ble_eq_true rfl) d_D_work_49 ⟨Nat.le_of_ble_eq_true rfl, Nat.le_of_ble_eq_true rfl⟩) ?_
    refine lv_astore_nN (lv' := [(3, .null), (2, .int 1), (1, .int 0), (0, .ref ((q 0)))]) hx hb d_D_work_52 rfl hl (by decide) rfl (fun ls hl => ?_)
    refine lv_aload_nN hx hb d_D_work_53 rfl (lv_at hl 0 rfl) ?_
    refine lv_ifnonnullN hx hb d_D_work_54 ?_
    exact W.vret hx hb hr (fun t ht _ => ⟨rfl, ht⟩) (fun q h => by cases h) d_D_work_57
  · exact W.vret hx hb hr (fun t ht _ => ⟨rfl, ht⟩) (fun q h => by cases h) d_D_work_43
end
section
/-! Methods of the class that write. -/
theorem xu_i (k : Nat) : upd (fun _ => (0 : Int32)) k 0 = fun _ => 0 := by
  funext j
  simp [upd]
theorem xu_q (k : Nat) : va_up (fun _ => (none : Option Nat)) k none = fun _ => none := by
  funext j
  simp [va_up]
theorem d_R_clearPlace_0 : decode c_R_clearPlace 0 = .ok (.aload_n 0, 1) := by decide +kernel
theorem d_R_clearPlace_1 : decode c_R_clearPlace 1 = .ok (.getfield 7, 3) := by decide +kernel
theorem d_R_clearPlace_4 : decode c_R_clearPlace 4 = .ok (.iload_n 1, 1) := by decide +kernel
theorem d_R_clearPlace_5 : decode c_R_clearPlace 5 = .ok (.iconst 0, 1) := by decide +kernel
theorem d_R_clearPlace_6 : decode c_R_clearPlace 6 = .ok (.iastore, 1) := by decide +kernel
theorem d_R_clearPlace_7 : decode c_R_clearPlace 7 = .ok (.aload_n 0, 1) := by decide +kernel
theorem d_R_clearPlace_8 : decode c_R_clearPlace 8 = .ok (.getfield 13, 3) := by decide +kernel
theorem d_R_clearPlace_11 : decode c_R_clearPlace 11 = .ok (.iload_n 1, 1) := by decide +kernel
theorem d_R_clearPlace_12 : decode c_R_clearPlace 12 = .ok (.iconst 0, 1) := by decide +kernel
theorem d_R_clearPlace_13 : decode c_R_clearPlace 13 = .ok (.iastore, 1) := by decide +kernel
theorem d_R_clearPlace_14 : decode c_R_clearPlace 14 = .ok (.aload_n 0, 1) := by decide +kernel
theorem d_R_clearPlace_15 : decode c_R_clearPlace 15 = .ok (.getfield 18, 3) := by decide +kernel
theorem d_R_clearPlace_18 : decode c_R_clearPlace 18 = .ok (.iload_n 1, 1) := by decide +kernel
theorem d_R_clearPlace_19 : decode c_R_clearPlace 19 = .ok (.aconst_null, 1) := by decide +kernel
theorem d_R_clearPlace_20 : decode c_R_clearPlace 20 = .ok (.aastore, 1) := by decide +kernel
theorem d_R_clearPlace_21 : decode c_R_clearPlace 21 = .ok (.return_, 1) := by decide +kernel
set_option maxHeartbeats 4000000 in
set_option maxRecDepth 100000 in
/-- clearPlace on an empty row -/
theorem C_R_clearPlace (l : Launch) (D : va_G) (t : Nat → ClassId) (h a b v w j : Nat) (hj : j < w) (hw : w = 4 ∨ w = 32 ∨ w = 64) : xe_C l D vwCl (xTY t) y_R_clearPlace c_R_clearPlace 2 (Option.none : Option FieldType) ({ frames := 0, cells := 0, slots := 0, locals := 0 }) [.ref h, .int (nI j)] [zO 4 h [.ref a, .ref b, .ref v], zI t a w (fun _ => 0), zI t b w (fun _ => 0), zA t 2 v w (fun _ => none)] (xe_v D vwCl (fun _ : Unit => True) (fun _ => [zO 4 h [.ref a, .ref b, .ref v], zI t a w (fun _ => 0), zI t b w (fun _ => 0), zA t 2 v w (fun _ => none)])) 0 0 := by
  refine xe_of (by decide) (Nat.le_of_ble_eq_true rfl) ?_
  intro p e s m below meth c ls A Z hr hlocks hin hA hP hD hS hl
  obtain ⟨hx, hb, hml, hown, hK⟩ := id Z
  have hown : s.vm.findClass "QuorumStore$Row" = some m.cls := hown
  have hts := hK.1.at (args := ([.ref h, .int (nI j)] : List Value).toArray)
  have hl : lv_has ls 2 [(0, .ref h), (1, .int (nI j))] := hl
  refine lv_aload_n hx hb d_R_clearPlace_0 rfl (lv_at hl 0 rfl) ?_
  refine va_get (ci := 4) (C := "QuorumStore$Row") (T := TX4) (N := 3) hx hb hts inX4 hown hK.2 hP 0 rfl rfl 0 (by decide) (hts _ k_75) (fun _ h9 => h9) rfl d_R_clearPlace_1 ?_
  refine lv_iload_n hx hb d_R_clearPlace_4 rfl (lv_at hl 1 rfl) ?_
  refine lv_iconst (v := 0) hx hb d_R_clearPlace_5 (by decide) ?_
  refine va_iast hx hb hK.2 hP hD hS 1 0 rfl rfl (vp_in_nI hj (by omega)) d_R_clearPlace_6 (fun H locs hP hD hS => ?_)
  rw [xu_i] at hP hD
  have hP : va_P D vwCl [zO 4 h [.ref a, .ref b, .ref v], zI t a w (fun _ => 0), zI t b w (fun _ => 0), zA t 2 v w (fun _ => none)] H := hP
  have hD : va_D A [zO 4 h [.ref a, .ref b, .ref v], zI t a w (fun _ => 0), zI t b w (fun _ => 0), zA t 2 v w (fun _ => none)] := hD
  refine lv_aload_n hx hb d_R_clearPlace_7 rfl (lv_at hl 0 rfl) ?_
  refine va_get (ci := 4) (C := "QuorumStore$Row") (T := TX4) (N := 3) hx hb hts inX4 hown hK.2 hP 0 rfl rfl 1 (by decide) (hts _ k_76) (fun _ h9 => h9) rfl d_R_clearPlace_8 ?_
  refine lv_iload_n hx hb d_R_clearPlace_11 rfl (lv_at hl 1 rfl) ?_
  refine lv_iconst (v := 0) hx hb d_R_clearPlace_12 (by decide) ?_
  refine va_iast hx hb hK.2 hP hD hS 2 0 rfl rfl (vp_in_nI hj (by omega)) d_R_clearPlace_13 (fun H locs hP hD hS => ?_)
  rw [xu_i] at hP hD
  have hP : va_P D vwCl [zO 4 h [.ref a, .ref b, .ref v], zI t a w (fun _ => 0), zI t b w (fun _ => 0), zA t 2 v w (fun _ => none)] H := hP
  have hD : va_D A [zO 4 h [.ref a, .ref b, .ref v], zI t a w (fun _ => 0), zI t b w (fun _ => 0), zA t 2 v w (fun _ => none)] := hD
  refine lv_aload_n hx hb d_R_clearPlace_14 rfl (lv_at hl 0 rfl) ?_
  refine va_get (ci := 4) (C := "QuorumStore$Row") (T := TX4) (N := 3) hx hb hts inX4 hown hK.2 hP 0 rfl rfl 2 (by decide) (hts _ k_77) (fun _ h9 => h9) rfl d_R_clearPlace_15 ?_
  refine lv_iload_n hx hb d_R_clearPlace_18 rfl (lv_at hl 1 rfl) ?_
  refine lv_null hx hb d_R_clearPlace_19 ?_
  refine va_astqN hx hb hK.2 hP hD hS 3 2 rfl rfl (vp_in_nI hj (by omega)) d_R_clearPlace_20 (fun H locs hP hD hS => ?_)
  rw [xu_q] at hP hD
  have hP : va_P D vwCl [zO 4 h [.ref a, .ref b, .ref v], zI t a w (fun _ => 0), zI t b w (fun _ => 0), zA t 2 v w (fun _ => none)] H := hP
  have hD : va_D A [zO 4 h [.ref a, .ref b, .ref v], zI t a w (fun _ => 0), zI t b w (fun _ => 0), zA t 2 v w (fun _ => none)] := hD
  exact W.vret hx hb hr (fun t ht hW => ⟨⟨(), rfl, trivial, by rw [ht]; exact hP, hD⟩, hS.F ht⟩) hS.2.2 d_R_clearPlace_21
theorem d_R_forgetAll_0 : decode c_R_forgetAll 0 = .ok (.iconst 0, 1) := by decide +kernel
theorem d_R_forgetAll_1 : decode c_R_forgetAll 1 = .ok (.istore_n 1, 1) := by decide +kernel
theorem d_R_forgetAll_2 : decode c_R_forgetAll 2 = .ok (.iload_n 1, 1) := by decide +kernel
theorem d_R_forgetAll_3 : decode c_R_forgetAll 3 = .ok (.aload_n 0, 1) := by decide +kernel
theorem d_R_forgetAll_4 : decode c_R_forgetAll 4 = .ok (.getfield 7, 3) := by decide +kernel
theorem d_R_forgetAll_7 : decode c_R_forgetAll 7 = .ok (.arraylength, 1) := by decide +kernel
theorem d_R_forgetAll_8 : decode c_R_forgetAll 8 = .ok (.if_icmp .ge 14, 3) := by decide +kernel
theorem d_R_forgetAll_11 : decode c_R_forgetAll 11 = .ok (.aload_n 0, 1) := by decide +kernel
theorem d_R_forgetAll_12 : decode c_R_forgetAll 12 = .ok (.iload_n 1, 1) := by decide +kernel
theorem d_R_forgetAll_13 : decode c_R_forgetAll 13 = .ok (.invokevirtual 22, 3) := by decide +kernel
theorem d_R_forgetAll_16 : decode c_R_forgetAll 16 = .ok (.iinc 1 1, 3) := by decide +kernel
theorem d_R_forgetAll_19 : decode c_R_forgetAll 19 = .ok (.goto (-17), 3) := by decide +kernel
theorem d_R_forgetAll_22 : decode c_R_forgetAll 22 = .ok (.return_, 1) := by decide +kernel
set_option maxHeartbeats 4000000 in
set_option maxRecDepth 100000 in
/-- forgetAll on an empty row -/
theorem C_R_forgetAll (l : Launch) (D : va_G) (t : Nat → ClassId) (h a b v w : Nat) (hw : w = 4 ∨ w = 32 ∨ w = 64) : xe_C l D vwCl (xTY t) y_R_forgetAll c_R_forgetAll 2 (Option.none : Option FieldType) ({ frames := 1, cells := 0, slots := 0, locals := 21 }) [.ref h] [zO 4 h [.ref a, .ref b, .ref v], zI t a w (fun _ => 0), zI t b w (fun _ => 0), zA t 2 v w (fun _ => none)] (xe_v D vwCl (fun _ : Unit => True) (fun _ => [zO 4 h [.ref a, .ref b, .ref v], zI t a w (fun _ => 0), zI t b w (fun _ => 0), zA t 2 v w (fun _ => none)])) 0 0 := by
  refine xe_of (by decide) (Nat.le_of_ble_eq_true rfl) ?_
  intro p e s m below meth c ls A Z hr hlocks hin hA hP hD hS hl
  obtain ⟨hx, hb, hml, hown, hK⟩ := id Z
  have hown : s.vm.findClass "QuorumStore$Row" = some m.cls := hown
  have hts := hK.1.at (args := ([.ref h] : List Value).toArray)
  have hl : lv_has ls 2 [(0, .ref h)] := hl
  refine lv_iconst (v := 0) hx hb d_R_forgetAll_0 (by decide) ?_
  refine lv_istore_n (lv' := [(1, .int 0), (0, .ref h)]) hx hb d_R_forgetAll_1 rfl hl (by decide) rfl (fun ls hl => ?_)
  have loop : ∀ (n : Nat) (i : Nat), i + n = w → ∀ (H : Heap) (locs : List Loc), va_P D vwCl [zO 4 h [.ref a, .ref b, .ref v], zI t a w (fun _ => 0), zI t b w (fun _ => 0), zA t 2 v w (fun _ => none)] H → va_D A [zO 4 h [.ref a, .ref b, .ref v], zI t a w (fun _ => 0), zI t b w (fun _ => 0), zA t 2 v w (fun _ => none)] → va_S A s.heap H locs → ∀ (ls : Array Slot), lv_has ls 2 [(1, .int (nI i)), (0, .ref h)] → W p l e ({ frames := 1, cells := 0, slots := 0, locals := 21 } : Room) s m ([.ref h] : List Value).toArray below meth c H locs 0 0 (MQ below ((xe_v D vwCl (fun _ : Unit => True) (fun _ => [zO 4 h [.ref a, .ref b, .ref v], zI t a w (fun _ => 0), zI t b w (fun _ => 0), zA t 2 v w (fun _ => none)])) A) ([.ref h] : List Value).toArray s 0 0 A) (F0 m 2 ls []) := by
    intro n
    induction n with
    | zero =>
      intro i hi H locs hP hD hS ls hl
      refine lv_iload_n hx hb d_R_forgetAll_2 rfl (lv_at hl 0 rfl) ?_
      refine lv_aload_n hx hb d_R_forgetAll_3 rfl (lv_at hl 1 rfl) ?_
      refine va_get (ci := 4) (C := "QuorumStore$Row") (T := TX4) (N := 3) hx hb hts inX4 hown hK.2 hP 0 rfl rfl 0 (by decide) (hts _ k_75) (fun _ h9 => h9) rfl d_R_forgetAll_4 ?_
      refine va_alen (v := nI w) hx hb hK.2 hP 1 0 rfl rfl rfl d_R_forgetAll_7 ?_
      refine lv_icmp_ge (tgt := 22) hx hb d_R_forgetAll_8 (by decide) (fun _ => ?_) (fun c_1 => absurd (nI_le (by omega) (by omega)) c_1)
      exact W.vret hx hb hr (fun t ht hW => ⟨⟨(), rfl, trivial, by rw [ht]; exact hP, hD⟩, hS.F ht⟩) hS.2.2 d_R_forgetAll_22
    | succ n ih =>
      intro i hi H locs hP hD hS ls hl
      refine lv_iload_n hx hb d_R_forgetAll_2 rfl (lv_at hl 0 rfl) ?_
      refine lv_aload_n hx hb d_R_forgetAll_3 rfl (lv_at hl 1 rfl) ?_
      refine va_get (ci := 4) (C := "QuorumStore$Row") (T := TX4) (N := 3) hx hb hts inX4 hown hK.2 hP 0 rfl rfl 0 (by decide) (hts _ k_75) (fun _ h9 => h9) rfl d_R_forgetAll_4 ?_
      refine va_alen (v := nI w) hx hb hK.2 hP 1 0 rfl rfl rfl d_R_forgetAll_7 ?_
      refine lv_icmp_ge (tgt := 22) hx hb d_R_forgetAll_8 (by decide) (fun c_2 => absurd c_2 (nI_ge (by omega) (by omega))) (fun _ => ?_)
      refine lv_aload_n hx hb d_R_forgetAll_11 rfl (lv_at hl 1 rfl) ?_
      refine lv_iload_n hx hb d_R_forgetAll_12 rfl (lv_at hl 0 rfl) ?_
      refine xe_callv (wr := []) (xs_V (As := [.int (nI i)]) (rest := []) Z (C_R_clearPlace l D t h a b v w i (by omega) hw H.size) m_R_clearPlace k_452 k_454 ks_6 rfl rfl ⟨Nat.le_of_ble_eq_true rfl, Nat.le_of_ble_eq_true rfl⟩ (va_recv hK.2 hP (ci := 4) (q0 := 0) rfl rfl) (xe_pre hK (hP.sub [0, 1, 2, 3] rfl) (hD.sub [0, 1, 2, 3] (by decide) rfl)) rfl hl.1 rfl (Nat.le_of_ble_eq_true rfl) d_R_forgetAll_13 ⟨Nat.le_of_ble_eq_true rfl, Nat.le_of_ble_eq_true rfl⟩) hP hD hS hA [0, 1, 2, 3] [] rfl rfl (by decide) (by decide) (fun u_ H locs _ hP hD hS => ?_)
      have hP : va_P D vwCl [zO 4 h [.ref a, .ref b, .ref v], zI t a w (fun _ => 0), zI t b w (fun _ => 0), zA t 2 v w (fun _ => none)] H := hP
      have hD : va_D A [zO 4 h [.ref a, .ref b, .ref v], zI t a w (fun _ => 0), zI t b w (fun _ => 0), zA t 2 v w (fun _ => none)] := hD
      refine lv_iinc (v := nI (i + 1)) (lv' := [(1, .int (nI (i + 1))), (0, .ref h)]) hx hb d_R_forgetAll_16 hl (k := 0) rfl (nI_1 i) (by decide) rfl (fun ls hl => ?_)
      refine lv_goto (tgt := 2) hx hb d_R_forgetAll_19 (by decide) ?_
      exact ih (i + 1) (by omega) H locs hP hD hS ls (lv_sub hl [0, 1] rfl)
  exact loop w 0 (by omega) _ _ hP hD hS ls (lv_sub hl [0, 1] rfl)
theorem d_L_clear_0 : decode c_L_clear 0 = .ok (.aload_n 0, 1) := by decide +kernel
theorem d_L_clear_1 : decode c_L_clear 1 = .ok (.iconst 0, 1) := by decide +kernel
theorem d_L_clear_2 : decode c_L_clear 2 = .ok (.putfield 36, 3) := by decide +kernel
theorem d_L_clear_5 : decode c_L_clear 5 = .ok (.aload_n 0, 1) := by decide +kernel
theorem d_L_clear_6 : decode c_L_clear 6 = .ok (.getfield 25, 3) := by decide +kernel
theorem d_L_clear_9 : decode c_L_clear 9 = .ok (.invokevirtual 40, 3) := by decide +kernel
theorem d_L_clear_12 : decode c_L_clear 12 = .ok (.aload_n 0, 1) := by decide +kernel
theorem d_L_clear_13 : decode c_L_clear 13 = .ok (.getfield 29, 3) := by decide +kernel
theorem d_L_clear_16 : decode c_L_clear 16 = .ok (.invokevirtual 40, 3) := by decide +kernel
theorem d_L_clear_19 : decode c_L_clear 19 = .ok (.iconst 0, 1) := by decide +kernel
theorem d_L_clear_20 : decode c_L_clear 20 = .ok (.istore_n 1, 1) := by decide +kernel
theorem d_L_clear_21 : decode c_L_clear 21 = .ok (.iload_n 1, 1) := by decide +kernel
theorem d_L_clear_22 : decode c_L_clear 22 = .ok (.bipush 16, 2) := by decide +kernel
theorem d_L_clear_24 : decode c_L_clear 24 = .ok (.if_icmp .ge 16, 3) := by decide +kernel
theorem d_L_clear_27 : decode c_L_clear 27 = .ok (.aload_n 0, 1) := by decide +kernel
theorem d_L_clear_28 : decode c_L_clear 28 = .ok (.getfield 32, 3) := by decide +kernel
theorem d_L_clear_31 : decode c_L_clear 31 = .ok (.iload_n 1, 1) := by decide +kernel
theorem d_L_clear_32 : decode c_L_clear 32 = .ok (.aconst_null, 1) := by decide +kernel
theorem d_L_clear_33 : decode c_L_clear 33 = .ok (.aastore, 1) := by decide +kernel
theorem d_L_clear_34 : decode c_L_clear 34 = .ok (.iinc 1 1, 3) := by decide +kernel
theorem d_L_clear_37 : decode c_L_clear 37 = .ok (.goto (-16), 3) := by decide +kernel
theorem d_L_clear_40 : decode c_L_clear 40 = .ok (.aload_n 0, 1) := by decide +kernel
theorem d_L_clear_41 : decode c_L_clear 41 = .ok (.iconst 0, 1) := by decide +kernel
theorem d_L_clear_42 : decode c_L_clear 42 = .ok (.putfield 43, 3) := by decide +kernel
theorem d_L_clear_45 : decode c_L_clear 45 = .ok (.return_, 1) := by decide +kernel
set_option maxHeartbeats 4000000 in
set_option maxRecDepth 100000 in
/-- clear of what is empty already -/
theorem C_L_clear (l : Launch) (D : va_G) (t : Nat → ClassId) (q : Nat → Nat) (no : Nat) (gr sp : Int32) : xe_C l D vwCl (xTY t) y_L_clear c_L_clear 2 (Option.none : Option FieldType) ({ frames := 2, cells := 0, slots := 0, locals := 42 }) [.ref ((q 15))] [zO 0 (q 15) [.ref no, .int gr, .ref ((q 16)), .ref ((q 20)), .ref ((q 24)), .int 0, .int 0, .int sp], zO 4 (q 16) [.ref ((q 17)), .ref ((q 18)), .ref ((q 19))], zI t (q 17) 32 (fun _ => 0), zI t (q 18) 32 (fun _ => 0), zA t 2 (q 19) 32 (fun _ => none), zO 4 (q 20) [.ref ((q 21)), .ref ((q 22)), .ref ((q 23))], zI t (q 21) 4 (fun _ => 0), zI t (q 22) 4 (fun _ => 0), zA t 2 (q 23) 4 (fun _ => none), zA t 2 (q 24) 16 (fun _ => none)] (xe_v D vwCl (fun _ : Unit => True) (fun _ => [zO 0 (q 15) [.ref no, .int 0, .ref ((q 16)), .ref ((q 20)), .ref ((q 24)), .int 0, .int 0, .int sp], zO 4 (q 16) [.ref ((q 17)), .ref ((q 18)), .ref ((q 19))], zI t (q 17) 32 (fun _ => 0), zI t (q 18) 32 (fun _ => 0), zA t 2 (q 19) 32 (fun _ => none), zO 4 (q 20) [.ref ((q 21)), .ref ((q 22)), .ref ((q 23))], zI t (q 21) 4 (fun _ => 0), zI t (q 22) 4 (fun _ => 0), zA t 2 (q 23) 4 (fun _ => none), zA t 2 (q 24) 16 (fun _ => none)])) 0 0 := by
  refine xe_of (by decide) (Nat.le_of_ble_eq_true rfl) ?_
  intro p e s m below meth c ls A Z hr hlocks hin hA hP hD hS hl
  obtain ⟨hx, hb, hml, hown, hK⟩ := id Z
  have hown : s.vm.findClass "QuorumStore$Lead" = some m.cls := hown
  have hts := hK.1.at (args := ([.ref ((q 15))] : List Value).toArray)
  have hl : lv_has ls 2 [(0, .ref ((q 15)))] := hl
  refine lv_aload_n hx hb d_L_clear_0 rfl (lv_at hl 0 rfl) ?_
  refine lv_iconst (v := 0) hx hb d_L_clear_1 (by decide) ?_
  refine va_put (ci := 0) (v := .int 0) (ty := tyX0 1) (C := "QuorumStore$Lead") (T := TX0) (N := 8) hx hb hts inX0 tyX0 okX0 nmX0 hown hK.2 hP hD hS 0 rfl rfl 1 (by decide) (hts _ k_135) (fun _ h9 => h9) rfl (by decide +kernel) rfl rfl (Nat.le_of_ble_eq_true rfl) d_L_clear_2 (fun H locs hP hD hS => ?_)
  have hP : va_P D vwCl [zO 0 (q 15) [.ref no, .int 0, .ref ((q 16)), .ref ((q 20)), .ref ((q 24)), .int 0, .int 0, .int sp], zO 4 (q 16) [.ref ((q 17)), .ref ((q 18)), .ref ((q 19))], zI t (q 17) 32 (fun _ => 0), zI t (q 18) 32 (fun _ => 0), zA t 2 (q 19) 32 (fun _ => none), zO 4 (q 20) [.ref ((q 21)), .ref ((q 22)), .ref ((q 23))], zI t (q 21) 4 (fun _ => 0), zI t (q 22) 4 (fun _ => 0), zA t 2 (q 23) 4 (fun _ => none), zA t 2 (q 24) 16 (fun _ => none)] H := hP
  have hD : va_D A [zO 0 (q 15) [.ref no, .int 0, .ref ((q 16)), .ref ((q 20)), .ref ((q 24)), .int 0, .int 0, .int sp], zO 4 (q 16) [.ref ((q 17)), .ref ((q 18)), .ref ((q 19))], zI t (q 17) 32 (fun _ => 0), zI t (q 18) 32 (fun _ => 0), zA t 2 (q 19) 32 (fun _ => none), zO 4 (q 20) [.ref ((q 21)), .ref ((q 22)), .ref ((q 23))], zI t (q 21) 4 (fun _ => 0), zI t (q 22) 4 (fun _ => 0), zA t 2 (q 23) 4 (fun _ => none), zA t 2 (q 24) 16 (fun _ => none)] := hD
  refine lv_aload_n hx hb d_L_clear_5 rfl (lv_at hl 0 rfl) ?_
  refine va_get (ci := 0) (C := "QuorumStore$Lead") (T := TX0) (N := 8) hx hb hts inX0 hown hK.2 hP 0 rfl rfl 2 (by decide) (hts _ k_138) (fun _ h9 => h9) rfl d_L_clear_6 ?_
  refine xe_callv (wr := [zO 0 (q 15) [.ref no, .int 0, .ref ((q 16)), .ref ((q 20)), .ref ((q 24)), .int 0, .int 0, .int sp], zO 4 (q 20) [.ref ((q 21)), .ref ((q 22)), .ref ((q 23))], zI t (q 21) 4 (fun _ => 0), zI t (q 22) 4 (fun _ => 0), zA t 2 (q 23) 4 (fun _ => none), zA t 2 (q 24) 16 (fun _ => none)]) (xs_V (As := []) (rest := []) Z (C_R_forgetAll l D t (q 16) (q 17) (q 18) (q 19) 32 (by decide) H.size) m_R_forgetAll k_448 k_449 k_450 rfl rfl ⟨Nat.le_of_ble_eq_true rfl, Nat.le_of_ble_eq_true rfl⟩ (va_recv hK.2 hP (ci := 4) (q0 := 1) rfl rfl) (xe_pre hK (hP.sub [1, 2, 3, 4] rfl) (hD.sub [1, 2, 3, 4] (by decide) rfl)) rfl hl.1 rfl (Nat.le_of_ble_eq_true rfl) d_L_clear_9 ⟨Nat.le_of_ble_eq_true rfl, Nat.le_of_ble_eq_true rfl⟩) hP hD hS hA [1, 2, 3, 4] [0, 5, 6, 7, 8, 9] rfl rfl (by decide) (by decide) (fun u_ H locs _ hP hD hS => ?_)
  have hP : va_P D vwCl [zO 0 (q 15) [.ref no, .int 0, .ref ((q 16)), .ref ((q 20)), .ref ((q 24)), .int 0, .int 0, .int sp], zO 4 (q 20) [.ref ((q 21)), .ref ((q 22)), .ref ((q 23))], zI t (q 21) 4 (fun _ => 0), zI t (q 22) 4 (fun _ => 0), zA t 2 (q 23) 4 (fun _ => none), zA t 2 (q 24) 16 (fun _ => none), zO 4 (q 16) [.ref ((q 17)), .ref ((q 18)), .ref ((q 19))], zI t (q 17) 32 (fun _ => 0), zI t (q 18) 32 (fun _ => 0), zA t 2 (q 19) 32 (fun _ => none)] H := hP
  have hD : va_D A [zO 0 (q 15) [.ref no, .int 0, .ref ((q 16)), .ref ((q 20)), .ref ((q 24)), .int 0, .int 0, .int sp], zO 4 (q 20) [.ref ((q 21)), .ref ((q 22)), .ref ((q 23))], zI t (q 21) 4 (fun _ => 0), zI t (q 22) 4 (fun _ => 0), zA t 2 (q 23) 4 (fun _ => none), zA t 2 (q 24) 16 (fun _ => none), zO 4 (q 16) [.ref ((q 17)), .ref ((q 18)), .ref ((q 19))], zI t (q 17) 32 (fun _ => 0), zI t (q 18) 32 (fun _ => 0), zA t 2 (q 19) 32 (fun _ => none)] := hD
  refine lv_aload_n hx hb d_L_clear_12 rfl (lv_at hl 0 rfl) ?_
  refine va_get (ci := 0) (C := "QuorumStore$Lead") (T := TX0) (N := 8) hx hb hts inX0 hown hK.2 hP 0 rfl rfl 3 (by decide) (hts _ k_140) (fun _ h9 => h9) rfl d_L_clear_13 ?_
  refine xe_callv (wr := [zO 0 (q 15) [.ref no, .int 0, .ref ((q 16)), .ref ((q 20)), .ref ((q 24)), .int 0, .int 0, .int sp], zA t 2 (q 24) 16 (fun _ => none), zO 4 (q 16) [.ref ((q 17)), .ref ((q 18)), .ref ((q 19))], zI t (q 17) 32 (fun _ => 0), zI t (q 18) 32 (fun _ => 0), zA t 2 (q 19) 32 (fun _ => none)]) (xs_V (As := []) (rest := []) Z (C_R_forgetAll l D t (q 20) (q 21) (q 22) (q 23) 4 (by decide) H.size) m_R_forgetAll k_448 k_449 k_450 rfl rfl ⟨Nat.le_of_ble_eq_true rfl, Nat.le_of_ble_eq_true rfl⟩ (va_recv hK.2 hP (ci := 4) (q0 := 1) rfl rfl) (xe_pre hK (hP.sub [1, 2, 3, 4] rfl) (hD.sub [1, 2, 3, 4] (by decide) rfl)) rfl hl.1 rfl (Nat.le_of_ble_eq_true rfl) d_L_clear_16 ⟨Nat.le_of_ble_eq_true rfl, Nat.le_of_ble_eq_true rfl⟩) hP hD hS hA [1, 2, 3, 4] [0, 5, 6, 7, 8, 9] rfl rfl (by decide) (by decide) (fun u_ H locs _ hP hD hS => ?_)
  have hP : va_P D vwCl [zO 0 (q 15) [.ref no, .int 0, .ref ((q 16)), .ref ((q 20)), .ref ((q 24)), .int 0, .int 0, .int sp], zA t 2 (q 24) 16 (fun _ => none), zO 4 (q 16) [.ref ((q 17)), .ref ((q 18)), .ref ((q 19))], zI t (q 17) 32 (fun _ => 0), zI t (q 18) 32 (fun _ => 0), zA t 2 (q 19) 32 (fun _ => none), zO 4 (q 20) [.ref ((q 21)), .ref ((q 22)), .ref ((q 23))], zI t (q 21) 4 (fun _ => 0), zI t (q 22) 4 (fun _ => 0), zA t 2 (q 23) 4 (fun _ => none)] H := hP
  have hD : va_D A [zO 0 (q 15) [.ref no, .int 0, .ref ((q 16)), .ref ((q 20)), .ref ((q 24)), .int 0, .int 0, .int sp], zA t 2 (q 24) 16 (fun _ => none), zO 4 (q 16) [.ref ((q 17)), .ref ((q 18)), .ref ((q 19))], zI t (q 17) 32 (fun _ => 0), zI t (q 18) 32 (fun _ => 0), zA t 2 (q 19) 32 (fun _ => none), zO 4 (q 20) [.ref ((q 21)), .ref ((q 22)), .ref ((q 23))], zI t (q 21) 4 (fun _ => 0), zI t (q 22) 4 (fun _ => 0), zA t 2 (q 23) 4 (fun _ => none)] := hD
  refine lv_iconst (v := 0) hx hb d_L_clear_19 (by decide) ?_
  refine lv_istore_n (lv' := [(1, .int 0), (0, .ref ((q 15)))]) hx hb d_L_clear_20 rfl hl (by decide) rfl (fun ls hl => ?_)
  have loop : ∀ (n : Nat) (i : Nat), i + n = 16 → ∀ (H : Heap) (locs : List Loc), va_P D vwCl [zO 0 (q 15) [.ref no, .int 0, .ref ((q 16)), .ref ((q 20)), .ref ((q 24)), .int 0, .int 0, .int sp], zA t 2 (q 24) 16 (fun _ => none), zO 4 (q 16) [.ref ((q 17)), .ref ((q 18)), .ref ((q 19))], zI t (q 17) 32 (fun _ => 0), zI t (q 18) 32 (fun _ => 0), zA t 2 (q 19) 32 (fun _ => none), zO 4 (q 20) [.ref ((q 21)), .ref ((q 22)), .ref ((q 23))], zI t (q 21) 4 (fun _ => 0), zI t (q 22) 4 (fun _ => 0), zA t 2 (q 23) 4 (fun _ => none)] H → va_D A [zO 0 (q 15) [.ref no, .int 0, .ref ((q 16)), .ref ((q 20)), .ref ((q 24)), .int 0, .int 0, .int sp], zA t 2 (q 24) 16 (fun _ => none), zO 4 (q 16) [.ref ((q 17)), .ref ((q 18)), .ref ((q 19))], zI t (q 17) 32 (fun _ => 0), zI t (q 18) 32 (fun _ => 0), zA t 2 (q 19) 32 (fun _ => none), zO 4 (q 20) [.ref ((q 21)), .ref ((q 22)), .ref ((q 23))], zI t (q 21) 4 (fun _ => 0), zI t (q 22) 4 (fun _ => 0), zA t 2 (q 23) 4 (fun _ => none)] → va_S A s.heap H locs → ∀ (ls : Array Slot), lv_has ls 2 [(1, .int (nI i)), (0, .ref ((q 15)))] → W p l e ({ frames := 2, cells := 0, slots := 0, locals := 42 } : Room) s m ([.ref ((q 15))] : List Value).toArray below meth c H locs 0 0 (MQ below ((xe_v D vwCl (fun _ : Unit => True) (fun _ => [zO 0 (q 15) [.ref no, .int 0, .ref ((q 16)), .ref ((q 20)), .ref ((q 24)), .int 0, .int 0, .int sp], zO 4 (q 16) [.ref ((q 17)), .ref ((q 18)), .ref ((q 19))], zI t (q 17) 32 (fun _ => 0), zI t (q 18) 32 (fun _ => 0), zA t 2 (q 19) 32 (fun _ => none), zO 4 (q 20) [.ref ((q 21)), .ref ((q 22)), .ref ((q 23))], zI t (q 21) 4 (fun _ => 0), zI t (q 22) 4 (fun _ => 0), zA t 2 (q 23) 4 (fun _ => none), zA t 2 (q 24) 16 (fun _ => none)])) A) ([.ref ((q 15))] : List Value).toArray s 0 0 A) (F0 m 21 ls []) := by
    intro n
    induction n with
    | zero =>
      intro i hi H locs hP hD hS ls hl
      refine lv_iload_n hx hb d_L_clear_21 rfl (lv_at hl 0 rfl) ?_
      refine lv_bipush (v := 16) hx hb d_L_clear_22 (by decide) ?_
      refine lv_icmp_ge (tgt := 40) hx hb d_L_clear_24 (by decide) (fun _ => ?_) (fun c_1 => absurd (nI_le (b := i) (a := 16) (by omega) (by omega)) c_1)
      refine lv_aload_n hx hb d_L_clear_40 rfl (lv_at hl 1 rfl) ?_
      refine lv_iconst (v := 0) hx hb d_L_clear_41 (by decide) ?_
      refine va_put (ci := 0) (v := .int 0) (ty := tyX0 5) (C := "QuorumStore$Lead") (T := TX0) (N := 8) hx hb hts inX0 tyX0 okX0 nmX0 hown hK.2 hP hD hS 0 rfl rfl 5 (by decide) (hts _ k_144) (fun _ h9 => h9) rfl (by decide +kernel) rfl rfl (Nat.le_of_ble_eq_true rfl) d_L_clear_42 (fun H locs hP hD hS => ?_)
      have hP : va_P D vwCl [zO 0 (q 15) [.ref no, .int 0, .ref ((q 16)), .ref ((q 20)), .ref ((q 24)), .int 0, .int 0, .int sp], zA t 2 (q 24) 16 (fun _ => none), zO 4 (q 16) [.ref ((q 17)), .ref ((q 18)), .ref ((q 19))], zI t (q 17) 32 (fun _ => 0), zI t (q 18) 32 (fun _ => 0), zA t 2 (q 19) 32 (fun _ => none), zO 4 (q 20) [.ref ((q 21)), .ref ((q 22)), .ref ((q 23))], zI t (q 21) 4 (fun _ => 0), zI t (q 22) 4 (fun _ => 0), zA t 2 (q 23) 4 (fun _ => none)] H := hP
      have hD : va_D A [zO 0 (q 15) [.ref no, .int 0, .ref ((q 16)), .ref ((q 20)), .ref ((q 24)), .int 0, .int 0, .int sp], zA t 2 (q 24) 16 (fun _ => none), zO 4 (q 16) [.ref ((q 17)), .ref ((q 18)), .ref ((q 19))], zI t (q 17) 32 (fun _ => 0), zI t (q 18) 32 (fun _ => 0), zA t 2 (q 19) 32 (fun _ => none), zO 4 (q 20) [.ref ((q 21)), .ref ((q 22)), .ref ((q 23))], zI t (q 21) 4 (fun _ => 0), zI t (q 22) 4 (fun _ => 0), zA t 2 (q 23) 4 (fun _ => none)] := hD
      have hP := hP.sub (ws' := [zO 0 (q 15) [.ref no, .int 0, .ref ((q 16)), .ref ((q 20)), .ref ((q 24)), .int 0, .int 0, .int sp], zO 4 (q 16) [.ref ((q 17)), .ref ((q 18)), .ref ((q 19))], zI t (q 17) 32 (fun _ => 0), zI t (q 18) 32 (fun _ => 0), zA t 2 (q 19) 32 (fun _ => none), zO 4 (q 20) [.ref ((q 21)), .ref ((q 22)), .ref ((q 23))], zI t (q 21) 4 (fun _ => 0), zI t (q 22) 4 (fun _ => 0), zA t 2 (q 23) 4 (fun _ => none), zA t 2 (q 24) 16 (fun _ => none)]) [0, 2, 3, 4, 5, 6, 7, 8, 9, 1] rfl
      have hD := hD.sub (ws' := [zO 0 (q 15) [.ref no, .int 0, .ref ((q 16)), .ref ((q 20)), .ref ((q 24)), .int 0, .int 0, .int sp], zO 4 (q 16) [.ref ((q 17)), .ref ((q 18)), .ref ((q 19))], zI t (q 17) 32 (fun _ => 0), zI t (q 18) 32 (fun _ => 0), zA t 2 (q 19) 32 (fun _ => none), zO 4 (q 20) [.ref ((q 21)), .ref ((q 22)), .ref ((q 23))], zI t (q 21) 4 (fun _ => 0), zI t (q 22) 4 (fun _ => 0), zA t 2 (q 23) 4 (fun _ => none), zA t 2 (q 24) 16 (fun _ => none)]) [0, 2, 3, 4, 5, 6, 7, 8, 9, 1] (by decide) rfl
      exact W.vret hx hb hr (fun t ht hW => ⟨⟨(), rfl, trivial, by rw [ht]; exact hP, hD⟩, hS.F ht⟩) hS.2.2 d_L_clear_45
    | succ n ih =>
      intro i hi H locs hP hD hS ls hl
      refine lv_iload_n hx hb d_L_clear_21 rfl (lv_at hl 0 rfl) ?_
      refine lv_bipush (v := 16) hx hb d_L_clear_22 (by decide) ?_
      refine lv_icmp_ge (tgt := 40) hx hb d_L_clear_24 (by decide) (fun c_2 => absurd c_2 (nI_ge (a := i) (b := 16) (by omega) (by omega))) (fun _ => ?_)
      refine lv_aload_n hx hb d_L_clear_27 rfl (lv_at hl 1 rfl) ?_
      refine va_get (ci := 0) (C := "QuorumStore$Lead") (T := TX0) (N := 8) hx hb hts inX0 hown hK.2 hP 0 rfl rfl 4 (by decide) (hts _ k_143) (fun _ h9 => h9) rfl d_L_clear_28 ?_
      refine lv_iload_n hx hb d_L_clear_31 rfl (lv_at hl 0 rfl) ?_
      refine lv_null hx hb d_L_clear_32 ?_
      refine va_astqN hx hb hK.2 hP hD hS 1 2 rfl rfl (vp_in_nI (by omega) (by decide)) d_L_clear_33 (fun H locs hP hD hS => ?_)
      rw [xu_q] at hP hD
      have hP : va_P D vwCl [zO 0 (q 15) [.ref no, .int 0, .ref ((q 16)), .ref ((q 20)), .ref ((q 24)), .int 0, .int 0, .int sp], zA t 2 (q 24) 16 (fun _ => none), zO 4 (q 16) [.ref ((q 17)), .ref ((q 18)), .ref ((q 19))], zI t (q 17) 32 (fun _ => 0), zI t (q 18) 32 (fun _ => 0), zA t 2 (q 19) 32 (fun _ => none), zO 4 (q 20) [.ref ((q 21)), .ref ((q 22)), .ref ((q 23))], zI t (q 21) 4 (fun _ => 0), zI t (q 22) 4 (fun _ => 0), zA t 2 (q 23) 4 (fun _ => none)] H := hP
      have hD : va_D A [zO 0 (q 15) [.ref no, .int 0, .ref ((q 16)), .ref ((q 20)), .ref ((q 24)), .int 0, .int 0, .int sp], zA t 2 (q 24) 16 (fun _ => none), zO 4 (q 16) [.ref ((q 17)), .ref ((q 18)), .ref ((q 19))], zI t (q 17) 32 (fun _ => 0), zI t (q 18) 32 (fun _ => 0), zA t 2 (q 19) 32 (fun _ => none), zO 4 (q 20) [.ref ((q 21)), .ref ((q 22)), .ref ((q 23))], zI t (q 21) 4 (fun _ => 0), zI t (q 22) 4 (fun _ => 0), zA t 2 (q 23) 4 (fun _ => none)] := hD
      refine lv_iinc (v := nI (i + 1)) (lv' := [(1, .int (nI (i + 1))), (0, .ref ((q 15)))]) hx hb d_L_clear_34 hl (k := 0) rfl (nI_1 i) (by decide) rfl (fun ls hl => ?_)
      refine lv_goto (tgt := 21) hx hb d_L_clear_37 (by decide) ?_
      exact ih (i + 1) (by omega) H locs hP hD hS ls (lv_sub hl [0, 1] rfl)
  exact loop 16 0 (by omega) _ _ hP hD hS ls (lv_sub hl [0, 1] rfl)
theorem d_M_init_0 : decode c_M_init 0 = .ok (.aload_n 0, 1) := by decide +kernel
theorem d_M_init_1 : decode c_M_init 1 = .ok (.invokespecial 1, 3) := by decide +kernel
theorem d_M_init_4 : decode c_M_init 4 = .ok (.aload_n 0, 1) := by decide +kernel
theorem d_M_init_5 : decode c_M_init 5 = .ok (.iload_n 1, 1) := by decide +kernel
theorem d_M_init_6 : decode c_M_init 6 = .ok (.putfield 7, 3) := by decide +kernel
theorem d_M_init_9 : decode c_M_init 9 = .ok (.aload_n 0, 1) := by decide +kernel
theorem d_M_init_10 : decode c_M_init 10 = .ok (.iload_n 2, 1) := by decide +kernel
theorem d_M_init_11 : decode c_M_init 11 = .ok (.putfield 13, 3) := by decide +kernel
theorem d_M_init_14 : decode c_M_init 14 = .ok (.aload_n 0, 1) := by decide +kernel
theorem d_M_init_15 : decode c_M_init 15 = .ok (.iload_n 3, 1) := by decide +kernel
theorem d_M_init_16 : decode c_M_init 16 = .ok (.putfield 16, 3) := by decide +kernel
theorem d_M_init_19 : decode c_M_init 19 = .ok (.aload_n 0, 1) := by decide +kernel
theorem d_M_init_20 : decode c_M_init 20 = .ok (.iload 4, 2) := by decide +kernel
theorem d_M_init_22 : decode c_M_init 22 = .ok (.putfield 19, 3) := by decide +kernel
theorem d_M_init_25 : decode c_M_init 25 = .ok (.aload_n 0, 1) := by decide +kernel
theorem d_M_init_26 : decode c_M_init 26 = .ok (.iload 5, 2) := by decide +kernel
theorem d_M_init_28 : decode c_M_init 28 = .ok (.putfield 22, 3) := by decide +kernel
theorem d_M_init_31 : decode c_M_init 31 = .ok (.aload_n 0, 1) := by decide +kernel
theorem d_M_init_32 : decode c_M_init 32 = .ok (.aload 6, 2) := by decide +kernel
theorem d_M_init_34 : decode c_M_init 34 = .ok (.putfield 25, 3) := by decide +kernel
theorem d_M_init_37 : decode c_M_init 37 = .ok (.return_, 1) := by decide +kernel
set_option maxHeartbeats 4000000 in
set_option maxRecDepth 100000 in
/-- a message without a value -/
theorem C_M_init (l : Launch) (D : va_G) (t : Nat → ClassId) (mq : Nat) (k fm tt bl sl : Int32) : xe_C l D vwCl (xTY t) y_M_init c_M_init 7 (Option.none : Option FieldType) ({ frames := 1, cells := 0, slots := 0, locals := 20 }) [.ref mq, .int k, .int fm, .int tt, .int bl, .int sl, .null] [zO 1 mq [.int 0, .int 0, .int 0, .int 0, .int 0, .null, .null, .null]] (xe_v D vwCl (fun _ : Unit => True) (fun _ => [zO 1 mq [.int k, .int fm, .int tt, .int bl, .int sl, .null, .null, .null]])) 0 0 := by
  refine xe_of (by decide) (Nat.le_of_ble_eq_true rfl) ?_
  intro p e s m below meth c ls A Z hr hlocks hin hA hP hD hS hl
  obtain ⟨hx, hb, hml, hown, hK⟩ := id Z
  have hown : s.vm.findClass "QuorumStore$Message" = some m.cls := hown
  have hts := hK.1.at (args := ([.ref mq, .int k, .int fm, .int tt, .int bl, .int sl, .null] : List Value).toArray)
  have hl : lv_has ls 7 [(0, .ref mq), (1, .int k), (2, .int fm), (3, .int tt), (4, .int bl), (5, .int sl), (6, .null)] := hl
  refine lv_aload_n hx hb d_M_init_0 rfl (lv_at hl 0 rfl) ?_
  refine W.objInit hx hb hown (hts _ k_379) (hts _ k_30) (hts _ k_31) rfl (by rw [hml]; exact hl.1) rfl d_M_init_1 (Nat.le_of_ble_eq_true rfl) (Nat.le_of_ble_eq_true rfl) ?_
  refine W.eq (g2 := F0 m 4 ls []) rfl ?_
  refine lv_aload_n hx hb d_M_init_4 rfl (lv_at hl 0 rfl) ?_
  refine lv_iload_n hx hb d_M_init_5 rfl (lv_at hl 1 rfl) ?_
  refine va_putF (ci := 1) (v := .int k) (ty := tyX1 0) (C := "QuorumStore$Message") (T := TX1) (N := 8) hx hb hts inX1 tyX1 okX1 nmX1 hown hK.2 hP hD hS 0 rfl rfl 0 (by decide) (hts _ k_380) (fun _ h9 => h9) rfl hin rfl (by decide +kernel) rfl rfl (Nat.le_of_ble_eq_true rfl) d_M_init_6 (fun H locs hP hD hS => ?_)
  have hP : va_P D vwCl [zO 1 mq [.int k, .int 0, .int 0, .int 0, .int 0, .null, .null, .null]] H := hP
  have hD : va_D A [zO 1 mq [.int k, .int 0, .int 0, .int 0, .int 0, .null, .null, .null]] := hD
  refine lv_aload_n hx hb d_M_init_9 rfl (lv_at hl 0 rfl) ?_
  refine lv_iload_n hx hb d_M_init_10 rfl (lv_at hl 2 rfl) ?_
  refine va_putF (ci := 1) (v := .int fm) (ty := tyX1 1) (C := "QuorumStore$Message") (T := TX1) (N := 8) hx hb hts inX1 tyX1 okX1 nmX1 hown hK.2 hP hD hS 0 rfl rfl 1 (by decide) (hts _ k_383) (fun _ h9 => h9) rfl hin rfl (by decide +kernel) rfl rfl (Nat.le_of_ble_eq_true rfl) d_M_init_11 (fun H locs hP hD hS => ?_)
  have hP : va_P D vwCl [zO 1 mq [.int k, .int fm, .int 0, .int 0, .int 0, .null, .null, .null]] H := hP
  have hD : va_D A [zO 1 mq [.int k, .int fm, .int 0, .int 0, .int 0, .null, .null, .null]] := hD
  refine lv_aload_n hx hb d_M_init_14 rfl (lv_at hl 0 rfl) ?_
  refine lv_iload_n hx hb d_M_init_15 rfl (lv_at hl 3 rfl) ?_
  refine va_putF (ci := 1) (v := .int tt) (ty := tyX1 2) (C := "QuorumStore$Message") (T := TX1) (N := 8) hx hb hts inX1 tyX1 okX1 nmX1 hown hK.2 hP hD hS 0 rfl rfl 2 (by decide) (hts _ k_386) (fun _ h9 => h9) rfl hin rfl (by decide +kernel) rfl rfl (Nat.le_of_ble_eq_true rfl) d_M_init_16 (fun H locs hP hD hS => ?_)
  have hP : va_P D vwCl [zO 1 mq [.int k, .int fm, .int tt, .int 0, .int 0, .null, .null, .null]] H := hP
  have hD : va_D A [zO 1 mq [.int k, .int fm, .int tt, .int 0, .int 0, .null, .null, .null]] := hD
  refine lv_aload_n hx hb d_M_init_19 rfl (lv_at hl 0 rfl) ?_
  refine lv_iload hx hb d_M_init_20 (lv_at hl 4 rfl) ?_
  refine va_putF (ci := 1) (v := .int bl) (ty := tyX1 3) (C := "QuorumStore$Message") (T := TX1) (N := 8) hx hb hts inX1 tyX1 okX1 nmX1 hown hK.2 hP hD hS 0 rfl rfl 3 (by decide) (hts _ k_388) (fun _ h9 => h9) rfl hin rfl (by decide +kernel) rfl rfl (Nat.le_of_ble_eq_true rfl) d_M_init_22 (fun H locs hP hD hS => ?_)
  have hP : va_P D vwCl [zO 1 mq [.int k, .int fm, .int tt, .int bl, .int 0, .null, .null, .null]] H := hP
  have hD : va_D A [zO 1 mq [.int k, .int fm, .int tt, .int bl, .int 0, .null, .null, .null]] := hD
  refine lv_aload_n hx hb d_M_init_25 rfl (lv_at hl 0 rfl) ?_
  refine lv_iload hx hb d_M_init_26 (lv_at hl 5 rfl) ?_
  refine va_putF (ci := 1) (v := .int sl) (ty := tyX1 4) (C := "QuorumStore$Message") (T := TX1) (N := 8) hx hb hts inX1 tyX1 okX1 nmX1 hown hK.2 hP hD hS 0 rfl rfl 4 (by decide) (hts _ k_391) (fun _ h9 => h9) rfl hin rfl (by decide +kernel) rfl rfl (Nat.le_of_ble_eq_true rfl) d_M_init_28 (fun H locs hP hD hS => ?_)
  have hP : va_P D vwCl [zO 1 mq [.int k, .int fm, .int tt, .int bl, .int sl, .null, .null, .null]] H := hP
  have hD : va_D A [zO 1 mq [.int k, .int fm, .int tt, .int bl, .int sl, .null, .null, .null]] := hD
  refine lv_aload_n hx hb d_M_init_31 rfl (lv_at hl 0 rfl) ?_
  refine lv_aloadN hx hb d_M_init_32 (lv_at hl 6 rfl) ?_
  refine va_putF (ci := 1) (v := .null) (ty := tyX1 5) (C := "QuorumStore$Message") (T := TX1) (N := 8) hx hb hts inX1 tyX1 okX1 nmX1 hown hK.2 hP hD hS 0 rfl rfl 5 (by decide) (hts _ k_394) (fun _ h9 => h9) rfl hin rfl (by decide +kernel) rfl rfl (Nat.le_of_ble_eq_true rfl) d_M_init_34 (fun H locs hP hD hS => ?_)
  have hP : va_P D vwCl [zO 1 mq [.int k, .int fm, .int tt, .int bl, .int sl, .null, .null, .null]] H := hP
  have hD : va_D A [zO 1 mq [.int k, .int fm, .int tt, .int bl, .int sl, .null, .null, .null]] := hD
  exact W.vret hx hb hr (fun t ht hW => ⟨⟨(), rfl, trivial, by rw [ht]; exact hP, hD⟩, hS.F ht⟩) hS.2.2 d_M_init_37
theorem d_N_send_0 : decode c_N_send 0 = .ok (.aload_n 0, 1) := by decide +kernel
theorem d_N_send_1 : decode c_N_send 1 = .ok (.dup, 1) := by decide +kernel
theorem d_N_send_2 : decode c_N_send 2 = .ok (.getfield 21, 3) := by decide +kernel
theorem d_N_send_5 : decode c_N_send 5 = .ok (.iconst 1, 1) := by decide +kernel
theorem d_N_send_6 : decode c_N_send 6 = .ok (.iadd, 1) := by decide +kernel
theorem d_N_send_7 : decode c_N_send 7 = .ok (.putfield 21, 3) := by decide +kernel
theorem d_N_send_10 : decode c_N_send 10 = .ok (.aload_n 0, 1) := by decide +kernel
theorem d_N_send_11 : decode c_N_send 11 = .ok (.getfield 17, 3) := by decide +kernel
theorem d_N_send_14 : decode c_N_send 14 = .ok (.sipush 300, 3) := by decide +kernel
theorem d_N_send_17 : decode c_N_send 17 = .ok (.if_icmp .ge 26, 3) := by decide +kernel
theorem d_N_send_20 : decode c_N_send 20 = .ok (.aload_n 0, 1) := by decide +kernel
theorem d_N_send_21 : decode c_N_send 21 = .ok (.getfield 11, 3) := by decide +kernel
theorem d_N_send_24 : decode c_N_send 24 = .ok (.aload_n 0, 1) := by decide +kernel
theorem d_N_send_25 : decode c_N_send 25 = .ok (.getfield 17, 3) := by decide +kernel
theorem d_N_send_28 : decode c_N_send 28 = .ok (.aload_n 1, 1) := by decide +kernel
theorem d_N_send_29 : decode c_N_send 29 = .ok (.aastore, 1) := by decide +kernel
theorem d_N_send_30 : decode c_N_send 30 = .ok (.aload_n 0, 1) := by decide +kernel
theorem d_N_send_31 : decode c_N_send 31 = .ok (.dup, 1) := by decide +kernel
theorem d_N_send_32 : decode c_N_send 32 = .ok (.getfield 17, 3) := by decide +kernel
theorem d_N_send_35 : decode c_N_send 35 = .ok (.iconst 1, 1) := by decide +kernel
theorem d_N_send_36 : decode c_N_send 36 = .ok (.iadd, 1) := by decide +kernel
theorem d_N_send_37 : decode c_N_send 37 = .ok (.putfield 17, 3) := by decide +kernel
theorem d_N_send_40 : decode c_N_send 40 = .ok (.goto 13, 3) := by decide +kernel
theorem d_N_send_53 : decode c_N_send 53 = .ok (.return_, 1) := by decide +kernel
set_option maxHeartbeats 4000000 in
set_option maxRecDepth 100000 in
/-- send where there is room -/
theorem C_N_send (l : Launch) (D : va_G) (t : Nat → ClassId) (nw rw mq : Nat) (z : Nat) (hlt : z < 300) (x y : Int32) (g : Nat → Option Nat) (k fm tt bl sl : Int32) : xe_C l D vwCl (xTY t) y_N_send c_N_send 2 (Option.none : Option FieldType) ({ frames := 0, cells := 0, slots := 0, locals := 0 }) [.ref nw, .ref mq] [zO 2 nw [.ref rw, .int (nI z), .int x, .int y, .int 0], zA t 3 rw 300 g, zO 1 mq [.int k, .int fm, .int tt, .int bl, .int sl, .null, .null, .null]] (xe_v D vwCl (fun _ : Int32 × Int32 × (Nat → Option Nat) => True) (fun u : Int32 × Int32 × (Nat → Option Nat) => [zO 2 nw [.ref rw, .int (nI (min 300 (z + 1))), .int u.1, .int u.2.1, .int 0], zA t 3 rw 300 u.2.2])) 0 0 := by
  refine xe_of (by decide) (Nat.le_of_ble_eq_true rfl) ?_
  intro p e s m below meth c ls A Z hr hlocks hin hA hP hD hS hl
  obtain ⟨hx, hb, hml, hown, hK⟩ := id Z
  have hown : s.vm.findClass "QuorumStore$Network" = some m.cls := hown
  have hts := hK.1.at (args := ([.ref nw, .ref mq] : List Value).toArray)
  have hl : lv_has ls 2 [(0, .ref nw), (1, .ref mq)] := hl
  refine lv_aload_n hx hb d_N_send_0 rfl (lv_at hl 0 rfl) ?_
  refine lv_dup hx hb d_N_send_1 rfl ?_
  refine va_get (ci := 2) (C := "QuorumStore$Network") (T := TX2) (N := 5) hx hb hts inX2 hown hK.2 hP 0 rfl rfl 2 (by decide) (hts _ k_44) (fun _ h9 => h9) rfl d_N_send_2 ?_
  refine lv_iconst (v := 1) hx hb d_N_send_5 (by decide) ?_
  refine lv_iadd hx hb d_N_send_6 ?_
  refine lv_topi (fun f_1 ef_1 => ?_)
  refine va_put (ci := 2) (v := .int f_1) (ty := tyX2 2) (C := "QuorumStore$Network") (T := TX2) (N := 5) hx hb hts inX2 tyX2 okX2 nmX2 hown hK.2 hP hD hS 0 rfl rfl 2 (by decide) (hts _ k_44) (fun _ h9 => h9) rfl (by decide +kernel) rfl rfl (Nat.le_of_ble_eq_true rfl) d_N_send_7 (fun H locs hP hD hS => ?_)
  have hP : va_P D vwCl [zO 2 nw [.ref rw, .int (nI z), .int f_1, .int y, .int 0], zA t 3 rw 300 g, zO 1 mq [.int k, .int fm, .int tt, .int bl, .int sl, .null, .null, .null]] H := hP
  have hD : va_D A [zO 2 nw [.ref rw, .int (nI z), .int f_1, .int y, .int 0], zA t 3 rw 300 g, zO 1 mq [.int k, .int fm, .int tt, .int bl, .int sl, .null, .null, .null]] := hD
  refine lv_aload_n hx hb d_N_send_10 rfl (lv_at hl 0 rfl) ?_
  refine va_get (ci := 2) (C := "QuorumStore$Network") (T := TX2) (N := 5) hx hb hts inX2 hown hK.2 hP 0 rfl rfl 1 (by decide) (hts _ k_42) (fun _ h9 => h9) rfl d_N_send_11 ?_
  refine lv_sipush (v := 300) hx hb d_N_send_14 (by decide) ?_
  refine lv_icmp_ge (tgt := 43) hx hb d_N_send_17 (by decide) (fun c_2 => absurd c_2 (nI_ge (a := z) (b := 300) hlt (by decide))) (fun _ => ?_)
  refine lv_aload_n hx hb d_N_send_20 rfl (lv_at hl 0 rfl) ?_
  refine va_get (ci := 2) (C := "QuorumStore$Network") (T := TX2) (N := 5) hx hb hts inX2 hown hK.2 hP 0 rfl rfl 0 (by decide) (hts _ k_40) (fun _ h9 => h9) rfl d_N_send_21 ?_
  refine lv_aload_n hx hb d_N_send_24 rfl (lv_at hl 0 rfl) ?_
  refine va_get (ci := 2) (C := "QuorumStore$Network") (T := TX2) (N := 5) hx hb hts inX2 hown hK.2 hP 0 rfl rfl 1 (by decide) (hts _ k_42) (fun _ h9 => h9) rfl d_N_send_25 ?_
  refine lv_aload_n hx hb d_N_send_28 rfl (lv_at hl 1 rfl) ?_
  refine va_astq hx hb hK.2 hP hD hS 1 3 2 1 rfl rfl rfl rfl (vp_in_nI hlt (by decide)) d_N_send_29 (fun H locs hP hD hS => ?_)
  have hP : va_P D vwCl [zO 2 nw [.ref rw, .int (nI z), .int f_1, .int y, .int 0], zA t 3 rw 300 (va_up (g) (nI z).toNatClampNeg (some mq)), zO 1 mq [.int k, .int fm, .int tt, .int bl, .int sl, .null, .null, .null]] H := hP
  have hD : va_D A [zO 2 nw [.ref rw, .int (nI z), .int f_1, .int y, .int 0], zA t 3 rw 300 (va_up (g) (nI z).toNatClampNeg (some mq)), zO 1 mq [.int k, .int fm, .int tt, .int bl, .int sl, .null, .null, .null]] := hD
  refine lv_aload_n hx hb d_N_send_30 rfl (lv_at hl 0 rfl) ?_
  refine lv_dup hx hb d_N_send_31 rfl ?_
  refine va_get (ci := 2) (C := "QuorumStore$Network") (T := TX2) (N := 5) hx hb hts inX2 hown hK.2 hP 0 rfl rfl 1 (by decide) (hts _ k_42) (fun _ h9 => h9) rfl d_N_send_32 ?_
  refine lv_iconst (v := 1) hx hb d_N_send_35 (by decide) ?_
  refine lv_iadd hx hb d_N_send_36 ?_
  refine lv_topi (fun f_3 ef_3 => ?_)
  refine va_put (ci := 2) (v := .int f_3) (ty := tyX2 1) (C := "QuorumStore$Network") (T := TX2) (N := 5) hx hb hts inX2 tyX2 okX2 nmX2 hown hK.2 hP hD hS 0 rfl rfl 1 (by decide) (hts _ k_42) (fun _ h9 => h9) rfl (by decide +kernel) rfl rfl (Nat.le_of_ble_eq_true rfl) d_N_send_37 (fun H locs hP hD hS => ?_)
  have hP : va_P D vwCl [zO 2 nw [.ref rw, .int f_3, .int f_1, .int y, .int 0], zA t 3 rw 300 (va_up (g) (nI z).toNatClampNeg (some mq)), zO 1 mq [.int k, .int fm, .int tt, .int bl, .int sl, .null, .null, .null]] H := hP
  have hD : va_D A [zO 2 nw [.ref rw, .int f_3, .int f_1, .int y, .int 0], zA t 3 rw 300 (va_up (g) (nI z).toNatClampNeg (some mq)), zO 1 mq [.int k, .int fm, .int tt, .int bl, .int sl, .null, .null, .null]] := hD
  refine lv_goto (tgt := 53) hx hb d_N_send_40 (by decide) ?_
  have e9 : nI z + 1 = nI (min 300 (z + 1)) := by rw [nI_1, Nat.min_eq_right (by omega)]
  rw [ef_3, e9] at hP hD
  have hP := hP.sub (ws' := [zO 2 nw [.ref rw, .int (nI (min 300 (z + 1))), .int f_1, .int y, .int 0], zA t 3 rw 300 (va_up (g) (nI z).toNatClampNeg (some mq))]) [0, 1] rfl
  have hD := hD.sub (ws' := [zO 2 nw [.ref rw, .int (nI (min 300 (z + 1))), .int f_1, .int y, .int 0], zA t 3 rw 300 (va_up (g) (nI z).toNatClampNeg (some mq))]) [0, 1] (by decide) rfl
  exact W.vret hx hb hr (fun t ht hW => ⟨⟨(_, _, _), rfl, trivial, by rw [ht]; exact hP, hD⟩, hS.F ht⟩) hS.2.2 d_N_send_53
theorem d_N_sendPlain_0 : decode c_N_sendPlain 0 = .ok (.aload_n 0, 1) := by decide +kernel
theorem d_N_sendPlain_1 : decode c_N_sendPlain 1 = .ok (.getfield 17, 3) := by decide +kernel
theorem d_N_sendPlain_4 : decode c_N_sendPlain 4 = .ok (.sipush 300, 3) := by decide +kernel
theorem d_N_sendPlain_7 : decode c_N_sendPlain 7 = .ok (.if_icmp .lt 26, 3) := by decide +kernel
theorem d_N_sendPlain_10 : decode c_N_sendPlain 10 = .ok (.aload_n 0, 1) := by decide +kernel
theorem d_N_sendPlain_11 : decode c_N_sendPlain 11 = .ok (.dup, 1) := by decide +kernel
theorem d_N_sendPlain_12 : decode c_N_sendPlain 12 = .ok (.getfield 21, 3) := by decide +kernel
theorem d_N_sendPlain_15 : decode c_N_sendPlain 15 = .ok (.iconst 1, 1) := by decide +kernel
theorem d_N_sendPlain_16 : decode c_N_sendPlain 16 = .ok (.iadd, 1) := by decide +kernel
theorem d_N_sendPlain_17 : decode c_N_sendPlain 17 = .ok (.putfield 21, 3) := by decide +kernel
theorem d_N_sendPlain_20 : decode c_N_sendPlain 20 = .ok (.aload_n 0, 1) := by decide +kernel
theorem d_N_sendPlain_21 : decode c_N_sendPlain 21 = .ok (.dup, 1) := by decide +kernel
theorem d_N_sendPlain_22 : decode c_N_sendPlain 22 = .ok (.getfield 24, 3) := by decide +kernel
theorem d_N_sendPlain_25 : decode c_N_sendPlain 25 = .ok (.iconst 1, 1) := by decide +kernel
theorem d_N_sendPlain_26 : decode c_N_sendPlain 26 = .ok (.iadd, 1) := by decide +kernel
theorem d_N_sendPlain_27 : decode c_N_sendPlain 27 = .ok (.putfield 24, 3) := by decide +kernel
theorem d_N_sendPlain_30 : decode c_N_sendPlain 30 = .ok (.goto 23, 3) := by decide +kernel
theorem d_N_sendPlain_33 : decode c_N_sendPlain 33 = .ok (.aload_n 0, 1) := by decide +kernel
theorem d_N_sendPlain_34 : decode c_N_sendPlain 34 = .ok (.new 9, 3) := by decide +kernel
theorem d_N_sendPlain_37 : decode c_N_sendPlain 37 = .ok (.dup, 1) := by decide +kernel
theorem d_N_sendPlain_38 : decode c_N_sendPlain 38 = .ok (.iload_n 1, 1) := by decide +kernel
theorem d_N_sendPlain_39 : decode c_N_sendPlain 39 = .ok (.iload_n 2, 1) := by decide +kernel
theorem d_N_sendPlain_40 : decode c_N_sendPlain 40 = .ok (.iload_n 3, 1) := by decide +kernel
theorem d_N_sendPlain_41 : decode c_N_sendPlain 41 = .ok (.iload 4, 2) := by decide +kernel
theorem d_N_sendPlain_43 : decode c_N_sendPlain 43 = .ok (.iload 5, 2) := by decide +kernel
theorem d_N_sendPlain_45 : decode c_N_sendPlain 45 = .ok (.aload 6, 2) := by decide +kernel
theorem d_N_sendPlain_47 : decode c_N_sendPlain 47 = .ok (.invokespecial 27, 3) := by decide +kernel
theorem d_N_sendPlain_50 : decode c_N_sendPlain 50 = .ok (.invokevirtual 30, 3) := by decide +kernel
theorem d_N_sendPlain_53 : decode c_N_sendPlain 53 = .ok (.return_, 1) := by decide +kernel
set_option maxHeartbeats 4000000 in
set_option maxRecDepth 100000 in
/-- sendPlain of a message without a value -/
theorem C_N_sendPlain (l : Launch) (D : va_G) (t : Nat → ClassId) (nw rw : Nat) (z : Nat) (hz : z ≤ 300) (x y : Int32) (g : Nat → Option Nat) (k fm tt bl sl : Int32) : xe_C l D vwCl (xTY t) y_N_sendPlain c_N_sendPlain 7 (Option.none : Option FieldType) ({ frames := 2, cells := 1, slots := 8, locals := 46 }) [.ref nw, .int k, .int fm, .int tt, .int bl, .int sl, .null] [zO 2 nw [.ref rw, .int (nI z), .int x, .int y, .int 0], zA t 3 rw 300 g] (xe_v D vwCl (fun _ : Int32 × Int32 × (Nat → Option Nat) => True) (fun u : Int32 × Int32 × (Nat → Option Nat) => [zO 2 nw [.ref rw, .int (nI (min 300 (z + 1))), .int u.1, .int u.2.1, .int 0], zA t 3 rw 300 u.2.2])) 1 8 := by
  refine xe_of (by decide) (Nat.le_of_ble_eq_true rfl) ?_
  intro p e s m below meth c ls A Z hr hlocks hin hA hP hD hS hl
  obtain ⟨hx, hb, hml, hown, hK⟩ := id Z
  have hown : s.vm.findClass "QuorumStore$Network" = some m.cls := hown
  have hts := hK.1.at (args := ([.ref nw, .int k, .int fm, .int tt, .int bl, .int sl, .null] : List Value).toArray)
  have hl : lv_has ls 7 [(0, .ref nw), (1, .int k), (2, .int fm), (3, .int tt), (4, .int bl), (5, .int sl), (6, .null)] := hl
  refine lv_aload_n hx hb d_N_sendPlain_0 rfl (lv_at hl 0 rfl) ?_
  refine va_get (ci := 2) (C := "QuorumStore$Network") (T := TX2) (N := 5) hx hb hts inX2 hown hK.2 hP 0 rfl rfl 1 (by decide) (hts _ k_42) (fun _ h9 => h9) rfl d_N_sendPlain_1 ?_
  refine lv_sipush (v := 300) hx hb d_N_sendPlain_4 (by decide) ?_
  refine lv_icmp_lt (tgt := 33) hx hb d_N_sendPlain_7 (by decide) (fun c_1 => ?_) (fun c_1 => ?_)
  · have hlt : z < 300 := by
      rcases Nat.lt_or_ge z 300 with h | h
      · exact h
      · exact absurd c_1 (nI_nlt h (by omega))
    refine lv_aload_n hx hb d_N_sendPlain_33 rfl (lv_at hl 0 rfl) ?_
    refine va_new (ci := 1) (fs := [.int 0, .int 0, .int 0, .int 0, .int 0, .null, .null, .null]) (C := "QuorumStore$Message") (T := TX1) (N := 8) hx hb hts inX1 tyX1 okX1 hown (hts _ k_38) (hts _ k_375) (hts _ k_17) hK.2 hP hD hS hA rfl (by decide) (Nat.le_of_ble_eq_true rfl) (Nat.le_of_ble_eq_true rfl) d_N_sendPlain_34 (fun q_2 H hP hD hS => ?_)
    have hP : va_P D vwCl [zO 2 nw [.ref rw, .int (nI z), .int x, .int y, .int 0], zA t 3 rw 300 g, zO 1 q_2 [.int 0, .int 0, .int 0, .int 0, .int 0, .null, .null, .null]] H := hP
    have hD : va_D A [zO 2 nw [.ref rw, .int (nI z), .int x, .int y, .int 0], zA t 3 rw 300 g, zO 1 q_2 [.int 0, .int 0, .int 0, .int 0, .int 0, .null, .null, .null]] := hD
    refine lv_dup hx hb d_N_sendPlain_37 rfl ?_
    refine lv_iload_n hx hb d_N_sendPlain_38 rfl (lv_at hl 1 rfl) ?_
    refine lv_iload_n hx hb d_N_sendPlain_39 rfl (lv_at hl 2 rfl) ?_
    refine lv_iload_n hx hb d_N_sendPlain_40 rfl (lv_at hl 3 rfl) ?_
    refine lv_iload hx hb d_N_sendPlain_41 (lv_at hl 4 rfl) ?_
    refine lv_iload hx hb d_N_sendPlain_43 (lv_at hl 5 rfl) ?_
    refine lv_aloadN hx hb d_N_sendPlain_45 (lv_at hl 6 rfl) ?_
    refine xe_callv (wr := [zO 2 nw [.ref rw, .int (nI z), .int x, .int y, .int 0], zA t 3 rw 300 g]) (xs_I (As := [.int k, .int fm, .int tt, .int bl, .int sl, .null]) (rest := [.ref q_2, .ref nw]) Z (C_M_init l D t q_2 k fm tt bl sl H.size) m_M_init k_376 k_377 rfl rfl rfl ⟨Nat.le_of_ble_eq_true rfl, Nat.le_of_ble_eq_true rfl⟩ (xe_pre hK (hP.sub [2] rfl) (hD.sub [2] (by decide) rfl)) rfl hl.1 rfl (Nat.le_of_ble_eq_true rfl) d_N_sendPlain_47 ⟨Nat.le_of_ble_eq_true rfl, Nat.le_of_ble_eq_true rfl⟩) hP hD hS hA [2] [0, 1] rfl rfl (by decide) (by decide) (fun u_ H locs _ hP hD hS => ?_)
    have hP : va_P D vwCl [zO 2 nw [.ref rw, .int (nI z), .int x, .int y, .int 0], zA t 3 rw 300 g, zO 1 q_2 [.int k, .int fm, .int tt, .int bl, .int sl, .null, .null, .null]] H := hP
    have hD : va_D A [zO 2 nw [.ref rw, .int (nI z), .int x, .int y, .int 0], zA t 3 rw 300 g, zO 1 q_2 [.int k, .int fm, .int tt, .int bl, .int sl, .null, .null, .null]] := hD
    refine xe_callv (wr := []) (xs_V (As := [.ref q_2]) (rest := []) Z (C_N_send l D t nw rw q_2 z hlt x y g k fm tt bl sl H.size) m_N_send k_416 k_417 k_418 rfl rfl ⟨Nat.le_of_ble_eq_true rfl, Nat.le_of_ble_eq_true rfl⟩ (va_recv hK.2 hP (ci := 2) (q0 := 0) rfl rfl) (xe_pre hK (hP.sub [0, 1, 2] rfl) (hD.sub [0, 1, 2] (by decide) rfl)) rfl hl.1 rfl (Nat.le_of_ble_eq_true rfl) d_N_sendPlain_50 ⟨Nat.le_of_ble_eq_true rfl, Nat.le_of_ble_eq_true rfl⟩) hP hD hS hA [0, 1, 2] [] rfl rfl (by decide) (by decide) (fun u_ H locs _ hP hD hS => ?_)
    obtain ⟨x2, y2, g2⟩ := u_
    have hP : va_P D vwCl [zO 2 nw [.ref rw, .int (nI (min 300 (z + 1))), .int x2, .int y2, .int 0], zA t 3 rw 300 g2] H := hP
    have hD : va_D A [zO 2 nw [.ref rw, .int (nI (min 300 (z + 1))), .int x2, .int y2, .int 0], zA t 3 rw 300 g2] := hD
    exact W.vret hx hb hr (fun t ht hW => ⟨⟨(_, _, _), rfl, trivial, by rw [ht]; exact hP, hD⟩, hS.F ht⟩) hS.2.2 d_N_sendPlain_53
  · have hz3 : z = 300 := by
      rcases Nat.lt_or_ge z 300 with h | h
      · exact absurd (nI_lt h (by decide)) c_1
      · omega
    subst hz3
    refine lv_aload_n hx hb d_N_sendPlain_10 rfl (lv_at hl 0 rfl) ?_
    refine lv_dup hx hb d_N_sendPlain_11 rfl ?_
    refine va_get (ci := 2) (C := "QuorumStore$Network") (T := TX2) (N := 5) hx hb hts inX2 hown hK.2 hP 0 rfl rfl 2 (by decide) (hts _ k_44) (fun _ h9 => h9) rfl d_N_sendPlain_12 ?_
    refine lv_iconst (v := 1) hx hb d_N_sendPlain_15 (by decide) ?_
    refine lv_iadd hx hb d_N_sendPlain_16 ?_
    refine lv_topi (fun f_3 ef_3 => ?_)
    refine va_put (ci := 2) (v := .int f_3) (ty := tyX2 2) (C := "QuorumStore$Network") (T := TX2) (N := 5) hx hb hts inX2 tyX2 okX2 nmX2 hown hK.2 hP hD hS 0 rfl rfl 2 (by decide) (hts _ k_44) (fun _ h9 => h9) rfl (by decide +kernel) rfl rfl (Nat.le_of_ble_eq_true rfl) d_N_sendPlain_17 (fun H locs hP hD hS => ?_)
    have hP : va_P D vwCl [zO 2 nw [.ref rw, .int (nI 300), .int f_3, .int y, .int 0], zA t 3 rw 300 g] H := hP
    have hD : va_D A [zO 2 nw [.ref rw, .int (nI 300), .int f_3, .int y, .int 0], zA t 3 rw 300 g] := hD
    refine lv_aload_n hx hb d_N_sendPlain_20 rfl (lv_at hl 0 rfl) ?_
    refine lv_dup hx hb d_N_sendPlain_21 rfl ?_
    refine va_get (ci := 2) (C := "QuorumStore$Network") (T := TX2) (N := 5) hx hb hts inX2 hown hK.2 hP 0 rfl rfl 3 (by decide) (hts _ k_46) (fun _ h9 => h9) rfl d_N_sendPlain_22 ?_
    refine lv_iconst (v := 1) hx hb d_N_sendPlain_25 (by decide) ?_
    refine lv_iadd hx hb d_N_sendPlain_26 ?_
    refine lv_topi (fun f_4 ef_4 => ?_)
    refine va_put (ci := 2) (v := .int f_4) (ty := tyX2 3) (C := "QuorumStore$Network") (T := TX2) (N := 5) hx hb hts inX2 tyX2 okX2 nmX2 hown hK.2 hP hD hS 0 rfl rfl 3 (by decide) (hts _ k_46) (fun _ h9 => h9) rfl (by decide +kernel) rfl rfl (Nat.le_of_ble_eq_true rfl) d_N_sendPlain_27 (fun H locs hP hD hS => ?_)
    have hP : va_P D vwCl [zO 2 nw [.ref rw, .int (nI 300), .int f_3, .int f_4, .int 0], zA t 3 rw 300 g] H := hP
    have hD : va_D A [zO 2 nw [.ref rw, .int (nI 300), .int f_3, .int f_4, .int 0], zA t 3 rw 300 g] := hD
    refine lv_goto (tgt := 53) hx hb d_N_sendPlain_30 (by decide) ?_
    refine W.widen (k := 1) (n := 8) (by decide) (by decide) ?_
    exact W.vret hx hb hr (fun t ht hW => ⟨⟨(_, _, _), rfl, trivial, by rw [ht]; exact hP, hD⟩, hS.F ht⟩) hS.2.2 d_N_sendPlain_53
end
section
/-! A node's share of a tick, where nothing was ever delivered. -/
/-- how many of the first j bits are there -/
def xn (m : Int32) : Nat → Nat
  | 0 => 0
  | j + 1 => xn m j + (if xb m (nI j) = 0 then 0 else 1)
theorem xn_0 {m : Int32} {j : Nat} (h : xb m (nI j) = 0) : xn m (j + 1) = xn m j := by
  show xn m j + (if xb m (nI j) = 0 then 0 else 1) = xn m j
  rw [if_pos h, Nat.add_zero]
theorem xn_1 {m : Int32} {j : Nat} (h : ¬ xb m (nI j) = 0) : xn m (j + 1) = xn m j + 1 := by
  show xn m j + (if xb m (nI j) = 0 then 0 else 1) = xn m j + 1
  rw [if_neg h]
theorem xp_and (m k : Int32) : xp m k &&& (((1 : Int32) <<< (k &&& 31)) ^^^ (-1)) = xp m k := by
  unfold xp
  rw [Int32.and_assoc, Int32.and_self]
theorem d_D_rest_0 : decode c_D_rest 0 = .ok (.aload_n 0, 1) := by decide +kernel
theorem d_D_rest_1 : decode c_D_rest 1 = .ok (.bipush 8, 2) := by decide +kernel
theorem d_D_rest_3 : decode c_D_rest 3 = .ok (.iconst 3, 1) := by decide +kernel
theorem d_D_rest_4 : decode c_D_rest 4 = .ok (.aload_n 0, 1) := by decide +kernel
theorem d_D_rest_5 : decode c_D_rest 5 = .ok (.getfield 30, 3) := by decide +kernel
theorem d_D_rest_8 : decode c_D_rest 8 = .ok (.imul, 1) := by decide +kernel
theorem d_D_rest_9 : decode c_D_rest 9 = .ok (.iadd, 1) := by decide +kernel
theorem d_D_rest_10 : decode c_D_rest 10 = .ok (.putfield 52, 3) := by decide +kernel
theorem d_D_rest_13 : decode c_D_rest 13 = .ok (.return_, 1) := by decide +kernel
set_option maxHeartbeats 4000000 in
set_option maxRecDepth 100000 in
/-- rest -/
theorem C_D_rest (l : Launch) (D : va_G) (t : Nat → ClassId) (q : Nat → Nat) (nw no : Nat) (i : Nat) (pr lz bl tm le gr sp mk : Int32) : xe_C l D vwCl (xTY t) y_D_rest c_D_rest 1 (Option.none : Option FieldType) ({ frames := 0, cells := 0, slots := 0, locals := 0 }) [.ref ((q 0))] [zO 3 (q 0) [.int (nI i), .ref nw, .int pr, .int 0, .int 0, .ref ((q 1)), .ref ((q 7)), .ref ((q 11)), .int 1, .int lz, .int bl, .int tm, .int le, .int 0, .ref ((q 15))]] (xe_v D vwCl (fun _ : Unit => True) (fun _ => [zO 3 (q 0) [.int (nI i), .ref nw, .int pr, .int 0, .int 0, .ref ((q 1)), .ref ((q 7)), .ref ((q 11)), .int 1, .int lz, .int bl, .int (nI (8 + 3 * i)), .int le, .int 0, .ref ((q 15))]])) 0 0 := by
  refine xe_of (by decide) (Nat.le_of_ble_eq_true rfl) ?_
  intro p e s m below meth c ls A Z hr hlocks hin hA hP hD hS hl
  obtain ⟨hx, hb, hml, hown, hK⟩ := id Z
  have hown : s.vm.findClass "QuorumStore$Node" = some m.cls := hown
  have hts := hK.1.at (args := ([.ref ((q 0))] : List Value).toArray)
  have hl : lv_has ls 1 [(0, .ref ((q 0)))] := hl
  refine lv_aload_n hx hb d_D_rest_0 rfl (lv_at hl 0 rfl) ?_
  refine lv_bipush (v := 8) hx hb d_D_rest_1 (by decide) ?_
  refine lv_iconst (v := 3) hx hb d_D_rest_3 (by decide) ?_
  refine lv_aload_n hx hb d_D_rest_4 rfl (lv_at hl 0 rfl) ?_
  refine va_get (ci := 3) (C := "QuorumStore$Node") (T := TX3) (N := 15) hx hb hts inX3 hown hK.2 hP 0 rfl rfl 0 (by decide) (hts _ k_197) (fun _ h9 => h9) rfl d_D_rest_5 ?_
  refine lv_imul hx hb d_D_rest_8 ?_
  refine lv_iadd hx hb d_D_rest_9 ?_
  refine va_put (ci := 3) (v := .int ((8) + ((3) * (nI i)))) (ty := tyX3 11) (C := "QuorumStore$Node") (T := TX3) (N := 15) hx hb hts inX3 tyX3 okX3 nmX3 hown hK.2 hP hD hS 0 rfl rfl 11 (by decide) (hts _ k_217) (fun _ h9 => h9) rfl (by decide +kernel) rfl rfl (Nat.le_of_ble_eq_true rfl) d_D_rest_10 (fun H locs hP hD hS => ?_)
  have hP : va_P D vwCl [zO 3 (q 0) [.int (nI i), .ref nw, .int pr, .int 0, .int 0, .ref ((q 1)), .ref ((q 7)), .ref ((q 11)), .int 1, .int lz, .int bl, .int ((8) + ((3) * (nI i))), .int le, .int 0, .ref ((q 15))]] H := hP
  have hD : va_D A [zO 3 (q 0) [.int (nI i), .ref nw, .int pr, .int 0, .int 0, .ref ((q 1)), .ref ((q 7)), .ref ((q 11)), .int 1, .int lz, .int bl, .int ((8) + ((3) * (nI i))), .int le, .int 0, .ref ((q 15))]] := hD
  have e8 : (8 : Int32) + 3 * nI i = nI (8 + 3 * i) := by rw [show (3 : Int32) = nI 3 from rfl, show (8 : Int32) = nI 8 from rfl, pk_mul, nI_add]
  have hP : va_P D vwCl [zO 3 (q 0) [.int (nI i), .ref nw, .int pr, .int 0, .int 0, .ref ((q 1)), .ref ((q 7)), .ref ((q 11)), .int 1, .int lz, .int bl, .int (nI (8 + 3 * i)), .int le, .int 0, .ref ((q 15))]] H := e8 ▸ hP
  have hD : va_D A [zO 3 (q 0) [.int (nI i), .ref nw, .int pr, .int 0, .int 0, .ref ((q 1)), .ref ((q 7)), .ref ((q 11)), .int 1, .int lz, .int bl, .int (nI (8 + 3 * i)), .int le, .int 0, .ref ((q 15))]] := e8 ▸ hD
  exact W.vret hx hb hr (fun t ht hW => ⟨⟨(), rfl, trivial, by rw [ht]; exact hP, hD⟩, hS.F ht⟩) hS.2.2 d_D_rest_13
theorem d_D_sendEach_0 : decode c_D_sendEach 0 = .ok (.iconst 0, 1) := by decide +kernel
theorem d_D_sendEach_1 : decode c_D_sendEach 1 = .ok (.istore 6, 2) := by decide +kernel
theorem d_D_sendEach_3 : decode c_D_sendEach 3 = .ok (.iload 6, 2) := by decide +kernel
theorem d_D_sendEach_5 : decode c_D_sendEach 5 = .ok (.bipush 7, 2) := by decide +kernel
theorem d_D_sendEach_7 : decode c_D_sendEach 7 = .ok (.if_icmp .ge 37, 3) := by decide +kernel
theorem d_D_sendEach_10 : decode c_D_sendEach 10 = .ok (.iload_n 1, 1) := by decide +kernel
theorem d_D_sendEach_11 : decode c_D_sendEach 11 = .ok (.iload 6, 2) := by decide +kernel
theorem d_D_sendEach_13 : decode c_D_sendEach 13 = .ok (.invokestatic 77, 3) := by decide +kernel
theorem d_D_sendEach_16 : decode c_D_sendEach 16 = .ok (.ifCond .eq 22, 3) := by decide +kernel
theorem d_D_sendEach_19 : decode c_D_sendEach 19 = .ok (.aload_n 0, 1) := by decide +kernel
theorem d_D_sendEach_20 : decode c_D_sendEach 20 = .ok (.getfield 34, 3) := by decide +kernel
theorem d_D_sendEach_23 : decode c_D_sendEach 23 = .ok (.iload_n 2, 1) := by decide +kernel
theorem d_D_sendEach_24 : decode c_D_sendEach 24 = .ok (.aload_n 0, 1) := by decide +kernel
theorem d_D_sendEach_25 : decode c_D_sendEach 25 = .ok (.getfield 30, 3) := by decide +kernel
theorem d_D_sendEach_28 : decode c_D_sendEach 28 = .ok (.iload 6, 2) := by decide +kernel
theorem d_D_sendEach_30 : decode c_D_sendEach 30 = .ok (.iload_n 3, 1) := by decide +kernel
theorem d_D_sendEach_31 : decode c_D_sendEach 31 = .ok (.iload 4, 2) := by decide +kernel
theorem d_D_sendEach_33 : decode c_D_sendEach 33 = .ok (.aload 5, 2) := by decide +kernel
theorem d_D_sendEach_35 : decode c_D_sendEach 35 = .ok (.invokevirtual 81, 3) := by decide +kernel
theorem d_D_sendEach_38 : decode c_D_sendEach 38 = .ok (.iinc 6 1, 3) := by decide +kernel
theorem d_D_sendEach_41 : decode c_D_sendEach 41 = .ok (.goto (-38), 3) := by decide +kernel
theorem d_D_sendEach_44 : decode c_D_sendEach 44 = .ok (.return_, 1) := by decide +kernel
set_option maxHeartbeats 4000000 in
set_option maxRecDepth 100000 in
/-- sendEach without a value -/
theorem C_D_sendEach (l : Launch) (D : va_G) (t : Nat → ClassId) (q : Nat → Nat) (nw no : Nat) (i : Nat) (pr lz bl tm le gr sp mk : Int32) (rw : Nat) (z : Nat) (hz : z ≤ 300) (x y : Int32) (g : Nat → Option Nat) (mask kd bt sl : Int32) : xe_C l D vwCl (xTY t) y_D_sendEach c_D_sendEach 7 (Option.none : Option FieldType) ({ frames := 3, cells := 7, slots := 56, locals := 72 }) [.ref ((q 0)), .int mask, .int kd, .int bt, .int sl, .null] [zO 3 (q 0) [.int (nI i), .ref nw, .int pr, .int 0, .int 0, .ref ((q 1)), .ref ((q 7)), .ref ((q 11)), .int 1, .int lz, .int bl, .int tm, .int le, .int 0, .ref ((q 15))], zO 2 nw [.ref rw, .int (nI z), .int x, .int y, .int 0], zA t 3 rw 300 g] (xe_v D vwCl (fun _ : Int32 × Int32 × (Nat → Option Nat) => True) (fun u => [zO 3 (q 0) [.int (nI i), .ref nw, .int pr, .int 0, .int 0, .ref ((q 1)), .ref ((q 7)), .ref ((q 11)), .int 1, .int lz, .int bl, .int tm, .int le, .int 0, .ref ((q 15))], zO 2 nw [.ref rw, .int (nI (min 300 (z + xn mask 7))), .int u.1, .int u.2.1, .int 0], zA t 3 rw 300 u.2.2])) 7 56 := by
  refine xe_of (by decide) (Nat.le_of_ble_eq_true rfl) ?_
  intro p e s m below meth c ls A Z hr hlocks hin hA hP hD hS hl
  obtain ⟨hx, hb, hml, hown, hK⟩ := id Z
  have hown : s.vm.findClass "QuorumStore$Node" = some m.cls := hown
  have hts := hK.1.at (args := ([.ref ((q 0)), .int mask, .int kd, .int bt, .int sl, .null] : List Value).toArray)
  have hl : lv_has ls 7 [(0, .ref ((q 0))), (1, .int mask), (2, .int kd), (3, .int bt), (4, .int sl), (5, .null)] := hl
  refine lv_iconst (v := 0) hx hb d_D_sendEach_0 (by decide) ?_
  refine lv_istore (lv' := [(6, .int 0), (0, .ref ((q 0))), (1, .int mask), (2, .int kd), (3, .int bt), (4, .int sl), (5, .null)]) hx hb d_D_sendEach_1 hl (by decide) rfl (fun ls hl => ?_)
  have loop : ∀ (n : Nat) (j : Nat) (x y : Int32) (g : Nat → Option Nat), j + n = 7 → ∀ (H : Heap) (locs : List Loc), va_P D vwCl [zO 3 (q 0) [.int (nI i), .ref nw, .int pr, .int 0, .int 0, .ref ((q 1)), .ref ((q 7)), .ref ((q 11)), .int 1, .int lz, .int bl, .int tm, .int le, .int 0, .ref ((q 15))], zO 2 nw [.ref rw, .int (nI (min 300 (z + xn mask j))), .int x, .int y, .int 0], zA t 3 rw 300 g] H → va_D A [zO 3 (q 0) [.int (nI i), .ref nw, .int pr, .int 0, .int 0, .ref ((q 1)), .ref ((q 7)), .ref ((q 11)), .int 1, .int lz, .int bl, .int tm, .int le, .int 0, .ref ((q 15))], zO 2 nw [.ref rw, .int (nI (min 300 (z + xn mask j))), .int x, .int y, .int 0], zA t 3 rw 300 g] → va_S A s.heap H locs → ∀ (ls : Array Slot), lv_has ls 7 [(6, .int (nI j)), (0, .ref ((q 0))), (1, .int mask), (2, .int kd), (3, .int bt), (4, .int sl), (5, .null)] → W p l e ({ frames := 3, cells := 7, slots := 56, locals := 72 } : Room) s m ([.ref ((q 0)), .int mask, .int kd, .int bt, .int sl, .null] : List Value).toArray below meth c H locs j (8 * j) (MQ below ((xe_v D vwCl (fun _ : Int32 × Int32 × (Nat → Option Nat) => True) (fun u => [zO 3 (q 0) [.int (nI i), .ref nw, .int pr, .int 0, .int 0, .ref ((q 1)), .ref ((q 7)), .ref ((q 11)), .int 1, .int lz, .int bl, .int tm, .int le, .int 0, .ref ((q 15))], zO 2 nw [.ref rw, .int (nI (min 300 (z + xn mask 7))), .int u.1, .int u.2.1, .int 0], zA t 3 rw 300 u.2.2])) A) ([.ref ((q 0)), .int mask, .int kd, .int bt, .int sl, .null] : List Value).toArray s 7 56 A) (F0 m 3 ls []) := by
    intro n
    induction n with
    | zero =>
      intro j x y g hi H locs hP hD hS ls hl
      refine lv_iload hx hb d_D_sendEach_3 (lv_at hl 0 rfl) ?_
      refine lv_bipush (v := 7) hx hb d_D_sendEach_5 (by decide) ?_
      refine lv_icmp_ge (tgt := 44) hx hb d_D_sendEach_7 (by decide) (fun _ => ?_) (fun c_1 => absurd (nI_le (b := j) (a := 7) (by omega) (by omega)) c_1)
      obtain rfl : j = 7 := by omega
      refine W.widen (k := 7) (n := 56) (by omega) (by omega) ?_
      exact W.vret hx hb hr (fun t ht hW => ⟨⟨(x, y, g), rfl, trivial, by rw [ht]; exact hP, hD⟩, hS.F ht⟩) hS.2.2 d_D_sendEach_44
    | succ n ih =>
      intro j x y g hi H locs hP hD hS ls hl
      refine lv_iload hx hb d_D_sendEach_3 (lv_at hl 0 rfl) ?_
      refine lv_bipush (v := 7) hx hb d_D_sendEach_5 (by decide) ?_
      refine lv_icmp_ge (tgt := 44) hx hb d_D_sendEach_7 (by decide) (fun c_2 => absurd c_2 (nI_ge (a := j) (b := 7) (by omega) (by omega))) (fun _ => ?_)
      refine lv_iload_n hx hb d_D_sendEach_10 rfl (lv_at hl 2 rfl) ?_
      refine lv_iload hx hb d_D_sendEach_11 (lv_at hl 0 rfl) ?_
      refine xr_call (xs_SN (As := [.int mask, .int (nI j)]) (rest := []) Z (C_Q_isIn l D t _ _) m_Q_isIn k_368 k_369 rfl rfl ⟨Nat.le_of_ble_eq_true rfl, Nat.le_of_ble_eq_true rfl⟩ (xr_pre hK (hP.sub [] rfl)) rfl hl.1 rfl (Nat.le_of_ble_eq_true rfl) d_D_sendEach_13 ⟨show j + 0 ≤ 7 by omega, show 8 * j + 0 ≤ 56 by omega⟩) ?_
      refine lv_if_eq (tgt := 38) hx hb d_D_sendEach_16 (by decide) (fun c_3 => ?_) (fun c_3 => ?_)
      · refine lv_iinc (v := nI (j + 1)) (lv' := [(6, .int (nI (j + 1))), (0, .ref ((q 0))), (1, .int mask), (2, .int kd), (3, .int bt), (4, .int sl), (5, .null)]) hx hb d_D_sendEach_38 hl (k := 0) rfl (nI_1 j) (by decide) rfl (fun ls hl => ?_)
        refine lv_goto (tgt := 3) hx hb d_D_sendEach_41 (by decide) ?_
        refine W.widen (k := j + 1) (n := 8 * (j + 1)) (by omega) (by omega) ?_
        have e9 : xn mask (j + 1) = xn mask j := xn_0 c_3
        exact ih (j + 1) x y g (by omega) H locs (by rw [e9]; exact hP) (by rw [e9]; exact hD) hS ls (lv_sub hl [0, 1, 2, 3, 4, 5, 6] rfl)
      · refine lv_aload_n hx hb d_D_sendEach_19 rfl (lv_at hl 1 rfl) ?_
        refine va_get (ci := 3) (C := "QuorumStore$Node") (T := TX3) (N := 15) hx hb hts inX3 hown hK.2 hP 0 rfl rfl 1 (by decide) (hts _ k_198) (fun _ h9 => h9) rfl d_D_sendEach_20 ?_
        refine lv_iload_n hx hb d_D_sendEach_23 rfl (lv_at hl 3 rfl) ?_
        refine lv_aload_n hx hb d_D_sendEach_24 rfl (lv_at hl 1 rfl) ?_
        refine va_get (ci := 3) (C := "QuorumStore$Node") (T := TX3) (N := 15) hx hb hts inX3 hown hK.2 hP 0 rfl rfl 0 (by decide) (hts _ k_197) (fun _ h9 => h9) rfl d_D_sendEach_25 ?_
        refine lv_iload hx hb d_D_sendEach_28 (lv_at hl 0 rfl) ?_
        refine lv_iload_n hx hb d_D_sendEach_30 rfl (lv_at hl 4 rfl) ?_
        refine lv_iload hx hb d_D_sendEach_31 (lv_at hl 5 rfl) ?_
        refine lv_aloadN hx hb d_D_sendEach_33 (lv_at hl 6 rfl) ?_
        refine xe_callv (wr := [zO 3 (q 0) [.int (nI i), .ref nw, .int pr, .int 0, .int 0, .ref ((q 1)), .ref ((q 7)), .ref ((q 11)), .int 1, .int lz, .int bl, .int tm, .int le, .int 0, .ref ((q 15))]]) (xs_V (As := [.int kd, .int (nI i), .int (nI j), .int bt, .int sl, .null]) (rest := []) Z (C_N_sendPlain l D t nw rw (min 300 (z + xn mask j)) (by omega) x y g _ _ _ _ _ H.size) m_N_sendPlain k_371 k_372 k_373 rfl rfl ⟨Nat.le_of_ble_eq_true rfl, Nat.le_of_ble_eq_true rfl⟩ (va_recv hK.2 hP (ci := 2) (q0 := 1) rfl rfl) (xe_pre hK (hP.sub [1, 2] rfl) (hD.sub [1, 2] (by decide) rfl)) rfl hl.1 rfl (Nat.le_of_ble_eq_true rfl) d_D_sendEach_35 ⟨show j + 1 ≤ 7 by omega, show 8 * j + 8 ≤ 56 by omega⟩) hP hD hS hA [1, 2] [0] rfl rfl (by decide) (by decide) (fun u_ H locs _ hP hD hS => ?_)
        obtain ⟨x2, y2, g2⟩ := u_
        have hP : va_P D vwCl [zO 3 (q 0) [.int (nI i), .ref nw, .int pr, .int 0, .int 0, .ref ((q 1)), .ref ((q 7)), .ref ((q 11)), .int 1, .int lz, .int bl, .int tm, .int le, .int 0, .ref ((q 15))], zO 2 nw [.ref rw, .int (nI (min 300 (min 300 (z + xn mask j) + 1))), .int x2, .int y2, .int 0], zA t 3 rw 300 g2] H := hP
        have hD : va_D A [zO 3 (q 0) [.int (nI i), .ref nw, .int pr, .int 0, .int 0, .ref ((q 1)), .ref ((q 7)), .ref ((q 11)), .int 1, .int lz, .int bl, .int tm, .int le, .int 0, .ref ((q 15))], zO 2 nw [.ref rw, .int (nI (min 300 (min 300 (z + xn mask j) + 1))), .int x2, .int y2, .int 0], zA t 3 rw 300 g2] := hD
        refine lv_iinc (v := nI (j + 1)) (lv' := [(6, .int (nI (j + 1))), (0, .ref ((q 0))), (1, .int mask), (2, .int kd), (3, .int bt), (4, .int sl), (5, .null)]) hx hb d_D_sendEach_38 hl (k := 0) rfl (nI_1 j) (by decide) rfl (fun ls hl => ?_)
        refine lv_goto (tgt := 3) hx hb d_D_sendEach_41 (by decide) ?_
        refine W.widen (k := j + 1) (n := 8 * (j + 1)) (by omega) (by omega) ?_
        have e9 : min 300 (z + xn mask (j + 1)) = min 300 (min 300 (z + xn mask j) + 1) := by rw [xn_1 c_3]; omega
        exact ih (j + 1) x2 y2 g2 (by omega) H locs (by rw [e9]; exact hP) (by rw [e9]; exact hD) hS ls (lv_sub hl [0, 1, 2, 3, 4, 5, 6] rfl)
  exact loop 7 0 x y g (by omega) _ _ (by rw [show min 300 (z + xn mask 0) = z from by show min 300 (z + 0) = z; omega]; exact hP) (by rw [show min 300 (z + xn mask 0) = z from by show min 300 (z + 0) = z; omega]; exact hD) hS ls (lv_sub hl [0, 1, 2, 3, 4, 5, 6] rfl)
theorem d_D_beat_0 : decode c_D_beat 0 = .ok (.aload_n 0, 1) := by decide +kernel
theorem d_D_beat_1 : decode c_D_beat 1 = .ok (.invokevirtual 99, 3) := by decide +kernel
theorem d_D_beat_4 : decode c_D_beat 4 = .ok (.istore_n 1, 1) := by decide +kernel
theorem d_D_beat_5 : decode c_D_beat 5 = .ok (.iconst 0, 1) := by decide +kernel
theorem d_D_beat_6 : decode c_D_beat 6 = .ok (.istore_n 2, 1) := by decide +kernel
theorem d_D_beat_7 : decode c_D_beat 7 = .ok (.iload_n 2, 1) := by decide +kernel
theorem d_D_beat_8 : decode c_D_beat 8 = .ok (.bipush 7, 2) := by decide +kernel
theorem d_D_beat_10 : decode c_D_beat 10 = .ok (.if_icmp .ge 77, 3) := by decide +kernel
theorem d_D_beat_13 : decode c_D_beat 13 = .ok (.iload_n 1, 1) := by decide +kernel
theorem d_D_beat_14 : decode c_D_beat 14 = .ok (.iload_n 2, 1) := by decide +kernel
theorem d_D_beat_15 : decode c_D_beat 15 = .ok (.invokestatic 77, 3) := by decide +kernel
theorem d_D_beat_18 : decode c_D_beat 18 = .ok (.ifCond .eq 26, 3) := by decide +kernel
theorem d_D_beat_21 : decode c_D_beat 21 = .ok (.aload_n 0, 1) := by decide +kernel
theorem d_D_beat_22 : decode c_D_beat 22 = .ok (.getfield 34, 3) := by decide +kernel
theorem d_D_beat_25 : decode c_D_beat 25 = .ok (.bipush 6, 2) := by decide +kernel
theorem d_D_beat_27 : decode c_D_beat 27 = .ok (.aload_n 0, 1) := by decide +kernel
theorem d_D_beat_28 : decode c_D_beat 28 = .ok (.getfield 30, 3) := by decide +kernel
theorem d_D_beat_31 : decode c_D_beat 31 = .ok (.iload_n 2, 1) := by decide +kernel
theorem d_D_beat_32 : decode c_D_beat 32 = .ok (.aload_n 0, 1) := by decide +kernel
theorem d_D_beat_33 : decode c_D_beat 33 = .ok (.getfield 61, 3) := by decide +kernel
theorem d_D_beat_36 : decode c_D_beat 36 = .ok (.aload_n 0, 1) := by decide +kernel
theorem d_D_beat_37 : decode c_D_beat 37 = .ok (.getfield 70, 3) := by decide +kernel
theorem d_D_beat_40 : decode c_D_beat 40 = .ok (.aconst_null, 1) := by decide +kernel
theorem d_D_beat_41 : decode c_D_beat 41 = .ok (.invokevirtual 81, 3) := by decide +kernel
theorem d_D_beat_44 : decode c_D_beat 44 = .ok (.iload_n 1, 1) := by decide +kernel
theorem d_D_beat_45 : decode c_D_beat 45 = .ok (.aload_n 0, 1) := by decide +kernel
theorem d_D_beat_46 : decode c_D_beat 46 = .ok (.getfield 26, 3) := by decide +kernel
theorem d_D_beat_49 : decode c_D_beat 49 = .ok (.getfield 103, 3) := by decide +kernel
theorem d_D_beat_52 : decode c_D_beat 52 = .ok (.iconst (-1), 1) := by decide +kernel
theorem d_D_beat_53 : decode c_D_beat 53 = .ok (.ixor, 1) := by decide +kernel
theorem d_D_beat_54 : decode c_D_beat 54 = .ok (.iand, 1) := by decide +kernel
theorem d_D_beat_55 : decode c_D_beat 55 = .ok (.iload_n 2, 1) := by decide +kernel
theorem d_D_beat_56 : decode c_D_beat 56 = .ok (.invokestatic 77, 3) := by decide +kernel
theorem d_D_beat_59 : decode c_D_beat 59 = .ok (.ifCond .eq 22, 3) := by decide +kernel
theorem d_D_beat_62 : decode c_D_beat 62 = .ok (.aload_n 0, 1) := by decide +kernel
theorem d_D_beat_63 : decode c_D_beat 63 = .ok (.getfield 34, 3) := by decide +kernel
theorem d_D_beat_66 : decode c_D_beat 66 = .ok (.iconst 1, 1) := by decide +kernel
theorem d_D_beat_67 : decode c_D_beat 67 = .ok (.aload_n 0, 1) := by decide +kernel
theorem d_D_beat_68 : decode c_D_beat 68 = .ok (.getfield 30, 3) := by decide +kernel
theorem d_D_beat_71 : decode c_D_beat 71 = .ok (.iload_n 2, 1) := by decide +kernel
theorem d_D_beat_72 : decode c_D_beat 72 = .ok (.aload_n 0, 1) := by decide +kernel
theorem d_D_beat_73 : decode c_D_beat 73 = .ok (.getfield 61, 3) := by decide +kernel
theorem d_D_beat_76 : decode c_D_beat 76 = .ok (.iconst 0, 1) := by decide +kernel
theorem d_D_beat_77 : decode c_D_beat 77 = .ok (.aconst_null, 1) := by decide +kernel
theorem d_D_beat_78 : decode c_D_beat 78 = .ok (.invokevirtual 81, 3) := by decide +kernel
theorem d_D_beat_81 : decode c_D_beat 81 = .ok (.iinc 2 1, 3) := by decide +kernel
theorem d_D_beat_84 : decode c_D_beat 84 = .ok (.goto (-77), 3) := by decide +kernel
theorem d_D_beat_87 : decode c_D_beat 87 = .ok (.aload_n 0, 1) := by decide +kernel
theorem d_D_beat_88 : decode c_D_beat 88 = .ok (.getfield 70, 3) := by decide +kernel
theorem d_D_beat_91 : decode c_D_beat 91 = .ok (.iconst 1, 1) := by decide +kernel
theorem d_D_beat_92 : decode c_D_beat 92 = .ok (.iadd, 1) := by decide +kernel
theorem d_D_beat_93 : decode c_D_beat 93 = .ok (.istore_n 2, 1) := by decide +kernel
theorem d_D_beat_94 : decode c_D_beat 94 = .ok (.iload_n 2, 1) := by decide +kernel
theorem d_D_beat_95 : decode c_D_beat 95 = .ok (.aload_n 0, 1) := by decide +kernel
theorem d_D_beat_96 : decode c_D_beat 96 = .ok (.getfield 70, 3) := by decide +kernel
theorem d_D_beat_99 : decode c_D_beat 99 = .ok (.iconst 4, 1) := by decide +kernel
theorem d_D_beat_100 : decode c_D_beat 100 = .ok (.iadd, 1) := by decide +kernel
theorem d_D_beat_101 : decode c_D_beat 101 = .ok (.if_icmp .gt 71, 3) := by decide +kernel
theorem d_D_beat_104 : decode c_D_beat 104 = .ok (.aload_n 0, 1) := by decide +kernel
theorem d_D_beat_105 : decode c_D_beat 105 = .ok (.getfield 26, 3) := by decide +kernel
theorem d_D_beat_108 : decode c_D_beat 108 = .ok (.getfield 106, 3) := by decide +kernel
theorem d_D_beat_111 : decode c_D_beat 111 = .ok (.iload_n 2, 1) := by decide +kernel
theorem d_D_beat_112 : decode c_D_beat 112 = .ok (.invokevirtual 109, 3) := by decide +kernel
theorem d_D_beat_115 : decode c_D_beat 115 = .ok (.astore_n 3, 1) := by decide +kernel
theorem d_D_beat_116 : decode c_D_beat 116 = .ok (.aload_n 3, 1) := by decide +kernel
theorem d_D_beat_117 : decode c_D_beat 117 = .ok (.ifnull 49, 3) := by decide +kernel
theorem d_D_beat_166 : decode c_D_beat 166 = .ok (.iinc 2 1, 3) := by decide +kernel
theorem d_D_beat_169 : decode c_D_beat 169 = .ok (.goto (-75), 3) := by decide +kernel
theorem d_D_beat_172 : decode c_D_beat 172 = .ok (.return_, 1) := by decide +kernel
set_option maxHeartbeats 4000000 in
set_option maxRecDepth 100000 in
/-- beat: two messages to each peer -/
theorem C_D_beat (l : Launch) (D : va_G) (t : Nat → ClassId) (q : Nat → Nat) (nw no : Nat) (i : Nat) (pr lz bl tm le gr sp mk : Int32) (hgr : gr = (1 : Int32) <<< (nI i &&& 31)) (rw : Nat) (z : Nat) (hz : z ≤ 300) (x y : Int32) (g : Nat → Option Nat) : xe_C l D vwCl (xTY t) y_D_beat c_D_beat 5 (Option.none : Option FieldType) ({ frames := 3, cells := 14, slots := 112, locals := 72 }) [.ref ((q 0))] [zO 3 (q 0) [.int (nI i), .ref nw, .int pr, .int 0, .int 0, .ref ((q 1)), .ref ((q 7)), .ref ((q 11)), .int 1, .int lz, .int bl, .int tm, .int le, .int 0, .ref ((q 15))], zO 5 (q 1) [.ref ((q 2)), .ref ((q 3)), .ref ((q 4)), .ref ((q 5)), .ref ((q 6)), .int 1], zJ t (q 2) 32 (fun _ => 1099511627776), zI t (q 3) 8 (fun _ => 0), zJ t (q 4) 8 (fun _ => 0), zI t (q 5) 4 (xm 1), zI t (q 6) 4 (xm mk), zO 4 (q 7) [.ref ((q 8)), .ref ((q 9)), .ref ((q 10))], zI t (q 8) 32 (fun _ => 0), zI t (q 9) 32 (fun _ => 0), zA t 2 (q 10) 32 (fun _ => none), zO 4 (q 11) [.ref ((q 12)), .ref ((q 13)), .ref ((q 14))], zI t (q 12) 64 (fun _ => 0), zI t (q 13) 64 (fun _ => 0), zA t 2 (q 14) 64 (fun _ => none), zO 0 (q 15) [.ref no, .int gr, .ref ((q 16)), .ref ((q 20)), .ref ((q 24)), .int 0, .int 0, .int sp], zO 4 (q 16) [.ref ((q 17)), .ref ((q 18)), .ref ((q 19))], zI t (q 17) 32 (fun _ => 0), zI t (q 18) 32 (fun _ => 0), zA t 2 (q 19) 32 (fun _ => none), zO 4 (q 20) [.ref ((q 21)), .ref ((q 22)), .ref ((q 23))], zI t (q 21) 4 (fun _ => 0), zI t (q 22) 4 (fun _ => 0), zA t 2 (q 23) 4 (fun _ => none), zA t 2 (q 24) 16 (fun _ => none), zO 2 nw [.ref rw, .int (nI z), .int x, .int y, .int 0], zA t 3 rw 300 g] (xe_v D vwCl (fun _ : Int32 × Int32 × (Nat → Option Nat) => True) (fun u => [zO 3 (q 0) [.int (nI i), .ref nw, .int pr, .int 0, .int 0, .ref ((q 1)), .ref ((q 7)), .ref ((q 11)), .int 1, .int lz, .int bl, .int tm, .int le, .int 0, .ref ((q 15))], zO 5 (q 1) [.ref ((q 2)), .ref ((q 3)), .ref ((q 4)), .ref ((q 5)), .ref ((q 6)), .int 1], zJ t (q 2) 32 (fun _ => 1099511627776), zI t (q 3) 8 (fun _ => 0), zJ t (q 4) 8 (fun _ => 0), zI t (q 5) 4 (xm 1), zI t (q 6) 4 (xm mk), zO 4 (q 7) [.ref ((q 8)), .ref ((q 9)), .ref ((q 10))], zI t (q 8) 32 (fun _ => 0), zI t (q 9) 32 (fun _ => 0), zA t 2 (q 10) 32 (fun _ => none), zO 4 (q 11) [.ref ((q 12)), .ref ((q 13)), .ref ((q 14))], zI t (q 12) 64 (fun _ => 0), zI t (q 13) 64 (fun _ => 0), zA t 2 (q 14) 64 (fun _ => none), zO 0 (q 15) [.ref no, .int gr, .ref ((q 16)), .ref ((q 20)), .ref ((q 24)), .int 0, .int 0, .int sp], zO 4 (q 16) [.ref ((q 17)), .ref ((q 18)), .ref ((q 19))], zI t (q 17) 32 (fun _ => 0), zI t (q 18) 32 (fun _ => 0), zA t 2 (q 19) 32 (fun _ => none), zO 4 (q 20) [.ref ((q 21)), .ref ((q 22)), .ref ((q 23))], zI t (q 21) 4 (fun _ => 0), zI t (q 22) 4 (fun _ => 0), zA t 2 (q 23) 4 (fun _ => none), zA t 2 (q 24) 16 (fun _ => none), zO 2 nw [.ref rw, .int (nI (min 300 (z + 2 * xn (xp mk (nI i)) 7))), .int u.1, .int u.2.1, .int 0], zA t 3 rw 300 u.2.2])) 14 112 := by
  refine xe_of (by decide) (Nat.le_of_ble_eq_true rfl) ?_
  intro p e s m below meth c ls A Z hr hlocks hin hA hP hD hS hl
  obtain ⟨hx, hb, hml, hown, hK⟩ := id Z
  have hown : s.vm.findClass "QuorumStore$Node" = some m.cls := hown
  have hts := hK.1.at (args := ([.ref ((q 0))] : List Value).toArray)
  have hl : lv_has ls 5 [(0, .ref ((q 0)))] := hl
  refine lv_aload_n hx hb d_D_beat_0 rfl (lv_at hl 0 rfl) ?_
  refine xr_call (xs_V (As := []) (rest := []) Z (C_D_peers l D t q nw no (nI i) pr lz bl tm le gr sp mk) m_D_peers k_356 k_358 ks_2 rfl rfl ⟨Nat.le_of_ble_eq_true rfl, Nat.le_of_ble_eq_true rfl⟩ (va_recv hK.2 hP (ci := 3) (q0 := 0) rfl rfl) (xr_pre hK (hP.sub [0, 1, 2, 3, 4, 5, 6, 7, 8, 9, 10, 11, 12, 13, 14, 15, 16, 17, 18, 19, 20, 21, 22, 23, 24] rfl)) rfl hl.1 rfl (Nat.le_of_ble_eq_true rfl) d_D_beat_1 ⟨Nat.le_of_ble_eq_true rfl, Nat.le_of_ble_eq_true rfl⟩) ?_
  refine lv_istore_n (lv' := [(1, .int (xp mk (nI i))), (0, .ref ((q 0)))]) hx hb d_D_beat_4 rfl hl (by decide) rfl (fun ls hl => ?_)
  refine lv_iconst (v := 0) hx hb d_D_beat_5 (by decide) ?_
  refine lv_istore_n (lv' := [(2, .int 0), (1, .int (xp mk (nI i))), (0, .ref ((q 0)))]) hx hb d_D_beat_6 rfl hl (by decide) rfl (fun ls hl => ?_)
  have loop : ∀ (n : Nat) (j : Nat) (x y : Int32) (g : Nat → Option Nat), j + n = 7 → ∀ (H : Heap) (locs : List Loc), va_P D vwCl [zO 3 (q 0) [.int (nI i), .ref nw, .int pr, .int 0, .int 0, .ref ((q 1)), .ref ((q 7)), .ref ((q 11)), .int 1, .int lz, .int bl, .int tm, .int le, .int 0, .ref ((q 15))], zO 5 (q 1) [.ref ((q 2)), .ref ((q 3)), .ref ((q 4)), .ref ((q 5)), .ref ((q 6)), .int 1], zJ t (q 2) 32 (fun _ => 1099511627776), zI t (q 3) 8 (fun _ => 0), zJ t (q 4) 8 (fun _ => 0), zI t (q 5) 4 (xm 1), zI t (q 6) 4 (xm mk), zO 4 (q 7) [.ref ((q 8)), .ref ((q 9)), .ref ((q 10))], zI t (q 8) 32 (fun _ => 0), zI t (q 9) 32 (fun _ => 0), zA t 2 (q 10) 32 (fun _ => none), zO 4 (q 11) [.ref ((q 12)), .ref ((q 13)), .ref ((q 14))], zI t (q 12) 64 (fun _ => 0), zI t (q 13) 64 (fun _ => 0), zA t 2 (q 14) 64 (fun _ => none), zO 0 (q 15) [.ref no, .int gr, .ref ((q 16)), .ref ((q 20)), .ref ((q 24)), .int 0, .int 0, .int sp], zO 4 (q 16) [.ref ((q 17)), .ref ((q 18)), .ref ((q 19))], zI t (q 17) 32 (fun _ => 0), zI t (q 18) 32 (fun _ => 0), zA t 2 (q 19) 32 (fun _ => none), zO 4 (q 20) [.ref ((q 21)), .ref ((q 22)), .ref ((q 23))], zI t (q 21) 4 (fun _ => 0), zI t (q 22) 4 (fun _ => 0), zA t 2 (q 23) 4 (fun _ => none), zA t 2 (q 24) 16 (fun _ => none), zO 2 nw [.ref rw, .int (nI (min 300 (z + 2 * xn (xp mk (nI i)) j))), .int x, .int y, .int 0], zA t 3 rw 300 g] H → va_D A [zO 3 (q 0) [.int (nI i), .ref nw, .int pr, .int 0, .int 0, .ref ((q 1)), .ref ((q 7)), .ref ((q 11)), .int 1, .int lz, .int bl, .int tm, .int le, .int 0, .ref ((q 15))], zO 5 (q 1) [.ref ((q 2)), .ref ((q 3)), .ref ((q 4)), .ref ((q 5)), .ref ((q 6)), .int 1], zJ t (q 2) 32 (fun _ => 1099511627776), zI t (q 3) 8 (fun _ => 0), zJ t (q 4) 8 (fun _ => 0), zI t (q 5) 4 (xm 1), zI t (q 6) 4 (xm mk), zO 4 (q 7) [.ref ((q 8)), .ref ((q 9)), .ref ((q 10))], zI t (q 8) 32 (fun _ => 0), zI t (q 9) 32 (fun _ => 0), zA t 2 (q 10) 32 (fun _ => none), zO 4 (q 11) [.ref ((q 12)), .ref ((q 13)), .ref ((q 14))], zI t (q 12) 64 (fun _ => 0), zI t (q 13) 64 (fun _ => 0), zA t 2 (q 14) 64 (fun _ => none), zO 0 (q 15) [.ref no, .int gr, .ref ((q 16)), .ref ((q 20)), .ref ((q 24)), .int 0, .int 0, .int sp], zO 4 (q 16) [.ref ((q 17)), .ref ((q 18)), .ref ((q 19))], zI t (q 17) 32 (fun _ => 0), zI t (q 18) 32 (fun _ => 0), zA t 2 (q 19) 32 (fun _ => none), zO 4 (q 20) [.ref ((q 21)), .ref ((q 22)), .ref ((q 23))], zI t (q 21) 4 (fun _ => 0), zI t (q 22) 4 (fun _ => 0), zA t 2 (q 23) 4 (fun _ => none), zA t 2 (q 24) 16 (fun _ => none), zO 2 nw [.ref rw, .int (nI (min 300 (z + 2 * xn (xp mk (nI i)) j))), .int x, .int y, .int 0], zA t 3 rw 300 g] → va_S A s.heap H locs → ∀ (ls : Array Slot), lv_has ls 5 [(2, .int (nI j)), (1, .int (xp mk (nI i))), (0, .ref ((q 0)))] → W p l e ({ frames := 3, cells := 14, slots := 112, locals := 72 } : Room) s m ([.ref ((q 0))] : List Value).toArray below meth c H locs (2 * j) (16 * j) (MQ below ((xe_v D vwCl (fun _ : Int32 × Int32 × (Nat → Option Nat) => True) (fun u => [zO 3 (q 0) [.int (nI i), .ref nw, .int pr, .int 0, .int 0, .ref ((q 1)), .ref ((q 7)), .ref ((q 11)), .int 1, .int lz, .int bl, .int tm, .int le, .int 0, .ref ((q 15))], zO 5 (q 1) [.ref ((q 2)), .ref ((q 3)), .ref ((q 4)), .ref ((q 5)), .ref ((q 6)), .int 1], zJ t (q 2) 32 (fun _ => 1099511627776), zI t (q 3) 8 (fun _ => 0), zJ t (q 4) 8 (fun _ => 0), zI t (q 5) 4 (xm 1), zI t (q 6) 4 (xm mk), zO 4 (q 7) [.ref ((q 8)), .ref ((q 9)), .ref ((q 10))], zI t (q 8) 32 (fun _ => 0), zI t (q 9) 32 (fun _ => 0), zA t 2 (q 10) 32 (fun _ => none), zO 4 (q 11) [.ref ((q 12)), .ref ((q 13)), .ref ((q 14))], zI t (q 12) 64 (fun _ => 0), zI t (q 13) 64 (fun _ => 0), zA t 2 (q 14) 64 (fun _ => none), zO 0 (q 15) [.ref no, .int gr, .ref ((q 16)), .ref ((q 20)), .ref ((q 24)), .int 0, .int 0, .int sp], zO 4 (q 16) [.ref ((q 17)), .ref ((q 18)), .ref ((q 19))], zI t (q 17) 32 (fun _ => 0), zI t (q 18) 32 (fun _ => 0), zA t 2 (q 19) 32 (fun _ => none), zO 4 (q 20) [.ref ((q 21)), .ref ((q 22)), .ref ((q 23))], zI t (q 21) 4 (fun _ => 0), zI t (q 22) 4 (fun _ => 0), zA t 2 (q 23) 4 (fun _ => none), zA t 2 (q 24) 16 (fun _ => none), zO 2 nw [.ref rw, .int (nI (min 300 (z + 2 * xn (xp mk (nI i)) 7))), .int u.1, .int u.2.1, .int 0], zA t 3 rw 300 u.2.2])) A) ([.ref ((q 0))] : List Value).toArray s 14 112 A) (F0 m 7 ls []) := by
    intro n
    induction n with
    | zero =>
      intro j x y g hi H locs hP hD hS ls hl
      refine lv_iload_n hx hb d_D_beat_7 rfl (lv_at hl 0 rfl) ?_
      refine lv_bipush (v := 7) hx hb d_D_beat_8 (by decide) ?_
      refine lv_icmp_ge (tgt := 87) hx hb d_D_beat_10 (by decide) (fun _ => ?_) (fun c_1 => absurd (nI_le (b := j) (a := 7) (by omega) (by omega)) c_1)
      obtain rfl : j = 7 := by omega
      refine lv_aload_n hx hb d_D_beat_87 rfl (lv_at hl 2 rfl) ?_
      refine va_get (ci := 3) (C := "QuorumStore$Node") (T := TX3) (N := 15) hx hb hts inX3 hown hK.2 hP 0 rfl rfl 3 (by decide) (hts _ k_201) (fun _ h9 => h9) rfl d_D_beat_88 ?_
      refine lv_iconst (v := 1) hx hb d_D_beat_91 (by decide) ?_
      refine lv_iadd hx hb d_D_beat_92 ?_
      refine lv_istore_n (lv' := [(2, .int ((0) + (1))), (1, .int (xp mk (nI i))), (0, .ref ((q 0)))]) hx hb d_D_beat_93 rfl hl (by decide) rfl (fun ls hl => ?_)
      refine lv_iload_n hx hb d_D_beat_94 rfl (lv_at hl 0 rfl) ?_
      refine lv_aload_n hx hb d_D_beat_95 rfl (lv_at hl 2 rfl) ?_
      refine va_get (ci := 3) (C := "QuorumStore$Node") (T := TX3) (N := 15) hx hb hts inX3 hown hK.2 hP 0 rfl rfl 3 (by decide) (hts _ k_201) (fun _ h9 => h9) rfl d_D_beat_96 ?_
      refine lv_iconst (v := 4) hx hb d_D_beat_99 (by decide) ?_
      refine lv_iadd hx hb d_D_beat_100 ?_
      refine lv_icmp_gt (tgt := 172) hx hb d_D_beat_101 (by decide) (fun c_2 => absurd c_2 (by decide)) (fun _ => ?_)
      refine lv_aload_n hx hb d_D_beat_104 rfl (lv_at hl 2 rfl) ?_
      refine va_get (ci := 3) (C := "QuorumStore$Node") (T := TX3) (N := 15) hx hb hts inX3 hown hK.2 hP 0 rfl rfl 14 (by decide) (hts _ k_222) (fun _ h9 => h9) rfl d_D_beat_105 ?_
      refine va_get (ci := 0) (C := "QuorumStore$Lead") (T := TX0) (N := 8) hx hb hts inX0 hown hK.2 hP 15 rfl rfl 3 (by decide) (hts _ k_141) (fun _ h9 => h9) rfl d_D_beat_108 ?_
      refine lv_iload_n hx hb d_D_beat_111 rfl (lv_at hl 0 rfl) ?_
      refine xr_call (xs_V (As := [.int ((0) + (1))]) (rest := []) Z (C_R_valueAt l D t (q 20) (q 21) (q 22) (q 23) 4 (by decide) _) m_R_valueAt k_420 k_421 k_422 rfl rfl ⟨Nat.le_of_ble_eq_true rfl, Nat.le_of_ble_eq_true rfl⟩ (va_recv hK.2 hP (ci := 4) (q0 := 20) rfl rfl) (xr_pre hK (hP.sub [20, 21, 22, 23] rfl)) rfl hl.1 rfl (Nat.le_of_ble_eq_true rfl) d_D_beat_112 ⟨Nat.le_of_ble_eq_true rfl, Nat.le_of_ble_eq_true rfl⟩) ?_
      refine lv_astore_nN (lv' := [(3, .null), (2, .int ((0) + (1))), (1, .int (xp mk (nI i))), (0, .ref ((q 0)))]) hx hb d_D_beat_115 rfl hl (by decide) rfl (fun ls hl => ?_)
      refine lv_aload_nN hx hb d_D_beat_116 rfl (lv_at hl 0 rfl) ?_
      refine lv_ifnullN (tgt := 166) hx hb d_D_beat_117 (by decide) ?_
      refine lv_iinc (v := ((0) + (1)) + 1) (lv' := [(2, .int (((0) + (1)) + 1)), (3, .null), (1, .int (xp mk (nI i))), (0, .ref ((q 0)))]) hx hb d_D_beat_166 hl (k := 1) rfl rfl (by decide) rfl (fun ls hl => ?_)
      refine lv_goto (tgt := 94) hx hb d_D_beat_169 (by decide) ?_
      refine lv_iload_n hx hb d_D_beat_94 rfl (lv_at hl 0 rfl) ?_
      refine lv_aload_n hx hb d_D_beat_95 rfl (lv_at hl 3 rfl) ?_
      refine va_get (ci := 3) (C := "QuorumStore$Node") (T := TX3) (N := 15) hx hb hts inX3 hown hK.2 hP 0 rfl rfl 3 (by decide) (hts _ k_201) (fun _ h9 => h9) rfl d_D_beat_96 ?_
      refine lv_iconst (v := 4) hx hb d_D_beat_99 (by decide) ?_
      refine lv_iadd hx hb d_D_beat_100 ?_
      refine lv_icmp_gt (tgt := 172) hx hb d_D_beat_101 (by decide) (fun c_4 => absurd c_4 (by decide)) (fun _ => ?_)
      refine lv_aload_n hx hb d_D_beat_104 rfl (lv_at hl 3 rfl) ?_
      refine va_get (ci := 3) (C := "QuorumStore$Node") (T := TX3) (N := 15) hx hb hts inX3 hown hK.2 hP 0 rfl rfl 14 (by decide) (hts _ k_222) (fun _ h9 => h9) rfl d_D_beat_105 ?_
      refine va_get (ci := 0) (C := "QuorumStore$Lead") (T := TX0) (N := 8) hx hb hts inX0 hown hK.2 hP 15 rfl rfl 3 (by decide) (hts _ k_141) (fun _ h9 => h9) rfl d_D_beat_108 ?_
      refine lv_iload_n hx hb d_D_beat_111 rfl (lv_at hl 0 rfl) ?_
      refine xr_call (xs_V (As := [.int (((0) + (1)) + 1)]) (rest := []) Z (C_R_valueAt l D t (q 20) (q 21) (q 22) (q 23) 4 (by decide) _) m_R_valueAt k_420 k_421 k_422 rfl rfl ⟨Nat.le_of_ble_eq_true rfl, Nat.le_of_ble_eq_true rfl⟩ (va_recv hK.2 hP (ci := 4) (q0 := 20) rfl rfl) (xr_pre hK (hP.sub [20, 21, 22, 23] rfl)) rfl hl.1 rfl (Nat.le_of_ble_eq_true rfl) d_D_beat_112 ⟨Nat.le_of_ble_eq_true rfl, Nat.le_of_ble_eq_true rfl⟩) ?_
      refine lv_astore_nN (lv' := [(3, .null), (2, .int (((0) + (1)) + 1)), (1, .int (xp mk (nI i))), (0, .ref ((q 0)))]) hx hb d_D_beat_115 rfl hl (by decide) rfl (fun ls hl => ?_)
      refine lv_aload_nN hx hb d_D_beat_116 rfl (lv_at hl 0 rfl) ?_
      refine lv_ifnullN (tgt := 166) hx hb d_D_beat_117 (by decide) ?_
      refine lv_iinc (v := (((0) + (1)) + 1) + 1) (lv' := [(2, .int ((((0) + (1)) + 1) + 1)), (3, .null), (1, .int (xp mk (nI i))), (0, .ref ((q 0)))]) hx hb d_D_beat_166 hl (k := 1) rfl rfl (by decide) rfl (fun ls hl => ?_)
      refine lv_goto (tgt := 94) hx hb d_D_beat_169 (by decide) ?_
      refine lv_iload_n hx hb d_D_beat_94 rfl (lv_at hl 0 rfl) ?_
      refine lv_aload_n hx hb d_D_beat_95 rfl (lv_at hl 3 rfl) ?_
      refine va_get (ci := 3) (C := "QuorumStore$Node") (T := TX3) (N := 15) hx hb hts inX3 hown hK.2 hP 0 rfl rfl 3 (by decide) (hts _ k_201) (fun _ h9 => h9) rfl d_D_beat_96 ?_
      refine lv_iconst (v := 4) hx hb d_D_beat_99 (by decide) ?_
      refine lv_iadd hx hb d_D_beat_100 ?_
      refine lv_icmp_gt (tgt := 172) hx hb d_D_beat_101 (by decide) (fun c_6 => absurd c_6 (by decide)) (fun _ => ?_)
      refine lv_aload_n hx hb d_D_beat_104 rfl (lv_at hl 3 rfl) ?_
      refine va_get (ci := 3) (C := "QuorumStore$Node") (T := TX3) (N := 15) hx hb hts inX3 hown hK.2 hP 0 rfl rfl 14 (by decide) (hts _ k_222) (fun _ h9 => h9) rfl d_D_beat_105 ?_
      refine va_get (ci := 0) (C := "QuorumStore$Lead") (T := TX0) (N := 8) hx hb hts inX0 hown hK.2 hP 15 rfl rfl 3 (by decide) (hts _ k_141) (fun _ h9 => h9) rfl d_D_beat_108 ?_
      refine lv_iload_n hx hb d_D_beat_111 rfl (lv_at hl 0 rfl) ?_
      refine xr_call (xs_V (As := [.int ((((0) + (1)) + 1) + 1)]) (rest := []) Z (C_R_valueAt l D t (q 20) (q 21) (q 22) (q 23) 4 (by decide) _) m_R_valueAt k_420 k_421 k_422 rfl rfl ⟨Nat.le_of_ble_eq_true rfl, Nat.le_of_ble_eq_true rfl⟩ (va_recv hK.2 hP (ci := 4) (q0 := 20) rfl rfl) (xr_pre hK (hP.sub [20, 21, 22, 23] rfl)) rfl hl.1 rfl (Nat.le_of_ble_eq_true rfl) d_D_beat_112 ⟨Nat.le_of_ble_eq_true rfl, Nat.le_of_ble_eq_true rfl⟩) ?_
      refine lv_astore_nN (lv' := [(3, .null), (2, .int ((((0) + (1)) + 1) + 1)), (1, .int (xp mk (nI i))), (0, .ref ((q 0)))]) hx hb d_D_beat_115 rfl hl (by decide) rfl (fun ls hl => ?_)
      refine lv_aload_nN hx hb d_D_beat_116 rfl (lv_at hl 0 rfl) ?_
      refine lv_ifnullN (tgt := 166) hx hb d_D_beat_117 (by decide) ?_
      refine lv_iinc (v := ((((0) + (1)) + 1) + 1) + 1) (lv' := [(2, .int (((((0) + (1)) + 1) + 1) + 1)), (3, .null), (1, .int (xp mk (nI i))), (0, .ref ((q 0)))]) hx hb d_D_beat_166 hl (k := 1) rfl rfl (by decide) rfl (fun ls hl => ?_)
      refine lv_goto (tgt := 94) hx hb d_D_beat_169 (by decide) ?_
      refine lv_iload_n hx hb d_D_beat_94 rfl (lv_at hl 0 rfl) ?_
      refine lv_aload_n hx hb d_D_beat_95 rfl (lv_at hl 3 rfl) ?_
      refine va_get (ci := 3) (C := "QuorumStore$Node") (T := TX3) (N := 15) hx hb hts inX3 hown hK.2 hP 0 rfl rfl 3 (by decide) (hts _ k_201) (fun _ h9 => h9) rfl d_D_beat_96 ?_
      refine lv_iconst (v := 4) hx hb d_D_beat_99 (by decide) ?_
      refine lv_iadd hx hb d_D_beat_100 ?_
      refine lv_icmp_gt (tgt := 172) hx hb d_D_beat_101 (by decide) (fun c_8 => absurd c_8 (by decide)) (fun _ => ?_)
      refine lv_aload_n hx hb d_D_beat_104 rfl (lv_at hl 3 rfl) ?_
      refine va_get (ci := 3) (C := "QuorumStore$Node") (T := TX3) (N := 15) hx hb hts inX3 hown hK.2 hP 0 rfl rfl 14 (by decide) (hts _ k_222) (fun _ h9 => h9) rfl d_D_beat_105 ?_
      refine va_get (ci := 0) (C := "QuorumStore$Lead") (T := TX0) (N := 8) hx hb hts inX0 hown hK.2 hP 15 rfl rfl 3 (by decide) (hts _ k_141) (fun _ h9 => h9) rfl d_D_beat_108 ?_
      refine lv_iload_n hx hb d_D_beat_111 rfl (lv_at hl 0 rfl) ?_
      refine xr_call (xs_V (As := [.int (((((0) + (1)) + 1) + 1) + 1)]) (rest := []) Z (C_R_valueAt l D t (q 20) (q 21) (q 22) (q 23) 4 (by decide) _) m_R_valueAt k_420 k_421 k_422 rfl rfl ⟨Nat.le_of_ble_eq_true rfl, Nat.le_of_ble_eq_true rfl⟩ (va_recv hK.2 hP (ci := 4) (q0 := 20) rfl rfl) (xr_pre hK (hP.sub [20, 21, 22, 23] rfl)) rfl hl.1 rfl (Nat.le_of_ble_eq_true rfl) d_D_beat_112 ⟨Nat.le_of_ble_eq_true rfl, Nat.le_of_ble_eq_true rfl⟩) ?_
      refine lv_astore_nN (lv' := [(3, .null), (2, .int (((((0) + (1)) + 1) + 1) + 1)), (1, .int (xp mk (nI i))), (0, .ref ((q 0)))]) hx hb d_D_beat_115 rfl hl (by decide) rfl (fun ls hl => ?_)
      refine lv_aload_nN hx hb d_D_beat_116 rfl (lv_at hl 0 rfl) ?_
      refine lv_ifnullN (tgt := 166) hx hb d_D_beat_117 (by decide) ?_
      refine lv_iinc (v := (((((0) + (1)) + 1) + 1) + 1) + 1) (lv' := [(2, .int ((((((0) + (1)) + 1) + 1) + 1) + 1)), (3, .null), (1, .int (xp mk (nI i))), (0, .ref ((q 0)))]) hx hb d_D_beat_166 hl (k := 1) rfl rfl (by decide) rfl (fun ls hl => ?_)
      refine lv_goto (tgt := 94) hx hb d_D_beat_169 (by decide) ?_
      refine lv_iload_n hx hb d_D_beat_94 rfl (lv_at hl 0 rfl) ?_
      refine lv_aload_n hx hb d_D_beat_95 rfl (lv_at hl 3 rfl) ?_
      refine va_get (ci := 3) (C := "QuorumStore$Node") (T := TX3) (N := 15) hx hb hts inX3 hown hK.2 hP 0 rfl rfl 3 (by decide) (hts _ k_201) (fun _ h9 => h9) rfl d_D_beat_96 ?_
      refine lv_iconst (v := 4) hx hb d_D_beat_99 (by decide) ?_
      refine lv_iadd hx hb d_D_beat_100 ?_
      refine lv_icmp_gt (tgt := 172) hx hb d_D_beat_101 (by decide) (fun _ => ?_) (fun c_10 => absurd (by decide) c_10)
      refine W.widen (k := 14) (n := 112) (by omega) (by omega) ?_
      exact W.vret hx hb hr (fun t ht hW => ⟨⟨(x, y, g), rfl, trivial, by rw [ht]; exact hP, hD⟩, hS.F ht⟩) hS.2.2 d_D_beat_172
    | succ n ih =>
      intro j x y g hi H locs hP hD hS ls hl
      refine lv_iload_n hx hb d_D_beat_7 rfl (lv_at hl 0 rfl) ?_
      refine lv_bipush (v := 7) hx hb d_D_beat_8 (by decide) ?_
      refine lv_icmp_ge (tgt := 87) hx hb d_D_beat_10 (by decide) (fun c_11 => absurd c_11 (nI_ge (a := j) (b := 7) (by omega) (by omega))) (fun _ => ?_)
      refine lv_iload_n hx hb d_D_beat_13 rfl (lv_at hl 1 rfl) ?_
      refine lv_iload_n hx hb d_D_beat_14 rfl (lv_at hl 0 rfl) ?_
      refine xr_call (xs_SN (As := [.int (xp mk (nI i)), .int (nI j)]) (rest := []) Z (C_Q_isIn l D t _ _) m_Q_isIn k_368 k_369 rfl rfl ⟨Nat.le_of_ble_eq_true rfl, Nat.le_of_ble_eq_true rfl⟩ (xr_pre hK (hP.sub [] rfl)) rfl hl.1 rfl (Nat.le_of_ble_eq_true rfl) d_D_beat_15 ⟨show 2 * j + 0 ≤ 14 by omega, show 16 * j + 0 ≤ 112 by omega⟩) ?_
      refine lv_if_eq (tgt := 44) hx hb d_D_beat_18 (by decide) (fun c_12 => ?_) (fun c_12 => ?_)
      · refine lv_iload_n hx hb d_D_beat_44 rfl (lv_at hl 1 rfl) ?_
        refine lv_aload_n hx hb d_D_beat_45 rfl (lv_at hl 2 rfl) ?_
        refine va_get (ci := 3) (C := "QuorumStore$Node") (T := TX3) (N := 15) hx hb hts inX3 hown hK.2 hP 0 rfl rfl 14 (by decide) (hts _ k_222) (fun _ h9 => h9) rfl d_D_beat_46 ?_
        refine va_get (ci := 0) (C := "QuorumStore$Lead") (T := TX0) (N := 8) hx hb hts inX0 hown hK.2 hP 15 rfl rfl 1 (by decide) (hts _ k_136) (fun _ h9 => h9) rfl d_D_beat_49 ?_
        refine lv_iconst (v := (-1)) hx hb d_D_beat_52 (by decide) ?_
        refine lv_ixor hx hb d_D_beat_53 ?_
        refine lv_iand hx hb d_D_beat_54 ?_
        refine lv_iload_n hx hb d_D_beat_55 rfl (lv_at hl 0 rfl) ?_
        refine xr_call (xs_SN (As := [.int ((xp mk (nI i)) &&& ((gr) ^^^ ((-1)))), .int (nI j)]) (rest := []) Z (C_Q_isIn l D t _ _) m_Q_isIn k_368 k_369 rfl rfl ⟨Nat.le_of_ble_eq_true rfl, Nat.le_of_ble_eq_true rfl⟩ (xr_pre hK (hP.sub [] rfl)) rfl hl.1 rfl (Nat.le_of_ble_eq_true rfl) d_D_beat_56 ⟨show 2 * j + 0 ≤ 14 by omega, show 16 * j + 0 ≤ 112 by omega⟩) ?_
        refine lv_if_eq (tgt := 81) hx hb d_D_beat_59 (by decide) (fun _ => ?_) (fun c_13 => absurd ((show xb (xp mk (nI i) &&& (gr ^^^ (-1))) (nI j) = xb (xp mk (nI i)) (nI j) from by rw [hgr, xp_and]).trans c_12) c_13)
        refine lv_iinc (v := nI (j + 1)) (lv' := [(2, .int (nI (j + 1))), (1, .int (xp mk (nI i))), (0, .ref ((q 0)))]) hx hb d_D_beat_81 hl (k := 0) rfl (nI_1 j) (by decide) rfl (fun ls hl => ?_)
        refine lv_goto (tgt := 7) hx hb d_D_beat_84 (by decide) ?_
        refine W.widen (k := 2 * (j + 1)) (n := 16 * (j + 1)) (by omega) (by omega) ?_
        have e9 : xn (xp mk (nI i)) (j + 1) = xn (xp mk (nI i)) j := xn_0 c_12
        exact ih (j + 1) x y g (by omega) H locs (by rw [e9]; exact hP) (by rw [e9]; exact hD) hS ls (lv_sub hl [0, 1, 2] rfl)
      · refine lv_aload_n hx hb d_D_beat_21 rfl (lv_at hl 2 rfl) ?_
        refine va_get (ci := 3) (C := "QuorumStore$Node") (T := TX3) (N := 15) hx hb hts inX3 hown hK.2 hP 0 rfl rfl 1 (by decide) (hts _ k_198) (fun _ h9 => h9) rfl d_D_beat_22 ?_
        refine lv_bipush (v := 6) hx hb d_D_beat_25 (by decide) ?_
        refine lv_aload_n hx hb d_D_beat_27 rfl (lv_at hl 2 rfl) ?_
        refine va_get (ci := 3) (C := "QuorumStore$Node") (T := TX3) (N := 15) hx hb hts inX3 hown hK.2 hP 0 rfl rfl 0 (by decide) (hts _ k_197) (fun _ h9 => h9) rfl d_D_beat_28 ?_
        refine lv_iload_n hx hb d_D_beat_31 rfl (lv_at hl 0 rfl) ?_
        refine lv_aload_n hx hb d_D_beat_32 rfl (lv_at hl 2 rfl) ?_
        refine va_get (ci := 3) (C := "QuorumStore$Node") (T := TX3) (N := 15) hx hb hts inX3 hown hK.2 hP 0 rfl rfl 10 (by decide) (hts _ k_215) (fun _ h9 => h9) rfl d_D_beat_33 ?_
        refine lv_aload_n hx hb d_D_beat_36 rfl (lv_at hl 2 rfl) ?_
        refine va_get (ci := 3) (C := "QuorumStore$Node") (T := TX3) (N := 15) hx hb hts inX3 hown hK.2 hP 0 rfl rfl 3 (by decide) (hts _ k_201) (fun _ h9 => h9) rfl d_D_beat_37 ?_
        refine lv_null hx hb d_D_beat_40 ?_
        refine xe_callv (wr := [zO 3 (q 0) [.int (nI i), .ref nw, .int pr, .int 0, .int 0, .ref ((q 1)), .ref ((q 7)), .ref ((q 11)), .int 1, .int lz, .int bl, .int tm, .int le, .int 0, .ref ((q 15))], zO 5 (q 1) [.ref ((q 2)), .ref ((q 3)), .ref ((q 4)), .ref ((q 5)), .ref ((q 6)), .int 1], zJ t (q 2) 32 (fun _ => 1099511627776), zI t (q 3) 8 (fun _ => 0), zJ t (q 4) 8 (fun _ => 0), zI t (q 5) 4 (xm 1), zI t (q 6) 4 (xm mk), zO 4 (q 7) [.ref ((q 8)), .ref ((q 9)), .ref ((q 10))], zI t (q 8) 32 (fun _ => 0), zI t (q 9) 32 (fun _ => 0), zA t 2 (q 10) 32 (fun _ => none), zO 4 (q 11) [.ref ((q 12)), .ref ((q 13)), .ref ((q 14))], zI t (q 12) 64 (fun _ => 0), zI t (q 13) 64 (fun _ => 0), zA t 2 (q 14) 64 (fun _ => none), zO 0 (q 15) [.ref no, .int gr, .ref ((q 16)), .ref ((q 20)), .ref ((q 24)), .int 0, .int 0, .int sp], zO 4 (q 16) [.ref ((q 17)), .ref ((q 18)), .ref ((q 19))], zI t (q 17) 32 (fun _ => 0), zI t (q 18) 32 (fun _ => 0), zA t 2 (q 19) 32 (fun _ => none), zO 4 (q 20) [.ref ((q 21)), .ref ((q 22)), .ref ((q 23))], zI t (q 21) 4 (fun _ => 0), zI t (q 22) 4 (fun _ => 0), zA t 2 (q 23) 4 (fun _ => none), zA t 2 (q 24) 16 (fun _ => none)]) (xs_V (As := [.int 6, .int (nI i), .int (nI j), .int bl, .int 0, .null]) (rest := []) Z (C_N_sendPlain l D t nw rw (min 300 (z + 2 * xn (xp mk (nI i)) j)) (by omega) x y g _ _ _ _ _ H.size) m_N_sendPlain k_371 k_372 k_373 rfl rfl ⟨Nat.le_of_ble_eq_true rfl, Nat.le_of_ble_eq_true rfl⟩ (va_recv hK.2 hP (ci := 2) (q0 := 25) rfl rfl) (xe_pre hK (hP.sub [25, 26] rfl) (hD.sub [25, 26] (by decide) rfl)) rfl hl.1 rfl (Nat.le_of_ble_eq_true rfl) d_D_beat_41 ⟨show 2 * j + 1 ≤ 14 by omega, show 16 * j + 8 ≤ 112 by omega⟩) hP hD hS hA [25, 26] [0, 1, 2, 3, 4, 5, 6, 7, 8, 9, 10, 11, 12, 13, 14, 15, 16, 17, 18, 19, 20, 21, 22, 23, 24] rfl rfl (by decide) (by decide) (fun u_ H locs _ hP hD hS => ?_)
        obtain ⟨x2, y2, g2⟩ := u_
        have hP : va_P D vwCl [zO 3 (q 0) [.int (nI i), .ref nw, .int pr, .int 0, .int 0, .ref ((q 1)), .ref ((q 7)), .ref ((q 11)), .int 1, .int lz, .int bl, .int tm, .int le, .int 0, .ref ((q 15))], zO 5 (q 1) [.ref ((q 2)), .ref ((q 3)), .ref ((q 4)), .ref ((q 5)), .ref ((q 6)), .int 1], zJ t (q 2) 32 (fun _ => 1099511627776), zI t (q 3) 8 (fun _ => 0), zJ t (q 4) 8 (fun _ => 0), zI t (q 5) 4 (xm 1), zI t (q 6) 4 (xm mk), zO 4 (q 7) [.ref ((q 8)), .ref ((q 9)), .ref ((q 10))], zI t (q 8) 32 (fun _ => 0), zI t (q 9) 32 (fun _ => 0), zA t 2 (q 10) 32 (fun _ => none), zO 4 (q 11) [.ref ((q 12)), .ref ((q 13)), .ref ((q 14))], zI t (q 12) 64 (fun _ => 0), zI t (q 13) 64 (fun _ => 0), zA t 2 (q 14) 64 (fun _ => none), zO 0 (q 15) [.ref no, .int gr, .ref ((q 16)), .ref ((q 20)), .ref ((q 24)), .int 0, .int 0, .int sp], zO 4 (q 16) [.ref ((q 17)), .ref ((q 18)), .ref ((q 19))], zI t (q 17) 32 (fun _ => 0), zI t (q 18) 32 (fun _ => 0), zA t 2 (q 19) 32 (fun _ => none), zO 4 (q 20) [.ref ((q 21)), .ref ((q 22)), .ref ((q 23))], zI t (q 21) 4 (fun _ => 0), zI t (q 22) 4 (fun _ => 0), zA t 2 (q 23) 4 (fun _ => none), zA t 2 (q 24) 16 (fun _ => none), zO 2 nw [.ref rw, .int (nI (min 300 (min 300 (z + 2 * xn (xp mk (nI i)) j) + 1))), .int x2, .int y2, .int 0], zA t 3 rw 300 g2] H := hP
        have hD : va_D A [zO 3 (q 0) [.int (nI i), .ref nw, .int pr, .int 0, .int 0, .ref ((q 1)), .ref ((q 7)), .ref ((q 11)), .int 1, .int lz, .int bl, .int tm, .int le, .int 0, .ref ((q 15))], zO 5 (q 1) [.ref ((q 2)), .ref ((q 3)), .ref ((q 4)), .ref ((q 5)), .ref ((q 6)), .int 1], zJ t (q 2) 32 (fun _ => 1099511627776), zI t (q 3) 8 (fun _ => 0), zJ t (q 4) 8 (fun _ => 0), zI t (q 5) 4 (xm 1), zI t (q 6) 4 (xm mk), zO 4 (q 7) [.ref ((q 8)), .ref ((q 9)), .ref ((q 10))], zI t (q 8) 32 (fun _ => 0), zI t (q 9) 32 (fun _ => 0), zA t 2 (q 10) 32 (fun _ => none), zO 4 (q 11) [.ref ((q 12)), .ref ((q 13)), .ref ((q 14))], zI t (q 12) 64 (fun _ => 0), zI t (q 13) 64 (fun _ => 0), zA t 2 (q 14) 64 (fun _ => none), zO 0 (q 15) [.ref no, .int gr, .ref ((q 16)), .ref ((q 20)), .ref ((q 24)), .int 0, .int 0, .int sp], zO 4 (q 16) [.ref ((q 17)), .ref ((q 18)), .ref ((q 19))], zI t (q 17) 32 (fun _ => 0), zI t (q 18) 32 (fun _ => 0), zA t 2 (q 19) 32 (fun _ => none), zO 4 (q 20) [.ref ((q 21)), .ref ((q 22)), .ref ((q 23))], zI t (q 21) 4 (fun _ => 0), zI t (q 22) 4 (fun _ => 0), zA t 2 (q 23) 4 (fun _ => none), zA t 2 (q 24) 16 (fun _ => none), zO 2 nw [.ref rw, .int (nI (min 300 (min 300 (z + 2 * xn (xp mk (nI i)) j) + 1))), .int x2, .int y2, .int 0], zA t 3 rw 300 g2] := hD
        refine lv_iload_n hx hb d_D_beat_44 rfl (lv_at hl 1 rfl) ?_
        refine lv_aload_n hx hb d_D_beat_45 rfl (lv_at hl 2 rfl) ?_
        refine va_get (ci := 3) (C := "QuorumStore$Node") (T := TX3) (N := 15) hx hb hts inX3 hown hK.2 hP 0 rfl rfl 14 (by decide) (hts _ k_222) (fun _ h9 => h9) rfl d_D_beat_46 ?_
        refine va_get (ci := 0) (C := "QuorumStore$Lead") (T := TX0) (N := 8) hx hb hts inX0 hown hK.2 hP 15 rfl rfl 1 (by decide) (hts _ k_136) (fun _ h9 => h9) rfl d_D_beat_49 ?_
        refine lv_iconst (v := (-1)) hx hb d_D_beat_52 (by decide) ?_
        refine lv_ixor hx hb d_D_beat_53 ?_
        refine lv_iand hx hb d_D_beat_54 ?_
        refine lv_iload_n hx hb d_D_beat_55 rfl (lv_at hl 0 rfl) ?_
        refine xr_call (xs_SN (As := [.int ((xp mk (nI i)) &&& ((gr) ^^^ ((-1)))), .int (nI j)]) (rest := []) Z (C_Q_isIn l D t _ _) m_Q_isIn k_368 k_369 rfl rfl ⟨Nat.le_of_ble_eq_true rfl, Nat.le_of_ble_eq_true rfl⟩ (xr_pre hK (hP.sub [] rfl)) rfl hl.1 rfl (Nat.le_of_ble_eq_true rfl) d_D_beat_56 ⟨show 2 * j + 1 + 0 ≤ 14 by omega, show 16 * j + 8 + 0 ≤ 112 by omega⟩) ?_
        refine lv_if_eq (tgt := 81) hx hb d_D_beat_59 (by decide) (fun c_14 => absurd c_14 (fun h9 => c_12 ((show xb (xp mk (nI i) &&& (gr ^^^ (-1))) (nI j) = xb (xp mk (nI i)) (nI j) from by rw [hgr, xp_and]).symm.trans h9))) (fun _ => ?_)
        refine lv_aload_n hx hb d_D_beat_62 rfl (lv_at hl 2 rfl) ?_
        refine va_get (ci := 3) (C := "QuorumStore$Node") (T := TX3) (N := 15) hx hb hts inX3 hown hK.2 hP 0 rfl rfl 1 (by decide) (hts _ k_198) (fun _ h9 => h9) rfl d_D_beat_63 ?_
        refine lv_iconst (v := 1) hx hb d_D_beat_66 (by decide) ?_
        refine lv_aload_n hx hb d_D_beat_67 rfl (lv_at hl 2 rfl) ?_
        refine va_get (ci := 3) (C := "QuorumStore$Node") (T := TX3) (N := 15) hx hb hts inX3 hown hK.2 hP 0 rfl rfl 0 (by decide) (hts _ k_197) (fun _ h9 => h9) rfl d_D_beat_68 ?_
        refine lv_iload_n hx hb d_D_beat_71 rfl (lv_at hl 0 rfl) ?_
        refine lv_aload_n hx hb d_D_beat_72 rfl (lv_at hl 2 rfl) ?_
        refine va_get (ci := 3) (C := "QuorumStore$Node") (T := TX3) (N := 15) hx hb hts inX3 hown hK.2 hP 0 rfl rfl 10 (by decide) (hts _ k_215) (fun _ h9 => h9) rfl d_D_beat_73 ?_
        refine lv_iconst (v := 0) hx hb d_D_beat_76 (by decide) ?_
        refine lv_null hx hb d_D_beat_77 ?_
        refine xe_callv (wr := [zO 3 (q 0) [.int (nI i), .ref nw, .int pr, .int 0, .int 0, .ref ((q 1)), .ref ((q 7)), .ref ((q 11)), .int 1, .int lz, .int bl, .int tm, .int le, .int 0, .ref ((q 15))], zO 5 (q 1) [.ref ((q 2)), .ref ((q 3)), .ref ((q 4)), .ref ((q 5)), .ref ((q 6)), .int 1], zJ t (q 2) 32 (fun _ => 1099511627776), zI t (q 3) 8 (fun _ => 0), zJ t (q 4) 8 (fun _ => 0), zI t (q 5) 4 (xm 1), zI t (q 6) 4 (xm mk), zO 4 (q 7) [.ref ((q 8)), .ref ((q 9)), .ref ((q 10))], zI t (q 8) 32 (fun _ => 0), zI t (q 9) 32 (fun _ => 0), zA t 2 (q 10) 32 (fun _ => none), zO 4 (q 11) [.ref ((q 12)), .ref ((q 13)), .ref ((q 14))], zI t (q 12) 64 (fun _ => 0), zI t (q 13) 64 (fun _ => 0), zA t 2 (q 14) 64 (fun _ => none), zO 0 (q 15) [.ref no, .int gr, .ref ((q 16)), .ref ((q 20)), .ref ((q 24)), .int 0, .int 0, .int sp], zO 4 (q 16) [.ref ((q 17)), .ref ((q 18)), .ref ((q 19))], zI t (q 17) 32 (fun _ => 0), zI t (q 18) 32 (fun _ => 0), zA t 2 (q 19) 32 (fun _ => none), zO 4 (q 20) [.ref ((q 21)), .ref ((q 22)), .ref ((q 23))], zI t (q 21) 4 (fun _ => 0), zI t (q 22) 4 (fun _ => 0), zA t 2 (q 23) 4 (fun _ => none), zA t 2 (q 24) 16 (fun _ => none)]) (xs_V (As := [.int 1, .int (nI i), .int (nI j), .int bl, .int 0, .null]) (rest := []) Z (C_N_sendPlain l D t nw rw (min 300 (min 300 (z + 2 * xn (xp mk (nI i)) j) + 1)) (by omega) x2 y2 g2 _ _ _ _ _ H.size) m_N_sendPlain k_371 k_372 k_373 rfl rfl ⟨Nat.le_of_ble_eq_true rfl, Nat.le_of_ble_eq_true rfl⟩ (va_recv hK.2 hP (ci := 2) (q0 := 25) rfl rfl) (xe_pre hK (hP.sub [25, 26] rfl) (hD.sub [25, 26] (by decide) rfl)) rfl hl.1 rfl (Nat.le_of_ble_eq_true rfl) d_D_beat_78 ⟨show 2 * j + 1 + 1 ≤ 14 by omega, show 16 * j + 8 + 8 ≤ 112 by omega⟩) hP hD hS hA [25, 26] [0, 1, 2, 3, 4, 5, 6, 7, 8, 9, 10, 11, 12, 13, 14, 15, 16, 17, 18, 19, 20, 21, 22, 23, 24] rfl rfl (by decide) (by decide) (fun u_ H locs _ hP hD hS => ?_)
        obtain ⟨x3, y3, g3⟩ := u_
        have hP : va_P D vwCl [zO 3 (q 0) [.int (nI i), .ref nw, .int pr, .int 0, .int 0, .ref ((q 1)), .ref ((q 7)), .ref ((q 11)), .int 1, .int lz, .int bl, .int tm, .int le, .int 0, .ref ((q 15))], zO 5 (q 1) [.ref ((q 2)), .ref ((q 3)), .ref ((q 4)), .ref ((q 5)), .ref ((q 6)), .int 1], zJ t (q 2) 32 (fun _ => 1099511627776), zI t (q 3) 8 (fun _ => 0), zJ t (q 4) 8 (fun _ => 0), zI t (q 5) 4 (xm 1), zI t (q 6) 4 (xm mk), zO 4 (q 7) [.ref ((q 8)), .ref ((q 9)), .ref ((q 10))], zI t (q 8) 32 (fun _ => 0), zI t (q 9) 32 (fun _ => 0), zA t 2 (q 10) 32 (fun _ => none), zO 4 (q 11) [.ref ((q 12)), .ref ((q 13)), .ref ((q 14))], zI t (q 12) 64 (fun _ => 0), zI t (q 13) 64 (fun _ => 0), zA t 2 (q 14) 64 (fun _ => none), zO 0 (q 15) [.ref no, .int gr, .ref ((q 16)), .ref ((q 20)), .ref ((q 24)), .int 0, .int 0, .int sp], zO 4 (q 16) [.ref ((q 17)), .ref ((q 18)), .ref ((q 19))], zI t (q 17) 32 (fun _ => 0), zI t (q 18) 32 (fun _ => 0), zA t 2 (q 19) 32 (fun _ => none), zO 4 (q 20) [.ref ((q 21)), .ref ((q 22)), .ref ((q 23))], zI t (q 21) 4 (fun _ => 0), zI t (q 22) 4 (fun _ => 0), zA t 2 (q 23) 4 (fun _ => none), zA t 2 (q 24) 16 (fun _ => none), zO 2 nw [.ref rw, .int (nI (min 300 (min 300 (min 300 (z + 2 * xn (xp mk (nI i)) j) + 1) + 1))), .int x3, .int y3, .int 0], zA t 3 rw 300 g3] H := hP
        have hD : va_D A [zO 3 (q 0) [.int (nI i), .ref nw, .int pr, .int 0, .int 0, .ref ((q 1)), .ref ((q 7)), .ref ((q 11)), .int 1, .int lz, .int bl, .int tm, .int le, .int 0, .ref ((q 15))], zO 5 (q 1) [.ref ((q 2)), .ref ((q 3)), .ref ((q 4)), .ref ((q 5)), .ref ((q 6)), .int 1], zJ t (q 2) 32 (fun _ => 1099511627776), zI t (q 3) 8 (fun _ => 0), zJ t (q 4) 8 (fun _ => 0), zI t (q 5) 4 (xm 1), zI t (q 6) 4 (xm mk), zO 4 (q 7) [.ref ((q 8)), .ref ((q 9)), .ref ((q 10))], zI t (q 8) 32 (fun _ => 0), zI t (q 9) 32 (fun _ => 0), zA t 2 (q 10) 32 (fun _ => none), zO 4 (q 11) [.ref ((q 12)), .ref ((q 13)), .ref ((q 14))], zI t (q 12) 64 (fun _ => 0), zI t (q 13) 64 (fun _ => 0), zA t 2 (q 14) 64 (fun _ => none), zO 0 (q 15) [.ref no, .int gr, .ref ((q 16)), .ref ((q 20)), .ref ((q 24)), .int 0, .int 0, .int sp], zO 4 (q 16) [.ref ((q 17)), .ref ((q 18)), .ref ((q 19))], zI t (q 17) 32 (fun _ => 0), zI t (q 18) 32 (fun _ => 0), zA t 2 (q 19) 32 (fun _ => none), zO 4 (q 20) [.ref ((q 21)), .ref ((q 22)), .ref ((q 23))], zI t (q 21) 4 (fun _ => 0), zI t (q 22) 4 (fun _ => 0), zA t 2 (q 23) 4 (fun _ => none), zA t 2 (q 24) 16 (fun _ => none), zO 2 nw [.ref rw, .int (nI (min 300 (min 300 (min 300 (z + 2 * xn (xp mk (nI i)) j) + 1) + 1))), .int x3, .int y3, .int 0], zA t 3 rw 300 g3] := hD
        refine lv_iinc (v := nI (j + 1)) (lv' := [(2, .int (nI (j + 1))), (1, .int (xp mk (nI i))), (0, .ref ((q 0)))]) hx hb d_D_beat_81 hl (k := 0) rfl (nI_1 j) (by decide) rfl (fun ls hl => ?_)
        refine lv_goto (tgt := 7) hx hb d_D_beat_84 (by decide) ?_
        refine W.widen (k := 2 * (j + 1)) (n := 16 * (j + 1)) (by omega) (by omega) ?_
        have e9 : min 300 (z + 2 * xn (xp mk (nI i)) (j + 1)) = min 300 (min 300 (min 300 (z + 2 * xn (xp mk (nI i)) j) + 1) + 1) := by rw [xn_1 c_12]; omega
        exact ih (j + 1) x3 y3 g3 (by omega) H locs (by rw [e9]; exact hP) (by rw [e9]; exact hD) hS ls (lv_sub hl [0, 1, 2] rfl)
  exact loop 7 0 x y g (by omega) _ _ (by rw [show min 300 (z + 2 * xn (xp mk (nI i)) 0) = z from by show min 300 (z + 2 * 0) = z; omega]; exact hP) (by rw [show min 300 (z + 2 * xn (xp mk (nI i)) 0) = z from by show min 300 (z + 2 * 0) = z; omega]; exact hD) hS ls (lv_sub hl [0, 1, 2] rfl)
theorem d_D_beginToLead_0 : decode c_D_beginToLead 0 = .ok (.aload_n 0, 1) := by decide +kernel
theorem d_D_beginToLead_1 : decode c_D_beginToLead 1 = .ok (.getfield 120, 3) := by decide +kernel
theorem d_D_beginToLead_4 : decode c_D_beginToLead 4 = .ok (.aload_n 0, 1) := by decide +kernel
theorem d_D_beginToLead_5 : decode c_D_beginToLead 5 = .ok (.getfield 61, 3) := by decide +kernel
theorem d_D_beginToLead_8 : decode c_D_beginToLead 8 = .ok (.aload_n 0, 1) := by decide +kernel
theorem d_D_beginToLead_9 : decode c_D_beginToLead 9 = .ok (.getfield 64, 3) := by decide +kernel
theorem d_D_beginToLead_12 : decode c_D_beginToLead 12 = .ok (.invokestatic 123, 3) := by decide +kernel
theorem d_D_beginToLead_15 : decode c_D_beginToLead 15 = .ok (.invokestatic 123, 3) := by decide +kernel
theorem d_D_beginToLead_18 : decode c_D_beginToLead 18 = .ok (.istore_n 1, 1) := by decide +kernel
theorem d_D_beginToLead_19 : decode c_D_beginToLead 19 = .ok (.aload_n 0, 1) := by decide +kernel
theorem d_D_beginToLead_20 : decode c_D_beginToLead 20 = .ok (.bipush 8, 2) := by decide +kernel
theorem d_D_beginToLead_22 : decode c_D_beginToLead 22 = .ok (.iload_n 1, 1) := by decide +kernel
theorem d_D_beginToLead_23 : decode c_D_beginToLead 23 = .ok (.bipush 8, 2) := by decide +kernel
theorem d_D_beginToLead_25 : decode c_D_beginToLead 25 = .ok (.idiv, 1) := by decide +kernel
theorem d_D_beginToLead_26 : decode c_D_beginToLead 26 = .ok (.iconst 1, 1) := by decide +kernel
theorem d_D_beginToLead_27 : decode c_D_beginToLead 27 = .ok (.iadd, 1) := by decide +kernel
theorem d_D_beginToLead_28 : decode c_D_beginToLead 28 = .ok (.imul, 1) := by decide +kernel
theorem d_D_beginToLead_29 : decode c_D_beginToLead 29 = .ok (.aload_n 0, 1) := by decide +kernel
theorem d_D_beginToLead_30 : decode c_D_beginToLead 30 = .ok (.getfield 30, 3) := by decide +kernel
theorem d_D_beginToLead_33 : decode c_D_beginToLead 33 = .ok (.iadd, 1) := by decide +kernel
theorem d_D_beginToLead_34 : decode c_D_beginToLead 34 = .ok (.putfield 61, 3) := by decide +kernel
theorem d_D_beginToLead_37 : decode c_D_beginToLead 37 = .ok (.aload_n 0, 1) := by decide +kernel
theorem d_D_beginToLead_38 : decode c_D_beginToLead 38 = .ok (.getfield 26, 3) := by decide +kernel
theorem d_D_beginToLead_41 : decode c_D_beginToLead 41 = .ok (.invokevirtual 67, 3) := by decide +kernel
theorem d_D_beginToLead_44 : decode c_D_beginToLead 44 = .ok (.aload_n 0, 1) := by decide +kernel
theorem d_D_beginToLead_45 : decode c_D_beginToLead 45 = .ok (.iconst 1, 1) := by decide +kernel
theorem d_D_beginToLead_46 : decode c_D_beginToLead 46 = .ok (.putfield 58, 3) := by decide +kernel
theorem d_D_beginToLead_49 : decode c_D_beginToLead 49 = .ok (.aload_n 0, 1) := by decide +kernel
theorem d_D_beginToLead_50 : decode c_D_beginToLead 50 = .ok (.aload_n 0, 1) := by decide +kernel
theorem d_D_beginToLead_51 : decode c_D_beginToLead 51 = .ok (.getfield 30, 3) := by decide +kernel
theorem d_D_beginToLead_54 : decode c_D_beginToLead 54 = .ok (.putfield 49, 3) := by decide +kernel
theorem d_D_beginToLead_57 : decode c_D_beginToLead 57 = .ok (.aload_n 0, 1) := by decide +kernel
theorem d_D_beginToLead_58 : decode c_D_beginToLead 58 = .ok (.iconst 3, 1) := by decide +kernel
theorem d_D_beginToLead_59 : decode c_D_beginToLead 59 = .ok (.putfield 52, 3) := by decide +kernel
theorem d_D_beginToLead_62 : decode c_D_beginToLead 62 = .ok (.aload_n 0, 1) := by decide +kernel
theorem d_D_beginToLead_63 : decode c_D_beginToLead 63 = .ok (.aload_n 0, 1) := by decide +kernel
theorem d_D_beginToLead_64 : decode c_D_beginToLead 64 = .ok (.getfield 61, 3) := by decide +kernel
theorem d_D_beginToLead_67 : decode c_D_beginToLead 67 = .ok (.putfield 120, 3) := by decide +kernel
theorem d_D_beginToLead_70 : decode c_D_beginToLead 70 = .ok (.aload_n 0, 1) := by decide +kernel
theorem d_D_beginToLead_71 : decode c_D_beginToLead 71 = .ok (.getfield 26, 3) := by decide +kernel
theorem d_D_beginToLead_74 : decode c_D_beginToLead 74 = .ok (.iconst 1, 1) := by decide +kernel
theorem d_D_beginToLead_75 : decode c_D_beginToLead 75 = .ok (.aload_n 0, 1) := by decide +kernel
theorem d_D_beginToLead_76 : decode c_D_beginToLead 76 = .ok (.getfield 30, 3) := by decide +kernel
theorem d_D_beginToLead_79 : decode c_D_beginToLead 79 = .ok (.ishl, 1) := by decide +kernel
theorem d_D_beginToLead_80 : decode c_D_beginToLead 80 = .ok (.putfield 103, 3) := by decide +kernel
theorem d_D_beginToLead_83 : decode c_D_beginToLead 83 = .ok (.aload_n 0, 1) := by decide +kernel
theorem d_D_beginToLead_84 : decode c_D_beginToLead 84 = .ok (.getfield 26, 3) := by decide +kernel
theorem d_D_beginToLead_87 : decode c_D_beginToLead 87 = .ok (.aload_n 0, 1) := by decide +kernel
theorem d_D_beginToLead_88 : decode c_D_beginToLead 88 = .ok (.getfield 14, 3) := by decide +kernel
theorem d_D_beginToLead_91 : decode c_D_beginToLead 91 = .ok (.aload_n 0, 1) := by decide +kernel
theorem d_D_beginToLead_92 : decode c_D_beginToLead 92 = .ok (.getfield 70, 3) := by decide +kernel
theorem d_D_beginToLead_95 : decode c_D_beginToLead 95 = .ok (.invokevirtual 129, 3) := by decide +kernel
theorem d_D_beginToLead_98 : decode c_D_beginToLead 98 = .ok (.aload_n 0, 1) := by decide +kernel
theorem d_D_beginToLead_99 : decode c_D_beginToLead 99 = .ok (.getfield 26, 3) := by decide +kernel
theorem d_D_beginToLead_102 : decode c_D_beginToLead 102 = .ok (.aload_n 0, 1) := by decide +kernel
theorem d_D_beginToLead_103 : decode c_D_beginToLead 103 = .ok (.getfield 70, 3) := by decide +kernel
theorem d_D_beginToLead_106 : decode c_D_beginToLead 106 = .ok (.putfield 133, 3) := by decide +kernel
theorem d_D_beginToLead_109 : decode c_D_beginToLead 109 = .ok (.aload_n 0, 1) := by decide +kernel
theorem d_D_beginToLead_110 : decode c_D_beginToLead 110 = .ok (.getfield 26, 3) := by decide +kernel
theorem d_D_beginToLead_113 : decode c_D_beginToLead 113 = .ok (.aload_n 0, 1) := by decide +kernel
theorem d_D_beginToLead_114 : decode c_D_beginToLead 114 = .ok (.invokevirtual 99, 3) := by decide +kernel
theorem d_D_beginToLead_117 : decode c_D_beginToLead 117 = .ok (.putfield 136, 3) := by decide +kernel
theorem d_D_beginToLead_120 : decode c_D_beginToLead 120 = .ok (.aload_n 0, 1) := by decide +kernel
theorem d_D_beginToLead_121 : decode c_D_beginToLead 121 = .ok (.aload_n 0, 1) := by decide +kernel
theorem d_D_beginToLead_122 : decode c_D_beginToLead 122 = .ok (.getfield 26, 3) := by decide +kernel
theorem d_D_beginToLead_125 : decode c_D_beginToLead 125 = .ok (.getfield 136, 3) := by decide +kernel
theorem d_D_beginToLead_128 : decode c_D_beginToLead 128 = .ok (.iconst 1, 1) := by decide +kernel
theorem d_D_beginToLead_129 : decode c_D_beginToLead 129 = .ok (.aload_n 0, 1) := by decide +kernel
theorem d_D_beginToLead_130 : decode c_D_beginToLead 130 = .ok (.getfield 61, 3) := by decide +kernel
theorem d_D_beginToLead_133 : decode c_D_beginToLead 133 = .ok (.iconst 0, 1) := by decide +kernel
theorem d_D_beginToLead_134 : decode c_D_beginToLead 134 = .ok (.aconst_null, 1) := by decide +kernel
theorem d_D_beginToLead_135 : decode c_D_beginToLead 135 = .ok (.invokevirtual 116, 3) := by decide +kernel
theorem d_D_beginToLead_138 : decode c_D_beginToLead 138 = .ok (.return_, 1) := by decide +kernel
set_option maxHeartbeats 4000000 in
set_option maxRecDepth 100000 in
/-- beginToLead -/
theorem C_D_beginToLead (l : Launch) (D : va_G) (t : Nat → ClassId) (q : Nat → Nat) (nw no : Nat) (i : Nat) (pr lz bl tm le gr sp mk : Int32) (rw : Nat) (z : Nat) (hz : z ≤ 300) (x y : Int32) (g : Nat → Option Nat) : xe_C l D vwCl (xTY t) y_D_beginToLead c_D_beginToLead 2 (Option.none : Option FieldType) ({ frames := 4, cells := 7, slots := 56, locals := 98 }) [.ref ((q 0))] [zO 3 (q 0) [.int (nI i), .ref nw, .int pr, .int 0, .int 0, .ref ((q 1)), .ref ((q 7)), .ref ((q 11)), .int 1, .int lz, .int bl, .int tm, .int le, .int 0, .ref ((q 15))], zO 5 (q 1) [.ref ((q 2)), .ref ((q 3)), .ref ((q 4)), .ref ((q 5)), .ref ((q 6)), .int 1], zJ t (q 2) 32 (fun _ => 1099511627776), zI t (q 3) 8 (fun _ => 0), zJ t (q 4) 8 (fun _ => 0), zI t (q 5) 4 (xm 1), zI t (q 6) 4 (xm mk), zO 4 (q 7) [.ref ((q 8)), .ref ((q 9)), .ref ((q 10))], zI t (q 8) 32 (fun _ => 0), zI t (q 9) 32 (fun _ => 0), zA t 2 (q 10) 32 (fun _ => none), zO 4 (q 11) [.ref ((q 12)), .ref ((q 13)), .ref ((q 14))], zI t (q 12) 64 (fun _ => 0), zI t (q 13) 64 (fun _ => 0), zA t 2 (q 14) 64 (fun _ => none), zO 0 (q 15) [.ref no, .int gr, .ref ((q 16)), .ref ((q 20)), .ref ((q 24)), .int 0, .int 0, .int sp], zO 4 (q 16) [.ref ((q 17)), .ref ((q 18)), .ref ((q 19))], zI t (q 17) 32 (fun _ => 0), zI t (q 18) 32 (fun _ => 0), zA t 2 (q 19) 32 (fun _ => none), zO 4 (q 20) [.ref ((q 21)), .ref ((q 22)), .ref ((q 23))], zI t (q 21) 4 (fun _ => 0), zI t (q 22) 4 (fun _ => 0), zA t 2 (q 23) 4 (fun _ => none), zA t 2 (q 24) 16 (fun _ => none), zO 2 nw [.ref rw, .int (nI z), .int x, .int y, .int 0], zA t 3 rw 300 g] (xe_v D vwCl (fun _ : Int32 × Int32 × Int32 × Int32 × Int32 × (Nat → Option Nat) => True) (fun u => [zO 3 (q 0) [.int (nI i), .ref nw, .int u.1, .int 0, .int 0, .ref ((q 1)), .ref ((q 7)), .ref ((q 11)), .int 1, .int 1, .int u.2.1, .int 3, .int (nI i), .int 0, .ref ((q 15))], zO 5 (q 1) [.ref ((q 2)), .ref ((q 3)), .ref ((q 4)), .ref ((q 5)), .ref ((q 6)), .int 1], zJ t (q 2) 32 (fun _ => 1099511627776), zI t (q 3) 8 (fun _ => 0), zJ t (q 4) 8 (fun _ => 0), zI t (q 5) 4 (xm 1), zI t (q 6) 4 (xm mk), zO 4 (q 7) [.ref ((q 8)), .ref ((q 9)), .ref ((q 10))], zI t (q 8) 32 (fun _ => 0), zI t (q 9) 32 (fun _ => 0), zA t 2 (q 10) 32 (fun _ => none), zO 4 (q 11) [.ref ((q 12)), .ref ((q 13)), .ref ((q 14))], zI t (q 12) 64 (fun _ => 0), zI t (q 13) 64 (fun _ => 0), zA t 2 (q 14) 64 (fun _ => none), zO 0 (q 15) [.ref no, .int ((1 : Int32) <<< (nI i &&& 31)), .ref ((q 16)), .ref ((q 20)), .ref ((q 24)), .int 0, .int 0, .int u.2.2.1], zO 4 (q 16) [.ref ((q 17)), .ref ((q 18)), .ref ((q 19))], zI t (q 17) 32 (fun _ => 0), zI t (q 18) 32 (fun _ => 0), zA t 2 (q 19) 32 (fun _ => none), zO 4 (q 20) [.ref ((q 21)), .ref ((q 22)), .ref ((q 23))], zI t (q 21) 4 (fun _ => 0), zI t (q 22) 4 (fun _ => 0), zA t 2 (q 23) 4 (fun _ => none), zA t 2 (q 24) 16 (fun _ => none), zO 2 nw [.ref rw, .int (nI (min 300 (z + xn (xp mk (nI i)) 7))), .int u.2.2.2.1, .int u.2.2.2.2.1, .int 0], zA t 3 rw 300 u.2.2.2.2.2])) 7 56 := by
  refine xe_of (by decide) (Nat.le_of_ble_eq_true rfl) ?_
  intro p e s m below meth c ls A Z hr hlocks hin hA hP hD hS hl
  obtain ⟨hx, hb, hml, hown, hK⟩ := id Z
  have hown : s.vm.findClass "QuorumStore$Node" = some m.cls := hown
  have hts := hK.1.at (args := ([.ref ((q 0))] : List Value).toArray)
  have hl : lv_has ls 2 [(0, .ref ((q 0)))] := hl
  refine lv_aload_n hx hb d_D_beginToLead_0 rfl (lv_at hl 0 rfl) ?_
  refine va_get (ci := 3) (C := "QuorumStore$Node") (T := TX3) (N := 15) hx hb hts inX3 hown hK.2 hP 0 rfl rfl 2 (by decide) (hts _ k_199) (fun _ h9 => h9) rfl d_D_beginToLead_1 ?_
  refine lv_aload_n hx hb d_D_beginToLead_4 rfl (lv_at hl 0 rfl) ?_
  refine va_get (ci := 3) (C := "QuorumStore$Node") (T := TX3) (N := 15) hx hb hts inX3 hown hK.2 hP 0 rfl rfl 10 (by decide) (hts _ k_215) (fun _ h9 => h9) rfl d_D_beginToLead_5 ?_
  refine lv_aload_n hx hb d_D_beginToLead_8 rfl (lv_at hl 0 rfl) ?_
  refine va_get (ci := 3) (C := "QuorumStore$Node") (T := TX3) (N := 15) hx hb hts inX3 hown hK.2 hP 0 rfl rfl 13 (by decide) (hts _ k_221) (fun _ h9 => h9) rfl d_D_beginToLead_9 ?_
  refine va_mmax hx hb (hml.trans hl.1.symm) hown (hts _ k_441) (hts _ k_442) (hts _ k_18) (hts _ k_443) (Nat.le_of_ble_eq_true rfl) (Nat.le_of_ble_eq_true rfl) (Nat.zero_le _) (Nat.zero_le _) d_D_beginToLead_12 ?_
  refine lv_topi (fun m_1 em_1 => ?_)
  refine va_mmax hx hb (hml.trans hl.1.symm) hown (hts _ k_441) (hts _ k_442) (hts _ k_18) (hts _ k_443) (Nat.le_of_ble_eq_true rfl) (Nat.le_of_ble_eq_true rfl) (Nat.zero_le _) (Nat.zero_le _) d_D_beginToLead_15 ?_
  refine lv_topi (fun m_2 em_2 => ?_)
  refine lv_istore_n (lv' := [(1, .int m_2), (0, .ref ((q 0)))]) hx hb d_D_beginToLead_18 rfl hl (by decide) rfl (fun ls hl => ?_)
  refine lv_aload_n hx hb d_D_beginToLead_19 rfl (lv_at hl 1 rfl) ?_
  refine lv_bipush (v := 8) hx hb d_D_beginToLead_20 (by decide) ?_
  refine lv_iload_n hx hb d_D_beginToLead_22 rfl (lv_at hl 0 rfl) ?_
  refine lv_bipush (v := 8) hx hb d_D_beginToLead_23 (by decide) ?_
  refine lv_idiv hx hb d_D_beginToLead_25 (by decide) ?_
  refine lv_iconst (v := 1) hx hb d_D_beginToLead_26 (by decide) ?_
  refine lv_iadd hx hb d_D_beginToLead_27 ?_
  refine lv_imul hx hb d_D_beginToLead_28 ?_
  refine lv_aload_n hx hb d_D_beginToLead_29 rfl (lv_at hl 1 rfl) ?_
  refine va_get (ci := 3) (C := "QuorumStore$Node") (T := TX3) (N := 15) hx hb hts inX3 hown hK.2 hP 0 rfl rfl 0 (by decide) (hts _ k_197) (fun _ h9 => h9) rfl d_D_beginToLead_30 ?_
  refine lv_iadd hx hb d_D_beginToLead_33 ?_
  refine lv_topi (fun f_3 ef_3 => ?_)
  refine va_put (ci := 3) (v := .int f_3) (ty := tyX3 10) (C := "QuorumStore$Node") (T := TX3) (N := 15) hx hb hts inX3 tyX3 okX3 nmX3 hown hK.2 hP hD hS 0 rfl rfl 10 (by decide) (hts _ k_215) (fun _ h9 => h9) rfl (by decide +kernel) rfl rfl (Nat.le_of_ble_eq_true rfl) d_D_beginToLead_34 (fun H locs hP hD hS => ?_)
  have hP : va_P D vwCl [zO 3 (q 0) [.int (nI i), .ref nw, .int pr, .int 0, .int 0, .ref ((q 1)), .ref ((q 7)), .ref ((q 11)), .int 1, .int lz, .int f_3, .int tm, .int le, .int 0, .ref ((q 15))], zO 5 (q 1) [.ref ((q 2)), .ref ((q 3)), .ref ((q 4)), .ref ((q 5)), .ref ((q 6)), .int 1], zJ t (q 2) 32 (fun _ => 1099511627776), zI t (q 3) 8 (fun _ => 0), zJ t (q 4) 8 (fun _ => 0), zI t (q 5) 4 (xm 1), zI t (q 6) 4 (xm mk), zO 4 (q 7) [.ref ((q 8)), .ref ((q 9)), .ref ((q 10))], zI t (q 8) 32 (fun _ => 0), zI t (q 9) 32 (fun _ => 0), zA t 2 (q 10) 32 (fun _ => none), zO 4 (q 11) [.ref ((q 12)), .ref ((q 13)), .ref ((q 14))], zI t (q 12) 64 (fun _ => 0), zI t (q 13) 64 (fun _ => 0), zA t 2 (q 14) 64 (fun _ => none), zO 0 (q 15) [.ref no, .int gr, .ref ((q 16)), .ref ((q 20)), .ref ((q 24)), .int 0, .int 0, .int sp], zO 4 (q 16) [.ref ((q 17)), .ref ((q 18)), .ref ((q 19))], zI t (q 17) 32 (fun _ => 0), zI t (q 18) 32 (fun _ => 0), zA t 2 (q 19) 32 (fun _ => none), zO 4 (q 20) [.ref ((q 21)), .ref ((q 22)), .ref ((q 23))], zI t (q 21) 4 (fun _ => 0), zI t (q 22) 4 (fun _ => 0), zA t 2 (q 23) 4 (fun _ => none), zA t 2 (q 24) 16 (fun _ => none), zO 2 nw [.ref rw, .int (nI z), .int x, .int y, .int 0], zA t 3 rw 300 g] H := hP
  have hD : va_D A [zO 3 (q 0) [.int (nI i), .ref nw, .int pr, .int 0, .int 0, .ref ((q 1)), .ref ((q 7)), .ref ((q 11)), .int 1, .int lz, .int f_3, .int tm, .int le, .int 0, .ref ((q 15))], zO 5 (q 1) [.ref ((q 2)), .ref ((q 3)), .ref ((q 4)), .ref ((q 5)), .ref ((q 6)), .int 1], zJ t (q 2) 32 (fun _ => 1099511627776), zI t (q 3) 8 (fun _ => 0), zJ t (q 4) 8 (fun _ => 0), zI t (q 5) 4 (xm 1), zI t (q 6) 4 (xm mk), zO 4 (q 7) [.ref ((q 8)), .ref ((q 9)), .ref ((q 10))], zI t (q 8) 32 (fun _ => 0), zI t (q 9) 32 (fun _ => 0), zA t 2 (q 10) 32 (fun _ => none), zO 4 (q 11) [.ref ((q 12)), .ref ((q 13)), .ref ((q 14))], zI t (q 12) 64 (fun _ => 0), zI t (q 13) 64 (fun _ => 0), zA t 2 (q 14) 64 (fun _ => none), zO 0 (q 15) [.ref no, .int gr, .ref ((q 16)), .ref ((q 20)), .ref ((q 24)), .int 0, .int 0, .int sp], zO 4 (q 16) [.ref ((q 17)), .ref ((q 18)), .ref ((q 19))], zI t (q 17) 32 (fun _ => 0), zI t (q 18) 32 (fun _ => 0), zA t 2 (q 19) 32 (fun _ => none), zO 4 (q 20) [.ref ((q 21)), .ref ((q 22)), .ref ((q 23))], zI t (q 21) 4 (fun _ => 0), zI t (q 22) 4 (fun _ => 0), zA t 2 (q 23) 4 (fun _ => none), zA t 2 (q 24) 16 (fun _ => none), zO 2 nw [.ref rw, .int (nI z), .int x, .int y, .int 0], zA t 3 rw 300 g] := hD
  refine lv_aload_n hx hb d_D_beginToLead_37 rfl (lv_at hl 1 rfl) ?_
  refine va_get (ci := 3) (C := "QuorumStore$Node") (T := TX3) (N := 15) hx hb hts inX3 hown hK.2 hP 0 rfl rfl 14 (by decide) (hts _ k_222) (fun _ h9 => h9) rfl d_D_beginToLead_38 ?_
  refine xe_callv (wr := [zO 3 (q 0) [.int (nI i), .ref nw, .int pr, .int 0, .int 0, .ref ((q 1)), .ref ((q 7)), .ref ((q 11)), .int 1, .int lz, .int f_3, .int tm, .int le, .int 0, .ref ((q 15))], zO 5 (q 1) [.ref ((q 2)), .ref ((q 3)), .ref ((q 4)), .ref ((q 5)), .ref ((q 6)), .int 1], zJ t (q 2) 32 (fun _ => 1099511627776), zI t (q 3) 8 (fun _ => 0), zJ t (q 4) 8 (fun _ => 0), zI t (q 5) 4 (xm 1), zI t (q 6) 4 (xm mk), zO 4 (q 7) [.ref ((q 8)), .ref ((q 9)), .ref ((q 10))], zI t (q 8) 32 (fun _ => 0), zI t (q 9) 32 (fun _ => 0), zA t 2 (q 10) 32 (fun _ => none), zO 4 (q 11) [.ref ((q 12)), .ref ((q 13)), .ref ((q 14))], zI t (q 12) 64 (fun _ => 0), zI t (q 13) 64 (fun _ => 0), zA t 2 (q 14) 64 (fun _ => none), zO 2 nw [.ref rw, .int (nI z), .int x, .int y, .int 0], zA t 3 rw 300 g]) (xs_V (As := []) (rest := []) Z (C_L_clear l D t q no gr sp H.size) m_L_clear k_444 k_445 k_446 rfl rfl ⟨Nat.le_of_ble_eq_true rfl, Nat.le_of_ble_eq_true rfl⟩ (va_recv hK.2 hP (ci := 0) (q0 := 15) rfl rfl) (xe_pre hK (hP.sub [15, 16, 17, 18, 19, 20, 21, 22, 23, 24] rfl) (hD.sub [15, 16, 17, 18, 19, 20, 21, 22, 23, 24] (by decide) rfl)) rfl hl.1 rfl (Nat.le_of_ble_eq_true rfl) d_D_beginToLead_41 ⟨Nat.le_of_ble_eq_true rfl, Nat.le_of_ble_eq_true rfl⟩) hP hD hS hA [15, 16, 17, 18, 19, 20, 21, 22, 23, 24] [0, 1, 2, 3, 4, 5, 6, 7, 8, 9, 10, 11, 12, 13, 14, 25, 26] rfl rfl (by decide) (by decide) (fun u_ H locs _ hP hD hS => ?_)
  have hP : va_P D vwCl [zO 3 (q 0) [.int (nI i), .ref nw, .int pr, .int 0, .int 0, .ref ((q 1)), .ref ((q 7)), .ref ((q 11)), .int 1, .int lz, .int f_3, .int tm, .int le, .int 0, .ref ((q 15))], zO 5 (q 1) [.ref ((q 2)), .ref ((q 3)), .ref ((q 4)), .ref ((q 5)), .ref ((q 6)), .int 1], zJ t (q 2) 32 (fun _ => 1099511627776), zI t (q 3) 8 (fun _ => 0), zJ t (q 4) 8 (fun _ => 0), zI t (q 5) 4 (xm 1), zI t (q 6) 4 (xm mk), zO 4 (q 7) [.ref ((q 8)), .ref ((q 9)), .ref ((q 10))], zI t (q 8) 32 (fun _ => 0), zI t (q 9) 32 (fun _ => 0), zA t 2 (q 10) 32 (fun _ => none), zO 4 (q 11) [.ref ((q 12)), .ref ((q 13)), .ref ((q 14))], zI t (q 12) 64 (fun _ => 0), zI t (q 13) 64 (fun _ => 0), zA t 2 (q 14) 64 (fun _ => none), zO 2 nw [.ref rw, .int (nI z), .int x, .int y, .int 0], zA t 3 rw 300 g, zO 0 (q 15) [.ref no, .int 0, .ref ((q 16)), .ref ((q 20)), .ref ((q 24)), .int 0, .int 0, .int sp], zO 4 (q 16) [.ref ((q 17)), .ref ((q 18)), .ref ((q 19))], zI t (q 17) 32 (fun _ => 0), zI t (q 18) 32 (fun _ => 0), zA t 2 (q 19) 32 (fun _ => none), zO 4 (q 20) [.ref ((q 21)), .ref ((q 22)), .ref ((q 23))], zI t (q 21) 4 (fun _ => 0), zI t (q 22) 4 (fun _ => 0), zA t 2 (q 23) 4 (fun _ => none), zA t 2 (q 24) 16 (fun _ => none)] H := hP
  have hD : va_D A [zO 3 (q 0) [.int (nI i), .ref nw, .int pr, .int 0, .int 0, .ref ((q 1)), .ref ((q 7)), .ref ((q 11)), .int 1, .int lz, .int f_3, .int tm, .int le, .int 0, .ref ((q 15))], zO 5 (q 1) [.ref ((q 2)), .ref ((q 3)), .ref ((q 4)), .ref ((q 5)), .ref ((q 6)), .int 1], zJ t (q 2) 32 (fun _ => 1099511627776), zI t (q 3) 8 (fun _ => 0), zJ t (q 4) 8 (fun _ => 0), zI t (q 5) 4 (xm 1), zI t (q 6) 4 (xm mk), zO 4 (q 7) [.ref ((q 8)), .ref ((q 9)), .ref ((q 10))], zI t (q 8) 32 (fun _ => 0), zI t (q 9) 32 (fun _ => 0), zA t 2 (q 10) 32 (fun _ => none), zO 4 (q 11) [.ref ((q 12)), .ref ((q 13)), .ref ((q 14))], zI t (q 12) 64 (fun _ => 0), zI t (q 13) 64 (fun _ => 0), zA t 2 (q 14) 64 (fun _ => none), zO 2 nw [.ref rw, .int (nI z), .int x, .int y, .int 0], zA t 3 rw 300 g, zO 0 (q 15) [.ref no, .int 0, .ref ((q 16)), .ref ((q 20)), .ref ((q 24)), .int 0, .int 0, .int sp], zO 4 (q 16) [.ref ((q 17)), .ref ((q 18)), .ref ((q 19))], zI t (q 17) 32 (fun _ => 0), zI t (q 18) 32 (fun _ => 0), zA t 2 (q 19) 32 (fun _ => none), zO 4 (q 20) [.ref ((q 21)), .ref ((q 22)), .ref ((q 23))], zI t (q 21) 4 (fun _ => 0), zI t (q 22) 4 (fun _ => 0), zA t 2 (q 23) 4 (fun _ => none), zA t 2 (q 24) 16 (fun _ => none)] := hD
  refine lv_aload_n hx hb d_D_beginToLead_44 rfl (lv_at hl 1 rfl) ?_
  refine lv_iconst (v := 1) hx hb d_D_beginToLead_45 (by decide) ?_
  refine va_put (ci := 3) (v := .int 1) (ty := tyX3 9) (C := "QuorumStore$Node") (T := TX3) (N := 15) hx hb hts inX3 tyX3 okX3 nmX3 hown hK.2 hP hD hS 0 rfl rfl 9 (by decide) (hts _ k_213) (fun _ h9 => h9) rfl (by decide +kernel) (by decide) (by decide) (Nat.le_of_ble_eq_true rfl) d_D_beginToLead_46 (fun H locs hP hD hS => ?_)
  have hP : va_P D vwCl [zO 3 (q 0) [.int (nI i), .ref nw, .int pr, .int 0, .int 0, .ref ((q 1)), .ref ((q 7)), .ref ((q 11)), .int 1, .int 1, .int f_3, .int tm, .int le, .int 0, .ref ((q 15))], zO 5 (q 1) [.ref ((q 2)), .ref ((q 3)), .ref ((q 4)), .ref ((q 5)), .ref ((q 6)), .int 1], zJ t (q 2) 32 (fun _ => 1099511627776), zI t (q 3) 8 (fun _ => 0), zJ t (q 4) 8 (fun _ => 0), zI t (q 5) 4 (xm 1), zI t (q 6) 4 (xm mk), zO 4 (q 7) [.ref ((q 8)), .ref ((q 9)), .ref ((q 10))], zI t (q 8) 32 (fun _ => 0), zI t (q 9) 32 (fun _ => 0), zA t 2 (q 10) 32 (fun _ => none), zO 4 (q 11) [.ref ((q 12)), .ref ((q 13)), .ref ((q 14))], zI t (q 12) 64 (fun _ => 0), zI t (q 13) 64 (fun _ => 0), zA t 2 (q 14) 64 (fun _ => none), zO 2 nw [.ref rw, .int (nI z), .int x, .int y, .int 0], zA t 3 rw 300 g, zO 0 (q 15) [.ref no, .int 0, .ref ((q 16)), .ref ((q 20)), .ref ((q 24)), .int 0, .int 0, .int sp], zO 4 (q 16) [.ref ((q 17)), .ref ((q 18)), .ref ((q 19))], zI t (q 17) 32 (fun _ => 0), zI t (q 18) 32 (fun _ => 0), zA t 2 (q 19) 32 (fun _ => none), zO 4 (q 20) [.ref ((q 21)), .ref ((q 22)), .ref ((q 23))], zI t (q 21) 4 (fun _ => 0), zI t (q 22) 4 (fun _ => 0), zA t 2 (q 23) 4 (fun _ => none), zA t 2 (q 24) 16 (fun _ => none)] H := hP
  have hD : va_D A [zO 3 (q 0) [.int (nI i), .ref nw, .int pr, .int 0, .int 0, .ref ((q 1)), .ref ((q 7)), .ref ((q 11)), .int 1, .int 1, .int f_3, .int tm, .int le, .int 0, .ref ((q 15))], zO 5 (q 1) [.ref ((q 2)), .ref ((q 3)), .ref ((q 4)), .ref ((q 5)), .ref ((q 6)), .int 1], zJ t (q 2) 32 (fun _ => 1099511627776), zI t (q 3) 8 (fun _ => 0), zJ t (q 4) 8 (fun _ => 0), zI t (q 5) 4 (xm 1), zI t (q 6) 4 (xm mk), zO 4 (q 7) [.ref ((q 8)), .ref ((q 9)), .ref ((q 10))], zI t (q 8) 32 (fun _ => 0), zI t (q 9) 32 (fun _ => 0), zA t 2 (q 10) 32 (fun _ => none), zO 4 (q 11) [.ref ((q 12)), .ref ((q 13)), .ref ((q 14))], zI t (q 12) 64 (fun _ => 0), zI t (q 13) 64 (fun _ => 0), zA t 2 (q 14) 64 (fun _ => none), zO 2 nw [.ref rw, .int (nI z), .int x, .int y, .int 0], zA t 3 rw 300 g, zO 0 (q 15) [.ref no, .int 0, .ref ((q 16)), .ref ((q 20)), .ref ((q 24)), .int 0, .int 0, .int sp], zO 4 (q 16) [.ref ((q 17)), .ref ((q 18)), .ref ((q 19))], zI t (q 17) 32 (fun _ => 0), zI t (q 18) 32 (fun _ => 0), zA t 2 (q 19) 32 (fun _ => none), zO 4 (q 20) [.ref ((q 21)), .ref ((q 22)), .ref ((q 23))], zI t (q 21) 4 (fun _ => 0), zI t (q 22) 4 (fun _ => 0), zA t 2 (q 23) 4 (fun _ => none), zA t 2 (q 24) 16 (fun _ => none)] := hD
  refine lv_aload_n hx hb d_D_beginToLead_49 rfl (lv_at hl 1 rfl) ?_
  refine lv_aload_n hx hb d_D_beginToLead_50 rfl (lv_at hl 1 rfl) ?_
  refine va_get (ci := 3) (C := "QuorumStore$Node") (T := TX3) (N := 15) hx hb hts inX3 hown hK.2 hP 0 rfl rfl 0 (by decide) (hts _ k_197) (fun _ h9 => h9) rfl d_D_beginToLead_51 ?_
  refine lv_topi (fun f_4 ef_4 => ?_)
  refine va_put (ci := 3) (v := .int f_4) (ty := tyX3 12) (C := "QuorumStore$Node") (T := TX3) (N := 15) hx hb hts inX3 tyX3 okX3 nmX3 hown hK.2 hP hD hS 0 rfl rfl 12 (by decide) (hts _ k_219) (fun _ h9 => h9) rfl (by decide +kernel) rfl rfl (Nat.le_of_ble_eq_true rfl) d_D_beginToLead_54 (fun H locs hP hD hS => ?_)
  have hP : va_P D vwCl [zO 3 (q 0) [.int (nI i), .ref nw, .int pr, .int 0, .int 0, .ref ((q 1)), .ref ((q 7)), .ref ((q 11)), .int 1, .int 1, .int f_3, .int tm, .int f_4, .int 0, .ref ((q 15))], zO 5 (q 1) [.ref ((q 2)), .ref ((q 3)), .ref ((q 4)), .ref ((q 5)), .ref ((q 6)), .int 1], zJ t (q 2) 32 (fun _ => 1099511627776), zI t (q 3) 8 (fun _ => 0), zJ t (q 4) 8 (fun _ => 0), zI t (q 5) 4 (xm 1), zI t (q 6) 4 (xm mk), zO 4 (q 7) [.ref ((q 8)), .ref ((q 9)), .ref ((q 10))], zI t (q 8) 32 (fun _ => 0), zI t (q 9) 32 (fun _ => 0), zA t 2 (q 10) 32 (fun _ => none), zO 4 (q 11) [.ref ((q 12)), .ref ((q 13)), .ref ((q 14))], zI t (q 12) 64 (fun _ => 0), zI t (q 13) 64 (fun _ => 0), zA t 2 (q 14) 64 (fun _ => none), zO 2 nw [.ref rw, .int (nI z), .int x, .int y, .int 0], zA t 3 rw 300 g, zO 0 (q 15) [.ref no, .int 0, .ref ((q 16)), .ref ((q 20)), .ref ((q 24)), .int 0, .int 0, .int sp], zO 4 (q 16) [.ref ((q 17)), .ref ((q 18)), .ref ((q 19))], zI t (q 17) 32 (fun _ => 0), zI t (q 18) 32 (fun _ => 0), zA t 2 (q 19) 32 (fun _ => none), zO 4 (q 20) [.ref ((q 21)), .ref ((q 22)), .ref ((q 23))], zI t (q 21) 4 (fun _ => 0), zI t (q 22) 4 (fun _ => 0), zA t 2 (q 23) 4 (fun _ => none), zA t 2 (q 24) 16 (fun _ => none)] H := hP
  have hD : va_D A [zO 3 (q 0) [.int (nI i), .ref nw, .int pr, .int 0, .int 0, .ref ((q 1)), .ref ((q 7)), .ref ((q 11)), .int 1, .int 1, .int f_3, .int tm, .int f_4, .int 0, .ref ((q 15))], zO 5 (q 1) [.ref ((q 2)), .ref ((q 3)), .ref ((q 4)), .ref ((q 5)), .ref ((q 6)), .int 1], zJ t (q 2) 32 (fun _ => 1099511627776), zI t (q 3) 8 (fun _ => 0), zJ t (q 4) 8 (fun _ => 0), zI t (q 5) 4 (xm 1), zI t (q 6) 4 (xm mk), zO 4 (q 7) [.ref ((q 8)), .ref ((q 9)), .ref ((q 10))], zI t (q 8) 32 (fun _ => 0), zI t (q 9) 32 (fun _ => 0), zA t 2 (q 10) 32 (fun _ => none), zO 4 (q 11) [.ref ((q 12)), .ref ((q 13)), .ref ((q 14))], zI t (q 12) 64 (fun _ => 0), zI t (q 13) 64 (fun _ => 0), zA t 2 (q 14) 64 (fun _ => none), zO 2 nw [.ref rw, .int (nI z), .int x, .int y, .int 0], zA t 3 rw 300 g, zO 0 (q 15) [.ref no, .int 0, .ref ((q 16)), .ref ((q 20)), .ref ((q 24)), .int 0, .int 0, .int sp], zO 4 (q 16) [.ref ((q 17)), .ref ((q 18)), .ref ((q 19))], zI t (q 17) 32 (fun _ => 0), zI t (q 18) 32 (fun _ => 0), zA t 2 (q 19) 32 (fun _ => none), zO 4 (q 20) [.ref ((q 21)), .ref ((q 22)), .ref ((q 23))], zI t (q 21) 4 (fun _ => 0), zI t (q 22) 4 (fun _ => 0), zA t 2 (q 23) 4 (fun _ => none), zA t 2 (q 24) 16 (fun _ => none)] := hD
  refine lv_aload_n hx hb d_D_beginToLead_57 rfl (lv_at hl 1 rfl) ?_
  refine lv_iconst (v := 3) hx hb d_D_beginToLead_58 (by decide) ?_
  refine va_put (ci := 3) (v := .int 3) (ty := tyX3 11) (C := "QuorumStore$Node") (T := TX3) (N := 15) hx hb hts inX3 tyX3 okX3 nmX3 hown hK.2 hP hD hS 0 rfl rfl 11 (by decide) (hts _ k_217) (fun _ h9 => h9) rfl (by decide +kernel) rfl rfl (Nat.le_of_ble_eq_true rfl) d_D_beginToLead_59 (fun H locs hP hD hS => ?_)
  have hP : va_P D vwCl [zO 3 (q 0) [.int (nI i), .ref nw, .int pr, .int 0, .int 0, .ref ((q 1)), .ref ((q 7)), .ref ((q 11)), .int 1, .int 1, .int f_3, .int 3, .int f_4, .int 0, .ref ((q 15))], zO 5 (q 1) [.ref ((q 2)), .ref ((q 3)), .ref ((q 4)), .ref ((q 5)), .ref ((q 6)), .int 1], zJ t (q 2) 32 (fun _ => 1099511627776), zI t (q 3) 8 (fun _ => 0), zJ t (q 4) 8 (fun _ => 0), zI t (q 5) 4 (xm 1), zI t (q 6) 4 (xm mk), zO 4 (q 7) [.ref ((q 8)), .ref ((q 9)), .ref ((q 10))], zI t (q 8) 32 (fun _ => 0), zI t (q 9) 32 (fun _ => 0), zA t 2 (q 10) 32 (fun _ => none), zO 4 (q 11) [.ref ((q 12)), .ref ((q 13)), .ref ((q 14))], zI t (q 12) 64 (fun _ => 0), zI t (q 13) 64 (fun _ => 0), zA t 2 (q 14) 64 (fun _ => none), zO 2 nw [.ref rw, .int (nI z), .int x, .int y, .int 0], zA t 3 rw 300 g, zO 0 (q 15) [.ref no, .int 0, .ref ((q 16)), .ref ((q 20)), .ref ((q 24)), .int 0, .int 0, .int sp], zO 4 (q 16) [.ref ((q 17)), .ref ((q 18)), .ref ((q 19))], zI t (q 17) 32 (fun _ => 0), zI t (q 18) 32 (fun _ => 0), zA t 2 (q 19) 32 (fun _ => none), zO 4 (q 20) [.ref ((q 21)), .ref ((q 22)), .ref ((q 23))], zI t (q 21) 4 (fun _ => 0), zI t (q 22) 4 (fun _ => 0), zA t 2 (q 23) 4 (fun _ => none), zA t 2 (q 24) 16 (fun _ => none)] H := hP
  have hD : va_D A [zO 3 (q 0) [.int (nI i), .ref nw, .int pr, .int 0, .int 0, .ref ((q 1)), .ref ((q 7)), .ref ((q 11)), .int 1, .int 1, .int f_3, .int 3, .int f_4, .int 0, .ref ((q 15))], zO 5 (q 1) [.ref ((q 2)), .ref ((q 3)), .ref ((q 4)), .ref ((q 5)), .ref ((q 6)), .int 1], zJ t (q 2) 32 (fun _ => 1099511627776), zI t (q 3) 8 (fun _ => 0), zJ t (q 4) 8 (fun _ => 0), zI t (q 5) 4 (xm 1), zI t (q 6) 4 (xm mk), zO 4 (q 7) [.ref ((q 8)), .ref ((q 9)), .ref ((q 10))], zI t (q 8) 32 (fun _ => 0), zI t (q 9) 32 (fun _ => 0), zA t 2 (q 10) 32 (fun _ => none), zO 4 (q 11) [.ref ((q 12)), .ref ((q 13)), .ref ((q 14))], zI t (q 12) 64 (fun _ => 0), zI t (q 13) 64 (fun _ => 0), zA t 2 (q 14) 64 (fun _ => none), zO 2 nw [.ref rw, .int (nI z), .int x, .int y, .int 0], zA t 3 rw 300 g, zO 0 (q 15) [.ref no, .int 0, .ref ((q 16)), .ref ((q 20)), .ref ((q 24)), .int 0, .int 0, .int sp], zO 4 (q 16) [.ref ((q 17)), .ref ((q 18)), .ref ((q 19))], zI t (q 17) 32 (fun _ => 0), zI t (q 18) 32 (fun _ => 0), zA t 2 (q 19) 32 (fun _ => none), zO 4 (q 20) [.ref ((q 21)), .ref ((q 22)), .ref ((q 23))], zI t (q 21) 4 (fun _ => 0), zI t (q 22) 4 (fun _ => 0), zA t 2 (q 23) 4 (fun _ => none), zA t 2 (q 24) 16 (fun _ => none)] := hD
  refine lv_aload_n hx hb d_D_beginToLead_62 rfl (lv_at hl 1 rfl) ?_
  refine lv_aload_n hx hb d_D_beginToLead_63 rfl (lv_at hl 1 rfl) ?_
  refine va_get (ci := 3) (C := "QuorumStore$Node") (T := TX3) (N := 15) hx hb hts inX3 hown hK.2 hP 0 rfl rfl 10 (by decide) (hts _ k_215) (fun _ h9 => h9) rfl d_D_beginToLead_64 ?_
  refine va_put (ci := 3) (v := .int f_3) (ty := tyX3 2) (C := "QuorumStore$Node") (T := TX3) (N := 15) hx hb hts inX3 tyX3 okX3 nmX3 hown hK.2 hP hD hS 0 rfl rfl 2 (by decide) (hts _ k_199) (fun _ h9 => h9) rfl (by decide +kernel) rfl rfl (Nat.le_of_ble_eq_true rfl) d_D_beginToLead_67 (fun H locs hP hD hS => ?_)
  have hP : va_P D vwCl [zO 3 (q 0) [.int (nI i), .ref nw, .int f_3, .int 0, .int 0, .ref ((q 1)), .ref ((q 7)), .ref ((q 11)), .int 1, .int 1, .int f_3, .int 3, .int f_4, .int 0, .ref ((q 15))], zO 5 (q 1) [.ref ((q 2)), .ref ((q 3)), .ref ((q 4)), .ref ((q 5)), .ref ((q 6)), .int 1], zJ t (q 2) 32 (fun _ => 1099511627776), zI t (q 3) 8 (fun _ => 0), zJ t (q 4) 8 (fun _ => 0), zI t (q 5) 4 (xm 1), zI t (q 6) 4 (xm mk), zO 4 (q 7) [.ref ((q 8)), .ref ((q 9)), .ref ((q 10))], zI t (q 8) 32 (fun _ => 0), zI t (q 9) 32 (fun _ => 0), zA t 2 (q 10) 32 (fun _ => none), zO 4 (q 11) [.ref ((q 12)), .ref ((q 13)), .ref ((q 14))], zI t (q 12) 64 (fun _ => 0), zI t (q 13) 64 (fun _ => 0), zA t 2 (q 14) 64 (fun _ => none), zO 2 nw [.ref rw, .int (nI z), .int x, .int y, .int 0], zA t 3 rw 300 g, zO 0 (q 15) [.ref no, .int 0, .ref ((q 16)), .ref ((q 20)), .ref ((q 24)), .int 0, .int 0, .int sp], zO 4 (q 16) [.ref ((q 17)), .ref ((q 18)), .ref ((q 19))], zI t (q 17) 32 (fun _ => 0), zI t (q 18) 32 (fun _ => 0), zA t 2 (q 19) 32 (fun _ => none), zO 4 (q 20) [.ref ((q 21)), .ref ((q 22)), .ref ((q 23))], zI t (q 21) 4 (fun _ => 0), zI t (q 22) 4 (fun _ => 0), zA t 2 (q 23) 4 (fun _ => none), zA t 2 (q 24) 16 (fun _ => none)] H := hP
  have hD : va_D A [zO 3 (q 0) [.int (nI i), .ref nw, .int f_3, .int 0, .int 0, .ref ((q 1)), .ref ((q 7)), .ref ((q 11)), .int 1, .int 1, .int f_3, .int 3, .int f_4, .int 0, .ref ((q 15))], zO 5 (q 1) [.ref ((q 2)), .ref ((q 3)), .ref ((q 4)), .ref ((q 5)), .ref ((q 6)), .int 1], zJ t (q 2) 32 (fun _ => 1099511627776), zI t (q 3) 8 (fun _ => 0), zJ t (q 4) 8 (fun _ => 0), zI t (q 5) 4 (xm 1), zI t (q 6) 4 (xm mk), zO 4 (q 7) [.ref ((q 8)), .ref ((q 9)), .ref ((q 10))], zI t (q 8) 32 (fun _ => 0), zI t (q 9) 32 (fun _ => 0), zA t 2 (q 10) 32 (fun _ => none), zO 4 (q 11) [.ref ((q 12)), .ref ((q 13)), .ref ((q 14))], zI t (q 12) 64 (fun _ => 0), zI t (q 13) 64 (fun _ => 0), zA t 2 (q 14) 64 (fun _ => none), zO 2 nw [.ref rw, .int (nI z), .int x, .int y, .int 0], zA t 3 rw 300 g, zO 0 (q 15) [.ref no, .int 0, .ref ((q 16)), .ref ((q 20)), .ref ((q 24)), .int 0, .int 0, .int sp], zO 4 (q 16) [.ref ((q 17)), .ref ((q 18)), .ref ((q 19))], zI t (q 17) 32 (fun _ => 0), zI t (q 18) 32 (fun _ => 0), zA t 2 (q 19) 32 (fun _ => none), zO 4 (q 20) [.ref ((q 21)), .ref ((q 22)), .ref ((q 23))], zI t (q 21) 4 (fun _ => 0), zI t (q 22) 4 (fun _ => 0), zA t 2 (q 23) 4 (fun _ => none), zA t 2 (q 24) 16 (fun _ => none)] := hD
  refine lv_aload_n hx hb d_D_beginToLead_70 rfl (lv_at hl 1 rfl) ?_
  refine va_get (ci := 3) (C := "QuorumStore$Node") (T := TX3) (N := 15) hx hb hts inX3 hown hK.2 hP 0 rfl rfl 14 (by decide) (hts _ k_222) (fun _ h9 => h9) rfl d_D_beginToLead_71 ?_
  refine lv_iconst (v := 1) hx hb d_D_beginToLead_74 (by decide) ?_
  refine lv_aload_n hx hb d_D_beginToLead_75 rfl (lv_at hl 1 rfl) ?_
  refine va_get (ci := 3) (C := "QuorumStore$Node") (T := TX3) (N := 15) hx hb hts inX3 hown hK.2 hP 0 rfl rfl 0 (by decide) (hts _ k_197) (fun _ h9 => h9) rfl d_D_beginToLead_76 ?_
  refine lv_ishl hx hb d_D_beginToLead_79 ?_
  refine lv_topi (fun f_5 ef_5 => ?_)
  refine va_put (ci := 0) (v := .int f_5) (ty := tyX0 1) (C := "QuorumStore$Lead") (T := TX0) (N := 8) hx hb hts inX0 tyX0 okX0 nmX0 hown hK.2 hP hD hS 17 rfl rfl 1 (by decide) (hts _ k_136) (fun _ h9 => h9) rfl (by decide +kernel) rfl rfl (Nat.le_of_ble_eq_true rfl) d_D_beginToLead_80 (fun H locs hP hD hS => ?_)
  have hP : va_P D vwCl [zO 3 (q 0) [.int (nI i), .ref nw, .int f_3, .int 0, .int 0, .ref ((q 1)), .ref ((q 7)), .ref ((q 11)), .int 1, .int 1, .int f_3, .int 3, .int f_4, .int 0, .ref ((q 15))], zO 5 (q 1) [.ref ((q 2)), .ref ((q 3)), .ref ((q 4)), .ref ((q 5)), .ref ((q 6)), .int 1], zJ t (q 2) 32 (fun _ => 1099511627776), zI t (q 3) 8 (fun _ => 0), zJ t (q 4) 8 (fun _ => 0), zI t (q 5) 4 (xm 1), zI t (q 6) 4 (xm mk), zO 4 (q 7) [.ref ((q 8)), .ref ((q 9)), .ref ((q 10))], zI t (q 8) 32 (fun _ => 0), zI t (q 9) 32 (fun _ => 0), zA t 2 (q 10) 32 (fun _ => none), zO 4 (q 11) [.ref ((q 12)), .ref ((q 13)), .ref ((q 14))], zI t (q 12) 64 (fun _ => 0), zI t (q 13) 64 (fun _ => 0), zA t 2 (q 14) 64 (fun _ => none), zO 2 nw [.ref rw, .int (nI z), .int x, .int y, .int 0], zA t 3 rw 300 g, zO 0 (q 15) [.ref no, .int f_5, .ref ((q 16)), .ref ((q 20)), .ref ((q 24)), .int 0, .int 0, .int sp], zO 4 (q 16) [.ref ((q 17)), .ref ((q 18)), .ref ((q 19))], zI t (q 17) 32 (fun _ => 0), zI t (q 18) 32 (fun _ => 0), zA t 2 (q 19) 32 (fun _ => none), zO 4 (q 20) [.ref ((q 21)), .ref ((q 22)), .ref ((q 23))], zI t (q 21) 4 (fun _ => 0), zI t (q 22) 4 (fun _ => 0), zA t 2 (q 23) 4 (fun _ => none), zA t 2 (q 24) 16 (fun _ => none)] H := hP
  have hD : va_D A [zO 3 (q 0) [.int (nI i), .ref nw, .int f_3, .int 0, .int 0, .ref ((q 1)), .ref ((q 7)), .ref ((q 11)), .int 1, .int 1, .int f_3, .int 3, .int f_4, .int 0, .ref ((q 15))], zO 5 (q 1) [.ref ((q 2)), .ref ((q 3)), .ref ((q 4)), .ref ((q 5)), .ref ((q 6)), .int 1], zJ t (q 2) 32 (fun _ => 1099511627776), zI t (q 3) 8 (fun _ => 0), zJ t (q 4) 8 (fun _ => 0), zI t (q 5) 4 (xm 1), zI t (q 6) 4 (xm mk), zO 4 (q 7) [.ref ((q 8)), .ref ((q 9)), .ref ((q 10))], zI t (q 8) 32 (fun _ => 0), zI t (q 9) 32 (fun _ => 0), zA t 2 (q 10) 32 (fun _ => none), zO 4 (q 11) [.ref ((q 12)), .ref ((q 13)), .ref ((q 14))], zI t (q 12) 64 (fun _ => 0), zI t (q 13) 64 (fun _ => 0), zA t 2 (q 14) 64 (fun _ => none), zO 2 nw [.ref rw, .int (nI z), .int x, .int y, .int 0], zA t 3 rw 300 g, zO 0 (q 15) [.ref no, .int f_5, .ref ((q 16)), .ref ((q 20)), .ref ((q 24)), .int 0, .int 0, .int sp], zO 4 (q 16) [.ref ((q 17)), .ref ((q 18)), .ref ((q 19))], zI t (q 17) 32 (fun _ => 0), zI t (q 18) 32 (fun _ => 0), zA t 2 (q 19) 32 (fun _ => none), zO 4 (q 20) [.ref ((q 21)), .ref ((q 22)), .ref ((q 23))], zI t (q 21) 4 (fun _ => 0), zI t (q 22) 4 (fun _ => 0), zA t 2 (q 23) 4 (fun _ => none), zA t 2 (q 24) 16 (fun _ => none)] := hD
  refine lv_aload_n hx hb d_D_beginToLead_83 rfl (lv_at hl 1 rfl) ?_
  refine va_get (ci := 3) (C := "QuorumStore$Node") (T := TX3) (N := 15) hx hb hts inX3 hown hK.2 hP 0 rfl rfl 14 (by decide) (hts _ k_222) (fun _ h9 => h9) rfl d_D_beginToLead_84 ?_
  refine lv_aload_n hx hb d_D_beginToLead_87 rfl (lv_at hl 1 rfl) ?_
  refine va_get (ci := 3) (C := "QuorumStore$Node") (T := TX3) (N := 15) hx hb hts inX3 hown hK.2 hP 0 rfl rfl 6 (by decide) (hts _ k_207) (fun _ h9 => h9) rfl d_D_beginToLead_88 ?_
  refine lv_aload_n hx hb d_D_beginToLead_91 rfl (lv_at hl 1 rfl) ?_
  refine va_get (ci := 3) (C := "QuorumStore$Node") (T := TX3) (N := 15) hx hb hts inX3 hown hK.2 hP 0 rfl rfl 3 (by decide) (hts _ k_201) (fun _ h9 => h9) rfl d_D_beginToLead_92 ?_
  refine xr_call (xs_V (As := [.ref ((q 7)), .int 0]) (rest := []) Z (C_L_lookAt l D t q no f_5 sp) m_L_lookAt k_456 k_457 k_458 rfl rfl ⟨Nat.le_of_ble_eq_true rfl, Nat.le_of_ble_eq_true rfl⟩ (va_recv hK.2 hP (ci := 0) (q0 := 17) rfl rfl) (xr_pre hK (hP.sub [17, 18, 19, 20, 21, 7, 8, 9, 10] rfl)) rfl hl.1 rfl (Nat.le_of_ble_eq_true rfl) d_D_beginToLead_95 ⟨Nat.le_of_ble_eq_true rfl, Nat.le_of_ble_eq_true rfl⟩) ?_
  refine lv_aload_n hx hb d_D_beginToLead_98 rfl (lv_at hl 1 rfl) ?_
  refine va_get (ci := 3) (C := "QuorumStore$Node") (T := TX3) (N := 15) hx hb hts inX3 hown hK.2 hP 0 rfl rfl 14 (by decide) (hts _ k_222) (fun _ h9 => h9) rfl d_D_beginToLead_99 ?_
  refine lv_aload_n hx hb d_D_beginToLead_102 rfl (lv_at hl 1 rfl) ?_
  refine va_get (ci := 3) (C := "QuorumStore$Node") (T := TX3) (N := 15) hx hb hts inX3 hown hK.2 hP 0 rfl rfl 3 (by decide) (hts _ k_201) (fun _ h9 => h9) rfl d_D_beginToLead_103 ?_
  refine va_put (ci := 0) (v := .int 0) (ty := tyX0 6) (C := "QuorumStore$Lead") (T := TX0) (N := 8) hx hb hts inX0 tyX0 okX0 nmX0 hown hK.2 hP hD hS 17 rfl rfl 6 (by decide) (hts _ k_146) (fun _ h9 => h9) rfl (by decide +kernel) rfl rfl (Nat.le_of_ble_eq_true rfl) d_D_beginToLead_106 (fun H locs hP hD hS => ?_)
  have hP : va_P D vwCl [zO 3 (q 0) [.int (nI i), .ref nw, .int f_3, .int 0, .int 0, .ref ((q 1)), .ref ((q 7)), .ref ((q 11)), .int 1, .int 1, .int f_3, .int 3, .int f_4, .int 0, .ref ((q 15))], zO 5 (q 1) [.ref ((q 2)), .ref ((q 3)), .ref ((q 4)), .ref ((q 5)), .ref ((q 6)), .int 1], zJ t (q 2) 32 (fun _ => 1099511627776), zI t (q 3) 8 (fun _ => 0), zJ t (q 4) 8 (fun _ => 0), zI t (q 5) 4 (xm 1), zI t (q 6) 4 (xm mk), zO 4 (q 7) [.ref ((q 8)), .ref ((q 9)), .ref ((q 10))], zI t (q 8) 32 (fun _ => 0), zI t (q 9) 32 (fun _ => 0), zA t 2 (q 10) 32 (fun _ => none), zO 4 (q 11) [.ref ((q 12)), .ref ((q 13)), .ref ((q 14))], zI t (q 12) 64 (fun _ => 0), zI t (q 13) 64 (fun _ => 0), zA t 2 (q 14) 64 (fun _ => none), zO 2 nw [.ref rw, .int (nI z), .int x, .int y, .int 0], zA t 3 rw 300 g, zO 0 (q 15) [.ref no, .int f_5, .ref ((q 16)), .ref ((q 20)), .ref ((q 24)), .int 0, .int 0, .int sp], zO 4 (q 16) [.ref ((q 17)), .ref ((q 18)), .ref ((q 19))], zI t (q 17) 32 (fun _ => 0), zI t (q 18) 32 (fun _ => 0), zA t 2 (q 19) 32 (fun _ => none), zO 4 (q 20) [.ref ((q 21)), .ref ((q 22)), .ref ((q 23))], zI t (q 21) 4 (fun _ => 0), zI t (q 22) 4 (fun _ => 0), zA t 2 (q 23) 4 (fun _ => none), zA t 2 (q 24) 16 (fun _ => none)] H := hP
  have hD : va_D A [zO 3 (q 0) [.int (nI i), .ref nw, .int f_3, .int 0, .int 0, .ref ((q 1)), .ref ((q 7)), .ref ((q 11)), .int 1, .int 1, .int f_3, .int 3, .int f_4, .int 0, .ref ((q 15))], zO 5 (q 1) [.ref ((q 2)), .ref ((q 3)), .ref ((q 4)), .ref ((q 5)), .ref ((q 6)), .int 1], zJ t (q 2) 32 (fun _ => 1099511627776), zI t (q 3) 8 (fun _ => 0), zJ t (q 4) 8 (fun _ => 0), zI t (q 5) 4 (xm 1), zI t (q 6) 4 (xm mk), zO 4 (q 7) [.ref ((q 8)), .ref ((q 9)), .ref ((q 10))], zI t (q 8) 32 (fun _ => 0), zI t (q 9) 32 (fun _ => 0), zA t 2 (q 10) 32 (fun _ => none), zO 4 (q 11) [.ref ((q 12)), .ref ((q 13)), .ref ((q 14))], zI t (q 12) 64 (fun _ => 0), zI t (q 13) 64 (fun _ => 0), zA t 2 (q 14) 64 (fun _ => none), zO 2 nw [.ref rw, .int (nI z), .int x, .int y, .int 0], zA t 3 rw 300 g, zO 0 (q 15) [.ref no, .int f_5, .ref ((q 16)), .ref ((q 20)), .ref ((q 24)), .int 0, .int 0, .int sp], zO 4 (q 16) [.ref ((q 17)), .ref ((q 18)), .ref ((q 19))], zI t (q 17) 32 (fun _ => 0), zI t (q 18) 32 (fun _ => 0), zA t 2 (q 19) 32 (fun _ => none), zO 4 (q 20) [.ref ((q 21)), .ref ((q 22)), .ref ((q 23))], zI t (q 21) 4 (fun _ => 0), zI t (q 22) 4 (fun _ => 0), zA t 2 (q 23) 4 (fun _ => none), zA t 2 (q 24) 16 (fun _ => none)] := hD
  refine lv_aload_n hx hb d_D_beginToLead_109 rfl (lv_at hl 1 rfl) ?_
  refine va_get (ci := 3) (C := "QuorumStore$Node") (T := TX3) (N := 15) hx hb hts inX3 hown hK.2 hP 0 rfl rfl 14 (by decide) (hts _ k_222) (fun _ h9 => h9) rfl d_D_beginToLead_110 ?_
  refine lv_aload_n hx hb d_D_beginToLead_113 rfl (lv_at hl 1 rfl) ?_
  refine xr_call (xs_V (As := []) (rest := [.ref ((q 15))]) Z (C_D_peers l D t q nw no (nI i) f_3 1 f_3 3 f_4 f_5 sp mk) m_D_peers k_356 k_358 ks_2 rfl rfl ⟨Nat.le_of_ble_eq_true rfl, Nat.le_of_ble_eq_true rfl⟩ (va_recv hK.2 hP (ci := 3) (q0 := 0) rfl rfl) (xr_pre hK (hP.sub [0, 1, 2, 3, 4, 5, 6, 7, 8, 9, 10, 11, 12, 13, 14, 17, 18, 19, 20, 21, 22, 23, 24, 25, 26] rfl)) rfl hl.1 rfl (Nat.le_of_ble_eq_true rfl) d_D_beginToLead_114 ⟨Nat.le_of_ble_eq_true rfl, Nat.le_of_ble_eq_true rfl⟩) ?_
  refine lv_topi (fun f_6 ef_6 => ?_)
  refine va_put (ci := 0) (v := .int f_6) (ty := tyX0 7) (C := "QuorumStore$Lead") (T := TX0) (N := 8) hx hb hts inX0 tyX0 okX0 nmX0 hown hK.2 hP hD hS 17 rfl rfl 7 (by decide) (hts _ k_147) (fun _ h9 => h9) rfl (by decide +kernel) rfl rfl (Nat.le_of_ble_eq_true rfl) d_D_beginToLead_117 (fun H locs hP hD hS => ?_)
  have hP : va_P D vwCl [zO 3 (q 0) [.int (nI i), .ref nw, .int f_3, .int 0, .int 0, .ref ((q 1)), .ref ((q 7)), .ref ((q 11)), .int 1, .int 1, .int f_3, .int 3, .int f_4, .int 0, .ref ((q 15))], zO 5 (q 1) [.ref ((q 2)), .ref ((q 3)), .ref ((q 4)), .ref ((q 5)), .ref ((q 6)), .int 1], zJ t (q 2) 32 (fun _ => 1099511627776), zI t (q 3) 8 (fun _ => 0), zJ t (q 4) 8 (fun _ => 0), zI t (q 5) 4 (xm 1), zI t (q 6) 4 (xm mk), zO 4 (q 7) [.ref ((q 8)), .ref ((q 9)), .ref ((q 10))], zI t (q 8) 32 (fun _ => 0), zI t (q 9) 32 (fun _ => 0), zA t 2 (q 10) 32 (fun _ => none), zO 4 (q 11) [.ref ((q 12)), .ref ((q 13)), .ref ((q 14))], zI t (q 12) 64 (fun _ => 0), zI t (q 13) 64 (fun _ => 0), zA t 2 (q 14) 64 (fun _ => none), zO 2 nw [.ref rw, .int (nI z), .int x, .int y, .int 0], zA t 3 rw 300 g, zO 0 (q 15) [.ref no, .int f_5, .ref ((q 16)), .ref ((q 20)), .ref ((q 24)), .int 0, .int 0, .int f_6], zO 4 (q 16) [.ref ((q 17)), .ref ((q 18)), .ref ((q 19))], zI t (q 17) 32 (fun _ => 0), zI t (q 18) 32 (fun _ => 0), zA t 2 (q 19) 32 (fun _ => none), zO 4 (q 20) [.ref ((q 21)), .ref ((q 22)), .ref ((q 23))], zI t (q 21) 4 (fun _ => 0), zI t (q 22) 4 (fun _ => 0), zA t 2 (q 23) 4 (fun _ => none), zA t 2 (q 24) 16 (fun _ => none)] H := hP
  have hD : va_D A [zO 3 (q 0) [.int (nI i), .ref nw, .int f_3, .int 0, .int 0, .ref ((q 1)), .ref ((q 7)), .ref ((q 11)), .int 1, .int 1, .int f_3, .int 3, .int f_4, .int 0, .ref ((q 15))], zO 5 (q 1) [.ref ((q 2)), .ref ((q 3)), .ref ((q 4)), .ref ((q 5)), .ref ((q 6)), .int 1], zJ t (q 2) 32 (fun _ => 1099511627776), zI t (q 3) 8 (fun _ => 0), zJ t (q 4) 8 (fun _ => 0), zI t (q 5) 4 (xm 1), zI t (q 6) 4 (xm mk), zO 4 (q 7) [.ref ((q 8)), .ref ((q 9)), .ref ((q 10))], zI t (q 8) 32 (fun _ => 0), zI t (q 9) 32 (fun _ => 0), zA t 2 (q 10) 32 (fun _ => none), zO 4 (q 11) [.ref ((q 12)), .ref ((q 13)), .ref ((q 14))], zI t (q 12) 64 (fun _ => 0), zI t (q 13) 64 (fun _ => 0), zA t 2 (q 14) 64 (fun _ => none), zO 2 nw [.ref rw, .int (nI z), .int x, .int y, .int 0], zA t 3 rw 300 g, zO 0 (q 15) [.ref no, .int f_5, .ref ((q 16)), .ref ((q 20)), .ref ((q 24)), .int 0, .int 0, .int f_6], zO 4 (q 16) [.ref ((q 17)), .ref ((q 18)), .ref ((q 19))], zI t (q 17) 32 (fun _ => 0), zI t (q 18) 32 (fun _ => 0), zA t 2 (q 19) 32 (fun _ => none), zO 4 (q 20) [.ref ((q 21)), .ref ((q 22)), .ref ((q 23))], zI t (q 21) 4 (fun _ => 0), zI t (q 22) 4 (fun _ => 0), zA t 2 (q 23) 4 (fun _ => none), zA t 2 (q 24) 16 (fun _ => none)] := hD
  refine lv_aload_n hx hb d_D_beginToLead_120 rfl (lv_at hl 1 rfl) ?_
  refine lv_aload_n hx hb d_D_beginToLead_121 rfl (lv_at hl 1 rfl) ?_
  refine va_get (ci := 3) (C := "QuorumStore$Node") (T := TX3) (N := 15) hx hb hts inX3 hown hK.2 hP 0 rfl rfl 14 (by decide) (hts _ k_222) (fun _ h9 => h9) rfl d_D_beginToLead_122 ?_
  refine va_get (ci := 0) (C := "QuorumStore$Lead") (T := TX0) (N := 8) hx hb hts inX0 hown hK.2 hP 17 rfl rfl 7 (by decide) (hts _ k_147) (fun _ h9 => h9) rfl d_D_beginToLead_125 ?_
  refine lv_iconst (v := 1) hx hb d_D_beginToLead_128 (by decide) ?_
  refine lv_aload_n hx hb d_D_beginToLead_129 rfl (lv_at hl 1 rfl) ?_
  refine va_get (ci := 3) (C := "QuorumStore$Node") (T := TX3) (N := 15) hx hb hts inX3 hown hK.2 hP 0 rfl rfl 10 (by decide) (hts _ k_215) (fun _ h9 => h9) rfl d_D_beginToLead_130 ?_
  refine lv_iconst (v := 0) hx hb d_D_beginToLead_133 (by decide) ?_
  refine lv_null hx hb d_D_beginToLead_134 ?_
  refine xe_callv (wr := [zO 5 (q 1) [.ref ((q 2)), .ref ((q 3)), .ref ((q 4)), .ref ((q 5)), .ref ((q 6)), .int 1], zJ t (q 2) 32 (fun _ => 1099511627776), zI t (q 3) 8 (fun _ => 0), zJ t (q 4) 8 (fun _ => 0), zI t (q 5) 4 (xm 1), zI t (q 6) 4 (xm mk), zO 4 (q 7) [.ref ((q 8)), .ref ((q 9)), .ref ((q 10))], zI t (q 8) 32 (fun _ => 0), zI t (q 9) 32 (fun _ => 0), zA t 2 (q 10) 32 (fun _ => none), zO 4 (q 11) [.ref ((q 12)), .ref ((q 13)), .ref ((q 14))], zI t (q 12) 64 (fun _ => 0), zI t (q 13) 64 (fun _ => 0), zA t 2 (q 14) 64 (fun _ => none), zO 0 (q 15) [.ref no, .int f_5, .ref ((q 16)), .ref ((q 20)), .ref ((q 24)), .int 0, .int 0, .int f_6], zO 4 (q 16) [.ref ((q 17)), .ref ((q 18)), .ref ((q 19))], zI t (q 17) 32 (fun _ => 0), zI t (q 18) 32 (fun _ => 0), zA t 2 (q 19) 32 (fun _ => none), zO 4 (q 20) [.ref ((q 21)), .ref ((q 22)), .ref ((q 23))], zI t (q 21) 4 (fun _ => 0), zI t (q 22) 4 (fun _ => 0), zA t 2 (q 23) 4 (fun _ => none), zA t 2 (q 24) 16 (fun _ => none)]) (xs_V (As := [.int f_6, .int 1, .int f_3, .int 0, .null]) (rest := []) Z (C_D_sendEach l D t q nw no i f_3 1 f_3 3 f_4 gr sp mk rw z hz x y g _ _ _ _ H.size) m_D_sendEach k_429 k_431 ks_3 rfl rfl ⟨Nat.le_of_ble_eq_true rfl, Nat.le_of_ble_eq_true rfl⟩ (va_recv hK.2 hP (ci := 3) (q0 := 0) rfl rfl) (xe_pre hK (hP.sub [0, 15, 16] rfl) (hD.sub [0, 15, 16] (by decide) rfl)) rfl hl.1 rfl (Nat.le_of_ble_eq_true rfl) d_D_beginToLead_135 ⟨Nat.le_of_ble_eq_true rfl, Nat.le_of_ble_eq_true rfl⟩) hP hD hS hA [0, 15, 16] [1, 2, 3, 4, 5, 6, 7, 8, 9, 10, 11, 12, 13, 14, 17, 18, 19, 20, 21, 22, 23, 24, 25, 26] rfl rfl (by decide) (by decide) (fun u_ H locs _ hP hD hS => ?_)
  obtain ⟨x2, y2, g2⟩ := u_
  have hP : va_P D vwCl [zO 5 (q 1) [.ref ((q 2)), .ref ((q 3)), .ref ((q 4)), .ref ((q 5)), .ref ((q 6)), .int 1], zJ t (q 2) 32 (fun _ => 1099511627776), zI t (q 3) 8 (fun _ => 0), zJ t (q 4) 8 (fun _ => 0), zI t (q 5) 4 (xm 1), zI t (q 6) 4 (xm mk), zO 4 (q 7) [.ref ((q 8)), .ref ((q 9)), .ref ((q 10))], zI t (q 8) 32 (fun _ => 0), zI t (q 9) 32 (fun _ => 0), zA t 2 (q 10) 32 (fun _ => none), zO 4 (q 11) [.ref ((q 12)), .ref ((q 13)), .ref ((q 14))], zI t (q 12) 64 (fun _ => 0), zI t (q 13) 64 (fun _ => 0), zA t 2 (q 14) 64 (fun _ => none), zO 0 (q 15) [.ref no, .int f_5, .ref ((q 16)), .ref ((q 20)), .ref ((q 24)), .int 0, .int 0, .int f_6], zO 4 (q 16) [.ref ((q 17)), .ref ((q 18)), .ref ((q 19))], zI t (q 17) 32 (fun _ => 0), zI t (q 18) 32 (fun _ => 0), zA t 2 (q 19) 32 (fun _ => none), zO 4 (q 20) [.ref ((q 21)), .ref ((q 22)), .ref ((q 23))], zI t (q 21) 4 (fun _ => 0), zI t (q 22) 4 (fun _ => 0), zA t 2 (q 23) 4 (fun _ => none), zA t 2 (q 24) 16 (fun _ => none), zO 3 (q 0) [.int (nI i), .ref nw, .int f_3, .int 0, .int 0, .ref ((q 1)), .ref ((q 7)), .ref ((q 11)), .int 1, .int 1, .int f_3, .int 3, .int f_4, .int 0, .ref ((q 15))], zO 2 nw [.ref rw, .int (nI (min 300 (z + xn f_6 7))), .int x2, .int y2, .int 0], zA t 3 rw 300 g2] H := hP
  have hD : va_D A [zO 5 (q 1) [.ref ((q 2)), .ref ((q 3)), .ref ((q 4)), .ref ((q 5)), .ref ((q 6)), .int 1], zJ t (q 2) 32 (fun _ => 1099511627776), zI t (q 3) 8 (fun _ => 0), zJ t (q 4) 8 (fun _ => 0), zI t (q 5) 4 (xm 1), zI t (q 6) 4 (xm mk), zO 4 (q 7) [.ref ((q 8)), .ref ((q 9)), .ref ((q 10))], zI t (q 8) 32 (fun _ => 0), zI t (q 9) 32 (fun _ => 0), zA t 2 (q 10) 32 (fun _ => none), zO 4 (q 11) [.ref ((q 12)), .ref ((q 13)), .ref ((q 14))], zI t (q 12) 64 (fun _ => 0), zI t (q 13) 64 (fun _ => 0), zA t 2 (q 14) 64 (fun _ => none), zO 0 (q 15) [.ref no, .int f_5, .ref ((q 16)), .ref ((q 20)), .ref ((q 24)), .int 0, .int 0, .int f_6], zO 4 (q 16) [.ref ((q 17)), .ref ((q 18)), .ref ((q 19))], zI t (q 17) 32 (fun _ => 0), zI t (q 18) 32 (fun _ => 0), zA t 2 (q 19) 32 (fun _ => none), zO 4 (q 20) [.ref ((q 21)), .ref ((q 22)), .ref ((q 23))], zI t (q 21) 4 (fun _ => 0), zI t (q 22) 4 (fun _ => 0), zA t 2 (q 23) 4 (fun _ => none), zA t 2 (q 24) 16 (fun _ => none), zO 3 (q 0) [.int (nI i), .ref nw, .int f_3, .int 0, .int 0, .ref ((q 1)), .ref ((q 7)), .ref ((q 11)), .int 1, .int 1, .int f_3, .int 3, .int f_4, .int 0, .ref ((q 15))], zO 2 nw [.ref rw, .int (nI (min 300 (z + xn f_6 7))), .int x2, .int y2, .int 0], zA t 3 rw 300 g2] := hD
  subst ef_5
  subst ef_4
  subst ef_6
  have hP : va_P D vwCl [zO 5 (q 1) [.ref ((q 2)), .ref ((q 3)), .ref ((q 4)), .ref ((q 5)), .ref ((q 6)), .int 1], zJ t (q 2) 32 (fun _ => 1099511627776), zI t (q 3) 8 (fun _ => 0), zJ t (q 4) 8 (fun _ => 0), zI t (q 5) 4 (xm 1), zI t (q 6) 4 (xm mk), zO 4 (q 7) [.ref ((q 8)), .ref ((q 9)), .ref ((q 10))], zI t (q 8) 32 (fun _ => 0), zI t (q 9) 32 (fun _ => 0), zA t 2 (q 10) 32 (fun _ => none), zO 4 (q 11) [.ref ((q 12)), .ref ((q 13)), .ref ((q 14))], zI t (q 12) 64 (fun _ => 0), zI t (q 13) 64 (fun _ => 0), zA t 2 (q 14) 64 (fun _ => none), zO 0 (q 15) [.ref no, .int ((1 : Int32) <<< ((nI i) &&& 31)), .ref ((q 16)), .ref ((q 20)), .ref ((q 24)), .int 0, .int 0, .int (xp mk (nI i))], zO 4 (q 16) [.ref ((q 17)), .ref ((q 18)), .ref ((q 19))], zI t (q 17) 32 (fun _ => 0), zI t (q 18) 32 (fun _ => 0), zA t 2 (q 19) 32 (fun _ => none), zO 4 (q 20) [.ref ((q 21)), .ref ((q 22)), .ref ((q 23))], zI t (q 21) 4 (fun _ => 0), zI t (q 22) 4 (fun _ => 0), zA t 2 (q 23) 4 (fun _ => none), zA t 2 (q 24) 16 (fun _ => none), zO 3 (q 0) [.int (nI i), .ref nw, .int f_3, .int 0, .int 0, .ref ((q 1)), .ref ((q 7)), .ref ((q 11)), .int 1, .int 1, .int f_3, .int 3, .int (nI i), .int 0, .ref ((q 15))], zO 2 nw [.ref rw, .int (nI (min 300 (z + xn (xp mk (nI i)) 7))), .int x2, .int y2, .int 0], zA t 3 rw 300 g2] H := hP
  have hD : va_D A [zO 5 (q 1) [.ref ((q 2)), .ref ((q 3)), .ref ((q 4)), .ref ((q 5)), .ref ((q 6)), .int 1], zJ t (q 2) 32 (fun _ => 1099511627776), zI t (q 3) 8 (fun _ => 0), zJ t (q 4) 8 (fun _ => 0), zI t (q 5) 4 (xm 1), zI t (q 6) 4 (xm mk), zO 4 (q 7) [.ref ((q 8)), .ref ((q 9)), .ref ((q 10))], zI t (q 8) 32 (fun _ => 0), zI t (q 9) 32 (fun _ => 0), zA t 2 (q 10) 32 (fun _ => none), zO 4 (q 11) [.ref ((q 12)), .ref ((q 13)), .ref ((q 14))], zI t (q 12) 64 (fun _ => 0), zI t (q 13) 64 (fun _ => 0), zA t 2 (q 14) 64 (fun _ => none), zO 0 (q 15) [.ref no, .int ((1 : Int32) <<< ((nI i) &&& 31)), .ref ((q 16)), .ref ((q 20)), .ref ((q 24)), .int 0, .int 0, .int (xp mk (nI i))], zO 4 (q 16) [.ref ((q 17)), .ref ((q 18)), .ref ((q 19))], zI t (q 17) 32 (fun _ => 0), zI t (q 18) 32 (fun _ => 0), zA t 2 (q 19) 32 (fun _ => none), zO 4 (q 20) [.ref ((q 21)), .ref ((q 22)), .ref ((q 23))], zI t (q 21) 4 (fun _ => 0), zI t (q 22) 4 (fun _ => 0), zA t 2 (q 23) 4 (fun _ => none), zA t 2 (q 24) 16 (fun _ => none), zO 3 (q 0) [.int (nI i), .ref nw, .int f_3, .int 0, .int 0, .ref ((q 1)), .ref ((q 7)), .ref ((q 11)), .int 1, .int 1, .int f_3, .int 3, .int (nI i), .int 0, .ref ((q 15))], zO 2 nw [.ref rw, .int (nI (min 300 (z + xn (xp mk (nI i)) 7))), .int x2, .int y2, .int 0], zA t 3 rw 300 g2] := hD
  have hP := hP.sub (ws' := [zO 3 (q 0) [.int (nI i), .ref nw, .int f_3, .int 0, .int 0, .ref ((q 1)), .ref ((q 7)), .ref ((q 11)), .int 1, .int 1, .int f_3, .int 3, .int (nI i), .int 0, .ref ((q 15))], zO 5 (q 1) [.ref ((q 2)), .ref ((q 3)), .ref ((q 4)), .ref ((q 5)), .ref ((q 6)), .int 1], zJ t (q 2) 32 (fun _ => 1099511627776), zI t (q 3) 8 (fun _ => 0), zJ t (q 4) 8 (fun _ => 0), zI t (q 5) 4 (xm 1), zI t (q 6) 4 (xm mk), zO 4 (q 7) [.ref ((q 8)), .ref ((q 9)), .ref ((q 10))], zI t (q 8) 32 (fun _ => 0), zI t (q 9) 32 (fun _ => 0), zA t 2 (q 10) 32 (fun _ => none), zO 4 (q 11) [.ref ((q 12)), .ref ((q 13)), .ref ((q 14))], zI t (q 12) 64 (fun _ => 0), zI t (q 13) 64 (fun _ => 0), zA t 2 (q 14) 64 (fun _ => none), zO 0 (q 15) [.ref no, .int ((1 : Int32) <<< ((nI i) &&& 31)), .ref ((q 16)), .ref ((q 20)), .ref ((q 24)), .int 0, .int 0, .int (xp mk (nI i))], zO 4 (q 16) [.ref ((q 17)), .ref ((q 18)), .ref ((q 19))], zI t (q 17) 32 (fun _ => 0), zI t (q 18) 32 (fun _ => 0), zA t 2 (q 19) 32 (fun _ => none), zO 4 (q 20) [.ref ((q 21)), .ref ((q 22)), .ref ((q 23))], zI t (q 21) 4 (fun _ => 0), zI t (q 22) 4 (fun _ => 0), zA t 2 (q 23) 4 (fun _ => none), zA t 2 (q 24) 16 (fun _ => none), zO 2 nw [.ref rw, .int (nI (min 300 (z + xn (xp mk (nI i)) 7))), .int x2, .int y2, .int 0], zA t 3 rw 300 g2]) [24, 0, 1, 2, 3, 4, 5, 6, 7, 8, 9, 10, 11, 12, 13, 14, 15, 16, 17, 18, 19, 20, 21, 22, 23, 25, 26] rfl
  have hD := hD.sub (ws' := [zO 3 (q 0) [.int (nI i), .ref nw, .int f_3, .int 0, .int 0, .ref ((q 1)), .ref ((q 7)), .ref ((q 11)), .int 1, .int 1, .int f_3, .int 3, .int (nI i), .int 0, .ref ((q 15))], zO 5 (q 1) [.ref ((q 2)), .ref ((q 3)), .ref ((q 4)), .ref ((q 5)), .ref ((q 6)), .int 1], zJ t (q 2) 32 (fun _ => 1099511627776), zI t (q 3) 8 (fun _ => 0), zJ t (q 4) 8 (fun _ => 0), zI t (q 5) 4 (xm 1), zI t (q 6) 4 (xm mk), zO 4 (q 7) [.ref ((q 8)), .ref ((q 9)), .ref ((q 10))], zI t (q 8) 32 (fun _ => 0), zI t (q 9) 32 (fun _ => 0), zA t 2 (q 10) 32 (fun _ => none), zO 4 (q 11) [.ref ((q 12)), .ref ((q 13)), .ref ((q 14))], zI t (q 12) 64 (fun _ => 0), zI t (q 13) 64 (fun _ => 0), zA t 2 (q 14) 64 (fun _ => none), zO 0 (q 15) [.ref no, .int ((1 : Int32) <<< ((nI i) &&& 31)), .ref ((q 16)), .ref ((q 20)), .ref ((q 24)), .int 0, .int 0, .int (xp mk (nI i))], zO 4 (q 16) [.ref ((q 17)), .ref ((q 18)), .ref ((q 19))], zI t (q 17) 32 (fun _ => 0), zI t (q 18) 32 (fun _ => 0), zA t 2 (q 19) 32 (fun _ => none), zO 4 (q 20) [.ref ((q 21)), .ref ((q 22)), .ref ((q 23))], zI t (q 21) 4 (fun _ => 0), zI t (q 22) 4 (fun _ => 0), zA t 2 (q 23) 4 (fun _ => none), zA t 2 (q 24) 16 (fun _ => none), zO 2 nw [.ref rw, .int (nI (min 300 (z + xn (xp mk (nI i)) 7))), .int x2, .int y2, .int 0], zA t 3 rw 300 g2]) [24, 0, 1, 2, 3, 4, 5, 6, 7, 8, 9, 10, 11, 12, 13, 14, 15, 16, 17, 18, 19, 20, 21, 22, 23, 25, 26] (by decide) rfl
  exact W.vret hx hb hr (fun t ht hW => ⟨⟨(_, _, _, _, _, _), rfl, trivial, by rw [ht]; exact hP, hD⟩, hS.F ht⟩) hS.2.2 d_D_beginToLead_138
end
section
/-! A node's share of a tick as a function of its timer; the world by parts. -/
def xz (b : Bool) : Int32 := if b then 1 else 0
/-- timer, whether it leads, and how many messages it sends, behind one share of a tick -/
def xs (mk : Int32) (i : Nat) : Nat → Bool → Nat × Bool × Nat
  | 0, b => (0, b, 0)
  | 1, true => (3, true, 2 * xn (xp mk (nI i)) 7)
  | 1, false => if xb mk (nI i) = 0 then (8 + 3 * i, false, 0) else (3, true, xn (xp mk (nI i)) 7)
  | t + 2, b => (t + 1, b, 0)
theorem xs_le {mk : Int32} {i tm : Nat} {b : Bool} (h1 : 1 ≤ tm) (h2 : tm ≤ 64) (hi : i < 7) : 1 ≤ (xs mk i tm b).1 ∧ (xs mk i tm b).1 ≤ 64 := by
  obtain ⟨tt, rfl⟩ : ∃ tt, tm = tt + 1 := ⟨tm - 1, by omega⟩
  rcases tt with _ | tt
  · rcases b with _ | _
    · show 1 ≤ (if xb mk (nI i) = 0 then (8 + 3 * i, false, 0) else (3, true, xn (xp mk (nI i)) 7)).1 ∧ (if xb mk (nI i) = 0 then (8 + 3 * i, false, 0) else (3, true, xn (xp mk (nI i)) 7)).1 ≤ 64
      split
      · show 1 ≤ 8 + 3 * i ∧ 8 + 3 * i ≤ 64; omega
      · show 1 ≤ 3 ∧ 3 ≤ 64; omega
    · show 1 ≤ 3 ∧ 3 ≤ 64; omega
  · show 1 ≤ tt + 1 ∧ tt + 1 ≤ 64; omega
theorem xd_P {D : va_G} {cl : List vw_C} {ws ws' : va_W} {H : Heap} (h : va_P D cl ws H) (hs : ∀ q, q ∈ ws' → q ∈ ws) : va_P D cl ws' H := by
  intro k q hk
  obtain ⟨i, hi⟩ := List.getElem?_of_mem (hs q (List.mem_of_getElem? hk))
  exact h i q hi
theorem xd_iff {A : Nat → Prop} {ws : va_W} : va_D A ws ↔ (ws.map (fun q => q.1)).Nodup ∧ ∀ q ∈ ws, A q.1 := by
  constructor
  · intro h
    refine ⟨?_, fun q hq => ?_⟩
    · rw [List.Nodup, List.pairwise_iff_getElem]
      intro i j hi hj hij he
      simp only [List.getElem_map] at he
      rw [List.length_map] at hi hj
      have := h.1 i j _ _ (List.getElem?_eq_getElem hi) (List.getElem?_eq_getElem hj) he
      omega
    · obtain ⟨i, hi⟩ := List.getElem?_of_mem hq
      exact h.2 i q hi
  · intro h
    refine ⟨fun i j p q hp hq he => ?_, fun k q hk => h.2 q (List.mem_of_getElem? hk)⟩
    have hn := h.1
    rw [List.Nodup, List.pairwise_iff_getElem] at hn
    obtain ⟨hi, ei⟩ := List.getElem?_eq_some_iff.mp hp
    obtain ⟨hj, ej⟩ := List.getElem?_eq_some_iff.mp hq
    rcases Nat.lt_trichotomy i j with hlt | heq | hlt
    · have h9 := hn i j (by rw [List.length_map]; exact hi) (by rw [List.length_map]; exact hj) hlt
      simp only [List.getElem_map, ei, ej] at h9
      exact absurd he h9
    · exact heq
    · have h9 := hn j i (by rw [List.length_map]; exact hj) (by rw [List.length_map]; exact hi) hlt
      simp only [List.getElem_map, ei, ej] at h9
      exact absurd he.symm h9
theorem xd_perm {A : Nat → Prop} {ws ws' : va_W} (h : va_D A ws) (hp : ws.Perm ws') : va_D A ws' := by
  obtain ⟨h1, h2⟩ := xd_iff.mp h
  exact xd_iff.mpr ⟨(hp.map _).nodup_iff.mp h1, fun q hq => h2 q (hp.mem_iff.mpr hq)⟩
section XSfx
variable {p : Program} {l : Launch} {e : Env} {R : Room} {s : State} {m : MethodId} {args : Array Value} {below : List Frame} {meth : Method} {c : Code} {H H0 : Heap} {locs : List Loc} {cells slots : Nat} {Q : State → Prop}
variable {D : va_G} {cl : List vw_C} {wc wr : va_W} {mc ms : Nat} {rest : List Value} {pc : Nat} {ls : Array Slot} {st0 : List Value} {A : Nat → Prop}
/-- behind a call on the last cells of the world -/
theorem xe_sfxv {S : Type} {post : S → Prop} {w1 : S → va_W} {a : Array Value} (hr : va_Run p l e R s m args below meth c H locs cells slots mc ms (F0 m pc ls st0) rest (xe_v D cl post w1 (va_A wc H.size) a) (va_A wc H.size))
    (hP : va_P D cl (wr ++ wc) H) (hD : va_D A (wr ++ wc)) (hS : va_S A H0 H locs) (hA : ∀ q, H0.size ≤ q → A q)
    (kk : ∀ (u : S) (H1 : Heap) (locs1 : List Loc), post u → va_P D cl (wr ++ w1 u) H1 → va_D A (wr ++ w1 u) → va_S A H0 H1 locs1 → W p l e R s m args below meth c H1 locs1 (cells + mc) (slots + ms) Q (F0 m (pc + 3) ls rest)) : W p l e R s m args below meth c H locs cells slots Q (F0 m pc ls st0) := by
  have at1 : ∀ (k : Nat) (q : Nat × va_E), wc[k]? = some q → (wr ++ wc)[wr.length + k]? = some q := fun k q h => by
    rw [List.getElem?_append_right (Nat.le_add_right _ _), Nat.add_sub_cancel_left]; exact h
  have at0 : ∀ (k : Nat) (q : Nat × va_E), wr[k]? = some q → k < wr.length ∧ (wr ++ wc)[k]? = some q := fun k q h => by
    have hlt := (List.getElem?_eq_some_iff.mp h).1
    exact ⟨hlt, by rw [List.getElem?_append_left hlt]; exact h⟩
  have hF : ∀ q, va_A wc H.size q → A q := by
    intro q hq
    rcases hq with ⟨k, x, hk⟩ | hq
    · exact hD.2 _ _ (at1 k _ hk)
    · exact hA q (Nat.le_trans hS.1 hq)
  have hap : ∀ (k : Nat) (q : Nat × va_E), wr[k]? = some q → ¬ va_A wc H.size q.1 := by
    intro k q hk hq
    obtain ⟨hlt, h0⟩ := at0 k q hk
    rcases hq with ⟨k2, x, hk2⟩ | hq
    · have := hD.1 k (wr.length + k2) q _ h0 (at1 k2 _ hk2) rfl
      omega
    · exact absurd (hP k q h0).lt (Nat.not_lt.mpr hq)
  refine va_callv hr hS (fun q _ h => hF q h) hF (fun u t H1 locs1 ht hvm hw hB hz1 hk1 hS1 => ?_)
  obtain ⟨hP1, hD1⟩ := hB
  rw [ht] at hP1
  refine kk u H1 locs1 hw (va_P.app (fun k q hk => (hP k q (at0 k q hk).2).kept (hk1 q.1 (hP k q (at0 k q hk).2).lt (hap k q hk))) hP1)
    (va_D.app ⟨fun i j x y hx hy hxy => hD.1 i j x y (at0 i x hx).2 (at0 j y hy).2 hxy, fun k q hk => hD.2 k q (at0 k q hk).2⟩ (hD1.weaken (fun k q _ h => hF q.1 h)) (fun i j x y hx hy hxy => hap i x hx (by rw [hxy]; exact hD1.2 j y hy))) hS1
end XSfx
theorem d_D_passTime_0 : decode c_D_passTime 0 = .ok (.aload_n 0, 1) := by decide +kernel
theorem d_D_passTime_1 : decode c_D_passTime 1 = .ok (.getfield 45, 3) := by decide +kernel
theorem d_D_passTime_4 : decode c_D_passTime 4 = .ok (.ifCond .ne 4, 3) := by decide +kernel
theorem d_D_passTime_8 : decode c_D_passTime 8 = .ok (.aload_n 0, 1) := by decide +kernel
theorem d_D_passTime_9 : decode c_D_passTime 9 = .ok (.dup, 1) := by decide +kernel
theorem d_D_passTime_10 : decode c_D_passTime 10 = .ok (.getfield 52, 3) := by decide +kernel
theorem d_D_passTime_13 : decode c_D_passTime 13 = .ok (.iconst 1, 1) := by decide +kernel
theorem d_D_passTime_14 : decode c_D_passTime 14 = .ok (.isub, 1) := by decide +kernel
theorem d_D_passTime_15 : decode c_D_passTime 15 = .ok (.putfield 52, 3) := by decide +kernel
theorem d_D_passTime_18 : decode c_D_passTime 18 = .ok (.aload_n 0, 1) := by decide +kernel
theorem d_D_passTime_19 : decode c_D_passTime 19 = .ok (.getfield 52, 3) := by decide +kernel
theorem d_D_passTime_22 : decode c_D_passTime 22 = .ok (.ifCond .le 4, 3) := by decide +kernel
theorem d_D_passTime_25 : decode c_D_passTime 25 = .ok (.return_, 1) := by decide +kernel
theorem d_D_passTime_26 : decode c_D_passTime 26 = .ok (.aload_n 0, 1) := by decide +kernel
theorem d_D_passTime_27 : decode c_D_passTime 27 = .ok (.getfield 58, 3) := by decide +kernel
theorem d_D_passTime_30 : decode c_D_passTime 30 = .ok (.ifCond .eq 13, 3) := by decide +kernel
theorem d_D_passTime_33 : decode c_D_passTime 33 = .ok (.aload_n 0, 1) := by decide +kernel
theorem d_D_passTime_34 : decode c_D_passTime 34 = .ok (.iconst 3, 1) := by decide +kernel
theorem d_D_passTime_35 : decode c_D_passTime 35 = .ok (.putfield 52, 3) := by decide +kernel
theorem d_D_passTime_38 : decode c_D_passTime 38 = .ok (.aload_n 0, 1) := by decide +kernel
theorem d_D_passTime_39 : decode c_D_passTime 39 = .ok (.invokevirtual 87, 3) := by decide +kernel
theorem d_D_passTime_42 : decode c_D_passTime 42 = .ok (.return_, 1) := by decide +kernel
theorem d_D_passTime_43 : decode c_D_passTime 43 = .ok (.aload_n 0, 1) := by decide +kernel
theorem d_D_passTime_44 : decode c_D_passTime 44 = .ok (.invokevirtual 55, 3) := by decide +kernel
theorem d_D_passTime_47 : decode c_D_passTime 47 = .ok (.aload_n 0, 1) := by decide +kernel
theorem d_D_passTime_48 : decode c_D_passTime 48 = .ok (.getfield 41, 3) := by decide +kernel
theorem d_D_passTime_51 : decode c_D_passTime 51 = .ok (.aload_n 0, 1) := by decide +kernel
theorem d_D_passTime_52 : decode c_D_passTime 52 = .ok (.getfield 70, 3) := by decide +kernel
theorem d_D_passTime_55 : decode c_D_passTime 55 = .ok (.iconst 1, 1) := by decide +kernel
theorem d_D_passTime_56 : decode c_D_passTime 56 = .ok (.iadd, 1) := by decide +kernel
theorem d_D_passTime_57 : decode c_D_passTime 57 = .ok (.invokevirtual 90, 3) := by decide +kernel
theorem d_D_passTime_60 : decode c_D_passTime 60 = .ok (.aload_n 0, 1) := by decide +kernel
theorem d_D_passTime_61 : decode c_D_passTime 61 = .ok (.getfield 30, 3) := by decide +kernel
theorem d_D_passTime_64 : decode c_D_passTime 64 = .ok (.invokestatic 77, 3) := by decide +kernel
theorem d_D_passTime_67 : decode c_D_passTime 67 = .ok (.ifCond .eq 11, 3) := by decide +kernel
theorem d_D_passTime_70 : decode c_D_passTime 70 = .ok (.aload_n 0, 1) := by decide +kernel
theorem d_D_passTime_71 : decode c_D_passTime 71 = .ok (.invokevirtual 93, 3) := by decide +kernel
theorem d_D_passTime_74 : decode c_D_passTime 74 = .ok (.aload_n 0, 1) := by decide +kernel
theorem d_D_passTime_75 : decode c_D_passTime 75 = .ok (.invokevirtual 96, 3) := by decide +kernel
theorem d_D_passTime_78 : decode c_D_passTime 78 = .ok (.return_, 1) := by decide +kernel
set_option maxHeartbeats 4000000 in
set_option maxRecDepth 100000 in
/-- passTime -/
theorem C_D_passTime (l : Launch) (D : va_G) (t : Nat → ClassId) (q : Nat → Nat) (nw no : Nat) (i tm : Nat) (b : Bool) (h1 : 1 ≤ tm) (h2 : tm ≤ 1000) (pr bl le gr sp mk : Int32) (hgr : b = true → gr = (1 : Int32) <<< (nI i &&& 31)) (rw : Nat) (z : Nat) (hz : z ≤ 300) (x y : Int32) (g : Nat → Option Nat) : xe_C l D vwCl (xTY t) y_D_passTime c_D_passTime 1 (Option.none : Option FieldType) ({ frames := 5, cells := 14, slots := 112, locals := 119 }) [.ref ((q 0))] [zO 3 (q 0) [.int (nI i), .ref nw, .int pr, .int 0, .int 0, .ref ((q 1)), .ref ((q 7)), .ref ((q 11)), .int 1, .int (xz b), .int bl, .int (nI tm), .int le, .int 0, .ref ((q 15))], zO 5 (q 1) [.ref ((q 2)), .ref ((q 3)), .ref ((q 4)), .ref ((q 5)), .ref ((q 6)), .int 1], zJ t (q 2) 32 (fun _ => 1099511627776), zI t (q 3) 8 (fun _ => 0), zJ t (q 4) 8 (fun _ => 0), zI t (q 5) 4 (xm 1), zI t (q 6) 4 (xm mk), zO 4 (q 7) [.ref ((q 8)), .ref ((q 9)), .ref ((q 10))], zI t (q 8) 32 (fun _ => 0), zI t (q 9) 32 (fun _ => 0), zA t 2 (q 10) 32 (fun _ => none), zO 4 (q 11) [.ref ((q 12)), .ref ((q 13)), .ref ((q 14))], zI t (q 12) 64 (fun _ => 0), zI t (q 13) 64 (fun _ => 0), zA t 2 (q 14) 64 (fun _ => none), zO 0 (q 15) [.ref no, .int gr, .ref ((q 16)), .ref ((q 20)), .ref ((q 24)), .int 0, .int 0, .int sp], zO 4 (q 16) [.ref ((q 17)), .ref ((q 18)), .ref ((q 19))], zI t (q 17) 32 (fun _ => 0), zI t (q 18) 32 (fun _ => 0), zA t 2 (q 19) 32 (fun _ => none), zO 4 (q 20) [.ref ((q 21)), .ref ((q 22)), .ref ((q 23))], zI t (q 21) 4 (fun _ => 0), zI t (q 22) 4 (fun _ => 0), zA t 2 (q 23) 4 (fun _ => none), zA t 2 (q 24) 16 (fun _ => none), zO 2 nw [.ref rw, .int (nI z), .int x, .int y, .int 0], zA t 3 rw 300 g] (xe_v D vwCl (fun u : (Nat × Bool × Nat) × Int32 × Int32 × Int32 × Int32 × Int32 × Int32 × Int32 × (Nat → Option Nat) => u.1 = xs mk i tm b ∧ (u.1.2.1 = true → u.2.2.2.2.1 = (1 : Int32) <<< (nI i &&& 31))) (fun u => [zO 3 (q 0) [.int (nI i), .ref nw, .int u.2.1, .int 0, .int 0, .ref ((q 1)), .ref ((q 7)), .ref ((q 11)), .int 1, .int (xz u.1.2.1), .int u.2.2.1, .int (nI u.1.1), .int u.2.2.2.1, .int 0, .ref ((q 15))], zO 5 (q 1) [.ref ((q 2)), .ref ((q 3)), .ref ((q 4)), .ref ((q 5)), .ref ((q 6)), .int 1], zJ t (q 2) 32 (fun _ => 1099511627776), zI t (q 3) 8 (fun _ => 0), zJ t (q 4) 8 (fun _ => 0), zI t (q 5) 4 (xm 1), zI t (q 6) 4 (xm mk), zO 4 (q 7) [.ref ((q 8)), .ref ((q 9)), .ref ((q 10))], zI t (q 8) 32 (fun _ => 0), zI t (q 9) 32 (fun _ => 0), zA t 2 (q 10) 32 (fun _ => none), zO 4 (q 11) [.ref ((q 12)), .ref ((q 13)), .ref ((q 14))], zI t (q 12) 64 (fun _ => 0), zI t (q 13) 64 (fun _ => 0), zA t 2 (q 14) 64 (fun _ => none), zO 0 (q 15) [.ref no, .int u.2.2.2.2.1, .ref ((q 16)), .ref ((q 20)), .ref ((q 24)), .int 0, .int 0, .int u.2.2.2.2.2.1], zO 4 (q 16) [.ref ((q 17)), .ref ((q 18)), .ref ((q 19))], zI t (q 17) 32 (fun _ => 0), zI t (q 18) 32 (fun _ => 0), zA t 2 (q 19) 32 (fun _ => none), zO 4 (q 20) [.ref ((q 21)), .ref ((q 22)), .ref ((q 23))], zI t (q 21) 4 (fun _ => 0), zI t (q 22) 4 (fun _ => 0), zA t 2 (q 23) 4 (fun _ => none), zA t 2 (q 24) 16 (fun _ => none), zO 2 nw [.ref rw, .int (nI (min 300 (z + u.1.2.2))), .int u.2.2.2.2.2.2.1, .int u.2.2.2.2.2.2.2.1, .int 0], zA t 3 rw 300 u.2.2.2.2.2.2.2.2])) 14 112 := by
  refine xe_of (by decide) (Nat.le_of_ble_eq_true rfl) ?_
  intro p e s m below meth c ls A Z hr hlocks hin hA hP hD hS hl
  obtain ⟨hx, hb, hml, hown, hK⟩ := id Z
  have hown : s.vm.findClass "QuorumStore$Node" = some m.cls := hown
  have hts := hK.1.at (args := ([.ref ((q 0))] : List Value).toArray)
  have hl : lv_has ls 1 [(0, .ref ((q 0)))] := hl
  obtain ⟨tt, rfl⟩ : ∃ tt, tm = tt + 1 := ⟨tm - 1, by omega⟩
  rcases tt with _ | tt
  · rcases b with _ | _
    · have hP : va_P D vwCl [zO 3 (q 0) [.int (nI i), .ref nw, .int pr, .int 0, .int 0, .ref ((q 1)), .ref ((q 7)), .ref ((q 11)), .int 1, .int (xz false), .int bl, .int (nI (0 + 1)), .int le, .int 0, .ref ((q 15))], zO 5 (q 1) [.ref ((q 2)), .ref ((q 3)), .ref ((q 4)), .ref ((q 5)), .ref ((q 6)), .int 1], zJ t (q 2) 32 (fun _ => 1099511627776), zI t (q 3) 8 (fun _ => 0), zJ t (q 4) 8 (fun _ => 0), zI t (q 5) 4 (xm 1), zI t (q 6) 4 (xm mk), zO 4 (q 7) [.ref ((q 8)), .ref ((q 9)), .ref ((q 10))], zI t (q 8) 32 (fun _ => 0), zI t (q 9) 32 (fun _ => 0), zA t 2 (q 10) 32 (fun _ => none), zO 4 (q 11) [.ref ((q 12)), .ref ((q 13)), .ref ((q 14))], zI t (q 12) 64 (fun _ => 0), zI t (q 13) 64 (fun _ => 0), zA t 2 (q 14) 64 (fun _ => none), zO 0 (q 15) [.ref no, .int gr, .ref ((q 16)), .ref ((q 20)), .ref ((q 24)), .int 0, .int 0, .int sp], zO 4 (q 16) [.ref ((q 17)), .ref ((q 18)), .ref ((q 19))], zI t (q 17) 32 (fun _ => 0), zI t (q 18) 32 (fun _ => 0), zA t 2 (q 19) 32 (fun _ => none), zO 4 (q 20) [.ref ((q 21)), .ref ((q 22)), .ref ((q 23))], zI t (q 21) 4 (fun _ => 0), zI t (q 22) 4 (fun _ => 0), zA t 2 (q 23) 4 (fun _ => none), zA t 2 (q 24) 16 (fun _ => none), zO 2 nw [.ref rw, .int (nI z), .int x, .int y, .int 0], zA t 3 rw 300 g] s.heap := hP
      have hD : va_D A [zO 3 (q 0) [.int (nI i), .ref nw, .int pr, .int 0, .int 0, .ref ((q 1)), .ref ((q 7)), .ref ((q 11)), .int 1, .int (xz false), .int bl, .int (nI (0 + 1)), .int le, .int 0, .ref ((q 15))], zO 5 (q 1) [.ref ((q 2)), .ref ((q 3)), .ref ((q 4)), .ref ((q 5)), .ref ((q 6)), .int 1], zJ t (q 2) 32 (fun _ => 1099511627776), zI t (q 3) 8 (fun _ => 0), zJ t (q 4) 8 (fun _ => 0), zI t (q 5) 4 (xm 1), zI t (q 6) 4 (xm mk), zO 4 (q 7) [.ref ((q 8)), .ref ((q 9)), .ref ((q 10))], zI t (q 8) 32 (fun _ => 0), zI t (q 9) 32 (fun _ => 0), zA t 2 (q 10) 32 (fun _ => none), zO 4 (q 11) [.ref ((q 12)), .ref ((q 13)), .ref ((q 14))], zI t (q 12) 64 (fun _ => 0), zI t (q 13) 64 (fun _ => 0), zA t 2 (q 14) 64 (fun _ => none), zO 0 (q 15) [.ref no, .int gr, .ref ((q 16)), .ref ((q 20)), .ref ((q 24)), .int 0, .int 0, .int sp], zO 4 (q 16) [.ref ((q 17)), .ref ((q 18)), .ref ((q 19))], zI t (q 17) 32 (fun _ => 0), zI t (q 18) 32 (fun _ => 0), zA t 2 (q 19) 32 (fun _ => none), zO 4 (q 20) [.ref ((q 21)), .ref ((q 22)), .ref ((q 23))], zI t (q 21) 4 (fun _ => 0), zI t (q 22) 4 (fun _ => 0), zA t 2 (q 23) 4 (fun _ => none), zA t 2 (q 24) 16 (fun _ => none), zO 2 nw [.ref rw, .int (nI z), .int x, .int y, .int 0], zA t 3 rw 300 g] := hD
      refine lv_aload_n hx hb d_D_passTime_0 rfl (lv_at hl 0 rfl) ?_
      refine va_get (ci := 3) (C := "QuorumStore$Node") (T := TX3) (N := 15) hx hb hts inX3 hown hK.2 hP 0 rfl rfl 8 (by decide) (hts _ k_211) (fun _ h9 => h9) rfl d_D_passTime_1 ?_
      refine lv_if_ne (tgt := 8) hx hb d_D_passTime_4 (by decide) (fun _ => ?_) (fun c_1 => absurd c_1 (by decide))
      refine lv_aload_n hx hb d_D_passTime_8 rfl (lv_at hl 0 rfl) ?_
      refine lv_dup hx hb d_D_passTime_9 rfl ?_
      refine va_get (ci := 3) (C := "QuorumStore$Node") (T := TX3) (N := 15) hx hb hts inX3 hown hK.2 hP 0 rfl rfl 11 (by decide) (hts _ k_217) (fun _ h9 => h9) rfl d_D_passTime_10 ?_
      refine lv_iconst (v := 1) hx hb d_D_passTime_13 (by decide) ?_
      refine lv_isub hx hb d_D_passTime_14 ?_
      refine lv_topi (fun f_2 ef_2 => ?_)
      refine va_put (ci := 3) (v := .int f_2) (ty := tyX3 11) (C := "QuorumStore$Node") (T := TX3) (N := 15) hx hb hts inX3 tyX3 okX3 nmX3 hown hK.2 hP hD hS 0 rfl rfl 11 (by decide) (hts _ k_217) (fun _ h9 => h9) rfl (by decide +kernel) rfl rfl (Nat.le_of_ble_eq_true rfl) d_D_passTime_15 (fun H locs hP hD hS => ?_)
      have hP : va_P D vwCl [zO 3 (q 0) [.int (nI i), .ref nw, .int pr, .int 0, .int 0, .ref ((q 1)), .ref ((q 7)), .ref ((q 11)), .int 1, .int (xz false), .int bl, .int f_2, .int le, .int 0, .ref ((q 15))], zO 5 (q 1) [.ref ((q 2)), .ref ((q 3)), .ref ((q 4)), .ref ((q 5)), .ref ((q 6)), .int 1], zJ t (q 2) 32 (fun _ => 1099511627776), zI t (q 3) 8 (fun _ => 0), zJ t (q 4) 8 (fun _ => 0), zI t (q 5) 4 (xm 1), zI t (q 6) 4 (xm mk), zO 4 (q 7) [.ref ((q 8)), .ref ((q 9)), .ref ((q 10))], zI t (q 8) 32 (fun _ => 0), zI t (q 9) 32 (fun _ => 0), zA t 2 (q 10) 32 (fun _ => none), zO 4 (q 11) [.ref ((q 12)), .ref ((q 13)), .ref ((q 14))], zI t (q 12) 64 (fun _ => 0), zI t (q 13) 64 (fun _ => 0), zA t 2 (q 14) 64 (fun _ => none), zO 0 (q 15) [.ref no, .int gr, .ref ((q 16)), .ref ((q 20)), .ref ((q 24)), .int 0, .int 0, .int sp], zO 4 (q 16) [.ref ((q 17)), .ref ((q 18)), .ref ((q 19))], zI t (q 17) 32 (fun _ => 0), zI t (q 18) 32 (fun _ => 0), zA t 2 (q 19) 32 (fun _ => none), zO 4 (q 20) [.ref ((q 21)), .ref ((q 22)), .ref ((q 23))], zI t (q 21) 4 (fun _ => 0), zI t (q 22) 4 (fun _ => 0), zA t 2 (q 23) 4 (fun _ => none), zA t 2 (q 24) 16 (fun _ => none), zO 2 nw [.ref rw, .int (nI z), .int x, .int y, .int 0], zA t 3 rw 300 g] H := hP
      have hD : va_D A [zO 3 (q 0) [.int (nI i), .ref nw, .int pr, .int 0, .int 0, .ref ((q 1)), .ref ((q 7)), .ref ((q 11)), .int 1, .int (xz false), .int bl, .int f_2, .int le, .int 0, .ref ((q 15))], zO 5 (q 1) [.ref ((q 2)), .ref ((q 3)), .ref ((q 4)), .ref ((q 5)), .ref ((q 6)), .int 1], zJ t (q 2) 32 (fun _ => 1099511627776), zI t (q 3) 8 (fun _ => 0), zJ t (q 4) 8 (fun _ => 0), zI t (q 5) 4 (xm 1), zI t (q 6) 4 (xm mk), zO 4 (q 7) [.ref ((q 8)), .ref ((q 9)), .ref ((q 10))], zI t (q 8) 32 (fun _ => 0), zI t (q 9) 32 (fun _ => 0), zA t 2 (q 10) 32 (fun _ => none), zO 4 (q 11) [.ref ((q 12)), .ref ((q 13)), .ref ((q 14))], zI t (q 12) 64 (fun _ => 0), zI t (q 13) 64 (fun _ => 0), zA t 2 (q 14) 64 (fun _ => none), zO 0 (q 15) [.ref no, .int gr, .ref ((q 16)), .ref ((q 20)), .ref ((q 24)), .int 0, .int 0, .int sp], zO 4 (q 16) [.ref ((q 17)), .ref ((q 18)), .ref ((q 19))], zI t (q 17) 32 (fun _ => 0), zI t (q 18) 32 (fun _ => 0), zA t 2 (q 19) 32 (fun _ => none), zO 4 (q 20) [.ref ((q 21)), .ref ((q 22)), .ref ((q 23))], zI t (q 21) 4 (fun _ => 0), zI t (q 22) 4 (fun _ => 0), zA t 2 (q 23) 4 (fun _ => none), zA t 2 (q 24) 16 (fun _ => none), zO 2 nw [.ref rw, .int (nI z), .int x, .int y, .int 0], zA t 3 rw 300 g] := hD
      refine lv_aload_n hx hb d_D_passTime_18 rfl (lv_at hl 0 rfl) ?_
      refine va_get (ci := 3) (C := "QuorumStore$Node") (T := TX3) (N := 15) hx hb hts inX3 hown hK.2 hP 0 rfl rfl 11 (by decide) (hts _ k_217) (fun _ h9 => h9) rfl d_D_passTime_19 ?_
      obtain rfl : f_2 = nI 0 := ef_2.trans (nI_pred 0)
      have hP : va_P D vwCl [zO 3 (q 0) [.int (nI i), .ref nw, .int pr, .int 0, .int 0, .ref ((q 1)), .ref ((q 7)), .ref ((q 11)), .int 1, .int (xz false), .int bl, .int (nI 0), .int le, .int 0, .ref ((q 15))], zO 5 (q 1) [.ref ((q 2)), .ref ((q 3)), .ref ((q 4)), .ref ((q 5)), .ref ((q 6)), .int 1], zJ t (q 2) 32 (fun _ => 1099511627776), zI t (q 3) 8 (fun _ => 0), zJ t (q 4) 8 (fun _ => 0), zI t (q 5) 4 (xm 1), zI t (q 6) 4 (xm mk), zO 4 (q 7) [.ref ((q 8)), .ref ((q 9)), .ref ((q 10))], zI t (q 8) 32 (fun _ => 0), zI t (q 9) 32 (fun _ => 0), zA t 2 (q 10) 32 (fun _ => none), zO 4 (q 11) [.ref ((q 12)), .ref ((q 13)), .ref ((q 14))], zI t (q 12) 64 (fun _ => 0), zI t (q 13) 64 (fun _ => 0), zA t 2 (q 14) 64 (fun _ => none), zO 0 (q 15) [.ref no, .int gr, .ref ((q 16)), .ref ((q 20)), .ref ((q 24)), .int 0, .int 0, .int sp], zO 4 (q 16) [.ref ((q 17)), .ref ((q 18)), .ref ((q 19))], zI t (q 17) 32 (fun _ => 0), zI t (q 18) 32 (fun _ => 0), zA t 2 (q 19) 32 (fun _ => none), zO 4 (q 20) [.ref ((q 21)), .ref ((q 22)), .ref ((q 23))], zI t (q 21) 4 (fun _ => 0), zI t (q 22) 4 (fun _ => 0), zA t 2 (q 23) 4 (fun _ => none), zA t 2 (q 24) 16 (fun _ => none), zO 2 nw [.ref rw, .int (nI z), .int x, .int y, .int 0], zA t 3 rw 300 g] H := hP
      have hD : va_D A [zO 3 (q 0) [.int (nI i), .ref nw, .int pr, .int 0, .int 0, .ref ((q 1)), .ref ((q 7)), .ref ((q 11)), .int 1, .int (xz false), .int bl, .int (nI 0), .int le, .int 0, .ref ((q 15))], zO 5 (q 1) [.ref ((q 2)), .ref ((q 3)), .ref ((q 4)), .ref ((q 5)), .ref ((q 6)), .int 1], zJ t (q 2) 32 (fun _ => 1099511627776), zI t (q 3) 8 (fun _ => 0), zJ t (q 4) 8 (fun _ => 0), zI t (q 5) 4 (xm 1), zI t (q 6) 4 (xm mk), zO 4 (q 7) [.ref ((q 8)), .ref ((q 9)), .ref ((q 10))], zI t (q 8) 32 (fun _ => 0), zI t (q 9) 32 (fun _ => 0), zA t 2 (q 10) 32 (fun _ => none), zO 4 (q 11) [.ref ((q 12)), .ref ((q 13)), .ref ((q 14))], zI t (q 12) 64 (fun _ => 0), zI t (q 13) 64 (fun _ => 0), zA t 2 (q 14) 64 (fun _ => none), zO 0 (q 15) [.ref no, .int gr, .ref ((q 16)), .ref ((q 20)), .ref ((q 24)), .int 0, .int 0, .int sp], zO 4 (q 16) [.ref ((q 17)), .ref ((q 18)), .ref ((q 19))], zI t (q 17) 32 (fun _ => 0), zI t (q 18) 32 (fun _ => 0), zA t 2 (q 19) 32 (fun _ => none), zO 4 (q 20) [.ref ((q 21)), .ref ((q 22)), .ref ((q 23))], zI t (q 21) 4 (fun _ => 0), zI t (q 22) 4 (fun _ => 0), zA t 2 (q 23) 4 (fun _ => none), zA t 2 (q 24) 16 (fun _ => none), zO 2 nw [.ref rw, .int (nI z), .int x, .int y, .int 0], zA t 3 rw 300 g] := hD
      refine lv_if_le (tgt := 26) hx hb d_D_passTime_22 (by decide) (fun _ => ?_) (fun c_3 => absurd (by decide) c_3)
      refine lv_aload_n hx hb d_D_passTime_26 rfl (lv_at hl 0 rfl) ?_
      refine va_get (ci := 3) (C := "QuorumStore$Node") (T := TX3) (N := 15) hx hb hts inX3 hown hK.2 hP 0 rfl rfl 9 (by decide) (hts _ k_213) (fun _ h9 => h9) rfl d_D_passTime_27 ?_
      refine lv_if_eq (tgt := 43) hx hb d_D_passTime_30 (by decide) (fun _ => ?_) (fun c_4 => absurd (rfl) c_4)
      refine lv_aload_n hx hb d_D_passTime_43 rfl (lv_at hl 0 rfl) ?_
      refine xe_callv (wr := [zO 5 (q 1) [.ref ((q 2)), .ref ((q 3)), .ref ((q 4)), .ref ((q 5)), .ref ((q 6)), .int 1], zJ t (q 2) 32 (fun _ => 1099511627776), zI t (q 3) 8 (fun _ => 0), zJ t (q 4) 8 (fun _ => 0), zI t (q 5) 4 (xm 1), zI t (q 6) 4 (xm mk), zO 4 (q 7) [.ref ((q 8)), .ref ((q 9)), .ref ((q 10))], zI t (q 8) 32 (fun _ => 0), zI t (q 9) 32 (fun _ => 0), zA t 2 (q 10) 32 (fun _ => none), zO 4 (q 11) [.ref ((q 12)), .ref ((q 13)), .ref ((q 14))], zI t (q 12) 64 (fun _ => 0), zI t (q 13) 64 (fun _ => 0), zA t 2 (q 14) 64 (fun _ => none), zO 0 (q 15) [.ref no, .int gr, .ref ((q 16)), .ref ((q 20)), .ref ((q 24)), .int 0, .int 0, .int sp], zO 4 (q 16) [.ref ((q 17)), .ref ((q 18)), .ref ((q 19))], zI t (q 17) 32 (fun _ => 0), zI t (q 18) 32 (fun _ => 0), zA t 2 (q 19) 32 (fun _ => none), zO 4 (q 20) [.ref ((q 21)), .ref ((q 22)), .ref ((q 23))], zI t (q 21) 4 (fun _ => 0), zI t (q 22) 4 (fun _ => 0), zA t 2 (q 23) 4 (fun _ => none), zA t 2 (q 24) 16 (fun _ => none), zO 2 nw [.ref rw, .int (nI z), .int x, .int y, .int 0], zA t 3 rw 300 g]) (xs_V (As := []) (rest := []) Z (C_D_rest l D t q nw no i pr 0 bl (nI 0) le gr sp mk H.size) m_D_rest k_433 k_435 ks_4 rfl rfl ⟨Nat.le_of_ble_eq_true rfl, Nat.le_of_ble_eq_true rfl⟩ (va_recv hK.2 hP (ci := 3) (q0 := 0) rfl rfl) (xe_pre hK (hP.sub [0] rfl) (hD.sub [0] (by decide) rfl)) rfl hl.1 rfl (Nat.le_of_ble_eq_true rfl) d_D_passTime_44 ⟨Nat.le_of_ble_eq_true rfl, Nat.le_of_ble_eq_true rfl⟩) hP hD hS hA [0] [1, 2, 3, 4, 5, 6, 7, 8, 9, 10, 11, 12, 13, 14, 15, 16, 17, 18, 19, 20, 21, 22, 23, 24, 25, 26] rfl rfl (by decide) (by decide) (fun u_ H locs _ hP hD hS => ?_)
      have hP : va_P D vwCl [zO 5 (q 1) [.ref ((q 2)), .ref ((q 3)), .ref ((q 4)), .ref ((q 5)), .ref ((q 6)), .int 1], zJ t (q 2) 32 (fun _ => 1099511627776), zI t (q 3) 8 (fun _ => 0), zJ t (q 4) 8 (fun _ => 0), zI t (q 5) 4 (xm 1), zI t (q 6) 4 (xm mk), zO 4 (q 7) [.ref ((q 8)), .ref ((q 9)), .ref ((q 10))], zI t (q 8) 32 (fun _ => 0), zI t (q 9) 32 (fun _ => 0), zA t 2 (q 10) 32 (fun _ => none), zO 4 (q 11) [.ref ((q 12)), .ref ((q 13)), .ref ((q 14))], zI t (q 12) 64 (fun _ => 0), zI t (q 13) 64 (fun _ => 0), zA t 2 (q 14) 64 (fun _ => none), zO 0 (q 15) [.ref no, .int gr, .ref ((q 16)), .ref ((q 20)), .ref ((q 24)), .int 0, .int 0, .int sp], zO 4 (q 16) [.ref ((q 17)), .ref ((q 18)), .ref ((q 19))], zI t (q 17) 32 (fun _ => 0), zI t (q 18) 32 (fun _ => 0), zA t 2 (q 19) 32 (fun _ => none), zO 4 (q 20) [.ref ((q 21)), .ref ((q 22)), .ref ((q 23))], zI t (q 21) 4 (fun _ => 0), zI t (q 22) 4 (fun _ => 0), zA t 2 (q 23) 4 (fun _ => none), zA t 2 (q 24) 16 (fun _ => none), zO 2 nw [.ref rw, .int (nI z), .int x, .int y, .int 0], zA t 3 rw 300 g, zO 3 (q 0) [.int (nI i), .ref nw, .int pr, .int 0, .int 0, .ref ((q 1)), .ref ((q 7)), .ref ((q 11)), .int 1, .int 0, .int bl, .int (nI (8 + 3 * i)), .int le, .int 0, .ref ((q 15))]] H := hP
      have hD : va_D A [zO 5 (q 1) [.ref ((q 2)), .ref ((q 3)), .ref ((q 4)), .ref ((q 5)), .ref ((q 6)), .int 1], zJ t (q 2) 32 (fun _ => 1099511627776), zI t (q 3) 8 (fun _ => 0), zJ t (q 4) 8 (fun _ => 0), zI t (q 5) 4 (xm 1), zI t (q 6) 4 (xm mk), zO 4 (q 7) [.ref ((q 8)), .ref ((q 9)), .ref ((q 10))], zI t (q 8) 32 (fun _ => 0), zI t (q 9) 32 (fun _ => 0), zA t 2 (q 10) 32 (fun _ => none), zO 4 (q 11) [.ref ((q 12)), .ref ((q 13)), .ref ((q 14))], zI t (q 12) 64 (fun _ => 0), zI t (q 13) 64 (fun _ => 0), zA t 2 (q 14) 64 (fun _ => none), zO 0 (q 15) [.ref no, .int gr, .ref ((q 16)), .ref ((q 20)), .ref ((q 24)), .int 0, .int 0, .int sp], zO 4 (q 16) [.ref ((q 17)), .ref ((q 18)), .ref ((q 19))], zI t (q 17) 32 (fun _ => 0), zI t (q 18) 32 (fun _ => 0), zA t 2 (q 19) 32 (fun _ => none), zO 4 (q 20) [.ref ((q 21)), .ref ((q 22)), .ref ((q 23))], zI t (q 21) 4 (fun _ => 0), zI t (q 22) 4 (fun _ => 0), zA t 2 (q 23) 4 (fun _ => none), zA t 2 (q 24) 16 (fun _ => none), zO 2 nw [.ref rw, .int (nI z), .int x, .int y, .int 0], zA t 3 rw 300 g, zO 3 (q 0) [.int (nI i), .ref nw, .int pr, .int 0, .int 0, .ref ((q 1)), .ref ((q 7)), .ref ((q 11)), .int 1, .int 0, .int bl, .int (nI (8 + 3 * i)), .int le, .int 0, .ref ((q 15))]] := hD
      refine lv_aload_n hx hb d_D_passTime_47 rfl (lv_at hl 0 rfl) ?_
      refine va_get (ci := 3) (C := "QuorumStore$Node") (T := TX3) (N := 15) hx hb hts inX3 hown hK.2 hP 26 rfl rfl 5 (by decide) (hts _ k_205) (fun _ h9 => h9) rfl d_D_passTime_48 ?_
      refine lv_aload_n hx hb d_D_passTime_51 rfl (lv_at hl 0 rfl) ?_
      refine va_get (ci := 3) (C := "QuorumStore$Node") (T := TX3) (N := 15) hx hb hts inX3 hown hK.2 hP 26 rfl rfl 3 (by decide) (hts _ k_201) (fun _ h9 => h9) rfl d_D_passTime_52 ?_
      refine lv_iconst (v := 1) hx hb d_D_passTime_55 (by decide) ?_
      refine lv_iadd hx hb d_D_passTime_56 ?_
      refine xr_call (xs_V (As := [.int ((0) + (1))]) (rest := []) Z (C_S_configAt l D t (q 1) (q 2) (q 3) (q 4) (q 5) (q 6) _ _ _ _ _ _) m_S_configAt k_424 k_365 k_366 rfl rfl ⟨Nat.le_of_ble_eq_true rfl, Nat.le_of_ble_eq_true rfl⟩ (va_recv hK.2 hP (ci := 5) (q0 := 0) rfl rfl) (xr_pre hK (hP.sub [0, 1, 2, 3, 4, 5] rfl)) rfl hl.1 rfl (Nat.le_of_ble_eq_true rfl) d_D_passTime_57 ⟨Nat.le_of_ble_eq_true rfl, Nat.le_of_ble_eq_true rfl⟩) ?_
      refine lv_aload_n hx hb d_D_passTime_60 rfl (lv_at hl 0 rfl) ?_
      refine va_get (ci := 3) (C := "QuorumStore$Node") (T := TX3) (N := 15) hx hb hts inX3 hown hK.2 hP 26 rfl rfl 0 (by decide) (hts _ k_197) (fun _ h9 => h9) rfl d_D_passTime_61 ?_
      refine xr_call (xs_SN (As := [.int mk, .int (nI i)]) (rest := []) Z (C_Q_isIn l D t _ _) m_Q_isIn k_368 k_369 rfl rfl ⟨Nat.le_of_ble_eq_true rfl, Nat.le_of_ble_eq_true rfl⟩ (xr_pre hK (hP.sub [] rfl)) rfl hl.1 rfl (Nat.le_of_ble_eq_true rfl) d_D_passTime_64 ⟨Nat.le_of_ble_eq_true rfl, Nat.le_of_ble_eq_true rfl⟩) ?_
      refine lv_if_eq (tgt := 78) hx hb d_D_passTime_67 (by decide) (fun c_5 => ?_) (fun c_5 => ?_)
      · have e9 : min 300 (z + 0) = z := by omega
        have hP : va_P D vwCl [zO 5 (q 1) [.ref ((q 2)), .ref ((q 3)), .ref ((q 4)), .ref ((q 5)), .ref ((q 6)), .int 1], zJ t (q 2) 32 (fun _ => 1099511627776), zI t (q 3) 8 (fun _ => 0), zJ t (q 4) 8 (fun _ => 0), zI t (q 5) 4 (xm 1), zI t (q 6) 4 (xm mk), zO 4 (q 7) [.ref ((q 8)), .ref ((q 9)), .ref ((q 10))], zI t (q 8) 32 (fun _ => 0), zI t (q 9) 32 (fun _ => 0), zA t 2 (q 10) 32 (fun _ => none), zO 4 (q 11) [.ref ((q 12)), .ref ((q 13)), .ref ((q 14))], zI t (q 12) 64 (fun _ => 0), zI t (q 13) 64 (fun _ => 0), zA t 2 (q 14) 64 (fun _ => none), zO 0 (q 15) [.ref no, .int gr, .ref ((q 16)), .ref ((q 20)), .ref ((q 24)), .int 0, .int 0, .int sp], zO 4 (q 16) [.ref ((q 17)), .ref ((q 18)), .ref ((q 19))], zI t (q 17) 32 (fun _ => 0), zI t (q 18) 32 (fun _ => 0), zA t 2 (q 19) 32 (fun _ => none), zO 4 (q 20) [.ref ((q 21)), .ref ((q 22)), .ref ((q 23))], zI t (q 21) 4 (fun _ => 0), zI t (q 22) 4 (fun _ => 0), zA t 2 (q 23) 4 (fun _ => none), zA t 2 (q 24) 16 (fun _ => none), zO 2 nw [.ref rw, .int (nI (min 300 (z + 0))), .int x, .int y, .int 0], zA t 3 rw 300 g, zO 3 (q 0) [.int (nI i), .ref nw, .int pr, .int 0, .int 0, .ref ((q 1)), .ref ((q 7)), .ref ((q 11)), .int 1, .int 0, .int bl, .int (nI (8 + 3 * i)), .int le, .int 0, .ref ((q 15))]] H := by rw [e9]; exact hP
        have hD : va_D A [zO 5 (q 1) [.ref ((q 2)), .ref ((q 3)), .ref ((q 4)), .ref ((q 5)), .ref ((q 6)), .int 1], zJ t (q 2) 32 (fun _ => 1099511627776), zI t (q 3) 8 (fun _ => 0), zJ t (q 4) 8 (fun _ => 0), zI t (q 5) 4 (xm 1), zI t (q 6) 4 (xm mk), zO 4 (q 7) [.ref ((q 8)), .ref ((q 9)), .ref ((q 10))], zI t (q 8) 32 (fun _ => 0), zI t (q 9) 32 (fun _ => 0), zA t 2 (q 10) 32 (fun _ => none), zO 4 (q 11) [.ref ((q 12)), .ref ((q 13)), .ref ((q 14))], zI t (q 12) 64 (fun _ => 0), zI t (q 13) 64 (fun _ => 0), zA t 2 (q 14) 64 (fun _ => none), zO 0 (q 15) [.ref no, .int gr, .ref ((q 16)), .ref ((q 20)), .ref ((q 24)), .int 0, .int 0, .int sp], zO 4 (q 16) [.ref ((q 17)), .ref ((q 18)), .ref ((q 19))], zI t (q 17) 32 (fun _ => 0), zI t (q 18) 32 (fun _ => 0), zA t 2 (q 19) 32 (fun _ => none), zO 4 (q 20) [.ref ((q 21)), .ref ((q 22)), .ref ((q 23))], zI t (q 21) 4 (fun _ => 0), zI t (q 22) 4 (fun _ => 0), zA t 2 (q 23) 4 (fun _ => none), zA t 2 (q 24) 16 (fun _ => none), zO 2 nw [.ref rw, .int (nI (min 300 (z + 0))), .int x, .int y, .int 0], zA t 3 rw 300 g, zO 3 (q 0) [.int (nI i), .ref nw, .int pr, .int 0, .int 0, .ref ((q 1)), .ref ((q 7)), .ref ((q 11)), .int 1, .int 0, .int bl, .int (nI (8 + 3 * i)), .int le, .int 0, .ref ((q 15))]] := by rw [e9]; exact hD
        have hP := hP.sub (ws' := [zO 3 (q 0) [.int (nI i), .ref nw, .int pr, .int 0, .int 0, .ref ((q 1)), .ref ((q 7)), .ref ((q 11)), .int 1, .int 0, .int bl, .int (nI (8 + 3 * i)), .int le, .int 0, .ref ((q 15))], zO 5 (q 1) [.ref ((q 2)), .ref ((q 3)), .ref ((q 4)), .ref ((q 5)), .ref ((q 6)), .int 1], zJ t (q 2) 32 (fun _ => 1099511627776), zI t (q 3) 8 (fun _ => 0), zJ t (q 4) 8 (fun _ => 0), zI t (q 5) 4 (xm 1), zI t (q 6) 4 (xm mk), zO 4 (q 7) [.ref ((q 8)), .ref ((q 9)), .ref ((q 10))], zI t (q 8) 32 (fun _ => 0), zI t (q 9) 32 (fun _ => 0), zA t 2 (q 10) 32 (fun _ => none), zO 4 (q 11) [.ref ((q 12)), .ref ((q 13)), .ref ((q 14))], zI t (q 12) 64 (fun _ => 0), zI t (q 13) 64 (fun _ => 0), zA t 2 (q 14) 64 (fun _ => none), zO 0 (q 15) [.ref no, .int gr, .ref ((q 16)), .ref ((q 20)), .ref ((q 24)), .int 0, .int 0, .int sp], zO 4 (q 16) [.ref ((q 17)), .ref ((q 18)), .ref ((q 19))], zI t (q 17) 32 (fun _ => 0), zI t (q 18) 32 (fun _ => 0), zA t 2 (q 19) 32 (fun _ => none), zO 4 (q 20) [.ref ((q 21)), .ref ((q 22)), .ref ((q 23))], zI t (q 21) 4 (fun _ => 0), zI t (q 22) 4 (fun _ => 0), zA t 2 (q 23) 4 (fun _ => none), zA t 2 (q 24) 16 (fun _ => none), zO 2 nw [.ref rw, .int (nI (min 300 (z + 0))), .int x, .int y, .int 0], zA t 3 rw 300 g]) [26, 0, 1, 2, 3, 4, 5, 6, 7, 8, 9, 10, 11, 12, 13, 14, 15, 16, 17, 18, 19, 20, 21, 22, 23, 24, 25] rfl
        have hD := hD.sub (ws' := [zO 3 (q 0) [.int (nI i), .ref nw, .int pr, .int 0, .int 0, .ref ((q 1)), .ref ((q 7)), .ref ((q 11)), .int 1, .int 0, .int bl, .int (nI (8 + 3 * i)), .int le, .int 0, .ref ((q 15))], zO 5 (q 1) [.ref ((q 2)), .ref ((q 3)), .ref ((q 4)), .ref ((q 5)), .ref ((q 6)), .int 1], zJ t (q 2) 32 (fun _ => 1099511627776), zI t (q 3) 8 (fun _ => 0), zJ t (q 4) 8 (fun _ => 0), zI t (q 5) 4 (xm 1), zI t (q 6) 4 (xm mk), zO 4 (q 7) [.ref ((q 8)), .ref ((q 9)), .ref ((q 10))], zI t (q 8) 32 (fun _ => 0), zI t (q 9) 32 (fun _ => 0), zA t 2 (q 10) 32 (fun _ => none), zO 4 (q 11) [.ref ((q 12)), .ref ((q 13)), .ref ((q 14))], zI t (q 12) 64 (fun _ => 0), zI t (q 13) 64 (fun _ => 0), zA t 2 (q 14) 64 (fun _ => none), zO 0 (q 15) [.ref no, .int gr, .ref ((q 16)), .ref ((q 20)), .ref ((q 24)), .int 0, .int 0, .int sp], zO 4 (q 16) [.ref ((q 17)), .ref ((q 18)), .ref ((q 19))], zI t (q 17) 32 (fun _ => 0), zI t (q 18) 32 (fun _ => 0), zA t 2 (q 19) 32 (fun _ => none), zO 4 (q 20) [.ref ((q 21)), .ref ((q 22)), .ref ((q 23))], zI t (q 21) 4 (fun _ => 0), zI t (q 22) 4 (fun _ => 0), zA t 2 (q 23) 4 (fun _ => none), zA t 2 (q 24) 16 (fun _ => none), zO 2 nw [.ref rw, .int (nI (min 300 (z + 0))), .int x, .int y, .int 0], zA t 3 rw 300 g]) [26, 0, 1, 2, 3, 4, 5, 6, 7, 8, 9, 10, 11, 12, 13, 14, 15, 16, 17, 18, 19, 20, 21, 22, 23, 24, 25] (by decide) rfl
        refine W.widen (k := 14) (n := 112) (by decide) (by decide) ?_
        exact W.vret hx hb hr (fun t ht hW => ⟨⟨((8 + 3 * i, false, 0), pr, bl, le, gr, sp, x, y, g), rfl, ⟨(if_pos c_5).symm, fun h9 => by cases h9⟩, by rw [ht]; exact hP, hD⟩, hS.F ht⟩) hS.2.2 d_D_passTime_78
      · refine lv_aload_n hx hb d_D_passTime_70 rfl (lv_at hl 0 rfl) ?_
        have hP := hP.sub (ws' := [zO 3 (q 0) [.int (nI i), .ref nw, .int pr, .int 0, .int 0, .ref ((q 1)), .ref ((q 7)), .ref ((q 11)), .int 1, .int 0, .int bl, .int (nI (8 + 3 * i)), .int le, .int 0, .ref ((q 15))], zO 5 (q 1) [.ref ((q 2)), .ref ((q 3)), .ref ((q 4)), .ref ((q 5)), .ref ((q 6)), .int 1], zJ t (q 2) 32 (fun _ => 1099511627776), zI t (q 3) 8 (fun _ => 0), zJ t (q 4) 8 (fun _ => 0), zI t (q 5) 4 (xm 1), zI t (q 6) 4 (xm mk), zO 4 (q 7) [.ref ((q 8)), .ref ((q 9)), .ref ((q 10))], zI t (q 8) 32 (fun _ => 0), zI t (q 9) 32 (fun _ => 0), zA t 2 (q 10) 32 (fun _ => none), zO 4 (q 11) [.ref ((q 12)), .ref ((q 13)), .ref ((q 14))], zI t (q 12) 64 (fun _ => 0), zI t (q 13) 64 (fun _ => 0), zA t 2 (q 14) 64 (fun _ => none), zO 0 (q 15) [.ref no, .int gr, .ref ((q 16)), .ref ((q 20)), .ref ((q 24)), .int 0, .int 0, .int sp], zO 4 (q 16) [.ref ((q 17)), .ref ((q 18)), .ref ((q 19))], zI t (q 17) 32 (fun _ => 0), zI t (q 18) 32 (fun _ => 0), zA t 2 (q 19) 32 (fun _ => none), zO 4 (q 20) [.ref ((q 21)), .ref ((q 22)), .ref ((q 23))], zI t (q 21) 4 (fun _ => 0), zI t (q 22) 4 (fun _ => 0), zA t 2 (q 23) 4 (fun _ => none), zA t 2 (q 24) 16 (fun _ => none), zO 2 nw [.ref rw, .int (nI z), .int x, .int y, .int 0], zA t 3 rw 300 g]) [26, 0, 1, 2, 3, 4, 5, 6, 7, 8, 9, 10, 11, 12, 13, 14, 15, 16, 17, 18, 19, 20, 21, 22, 23, 24, 25] rfl
        have hD := hD.sub (ws' := [zO 3 (q 0) [.int (nI i), .ref nw, .int pr, .int 0, .int 0, .ref ((q 1)), .ref ((q 7)), .ref ((q 11)), .int 1, .int 0, .int bl, .int (nI (8 + 3 * i)), .int le, .int 0, .ref ((q 15))], zO 5 (q 1) [.ref ((q 2)), .ref ((q 3)), .ref ((q 4)), .ref ((q 5)), .ref ((q 6)), .int 1], zJ t (q 2) 32 (fun _ => 1099511627776), zI t (q 3) 8 (fun _ => 0), zJ t (q 4) 8 (fun _ => 0), zI t (q 5) 4 (xm 1), zI t (q 6) 4 (xm mk), zO 4 (q 7) [.ref ((q 8)), .ref ((q 9)), .ref ((q 10))], zI t (q 8) 32 (fun _ => 0), zI t (q 9) 32 (fun _ => 0), zA t 2 (q 10) 32 (fun _ => none), zO 4 (q 11) [.ref ((q 12)), .ref ((q 13)), .ref ((q 14))], zI t (q 12) 64 (fun _ => 0), zI t (q 13) 64 (fun _ => 0), zA t 2 (q 14) 64 (fun _ => none), zO 0 (q 15) [.ref no, .int gr, .ref ((q 16)), .ref ((q 20)), .ref ((q 24)), .int 0, .int 0, .int sp], zO 4 (q 16) [.ref ((q 17)), .ref ((q 18)), .ref ((q 19))], zI t (q 17) 32 (fun _ => 0), zI t (q 18) 32 (fun _ => 0), zA t 2 (q 19) 32 (fun _ => none), zO 4 (q 20) [.ref ((q 21)), .ref ((q 22)), .ref ((q 23))], zI t (q 21) 4 (fun _ => 0), zI t (q 22) 4 (fun _ => 0), zA t 2 (q 23) 4 (fun _ => none), zA t 2 (q 24) 16 (fun _ => none), zO 2 nw [.ref rw, .int (nI z), .int x, .int y, .int 0], zA t 3 rw 300 g]) [26, 0, 1, 2, 3, 4, 5, 6, 7, 8, 9, 10, 11, 12, 13, 14, 15, 16, 17, 18, 19, 20, 21, 22, 23, 24, 25] (by decide) rfl
        refine xe_callv (wr := []) (xs_V (As := []) (rest := []) Z (C_D_beginToLead l D t q nw no i pr 0 bl (nI (8 + 3 * i)) le gr sp mk rw z hz x y g H.size) m_D_beginToLead k_437 k_439 ks_5 rfl rfl ⟨Nat.le_of_ble_eq_true rfl, Nat.le_of_ble_eq_true rfl⟩ (va_recv hK.2 hP (ci := 3) (q0 := 0) rfl rfl) (xe_pre hK (hP.sub [0, 1, 2, 3, 4, 5, 6, 7, 8, 9, 10, 11, 12, 13, 14, 15, 16, 17, 18, 19, 20, 21, 22, 23, 24, 25, 26] rfl) (hD.sub [0, 1, 2, 3, 4, 5, 6, 7, 8, 9, 10, 11, 12, 13, 14, 15, 16, 17, 18, 19, 20, 21, 22, 23, 24, 25, 26] (by decide) rfl)) rfl hl.1 rfl (Nat.le_of_ble_eq_true rfl) d_D_passTime_71 ⟨Nat.le_of_ble_eq_true rfl, Nat.le_of_ble_eq_true rfl⟩) hP hD hS hA [0, 1, 2, 3, 4, 5, 6, 7, 8, 9, 10, 11, 12, 13, 14, 15, 16, 17, 18, 19, 20, 21, 22, 23, 24, 25, 26] [] rfl rfl (by decide) (by decide) (fun u_ H locs _ hP hD hS => ?_)
        obtain ⟨pr2, bl2, sp2, x2, y2, g2⟩ := u_
        have hP : va_P D vwCl [zO 3 (q 0) [.int (nI i), .ref nw, .int pr2, .int 0, .int 0, .ref ((q 1)), .ref ((q 7)), .ref ((q 11)), .int 1, .int 1, .int bl2, .int 3, .int (nI i), .int 0, .ref ((q 15))], zO 5 (q 1) [.ref ((q 2)), .ref ((q 3)), .ref ((q 4)), .ref ((q 5)), .ref ((q 6)), .int 1], zJ t (q 2) 32 (fun _ => 1099511627776), zI t (q 3) 8 (fun _ => 0), zJ t (q 4) 8 (fun _ => 0), zI t (q 5) 4 (xm 1), zI t (q 6) 4 (xm mk), zO 4 (q 7) [.ref ((q 8)), .ref ((q 9)), .ref ((q 10))], zI t (q 8) 32 (fun _ => 0), zI t (q 9) 32 (fun _ => 0), zA t 2 (q 10) 32 (fun _ => none), zO 4 (q 11) [.ref ((q 12)), .ref ((q 13)), .ref ((q 14))], zI t (q 12) 64 (fun _ => 0), zI t (q 13) 64 (fun _ => 0), zA t 2 (q 14) 64 (fun _ => none), zO 0 (q 15) [.ref no, .int ((1 : Int32) <<< (nI i &&& 31)), .ref ((q 16)), .ref ((q 20)), .ref ((q 24)), .int 0, .int 0, .int sp2], zO 4 (q 16) [.ref ((q 17)), .ref ((q 18)), .ref ((q 19))], zI t (q 17) 32 (fun _ => 0), zI t (q 18) 32 (fun _ => 0), zA t 2 (q 19) 32 (fun _ => none), zO 4 (q 20) [.ref ((q 21)), .ref ((q 22)), .ref ((q 23))], zI t (q 21) 4 (fun _ => 0), zI t (q 22) 4 (fun _ => 0), zA t 2 (q 23) 4 (fun _ => none), zA t 2 (q 24) 16 (fun _ => none), zO 2 nw [.ref rw, .int (nI (min 300 (z + xn (xp mk (nI i)) 7))), .int x2, .int y2, .int 0], zA t 3 rw 300 g2] H := hP
        have hD : va_D A [zO 3 (q 0) [.int (nI i), .ref nw, .int pr2, .int 0, .int 0, .ref ((q 1)), .ref ((q 7)), .ref ((q 11)), .int 1, .int 1, .int bl2, .int 3, .int (nI i), .int 0, .ref ((q 15))], zO 5 (q 1) [.ref ((q 2)), .ref ((q 3)), .ref ((q 4)), .ref ((q 5)), .ref ((q 6)), .int 1], zJ t (q 2) 32 (fun _ => 1099511627776), zI t (q 3) 8 (fun _ => 0), zJ t (q 4) 8 (fun _ => 0), zI t (q 5) 4 (xm 1), zI t (q 6) 4 (xm mk), zO 4 (q 7) [.ref ((q 8)), .ref ((q 9)), .ref ((q 10))], zI t (q 8) 32 (fun _ => 0), zI t (q 9) 32 (fun _ => 0), zA t 2 (q 10) 32 (fun _ => none), zO 4 (q 11) [.ref ((q 12)), .ref ((q 13)), .ref ((q 14))], zI t (q 12) 64 (fun _ => 0), zI t (q 13) 64 (fun _ => 0), zA t 2 (q 14) 64 (fun _ => none), zO 0 (q 15) [.ref no, .int ((1 : Int32) <<< (nI i &&& 31)), .ref ((q 16)), .ref ((q 20)), .ref ((q 24)), .int 0, .int 0, .int sp2], zO 4 (q 16) [.ref ((q 17)), .ref ((q 18)), .ref ((q 19))], zI t (q 17) 32 (fun _ => 0), zI t (q 18) 32 (fun _ => 0), zA t 2 (q 19) 32 (fun _ => none), zO 4 (q 20) [.ref ((q 21)), .ref ((q 22)), .ref ((q 23))], zI t (q 21) 4 (fun _ => 0), zI t (q 22) 4 (fun _ => 0), zA t 2 (q 23) 4 (fun _ => none), zA t 2 (q 24) 16 (fun _ => none), zO 2 nw [.ref rw, .int (nI (min 300 (z + xn (xp mk (nI i)) 7))), .int x2, .int y2, .int 0], zA t 3 rw 300 g2] := hD
        refine lv_aload_n hx hb d_D_passTime_74 rfl (lv_at hl 0 rfl) ?_
        refine xr_call (xs_V (As := []) (rest := []) Z (C_D_work l D t q nw no (nI i) pr2 1 bl2 3 (nI i) ((1 : Int32) <<< (nI i &&& 31)) sp2 mk) m_D_work k_466 k_467 k_468 rfl rfl ⟨Nat.le_of_ble_eq_true rfl, Nat.le_of_ble_eq_true rfl⟩ (va_recv hK.2 hP (ci := 3) (q0 := 0) rfl rfl) (xr_pre hK (hP.sub [0, 1, 2, 3, 4, 5, 6, 7, 8, 9, 10, 11, 12, 13, 14, 15, 16, 17, 18, 19, 20, 21, 22, 23, 24] rfl)) rfl hl.1 rfl (Nat.le_of_ble_eq_true rfl) d_D_passTime_75 ⟨Nat.le_of_ble_eq_true rfl, Nat.le_of_ble_eq_true rfl⟩) ?_
        refine W.widen (k := 14) (n := 112) (by decide) (by decide) ?_
        exact W.vret hx hb hr (fun t ht hW => ⟨⟨((3, true, xn (xp mk (nI i)) 7), pr2, bl2, nI i, (1 : Int32) <<< (nI i &&& 31), sp2, x2, y2, g2), rfl, ⟨(if_neg c_5).symm, fun _ => rfl⟩, by rw [ht]; exact hP, hD⟩, hS.F ht⟩) hS.2.2 d_D_passTime_78
    · have hP : va_P D vwCl [zO 3 (q 0) [.int (nI i), .ref nw, .int pr, .int 0, .int 0, .ref ((q 1)), .ref ((q 7)), .ref ((q 11)), .int 1, .int (xz true), .int bl, .int (nI (0 + 1)), .int le, .int 0, .ref ((q 15))], zO 5 (q 1) [.ref ((q 2)), .ref ((q 3)), .ref ((q 4)), .ref ((q 5)), .ref ((q 6)), .int 1], zJ t (q 2) 32 (fun _ => 1099511627776), zI t (q 3) 8 (fun _ => 0), zJ t (q 4) 8 (fun _ => 0), zI t (q 5) 4 (xm 1), zI t (q 6) 4 (xm mk), zO 4 (q 7) [.ref ((q 8)), .ref ((q 9)), .ref ((q 10))], zI t (q 8) 32 (fun _ => 0), zI t (q 9) 32 (fun _ => 0), zA t 2 (q 10) 32 (fun _ => none), zO 4 (q 11) [.ref ((q 12)), .ref ((q 13)), .ref ((q 14))], zI t (q 12) 64 (fun _ => 0), zI t (q 13) 64 (fun _ => 0), zA t 2 (q 14) 64 (fun _ => none), zO 0 (q 15) [.ref no, .int gr, .ref ((q 16)), .ref ((q 20)), .ref ((q 24)), .int 0, .int 0, .int sp], zO 4 (q 16) [.ref ((q 17)), .ref ((q 18)), .ref ((q 19))], zI t (q 17) 32 (fun _ => 0), zI t (q 18) 32 (fun _ => 0), zA t 2 (q 19) 32 (fun _ => none), zO 4 (q 20) [.ref ((q 21)), .ref ((q 22)), .ref ((q 23))], zI t (q 21) 4 (fun _ => 0), zI t (q 22) 4 (fun _ => 0), zA t 2 (q 23) 4 (fun _ => none), zA t 2 (q 24) 16 (fun _ => none), zO 2 nw [.ref rw, .int (nI z), .int x, .int y, .int 0], zA t 3 rw 300 g] s.heap := hP
      have hD : va_D A [zO 3 (q 0) [.int (nI i), .ref nw, .int pr, .int 0, .int 0, .ref ((q 1)), .ref ((q 7)), .ref ((q 11)), .int 1, .int (xz true), .int bl, .int (nI (0 + 1)), .int le, .int 0, .ref ((q 15))], zO 5 (q 1) [.ref ((q 2)), .ref ((q 3)), .ref ((q 4)), .ref ((q 5)), .ref ((q 6)), .int 1], zJ t (q 2) 32 (fun _ => 1099511627776), zI t (q 3) 8 (fun _ => 0), zJ t (q 4) 8 (fun _ => 0), zI t (q 5) 4 (xm 1), zI t (q 6) 4 (xm mk), zO 4 (q 7) [.ref ((q 8)), .ref ((q 9)), .ref ((q 10))], zI t (q 8) 32 (fun _ => 0), zI t (q 9) 32 (fun _ => 0), zA t 2 (q 10) 32 (fun _ => none), zO 4 (q 11) [.ref ((q 12)), .ref ((q 13)), .ref ((q 14))], zI t (q 12) 64 (fun _ => 0), zI t (q 13) 64 (fun _ => 0), zA t 2 (q 14) 64 (fun _ => none), zO 0 (q 15) [.ref no, .int gr, .ref ((q 16)), .ref ((q 20)), .ref ((q 24)), .int 0, .int 0, .int sp], zO 4 (q 16) [.ref ((q 17)), .ref ((q 18)), .ref ((q 19))], zI t (q 17) 32 (fun _ => 0), zI t (q 18) 32 (fun _ => 0), zA t 2 (q 19) 32 (fun _ => none), zO 4 (q 20) [.ref ((q 21)), .ref ((q 22)), .ref ((q 23))], zI t (q 21) 4 (fun _ => 0), zI t (q 22) 4 (fun _ => 0), zA t 2 (q 23) 4 (fun _ => none), zA t 2 (q 24) 16 (fun _ => none), zO 2 nw [.ref rw, .int (nI z), .int x, .int y, .int 0], zA t 3 rw 300 g] := hD
      refine lv_aload_n hx hb d_D_passTime_0 rfl (lv_at hl 0 rfl) ?_
      refine va_get (ci := 3) (C := "QuorumStore$Node") (T := TX3) (N := 15) hx hb hts inX3 hown hK.2 hP 0 rfl rfl 8 (by decide) (hts _ k_211) (fun _ h9 => h9) rfl d_D_passTime_1 ?_
      refine lv_if_ne (tgt := 8) hx hb d_D_passTime_4 (by decide) (fun _ => ?_) (fun c_6 => absurd c_6 (by decide))
      refine lv_aload_n hx hb d_D_passTime_8 rfl (lv_at hl 0 rfl) ?_
      refine lv_dup hx hb d_D_passTime_9 rfl ?_
      refine va_get (ci := 3) (C := "QuorumStore$Node") (T := TX3) (N := 15) hx hb hts inX3 hown hK.2 hP 0 rfl rfl 11 (by decide) (hts _ k_217) (fun _ h9 => h9) rfl d_D_passTime_10 ?_
      refine lv_iconst (v := 1) hx hb d_D_passTime_13 (by decide) ?_
      refine lv_isub hx hb d_D_passTime_14 ?_
      refine lv_topi (fun f_7 ef_7 => ?_)
      refine va_put (ci := 3) (v := .int f_7) (ty := tyX3 11) (C := "QuorumStore$Node") (T := TX3) (N := 15) hx hb hts inX3 tyX3 okX3 nmX3 hown hK.2 hP hD hS 0 rfl rfl 11 (by decide) (hts _ k_217) (fun _ h9 => h9) rfl (by decide +kernel) rfl rfl (Nat.le_of_ble_eq_true rfl) d_D_passTime_15 (fun H locs hP hD hS => ?_)
      have hP : va_P D vwCl [zO 3 (q 0) [.int (nI i), .ref nw, .int pr, .int 0, .int 0, .ref ((q 1)), .ref ((q 7)), .ref ((q 11)), .int 1, .int (xz true), .int bl, .int f_7, .int le, .int 0, .ref ((q 15))], zO 5 (q 1) [.ref ((q 2)), .ref ((q 3)), .ref ((q 4)), .ref ((q 5)), .ref ((q 6)), .int 1], zJ t (q 2) 32 (fun _ => 1099511627776), zI t (q 3) 8 (fun _ => 0), zJ t (q 4) 8 (fun _ => 0), zI t (q 5) 4 (xm 1), zI t (q 6) 4 (xm mk), zO 4 (q 7) [.ref ((q 8)), .ref ((q 9)), .ref ((q 10))], zI t (q 8) 32 (fun _ => 0), zI t (q 9) 32 (fun _ => 0), zA t 2 (q 10) 32 (fun _ => none), zO 4 (q 11) [.ref ((q 12)), .ref ((q 13)), .ref ((q 14))], zI t (q 12) 64 (fun _ => 0), zI t (q 13) 64 (fun _ => 0), zA t 2 (q 14) 64 (fun _ => none), zO 0 (q 15) [.ref no, .int gr, .ref ((q 16)), .ref ((q 20)), .ref ((q 24)), .int 0, .int 0, .int sp], zO 4 (q 16) [.ref ((q 17)), .ref ((q 18)), .ref ((q 19))], zI t (q 17) 32 (fun _ => 0), zI t (q 18) 32 (fun _ => 0), zA t 2 (q 19) 32 (fun _ => none), zO 4 (q 20) [.ref ((q 21)), .ref ((q 22)), .ref ((q 23))], zI t (q 21) 4 (fun _ => 0), zI t (q 22) 4 (fun _ => 0), zA t 2 (q 23) 4 (fun _ => none), zA t 2 (q 24) 16 (fun _ => none), zO 2 nw [.ref rw, .int (nI z), .int x, .int y, .int 0], zA t 3 rw 300 g] H := hP
      have hD : va_D A [zO 3 (q 0) [.int (nI i), .ref nw, .int pr, .int 0, .int 0, .ref ((q 1)), .ref ((q 7)), .ref ((q 11)), .int 1, .int (xz true), .int bl, .int f_7, .int le, .int 0, .ref ((q 15))], zO 5 (q 1) [.ref ((q 2)), .ref ((q 3)), .ref ((q 4)), .ref ((q 5)), .ref ((q 6)), .int 1], zJ t (q 2) 32 (fun _ => 1099511627776), zI t (q 3) 8 (fun _ => 0), zJ t (q 4) 8 (fun _ => 0), zI t (q 5) 4 (xm 1), zI t (q 6) 4 (xm mk), zO 4 (q 7) [.ref ((q 8)), .ref ((q 9)), .ref ((q 10))], zI t (q 8) 32 (fun _ => 0), zI t (q 9) 32 (fun _ => 0), zA t 2 (q 10) 32 (fun _ => none), zO 4 (q 11) [.ref ((q 12)), .ref ((q 13)), .ref ((q 14))], zI t (q 12) 64 (fun _ => 0), zI t (q 13) 64 (fun _ => 0), zA t 2 (q 14) 64 (fun _ => none), zO 0 (q 15) [.ref no, .int gr, .ref ((q 16)), .ref ((q 20)), .ref ((q 24)), .int 0, .int 0, .int sp], zO 4 (q 16) [.ref ((q 17)), .ref ((q 18)), .ref ((q 19))], zI t (q 17) 32 (fun _ => 0), zI t (q 18) 32 (fun _ => 0), zA t 2 (q 19) 32 (fun _ => none), zO 4 (q 20) [.ref ((q 21)), .ref ((q 22)), .ref ((q 23))], zI t (q 21) 4 (fun _ => 0), zI t (q 22) 4 (fun _ => 0), zA t 2 (q 23) 4 (fun _ => none), zA t 2 (q 24) 16 (fun _ => none), zO 2 nw [.ref rw, .int (nI z), .int x, .int y, .int 0], zA t 3 rw 300 g] := hD
      refine lv_aload_n hx hb d_D_passTime_18 rfl (lv_at hl 0 rfl) ?_
      refine va_get (ci := 3) (C := "QuorumStore$Node") (T := TX3) (N := 15) hx hb hts inX3 hown hK.2 hP 0 rfl rfl 11 (by decide) (hts _ k_217) (fun _ h9 => h9) rfl d_D_passTime_19 ?_
      obtain rfl : f_7 = nI 0 := ef_7.trans (nI_pred 0)
      have hP : va_P D vwCl [zO 3 (q 0) [.int (nI i), .ref nw, .int pr, .int 0, .int 0, .ref ((q 1)), .ref ((q 7)), .ref ((q 11)), .int 1, .int (xz true), .int bl, .int (nI 0), .int le, .int 0, .ref ((q 15))], zO 5 (q 1) [.ref ((q 2)), .ref ((q 3)), .ref ((q 4)), .ref ((q 5)), .ref ((q 6)), .int 1], zJ t (q 2) 32 (fun _ => 1099511627776), zI t (q 3) 8 (fun _ => 0), zJ t (q 4) 8 (fun _ => 0), zI t (q 5) 4 (xm 1), zI t (q 6) 4 (xm mk), zO 4 (q 7) [.ref ((q 8)), .ref ((q 9)), .ref ((q 10))], zI t (q 8) 32 (fun _ => 0), zI t (q 9) 32 (fun _ => 0), zA t 2 (q 10) 32 (fun _ => none), zO 4 (q 11) [.ref ((q 12)), .ref ((q 13)), .ref ((q 14))], zI t (q 12) 64 (fun _ => 0), zI t (q 13) 64 (fun _ => 0), zA t 2 (q 14) 64 (fun _ => none), zO 0 (q 15) [.ref no, .int gr, .ref ((q 16)), .ref ((q 20)), .ref ((q 24)), .int 0, .int 0, .int sp], zO 4 (q 16) [.ref ((q 17)), .ref ((q 18)), .ref ((q 19))], zI t (q 17) 32 (fun _ => 0), zI t (q 18) 32 (fun _ => 0), zA t 2 (q 19) 32 (fun _ => none), zO 4 (q 20) [.ref ((q 21)), .ref ((q 22)), .ref ((q 23))], zI t (q 21) 4 (fun _ => 0), zI t (q 22) 4 (fun _ => 0), zA t 2 (q 23) 4 (fun _ => none), zA t 2 (q 24) 16 (fun _ => none), zO 2 nw [.ref rw, .int (nI z), .int x, .int y, .int 0], zA t 3 rw 300 g] H := hP
      have hD : va_D A [zO 3 (q 0) [.int (nI i), .ref nw, .int pr, .int 0, .int 0, .ref ((q 1)), .ref ((q 7)), .ref ((q 11)), .int 1, .int (xz true), .int bl, .int (nI 0), .int le, .int 0, .ref ((q 15))], zO 5 (q 1) [.ref ((q 2)), .ref ((q 3)), .ref ((q 4)), .ref ((q 5)), .ref ((q 6)), .int 1], zJ t (q 2) 32 (fun _ => 1099511627776), zI t (q 3) 8 (fun _ => 0), zJ t (q 4) 8 (fun _ => 0), zI t (q 5) 4 (xm 1), zI t (q 6) 4 (xm mk), zO 4 (q 7) [.ref ((q 8)), .ref ((q 9)), .ref ((q 10))], zI t (q 8) 32 (fun _ => 0), zI t (q 9) 32 (fun _ => 0), zA t 2 (q 10) 32 (fun _ => none), zO 4 (q 11) [.ref ((q 12)), .ref ((q 13)), .ref ((q 14))], zI t (q 12) 64 (fun _ => 0), zI t (q 13) 64 (fun _ => 0), zA t 2 (q 14) 64 (fun _ => none), zO 0 (q 15) [.ref no, .int gr, .ref ((q 16)), .ref ((q 20)), .ref ((q 24)), .int 0, .int 0, .int sp], zO 4 (q 16) [.ref ((q 17)), .ref ((q 18)), .ref ((q 19))], zI t (q 17) 32 (fun _ => 0), zI t (q 18) 32 (fun _ => 0), zA t 2 (q 19) 32 (fun _ => none), zO 4 (q 20) [.ref ((q 21)), .ref ((q 22)), .ref ((q 23))], zI t (q 21) 4 (fun _ => 0), zI t (q 22) 4 (fun _ => 0), zA t 2 (q 23) 4 (fun _ => none), zA t 2 (q 24) 16 (fun _ => none), zO 2 nw [.ref rw, .int (nI z), .int x, .int y, .int 0], zA t 3 rw 300 g] := hD
      refine lv_if_le (tgt := 26) hx hb d_D_passTime_22 (by decide) (fun _ => ?_) (fun c_8 => absurd (by decide) c_8)
      refine lv_aload_n hx hb d_D_passTime_26 rfl (lv_at hl 0 rfl) ?_
      refine va_get (ci := 3) (C := "QuorumStore$Node") (T := TX3) (N := 15) hx hb hts inX3 hown hK.2 hP 0 rfl rfl 9 (by decide) (hts _ k_213) (fun _ h9 => h9) rfl d_D_passTime_27 ?_
      refine lv_if_eq (tgt := 43) hx hb d_D_passTime_30 (by decide) (fun c_9 => absurd c_9 (by decide)) (fun _ => ?_)
      refine lv_aload_n hx hb d_D_passTime_33 rfl (lv_at hl 0 rfl) ?_
      refine lv_iconst (v := 3) hx hb d_D_passTime_34 (by decide) ?_
      refine va_put (ci := 3) (v := .int 3) (ty := tyX3 11) (C := "QuorumStore$Node") (T := TX3) (N := 15) hx hb hts inX3 tyX3 okX3 nmX3 hown hK.2 hP hD hS 0 rfl rfl 11 (by decide) (hts _ k_217) (fun _ h9 => h9) rfl (by decide +kernel) rfl rfl (Nat.le_of_ble_eq_true rfl) d_D_passTime_35 (fun H locs hP hD hS => ?_)
      have hP : va_P D vwCl [zO 3 (q 0) [.int (nI i), .ref nw, .int pr, .int 0, .int 0, .ref ((q 1)), .ref ((q 7)), .ref ((q 11)), .int 1, .int (xz true), .int bl, .int 3, .int le, .int 0, .ref ((q 15))], zO 5 (q 1) [.ref ((q 2)), .ref ((q 3)), .ref ((q 4)), .ref ((q 5)), .ref ((q 6)), .int 1], zJ t (q 2) 32 (fun _ => 1099511627776), zI t (q 3) 8 (fun _ => 0), zJ t (q 4) 8 (fun _ => 0), zI t (q 5) 4 (xm 1), zI t (q 6) 4 (xm mk), zO 4 (q 7) [.ref ((q 8)), .ref ((q 9)), .ref ((q 10))], zI t (q 8) 32 (fun _ => 0), zI t (q 9) 32 (fun _ => 0), zA t 2 (q 10) 32 (fun _ => none), zO 4 (q 11) [.ref ((q 12)), .ref ((q 13)), .ref ((q 14))], zI t (q 12) 64 (fun _ => 0), zI t (q 13) 64 (fun _ => 0), zA t 2 (q 14) 64 (fun _ => none), zO 0 (q 15) [.ref no, .int gr, .ref ((q 16)), .ref ((q 20)), .ref ((q 24)), .int 0, .int 0, .int sp], zO 4 (q 16) [.ref ((q 17)), .ref ((q 18)), .ref ((q 19))], zI t (q 17) 32 (fun _ => 0), zI t (q 18) 32 (fun _ => 0), zA t 2 (q 19) 32 (fun _ => none), zO 4 (q 20) [.ref ((q 21)), .ref ((q 22)), .ref ((q 23))], zI t (q 21) 4 (fun _ => 0), zI t (q 22) 4 (fun _ => 0), zA t 2 (q 23) 4 (fun _ => none), zA t 2 (q 24) 16 (fun _ => none), zO 2 nw [.ref rw, .int (nI z), .int x, .int y, .int 0], zA t 3 rw 300 g] H := hP
      have hD : va_D A [zO 3 (q 0) [.int (nI i), .ref nw, .int pr, .int 0, .int 0, .ref ((q 1)), .ref ((q 7)), .ref ((q 11)), .int 1, .int (xz true), .int bl, .int 3, .int le, .int 0, .ref ((q 15))], zO 5 (q 1) [.ref ((q 2)), .ref ((q 3)), .ref ((q 4)), .ref ((q 5)), .ref ((q 6)), .int 1], zJ t (q 2) 32 (fun _ => 1099511627776), zI t (q 3) 8 (fun _ => 0), zJ t (q 4) 8 (fun _ => 0), zI t (q 5) 4 (xm 1), zI t (q 6) 4 (xm mk), zO 4 (q 7) [.ref ((q 8)), .ref ((q 9)), .ref ((q 10))], zI t (q 8) 32 (fun _ => 0), zI t (q 9) 32 (fun _ => 0), zA t 2 (q 10) 32 (fun _ => none), zO 4 (q 11) [.ref ((q 12)), .ref ((q 13)), .ref ((q 14))], zI t (q 12) 64 (fun _ => 0), zI t (q 13) 64 (fun _ => 0), zA t 2 (q 14) 64 (fun _ => none), zO 0 (q 15) [.ref no, .int gr, .ref ((q 16)), .ref ((q 20)), .ref ((q 24)), .int 0, .int 0, .int sp], zO 4 (q 16) [.ref ((q 17)), .ref ((q 18)), .ref ((q 19))], zI t (q 17) 32 (fun _ => 0), zI t (q 18) 32 (fun _ => 0), zA t 2 (q 19) 32 (fun _ => none), zO 4 (q 20) [.ref ((q 21)), .ref ((q 22)), .ref ((q 23))], zI t (q 21) 4 (fun _ => 0), zI t (q 22) 4 (fun _ => 0), zA t 2 (q 23) 4 (fun _ => none), zA t 2 (q 24) 16 (fun _ => none), zO 2 nw [.ref rw, .int (nI z), .int x, .int y, .int 0], zA t 3 rw 300 g] := hD
      refine lv_aload_n hx hb d_D_passTime_38 rfl (lv_at hl 0 rfl) ?_
      refine xe_callv (wr := []) (xs_V (As := []) (rest := []) Z (C_D_beat l D t q nw no i pr 1 bl 3 le gr sp mk (hgr rfl) rw z hz x y g H.size) m_D_beat k_352 k_354 ks_1 rfl rfl ⟨Nat.le_of_ble_eq_true rfl, Nat.le_of_ble_eq_true rfl⟩ (va_recv hK.2 hP (ci := 3) (q0 := 0) rfl rfl) (xe_pre hK (hP.sub [0, 1, 2, 3, 4, 5, 6, 7, 8, 9, 10, 11, 12, 13, 14, 15, 16, 17, 18, 19, 20, 21, 22, 23, 24, 25, 26] rfl) (hD.sub [0, 1, 2, 3, 4, 5, 6, 7, 8, 9, 10, 11, 12, 13, 14, 15, 16, 17, 18, 19, 20, 21, 22, 23, 24, 25, 26] (by decide) rfl)) rfl hl.1 rfl (Nat.le_of_ble_eq_true rfl) d_D_passTime_39 ⟨Nat.le_of_ble_eq_true rfl, Nat.le_of_ble_eq_true rfl⟩) hP hD hS hA [0, 1, 2, 3, 4, 5, 6, 7, 8, 9, 10, 11, 12, 13, 14, 15, 16, 17, 18, 19, 20, 21, 22, 23, 24, 25, 26] [] rfl rfl (by decide) (by decide) (fun u_ H locs _ hP hD hS => ?_)
      obtain ⟨x2, y2, g2⟩ := u_
      have hP : va_P D vwCl [zO 3 (q 0) [.int (nI i), .ref nw, .int pr, .int 0, .int 0, .ref ((q 1)), .ref ((q 7)), .ref ((q 11)), .int 1, .int 1, .int bl, .int 3, .int le, .int 0, .ref ((q 15))], zO 5 (q 1) [.ref ((q 2)), .ref ((q 3)), .ref ((q 4)), .ref ((q 5)), .ref ((q 6)), .int 1], zJ t (q 2) 32 (fun _ => 1099511627776), zI t (q 3) 8 (fun _ => 0), zJ t (q 4) 8 (fun _ => 0), zI t (q 5) 4 (xm 1), zI t (q 6) 4 (xm mk), zO 4 (q 7) [.ref ((q 8)), .ref ((q 9)), .ref ((q 10))], zI t (q 8) 32 (fun _ => 0), zI t (q 9) 32 (fun _ => 0), zA t 2 (q 10) 32 (fun _ => none), zO 4 (q 11) [.ref ((q 12)), .ref ((q 13)), .ref ((q 14))], zI t (q 12) 64 (fun _ => 0), zI t (q 13) 64 (fun _ => 0), zA t 2 (q 14) 64 (fun _ => none), zO 0 (q 15) [.ref no, .int gr, .ref ((q 16)), .ref ((q 20)), .ref ((q 24)), .int 0, .int 0, .int sp], zO 4 (q 16) [.ref ((q 17)), .ref ((q 18)), .ref ((q 19))], zI t (q 17) 32 (fun _ => 0), zI t (q 18) 32 (fun _ => 0), zA t 2 (q 19) 32 (fun _ => none), zO 4 (q 20) [.ref ((q 21)), .ref ((q 22)), .ref ((q 23))], zI t (q 21) 4 (fun _ => 0), zI t (q 22) 4 (fun _ => 0), zA t 2 (q 23) 4 (fun _ => none), zA t 2 (q 24) 16 (fun _ => none), zO 2 nw [.ref rw, .int (nI (min 300 (z + 2 * xn (xp mk (nI i)) 7))), .int x2, .int y2, .int 0], zA t 3 rw 300 g2] H := hP
      have hD : va_D A [zO 3 (q 0) [.int (nI i), .ref nw, .int pr, .int 0, .int 0, .ref ((q 1)), .ref ((q 7)), .ref ((q 11)), .int 1, .int 1, .int bl, .int 3, .int le, .int 0, .ref ((q 15))], zO 5 (q 1) [.ref ((q 2)), .ref ((q 3)), .ref ((q 4)), .ref ((q 5)), .ref ((q 6)), .int 1], zJ t (q 2) 32 (fun _ => 1099511627776), zI t (q 3) 8 (fun _ => 0), zJ t (q 4) 8 (fun _ => 0), zI t (q 5) 4 (xm 1), zI t (q 6) 4 (xm mk), zO 4 (q 7) [.ref ((q 8)), .ref ((q 9)), .ref ((q 10))], zI t (q 8) 32 (fun _ => 0), zI t (q 9) 32 (fun _ => 0), zA t 2 (q 10) 32 (fun _ => none), zO 4 (q 11) [.ref ((q 12)), .ref ((q 13)), .ref ((q 14))], zI t (q 12) 64 (fun _ => 0), zI t (q 13) 64 (fun _ => 0), zA t 2 (q 14) 64 (fun _ => none), zO 0 (q 15) [.ref no, .int gr, .ref ((q 16)), .ref ((q 20)), .ref ((q 24)), .int 0, .int 0, .int sp], zO 4 (q 16) [.ref ((q 17)), .ref ((q 18)), .ref ((q 19))], zI t (q 17) 32 (fun _ => 0), zI t (q 18) 32 (fun _ => 0), zA t 2 (q 19) 32 (fun _ => none), zO 4 (q 20) [.ref ((q 21)), .ref ((q 22)), .ref ((q 23))], zI t (q 21) 4 (fun _ => 0), zI t (q 22) 4 (fun _ => 0), zA t 2 (q 23) 4 (fun _ => none), zA t 2 (q 24) 16 (fun _ => none), zO 2 nw [.ref rw, .int (nI (min 300 (z + 2 * xn (xp mk (nI i)) 7))), .int x2, .int y2, .int 0], zA t 3 rw 300 g2] := hD
      exact W.vret hx hb hr (fun t ht hW => ⟨⟨((3, true, 2 * xn (xp mk (nI i)) 7), pr, bl, le, gr, sp, x2, y2, g2), rfl, ⟨rfl, fun _ => hgr rfl⟩, by rw [ht]; exact hP, hD⟩, hS.F ht⟩) hS.2.2 d_D_passTime_42
  · have hP : va_P D vwCl [zO 3 (q 0) [.int (nI i), .ref nw, .int pr, .int 0, .int 0, .ref ((q 1)), .ref ((q 7)), .ref ((q 11)), .int 1, .int (xz b), .int bl, .int (nI (tt + 1 + 1)), .int le, .int 0, .ref ((q 15))], zO 5 (q 1) [.ref ((q 2)), .ref ((q 3)), .ref ((q 4)), .ref ((q 5)), .ref ((q 6)), .int 1], zJ t (q 2) 32 (fun _ => 1099511627776), zI t (q 3) 8 (fun _ => 0), zJ t (q 4) 8 (fun _ => 0), zI t (q 5) 4 (xm 1), zI t (q 6) 4 (xm mk), zO 4 (q 7) [.ref ((q 8)), .ref ((q 9)), .ref ((q 10))], zI t (q 8) 32 (fun _ => 0), zI t (q 9) 32 (fun _ => 0), zA t 2 (q 10) 32 (fun _ => none), zO 4 (q 11) [.ref ((q 12)), .ref ((q 13)), .ref ((q 14))], zI t (q 12) 64 (fun _ => 0), zI t (q 13) 64 (fun _ => 0), zA t 2 (q 14) 64 (fun _ => none), zO 0 (q 15) [.ref no, .int gr, .ref ((q 16)), .ref ((q 20)), .ref ((q 24)), .int 0, .int 0, .int sp], zO 4 (q 16) [.ref ((q 17)), .ref ((q 18)), .ref ((q 19))], zI t (q 17) 32 (fun _ => 0), zI t (q 18) 32 (fun _ => 0), zA t 2 (q 19) 32 (fun _ => none), zO 4 (q 20) [.ref ((q 21)), .ref ((q 22)), .ref ((q 23))], zI t (q 21) 4 (fun _ => 0), zI t (q 22) 4 (fun _ => 0), zA t 2 (q 23) 4 (fun _ => none), zA t 2 (q 24) 16 (fun _ => none), zO 2 nw [.ref rw, .int (nI z), .int x, .int y, .int 0], zA t 3 rw 300 g] s.heap := hP
    have hD : va_D A [zO 3 (q 0) [.int (nI i), .ref nw, .int pr, .int 0, .int 0, .ref ((q 1)), .ref ((q 7)), .ref ((q 11)), .int 1, .int (xz b), .int bl, .int (nI (tt + 1 + 1)), .int le, .int 0, .ref ((q 15))], zO 5 (q 1) [.ref ((q 2)), .ref ((q 3)), .ref ((q 4)), .ref ((q 5)), .ref ((q 6)), .int 1], zJ t (q 2) 32 (fun _ => 1099511627776), zI t (q 3) 8 (fun _ => 0), zJ t (q 4) 8 (fun _ => 0), zI t (q 5) 4 (xm 1), zI t (q 6) 4 (xm mk), zO 4 (q 7) [.ref ((q 8)), .ref ((q 9)), .ref ((q 10))], zI t (q 8) 32 (fun _ => 0), zI t (q 9) 32 (fun _ => 0), zA t 2 (q 10) 32 (fun _ => none), zO 4 (q 11) [.ref ((q 12)), .ref ((q 13)), .ref ((q 14))], zI t (q 12) 64 (fun _ => 0), zI t (q 13) 64 (fun _ => 0), zA t 2 (q 14) 64 (fun _ => none), zO 0 (q 15) [.ref no, .int gr, .ref ((q 16)), .ref ((q 20)), .ref ((q 24)), .int 0, .int 0, .int sp], zO 4 (q 16) [.ref ((q 17)), .ref ((q 18)), .ref ((q 19))], zI t (q 17) 32 (fun _ => 0), zI t (q 18) 32 (fun _ => 0), zA t 2 (q 19) 32 (fun _ => none), zO 4 (q 20) [.ref ((q 21)), .ref ((q 22)), .ref ((q 23))], zI t (q 21) 4 (fun _ => 0), zI t (q 22) 4 (fun _ => 0), zA t 2 (q 23) 4 (fun _ => none), zA t 2 (q 24) 16 (fun _ => none), zO 2 nw [.ref rw, .int (nI z), .int x, .int y, .int 0], zA t 3 rw 300 g] := hD
    refine lv_aload_n hx hb d_D_passTime_0 rfl (lv_at hl 0 rfl) ?_
    refine va_get (ci := 3) (C := "QuorumStore$Node") (T := TX3) (N := 15) hx hb hts inX3 hown hK.2 hP 0 rfl rfl 8 (by decide) (hts _ k_211) (fun _ h9 => h9) rfl d_D_passTime_1 ?_
    refine lv_if_ne (tgt := 8) hx hb d_D_passTime_4 (by decide) (fun _ => ?_) (fun c_10 => absurd c_10 (by decide))
    refine lv_aload_n hx hb d_D_passTime_8 rfl (lv_at hl 0 rfl) ?_
    refine lv_dup hx hb d_D_passTime_9 rfl ?_
    refine va_get (ci := 3) (C := "QuorumStore$Node") (T := TX3) (N := 15) hx hb hts inX3 hown hK.2 hP 0 rfl rfl 11 (by decide) (hts _ k_217) (fun _ h9 => h9) rfl d_D_passTime_10 ?_
    refine lv_iconst (v := 1) hx hb d_D_passTime_13 (by decide) ?_
    refine lv_isub hx hb d_D_passTime_14 ?_
    refine lv_topi (fun f_11 ef_11 => ?_)
    refine va_put (ci := 3) (v := .int f_11) (ty := tyX3 11) (C := "QuorumStore$Node") (T := TX3) (N := 15) hx hb hts inX3 tyX3 okX3 nmX3 hown hK.2 hP hD hS 0 rfl rfl 11 (by decide) (hts _ k_217) (fun _ h9 => h9) rfl (by decide +kernel) rfl rfl (Nat.le_of_ble_eq_true rfl) d_D_passTime_15 (fun H locs hP hD hS => ?_)
    have hP : va_P D vwCl [zO 3 (q 0) [.int (nI i), .ref nw, .int pr, .int 0, .int 0, .ref ((q 1)), .ref ((q 7)), .ref ((q 11)), .int 1, .int (xz b), .int bl, .int f_11, .int le, .int 0, .ref ((q 15))], zO 5 (q 1) [.ref ((q 2)), .ref ((q 3)), .ref ((q 4)), .ref ((q 5)), .ref ((q 6)), .int 1], zJ t (q 2) 32 (fun _ => 1099511627776), zI t (q 3) 8 (fun _ => 0), zJ t (q 4) 8 (fun _ => 0), zI t (q 5) 4 (xm 1), zI t (q 6) 4 (xm mk), zO 4 (q 7) [.ref ((q 8)), .ref ((q 9)), .ref ((q 10))], zI t (q 8) 32 (fun _ => 0), zI t (q 9) 32 (fun _ => 0), zA t 2 (q 10) 32 (fun _ => none), zO 4 (q 11) [.ref ((q 12)), .ref ((q 13)), .ref ((q 14))], zI t (q 12) 64 (fun _ => 0), zI t (q 13) 64 (fun _ => 0), zA t 2 (q 14) 64 (fun _ => none), zO 0 (q 15) [.ref no, .int gr, .ref ((q 16)), .ref ((q 20)), .ref ((q 24)), .int 0, .int 0, .int sp], zO 4 (q 16) [.ref ((q 17)), .ref ((q 18)), .ref ((q 19))], zI t (q 17) 32 (fun _ => 0), zI t (q 18) 32 (fun _ => 0), zA t 2 (q 19) 32 (fun _ => none), zO 4 (q 20) [.ref ((q 21)), .ref ((q 22)), .ref ((q 23))], zI t (q 21) 4 (fun _ => 0), zI t (q 22) 4 (fun _ => 0), zA t 2 (q 23) 4 (fun _ => none), zA t 2 (q 24) 16 (fun _ => none), zO 2 nw [.ref rw, .int (nI z), .int x, .int y, .int 0], zA t 3 rw 300 g] H := hP
    have hD : va_D A [zO 3 (q 0) [.int (nI i), .ref nw, .int pr, .int 0, .int 0, .ref ((q 1)), .ref ((q 7)), .ref ((q 11)), .int 1, .int (xz b), .int bl, .int f_11, .int le, .int 0, .ref ((q 15))], zO 5 (q 1) [.ref ((q 2)), .ref ((q 3)), .ref ((q 4)), .ref ((q 5)), .ref ((q 6)), .int 1], zJ t (q 2) 32 (fun _ => 1099511627776), zI t (q 3) 8 (fun _ => 0), zJ t (q 4) 8 (fun _ => 0), zI t (q 5) 4 (xm 1), zI t (q 6) 4 (xm mk), zO 4 (q 7) [.ref ((q 8)), .ref ((q 9)), .ref ((q 10))], zI t (q 8) 32 (fun _ => 0), zI t (q 9) 32 (fun _ => 0), zA t 2 (q 10) 32 (fun _ => none), zO 4 (q 11) [.ref ((q 12)), .ref ((q 13)), .ref ((q 14))], zI t (q 12) 64 (fun _ => 0), zI t (q 13) 64 (fun _ => 0), zA t 2 (q 14) 64 (fun _ => none), zO 0 (q 15) [.ref no, .int gr, .ref ((q 16)), .ref ((q 20)), .ref ((q 24)), .int 0, .int 0, .int sp], zO 4 (q 16) [.ref ((q 17)), .ref ((q 18)), .ref ((q 19))], zI t (q 17) 32 (fun _ => 0), zI t (q 18) 32 (fun _ => 0), zA t 2 (q 19) 32 (fun _ => none), zO 4 (q 20) [.ref ((q 21)), .ref ((q 22)), .ref ((q 23))], zI t (q 21) 4 (fun _ => 0), zI t (q 22) 4 (fun _ => 0), zA t 2 (q 23) 4 (fun _ => none), zA t 2 (q 24) 16 (fun _ => none), zO 2 nw [.ref rw, .int (nI z), .int x, .int y, .int 0], zA t 3 rw 300 g] := hD
    refine lv_aload_n hx hb d_D_passTime_18 rfl (lv_at hl 0 rfl) ?_
    refine va_get (ci := 3) (C := "QuorumStore$Node") (T := TX3) (N := 15) hx hb hts inX3 hown hK.2 hP 0 rfl rfl 11 (by decide) (hts _ k_217) (fun _ h9 => h9) rfl d_D_passTime_19 ?_
    obtain rfl : f_11 = nI (tt + 1) := ef_11.trans (nI_pred (tt + 1))
    have hP : va_P D vwCl [zO 3 (q 0) [.int (nI i), .ref nw, .int pr, .int 0, .int 0, .ref ((q 1)), .ref ((q 7)), .ref ((q 11)), .int 1, .int (xz b), .int bl, .int (nI (tt + 1)), .int le, .int 0, .ref ((q 15))], zO 5 (q 1) [.ref ((q 2)), .ref ((q 3)), .ref ((q 4)), .ref ((q 5)), .ref ((q 6)), .int 1], zJ t (q 2) 32 (fun _ => 1099511627776), zI t (q 3) 8 (fun _ => 0), zJ t (q 4) 8 (fun _ => 0), zI t (q 5) 4 (xm 1), zI t (q 6) 4 (xm mk), zO 4 (q 7) [.ref ((q 8)), .ref ((q 9)), .ref ((q 10))], zI t (q 8) 32 (fun _ => 0), zI t (q 9) 32 (fun _ => 0), zA t 2 (q 10) 32 (fun _ => none), zO 4 (q 11) [.ref ((q 12)), .ref ((q 13)), .ref ((q 14))], zI t (q 12) 64 (fun _ => 0), zI t (q 13) 64 (fun _ => 0), zA t 2 (q 14) 64 (fun _ => none), zO 0 (q 15) [.ref no, .int gr, .ref ((q 16)), .ref ((q 20)), .ref ((q 24)), .int 0, .int 0, .int sp], zO 4 (q 16) [.ref ((q 17)), .ref ((q 18)), .ref ((q 19))], zI t (q 17) 32 (fun _ => 0), zI t (q 18) 32 (fun _ => 0), zA t 2 (q 19) 32 (fun _ => none), zO 4 (q 20) [.ref ((q 21)), .ref ((q 22)), .ref ((q 23))], zI t (q 21) 4 (fun _ => 0), zI t (q 22) 4 (fun _ => 0), zA t 2 (q 23) 4 (fun _ => none), zA t 2 (q 24) 16 (fun _ => none), zO 2 nw [.ref rw, .int (nI z), .int x, .int y, .int 0], zA t 3 rw 300 g] H := hP
    have hD : va_D A [zO 3 (q 0) [.int (nI i), .ref nw, .int pr, .int 0, .int 0, .ref ((q 1)), .ref ((q 7)), .ref ((q 11)), .int 1, .int (xz b), .int bl, .int (nI (tt + 1)), .int le, .int 0, .ref ((q 15))], zO 5 (q 1) [.ref ((q 2)), .ref ((q 3)), .ref ((q 4)), .ref ((q 5)), .ref ((q 6)), .int 1], zJ t (q 2) 32 (fun _ => 1099511627776), zI t (q 3) 8 (fun _ => 0), zJ t (q 4) 8 (fun _ => 0), zI t (q 5) 4 (xm 1), zI t (q 6) 4 (xm mk), zO 4 (q 7) [.ref ((q 8)), .ref ((q 9)), .ref ((q 10))], zI t (q 8) 32 (fun _ => 0), zI t (q 9) 32 (fun _ => 0), zA t 2 (q 10) 32 (fun _ => none), zO 4 (q 11) [.ref ((q 12)), .ref ((q 13)), .ref ((q 14))], zI t (q 12) 64 (fun _ => 0), zI t (q 13) 64 (fun _ => 0), zA t 2 (q 14) 64 (fun _ => none), zO 0 (q 15) [.ref no, .int gr, .ref ((q 16)), .ref ((q 20)), .ref ((q 24)), .int 0, .int 0, .int sp], zO 4 (q 16) [.ref ((q 17)), .ref ((q 18)), .ref ((q 19))], zI t (q 17) 32 (fun _ => 0), zI t (q 18) 32 (fun _ => 0), zA t 2 (q 19) 32 (fun _ => none), zO 4 (q 20) [.ref ((q 21)), .ref ((q 22)), .ref ((q 23))], zI t (q 21) 4 (fun _ => 0), zI t (q 22) 4 (fun _ => 0), zA t 2 (q 23) 4 (fun _ => none), zA t 2 (q 24) 16 (fun _ => none), zO 2 nw [.ref rw, .int (nI z), .int x, .int y, .int 0], zA t 3 rw 300 g] := hD
    refine lv_if_le (tgt := 26) hx hb d_D_passTime_22 (by decide) (fun c_12 => absurd c_12 (nI_nle (by omega) (by omega))) (fun _ => ?_)
    have e9 : min 300 (z + 0) = z := by omega
    have hP : va_P D vwCl [zO 3 (q 0) [.int (nI i), .ref nw, .int pr, .int 0, .int 0, .ref ((q 1)), .ref ((q 7)), .ref ((q 11)), .int 1, .int (xz b), .int bl, .int (nI (tt + 1)), .int le, .int 0, .ref ((q 15))], zO 5 (q 1) [.ref ((q 2)), .ref ((q 3)), .ref ((q 4)), .ref ((q 5)), .ref ((q 6)), .int 1], zJ t (q 2) 32 (fun _ => 1099511627776), zI t (q 3) 8 (fun _ => 0), zJ t (q 4) 8 (fun _ => 0), zI t (q 5) 4 (xm 1), zI t (q 6) 4 (xm mk), zO 4 (q 7) [.ref ((q 8)), .ref ((q 9)), .ref ((q 10))], zI t (q 8) 32 (fun _ => 0), zI t (q 9) 32 (fun _ => 0), zA t 2 (q 10) 32 (fun _ => none), zO 4 (q 11) [.ref ((q 12)), .ref ((q 13)), .ref ((q 14))], zI t (q 12) 64 (fun _ => 0), zI t (q 13) 64 (fun _ => 0), zA t 2 (q 14) 64 (fun _ => none), zO 0 (q 15) [.ref no, .int gr, .ref ((q 16)), .ref ((q 20)), .ref ((q 24)), .int 0, .int 0, .int sp], zO 4 (q 16) [.ref ((q 17)), .ref ((q 18)), .ref ((q 19))], zI t (q 17) 32 (fun _ => 0), zI t (q 18) 32 (fun _ => 0), zA t 2 (q 19) 32 (fun _ => none), zO 4 (q 20) [.ref ((q 21)), .ref ((q 22)), .ref ((q 23))], zI t (q 21) 4 (fun _ => 0), zI t (q 22) 4 (fun _ => 0), zA t 2 (q 23) 4 (fun _ => none), zA t 2 (q 24) 16 (fun _ => none), zO 2 nw [.ref rw, .int (nI (min 300 (z + 0))), .int x, .int y, .int 0], zA t 3 rw 300 g] H := by rw [e9]; exact hP
    have hD : va_D A [zO 3 (q 0) [.int (nI i), .ref nw, .int pr, .int 0, .int 0, .ref ((q 1)), .ref ((q 7)), .ref ((q 11)), .int 1, .int (xz b), .int bl, .int (nI (tt + 1)), .int le, .int 0, .ref ((q 15))], zO 5 (q 1) [.ref ((q 2)), .ref ((q 3)), .ref ((q 4)), .ref ((q 5)), .ref ((q 6)), .int 1], zJ t (q 2) 32 (fun _ => 1099511627776), zI t (q 3) 8 (fun _ => 0), zJ t (q 4) 8 (fun _ => 0), zI t (q 5) 4 (xm 1), zI t (q 6) 4 (xm mk), zO 4 (q 7) [.ref ((q 8)), .ref ((q 9)), .ref ((q 10))], zI t (q 8) 32 (fun _ => 0), zI t (q 9) 32 (fun _ => 0), zA t 2 (q 10) 32 (fun _ => none), zO 4 (q 11) [.ref ((q 12)), .ref ((q 13)), .ref ((q 14))], zI t (q 12) 64 (fun _ => 0), zI t (q 13) 64 (fun _ => 0), zA t 2 (q 14) 64 (fun _ => none), zO 0 (q 15) [.ref no, .int gr, .ref ((q 16)), .ref ((q 20)), .ref ((q 24)), .int 0, .int 0, .int sp], zO 4 (q 16) [.ref ((q 17)), .ref ((q 18)), .ref ((q 19))], zI t (q 17) 32 (fun _ => 0), zI t (q 18) 32 (fun _ => 0), zA t 2 (q 19) 32 (fun _ => none), zO 4 (q 20) [.ref ((q 21)), .ref ((q 22)), .ref ((q 23))], zI t (q 21) 4 (fun _ => 0), zI t (q 22) 4 (fun _ => 0), zA t 2 (q 23) 4 (fun _ => none), zA t 2 (q 24) 16 (fun _ => none), zO 2 nw [.ref rw, .int (nI (min 300 (z + 0))), .int x, .int y, .int 0], zA t 3 rw 300 g] := by rw [e9]; exact hD
    refine W.widen (k := 14) (n := 112) (by decide) (by decide) ?_
    exact W.vret hx hb hr (fun t ht hW => ⟨⟨((tt + 1, b, 0), pr, bl, le, gr, sp, x, y, g), rfl, ⟨rfl, hgr⟩, by rw [ht]; exact hP, hD⟩, hS.F ht⟩) hS.2.2 d_D_passTime_25
end
section
/-! tick: all the nodes, turn by turn. -/
/-- a node's share of the state: timer, leads, promised, ballot, leader, grants, settledPeers -/
abbrev xNS : Type := Nat × Bool × Int32 × Int32 × Int32 × Int32 × Int32
abbrev wN (t : Nat → ClassId) (q : Nat → Nat) (nw no i : Nat) (mk : Int32) (u : xNS) : va_W := [zO 3 (q 0) [.int (nI i), .ref nw, .int u.2.2.1, .int 0, .int 0, .ref ((q 1)), .ref ((q 7)), .ref ((q 11)), .int 1, .int (xz u.2.1), .int u.2.2.2.1, .int (nI u.1), .int u.2.2.2.2.1, .int 0, .ref ((q 15))], zO 5 (q 1) [.ref ((q 2)), .ref ((q 3)), .ref ((q 4)), .ref ((q 5)), .ref ((q 6)), .int 1], zJ t (q 2) 32 (fun _ => 1099511627776), zI t (q 3) 8 (fun _ => 0), zJ t (q 4) 8 (fun _ => 0), zI t (q 5) 4 (xm 1), zI t (q 6) 4 (xm mk), zO 4 (q 7) [.ref ((q 8)), .ref ((q 9)), .ref ((q 10))], zI t (q 8) 32 (fun _ => 0), zI t (q 9) 32 (fun _ => 0), zA t 2 (q 10) 32 (fun _ => none), zO 4 (q 11) [.ref ((q 12)), .ref ((q 13)), .ref ((q 14))], zI t (q 12) 64 (fun _ => 0), zI t (q 13) 64 (fun _ => 0), zA t 2 (q 14) 64 (fun _ => none), zO 0 (q 15) [.ref no, .int u.2.2.2.2.2.1, .ref ((q 16)), .ref ((q 20)), .ref ((q 24)), .int 0, .int 0, .int u.2.2.2.2.2.2], zO 4 (q 16) [.ref ((q 17)), .ref ((q 18)), .ref ((q 19))], zI t (q 17) 32 (fun _ => 0), zI t (q 18) 32 (fun _ => 0), zA t 2 (q 19) 32 (fun _ => none), zO 4 (q 20) [.ref ((q 21)), .ref ((q 22)), .ref ((q 23))], zI t (q 21) 4 (fun _ => 0), zI t (q 22) 4 (fun _ => 0), zA t 2 (q 23) 4 (fun _ => none), zA t 2 (q 24) 16 (fun _ => none)]
def wNs (t : Nat → ClassId) (qq : Nat → Nat → Nat) (nw : Nat) (no : Nat → Nat) (mk : Int32) (L : List (Nat × xNS)) : va_W := L.flatMap (fun e => wN t (qq e.1) nw (no e.1) e.1 mk e.2)
theorem wNs_snoc (t : Nat → ClassId) (qq : Nat → Nat → Nat) (nw : Nat) (no : Nat → Nat) (mk : Int32) (L : List (Nat × xNS)) (e : Nat × xNS) : wNs t qq nw no mk (L ++ [e]) = wNs t qq nw no mk L ++ wN t (qq e.1) nw (no e.1) e.1 mk e.2 := by
  unfold wNs
  rw [List.flatMap_append]
  rfl
def xok (k : Nat) (u : xNS) : Prop := 1 ≤ u.1 ∧ u.1 ≤ 64 ∧ (u.2.1 = true → u.2.2.2.2.2.1 = (1 : Int32) <<< (nI k &&& 31))
/-- one turn of all nodes from the i-th on: timers, and the number of messages -/
def xt7 (mk : Int32) : Nat → List (Nat × Bool) → Nat → List (Nat × Bool) × Nat
  | _, [], z => ([], z)
  | i, e :: L, z => (((xs mk i e.1 e.2).1, (xs mk i e.1 e.2).2.1) :: (xt7 mk (i + 1) L (min 300 (z + (xs mk i e.1 e.2).2.2))).1, (xt7 mk (i + 1) L (min 300 (z + (xs mk i e.1 e.2).2.2))).2)
/-- the number of messages behind n turns -/
def xit (mk : Int32) : Nat → List (Nat × Bool) → Nat → Nat
  | 0, _, z => z
  | n + 1, L, z => xit mk n (xt7 mk 0 L z).1 (xt7 mk 0 L z).2
theorem xk_p1 (b t n r : va_W) : ((b ++ t) ++ (n ++ r)).Perm ((b ++ r) ++ (n ++ t)) := by
  rw [List.append_assoc, List.append_assoc]
  refine List.Perm.append_left b (List.perm_append_comm.trans ?_)
  rw [List.append_assoc]
  exact List.perm_append_comm_assoc n r t
theorem xk_p2 (b t n r : va_W) : ((b ++ r) ++ (n ++ t)).Perm ((b ++ t) ++ (r ++ n)) := by
  rw [List.append_assoc, List.append_assoc, ← List.append_assoc r n t]
  exact List.Perm.append_left b List.perm_append_comm
theorem xd_R {A : Nat → Prop} {a b : va_W} (h : va_D A (a ++ b)) : va_D A b := by
  obtain ⟨h1, h2⟩ := xd_iff.mp h
  rw [List.map_append] at h1
  exact xd_iff.mpr ⟨(List.nodup_append.mp h1).2.1, fun q hq => h2 q (List.mem_append_right _ hq)⟩
theorem d_Q_tick_0 : decode c_Q_tick 0 = .ok (.iload_n 1, 1) := by decide +kernel
theorem d_Q_tick_1 : decode c_Q_tick 1 = .ok (.iconst 1, 1) := by decide +kernel
theorem d_Q_tick_2 : decode c_Q_tick 2 = .ok (.if_icmp .lt 9, 3) := by decide +kernel
theorem d_Q_tick_5 : decode c_Q_tick 5 = .ok (.iload_n 1, 1) := by decide +kernel
theorem d_Q_tick_6 : decode c_Q_tick 6 = .ok (.bipush 50, 2) := by decide +kernel
theorem d_Q_tick_8 : decode c_Q_tick 8 = .ok (.if_icmp .le 13, 3) := by decide +kernel
theorem d_Q_tick_21 : decode c_Q_tick 21 = .ok (.iconst 0, 1) := by decide +kernel
theorem d_Q_tick_22 : decode c_Q_tick 22 = .ok (.istore_n 2, 1) := by decide +kernel
theorem d_Q_tick_23 : decode c_Q_tick 23 = .ok (.iload_n 2, 1) := by decide +kernel
theorem d_Q_tick_24 : decode c_Q_tick 24 = .ok (.iload_n 1, 1) := by decide +kernel
theorem d_Q_tick_25 : decode c_Q_tick 25 = .ok (.if_icmp .ge 32, 3) := by decide +kernel
theorem d_Q_tick_28 : decode c_Q_tick 28 = .ok (.iconst 0, 1) := by decide +kernel
theorem d_Q_tick_29 : decode c_Q_tick 29 = .ok (.istore_n 3, 1) := by decide +kernel
theorem d_Q_tick_30 : decode c_Q_tick 30 = .ok (.iload_n 3, 1) := by decide +kernel
theorem d_Q_tick_31 : decode c_Q_tick 31 = .ok (.bipush 7, 2) := by decide +kernel
theorem d_Q_tick_33 : decode c_Q_tick 33 = .ok (.if_icmp .ge 18, 3) := by decide +kernel
theorem d_Q_tick_36 : decode c_Q_tick 36 = .ok (.aload_n 0, 1) := by decide +kernel
theorem d_Q_tick_37 : decode c_Q_tick 37 = .ok (.getfield 18, 3) := by decide +kernel
theorem d_Q_tick_40 : decode c_Q_tick 40 = .ok (.iload_n 3, 1) := by decide +kernel
theorem d_Q_tick_41 : decode c_Q_tick 41 = .ok (.aaload, 1) := by decide +kernel
theorem d_Q_tick_42 : decode c_Q_tick 42 = .ok (.invokevirtual 32, 3) := by decide +kernel
theorem d_Q_tick_45 : decode c_Q_tick 45 = .ok (.iinc 3 1, 3) := by decide +kernel
theorem d_Q_tick_48 : decode c_Q_tick 48 = .ok (.goto (-18), 3) := by decide +kernel
theorem d_Q_tick_51 : decode c_Q_tick 51 = .ok (.iinc 2 1, 3) := by decide +kernel
theorem d_Q_tick_54 : decode c_Q_tick 54 = .ok (.goto (-31), 3) := by decide +kernel
theorem d_Q_tick_57 : decode c_Q_tick 57 = .ok (.aload_n 0, 1) := by decide +kernel
theorem d_Q_tick_58 : decode c_Q_tick 58 = .ok (.getfield 12, 3) := by decide +kernel
theorem d_Q_tick_61 : decode c_Q_tick 61 = .ok (.getfield 35, 3) := by decide +kernel
theorem d_Q_tick_64 : decode c_Q_tick 64 = .ok (.ireturn, 1) := by decide +kernel
set_option maxHeartbeats 4000000 in
set_option maxRecDepth 100000 in
/-- tick with n in 1 .. 50: the number of messages -/
theorem C_Q_tick (l : Launch) (D : va_G) (t : Nat → ClassId) (xa nw na rw : Nat) (ky : Int32) (qq : Nat → Nat → Nat) (no : Nat → Nat) (mk : Int32) (N : Nat) (hN1 : 1 ≤ N) (hN2 : N ≤ 50) (st : Nat → xNS) (z : Nat) (hz : z ≤ 300) (hok : ∀ k, k < 7 → xok k (st k)) (x y : Int32) (g : Nat → Option Nat) (Rz : Nat) (hR : xit mk N [((st 0).1, (st 0).2.1), ((st 1).1, (st 1).2.1), ((st 2).1, (st 2).2.1), ((st 3).1, (st 3).2.1), ((st 4).1, (st 4).2.1), ((st 5).1, (st 5).2.1), ((st 6).1, (st 6).2.1)] z = Rz) : xe_C l D vwCl (xTY t) y_Q_tick c_Q_tick 4 (Option.some FieldType.int) ({ frames := 6, cells := 4900, slots := 39200, locals := 139 }) [.ref xa, .int (nI N)] (([zO 7 xa [.ref nw, .ref na, .int ky], zA t 4 na 7 (fun j => some (qq j 0))] ++ [zO 2 nw [.ref rw, .int (nI z), .int x, .int y, .int 0], zA t 3 rw 300 g]) ++ wNs t qq nw no mk [(0, (st 0)), (1, (st 1)), (2, (st 2)), (3, (st 3)), (4, (st 4)), (5, (st 5)), (6, (st 6))]) (xe_i D vwCl (fun (r : Int32) (_ : Unit) => r = nI Rz) (fun _ => [])) 4900 39200 := by
  refine xe_of (by decide) (Nat.le_of_ble_eq_true rfl) ?_
  intro p e s m below meth c ls A Z hr hlocks hin hA hP hD hS hl
  obtain ⟨hx, hb, hml, hown, hK⟩ := id Z
  have hown : s.vm.findClass "QuorumStore" = some m.cls := hown
  have hts := hK.1.at (args := ([.ref xa, .int (nI N)] : List Value).toArray)
  have hl : lv_has ls 4 [(0, .ref xa), (1, .int (nI N))] := hl
  refine lv_iload_n hx hb d_Q_tick_0 rfl (lv_at hl 1 rfl) ?_
  refine lv_iconst (v := 1) hx hb d_Q_tick_1 (by decide) ?_
  refine lv_icmp_lt (tgt := 11) hx hb d_Q_tick_2 (by decide) (fun c_1 => absurd c_1 (show ¬ nI N < nI 1 from nI_nlt hN1 (by omega))) (fun _ => ?_)
  refine lv_iload_n hx hb d_Q_tick_5 rfl (lv_at hl 1 rfl) ?_
  refine lv_bipush (v := 50) hx hb d_Q_tick_6 (by decide) ?_
  refine lv_icmp_le (tgt := 21) hx hb d_Q_tick_8 (by decide) (fun _ => ?_) (fun c_2 => absurd (show nI N ≤ nI 50 from nI_le hN2 (by decide)) c_2)
  refine lv_iconst (v := 0) hx hb d_Q_tick_21 (by decide) ?_
  refine lv_istore_n (lv' := [(2, .int 0), (0, .ref xa), (1, .int (nI N))]) hx hb d_Q_tick_22 rfl hl (by decide) rfl (fun ls hl => ?_)
  have loop : ∀ (n turn : Nat) (st : Nat → xNS) (z : Nat) (x y : Int32) (g : Nat → Option Nat), turn + n = N → z ≤ 300 → (∀ k, k < 7 → xok k (st k)) → xit mk n [((st 0).1, (st 0).2.1), ((st 1).1, (st 1).2.1), ((st 2).1, (st 2).2.1), ((st 3).1, (st 3).2.1), ((st 4).1, (st 4).2.1), ((st 5).1, (st 5).2.1), ((st 6).1, (st 6).2.1)] z = Rz → ∀ (H : Heap) (locs : List Loc), va_P D vwCl (([zO 7 xa [.ref nw, .ref na, .int ky], zA t 4 na 7 (fun j => some (qq j 0))] ++ [zO 2 nw [.ref rw, .int (nI z), .int x, .int y, .int 0], zA t 3 rw 300 g]) ++ wNs t qq nw no mk [(0, (st 0)), (1, (st 1)), (2, (st 2)), (3, (st 3)), (4, (st 4)), (5, (st 5)), (6, (st 6))]) H → va_D A (([zO 7 xa [.ref nw, .ref na, .int ky], zA t 4 na 7 (fun j => some (qq j 0))] ++ [zO 2 nw [.ref rw, .int (nI z), .int x, .int y, .int 0], zA t 3 rw 300 g]) ++ wNs t qq nw no mk [(0, (st 0)), (1, (st 1)), (2, (st 2)), (3, (st 3)), (4, (st 4)), (5, (st 5)), (6, (st 6))]) → va_S A s.heap H locs → ∀ (ls : Array Slot), lv_has ls 4 [(2, .int (nI turn)), (0, .ref xa), (1, .int (nI N))] → W p l e ({ frames := 6, cells := 4900, slots := 39200, locals := 139 } : Room) s m ([.ref xa, .int (nI N)] : List Value).toArray below meth c H locs (98 * turn) (784 * turn) (MQ below ((xe_i D vwCl (fun (r : Int32) (_ : Unit) => r = nI Rz) (fun _ => [])) A) ([.ref xa, .int (nI N)] : List Value).toArray s 4900 39200 A) (F0 m 23 ls []) := by
    intro n
    induction n with
    | zero =>
      intro turn st z x y g hi hz hok hQ H locs hP hD hS ls hl
      obtain rfl : turn = N := by omega
      refine lv_iload_n hx hb d_Q_tick_23 rfl (lv_at hl 0 rfl) ?_
      refine lv_iload_n hx hb d_Q_tick_24 rfl (lv_at hl 2 rfl) ?_
      refine lv_icmp_ge (tgt := 57) hx hb d_Q_tick_25 (by decide) (fun _ => ?_) (fun c_3 => absurd (Int32.le_refl _) c_3)
      refine lv_aload_n hx hb d_Q_tick_57 rfl (lv_at hl 1 rfl) ?_
      refine va_get (ci := 7) (C := "QuorumStore") (T := TX7) (N := 3) hx hb hts inX7 hown hK.2 hP 0 rfl rfl 0 (by decide) (hts _ k_255) (fun _ h9 => h9) rfl d_Q_tick_58 ?_
      refine va_get (ci := 2) (C := "QuorumStore$Network") (T := TX2) (N := 5) hx hb hts inX2 hown hK.2 hP 2 rfl rfl 1 (by decide) (hts _ k_43) (fun _ h9 => h9) rfl d_Q_tick_61 ?_
      refine W.widen (k := 4900) (n := 39200) (by omega) (by omega) ?_
      exact W.iret hx hb hr (fun t ht hW => ⟨⟨nI z, (), rfl, congrArg nI hQ, by intro k q hk; simp at hk, by constructor; (· intro i j x y hx; simp at hx); (· intro k q hk; simp at hk)⟩, hS.F ht⟩) hS.2.2 d_Q_tick_64
    | succ n ih =>
      intro turn st z x y g hi hz hok hQ H locs hP hD hS ls hl
      refine lv_iload_n hx hb d_Q_tick_23 rfl (lv_at hl 0 rfl) ?_
      refine lv_iload_n hx hb d_Q_tick_24 rfl (lv_at hl 2 rfl) ?_
      refine lv_icmp_ge (tgt := 57) hx hb d_Q_tick_25 (by decide) (fun c_4 => absurd c_4 (nI_ge (by omega) (by omega))) (fun _ => ?_)
      refine lv_iconst (v := 0) hx hb d_Q_tick_28 (by decide) ?_
      refine lv_istore_n (lv' := [(3, .int 0), (2, .int (nI turn)), (0, .ref xa), (1, .int (nI N))]) hx hb d_Q_tick_29 rfl hl (by decide) rfl (fun ls hl => ?_)
      refine lv_iload_n hx hb d_Q_tick_30 rfl (lv_at hl 0 rfl) ?_
      refine lv_bipush (v := 7) hx hb d_Q_tick_31 (by decide) ?_
      refine lv_icmp_ge (tgt := 51) hx hb d_Q_tick_33 (by decide) (fun c_5 => absurd c_5 (by decide)) (fun _ => ?_)
      refine lv_aload_n hx hb d_Q_tick_36 rfl (lv_at hl 2 rfl) ?_
      refine va_get (ci := 7) (C := "QuorumStore") (T := TX7) (N := 3) hx hb hts inX7 hown hK.2 hP 0 rfl rfl 1 (by decide) (hts _ k_256) (fun _ h9 => h9) rfl d_Q_tick_37 ?_
      refine lv_iload_n hx hb d_Q_tick_40 rfl (lv_at hl 0 rfl) ?_
      refine va_aldq hx hb hK.2 hP 1 4 rfl rfl (by unfold vp_in; decide) d_Q_tick_41 ?_
      have hP := xd_P hP (fun q h => (xk_p1 [zO 7 xa [.ref nw, .ref na, .int ky], zA t 4 na 7 (fun j => some (qq j 0))] [zO 2 nw [.ref rw, .int (nI (z)), .int x, .int y, .int 0], zA t 3 rw 300 g] (wN t (qq 0) nw (no 0) 0 mk (st 0)) (wNs t qq nw no mk [(1, (st 1)), (2, (st 2)), (3, (st 3)), (4, (st 4)), (5, (st 5)), (6, (st 6))])).mem_iff.mpr h)
      have hD := xd_perm hD (xk_p1 [zO 7 xa [.ref nw, .ref na, .int ky], zA t 4 na 7 (fun j => some (qq j 0))] [zO 2 nw [.ref rw, .int (nI (z)), .int x, .int y, .int 0], zA t 3 rw 300 g] (wN t (qq 0) nw (no 0) 0 mk (st 0)) (wNs t qq nw no mk [(1, (st 1)), (2, (st 2)), (3, (st 3)), (4, (st 4)), (5, (st 5)), (6, (st 6))]))
      have hPc : va_P D vwCl (wN t (qq 0) nw (no 0) 0 mk (st 0) ++ [zO 2 nw [.ref rw, .int (nI (z)), .int x, .int y, .int 0], zA t 3 rw 300 g]) H := xd_P hP (fun q h => List.mem_append_right _ h)
      have hDc : va_D A (wN t (qq 0) nw (no 0) 0 mk (st 0) ++ [zO 2 nw [.ref rw, .int (nI (z)), .int x, .int y, .int 0], zA t 3 rw 300 g]) := xd_R hD
      refine xe_sfxv (wr := [zO 7 xa [.ref nw, .ref na, .int ky], zA t 4 na 7 (fun j => some (qq j 0))] ++ wNs t qq nw no mk [(1, (st 1)), (2, (st 2)), (3, (st 3)), (4, (st 4)), (5, (st 5)), (6, (st 6))]) (wc := wN t (qq 0) nw (no 0) 0 mk (st 0) ++ [zO 2 nw [.ref rw, .int (nI (z)), .int x, .int y, .int 0], zA t 3 rw 300 g]) (xs_V (As := []) (rest := []) Z (C_D_passTime l D t (qq 0) nw (no 0) 0 ((st 0)).1 ((st 0)).2.1 (hok 0 (by decide)).1 (Nat.le_trans (hok 0 (by decide)).2.1 (by decide)) ((st 0)).2.2.1 ((st 0)).2.2.2.1 ((st 0)).2.2.2.2.1 ((st 0)).2.2.2.2.2.1 ((st 0)).2.2.2.2.2.2 mk (hok 0 (by decide)).2.2 rw (z) (by omega) x y g H.size) m_D_passTime k_348 k_349 k_350 rfl rfl ⟨Nat.le_of_ble_eq_true rfl, Nat.le_of_ble_eq_true rfl⟩ (va_recv hK.2 hPc (ci := 3) (q0 := 0) rfl rfl) (xe_pre hK hPc hDc) rfl hl.1 rfl (Nat.le_of_ble_eq_true rfl) d_Q_tick_42 ⟨show 98 * turn + 14 ≤ 4900 by omega, show 784 * turn + 112 ≤ 39200 by omega⟩) hP hD hS hA (fun u_ H locs hw hP hD hS => ?_)
      obtain ⟨r_, pr_0, bl_0, le_0, gr_0, sp_0, x_0, y_0, g_0⟩ := u_
      obtain ⟨e_, hg_0⟩ := hw
      dsimp only at e_ hg_0
      subst e_
      have hP : va_P D vwCl (([zO 7 xa [.ref nw, .ref na, .int ky], zA t 4 na 7 (fun j => some (qq j 0))] ++ wNs t qq nw no mk [(1, (st 1)), (2, (st 2)), (3, (st 3)), (4, (st 4)), (5, (st 5)), (6, (st 6))]) ++ (wN t (qq 0) nw (no 0) 0 mk ((xs mk 0 ((st 0)).1 ((st 0)).2.1).1, (xs mk 0 ((st 0)).1 ((st 0)).2.1).2.1, pr_0, bl_0, le_0, gr_0, sp_0) ++ [zO 2 nw [.ref rw, .int (nI (min 300 (z + (xs mk 0 ((st 0)).1 ((st 0)).2.1).2.2))), .int x_0, .int y_0, .int 0], zA t 3 rw 300 g_0])) H := hP
      have hD : va_D A (([zO 7 xa [.ref nw, .ref na, .int ky], zA t 4 na 7 (fun j => some (qq j 0))] ++ wNs t qq nw no mk [(1, (st 1)), (2, (st 2)), (3, (st 3)), (4, (st 4)), (5, (st 5)), (6, (st 6))]) ++ (wN t (qq 0) nw (no 0) 0 mk ((xs mk 0 ((st 0)).1 ((st 0)).2.1).1, (xs mk 0 ((st 0)).1 ((st 0)).2.1).2.1, pr_0, bl_0, le_0, gr_0, sp_0) ++ [zO 2 nw [.ref rw, .int (nI (min 300 (z + (xs mk 0 ((st 0)).1 ((st 0)).2.1).2.2))), .int x_0, .int y_0, .int 0], zA t 3 rw 300 g_0])) := hD
      have hP := xd_P hP (fun q h => (xk_p2 [zO 7 xa [.ref nw, .ref na, .int ky], zA t 4 na 7 (fun j => some (qq j 0))] [zO 2 nw [.ref rw, .int (nI (min 300 (z + (xs mk 0 ((st 0)).1 ((st 0)).2.1).2.2))), .int x_0, .int y_0, .int 0], zA t 3 rw 300 g_0] (wN t (qq 0) nw (no 0) 0 mk ((xs mk 0 ((st 0)).1 ((st 0)).2.1).1, (xs mk 0 ((st 0)).1 ((st 0)).2.1).2.1, pr_0, bl_0, le_0, gr_0, sp_0)) (wNs t qq nw no mk [(1, (st 1)), (2, (st 2)), (3, (st 3)), (4, (st 4)), (5, (st 5)), (6, (st 6))])).mem_iff.mpr h)
      have hD := xd_perm hD (xk_p2 [zO 7 xa [.ref nw, .ref na, .int ky], zA t 4 na 7 (fun j => some (qq j 0))] [zO 2 nw [.ref rw, .int (nI (min 300 (z + (xs mk 0 ((st 0)).1 ((st 0)).2.1).2.2))), .int x_0, .int y_0, .int 0], zA t 3 rw 300 g_0] (wN t (qq 0) nw (no 0) 0 mk ((xs mk 0 ((st 0)).1 ((st 0)).2.1).1, (xs mk 0 ((st 0)).1 ((st 0)).2.1).2.1, pr_0, bl_0, le_0, gr_0, sp_0)) (wNs t qq nw no mk [(1, (st 1)), (2, (st 2)), (3, (st 3)), (4, (st 4)), (5, (st 5)), (6, (st 6))]))
      have hP : va_P D vwCl (([zO 7 xa [.ref nw, .ref na, .int ky], zA t 4 na 7 (fun j => some (qq j 0))] ++ [zO 2 nw [.ref rw, .int (nI (min 300 (z + (xs mk 0 ((st 0)).1 ((st 0)).2.1).2.2))), .int x_0, .int y_0, .int 0], zA t 3 rw 300 g_0]) ++ wNs t qq nw no mk [(1, (st 1)), (2, (st 2)), (3, (st 3)), (4, (st 4)), (5, (st 5)), (6, (st 6)), (0, ((xs mk 0 ((st 0)).1 ((st 0)).2.1).1, (xs mk 0 ((st 0)).1 ((st 0)).2.1).2.1, pr_0, bl_0, le_0, gr_0, sp_0))]) H := by rw [show wNs t qq nw no mk [(1, (st 1)), (2, (st 2)), (3, (st 3)), (4, (st 4)), (5, (st 5)), (6, (st 6)), (0, ((xs mk 0 ((st 0)).1 ((st 0)).2.1).1, (xs mk 0 ((st 0)).1 ((st 0)).2.1).2.1, pr_0, bl_0, le_0, gr_0, sp_0))] = wNs t qq nw no mk [(1, (st 1)), (2, (st 2)), (3, (st 3)), (4, (st 4)), (5, (st 5)), (6, (st 6))] ++ wN t (qq 0) nw (no 0) 0 mk ((xs mk 0 ((st 0)).1 ((st 0)).2.1).1, (xs mk 0 ((st 0)).1 ((st 0)).2.1).2.1, pr_0, bl_0, le_0, gr_0, sp_0) from wNs_snoc _ _ _ _ _ [(1, (st 1)), (2, (st 2)), (3, (st 3)), (4, (st 4)), (5, (st 5)), (6, (st 6))] _]; exact hP
      have hD : va_D A (([zO 7 xa [.ref nw, .ref na, .int ky], zA t 4 na 7 (fun j => some (qq j 0))] ++ [zO 2 nw [.ref rw, .int (nI (min 300 (z + (xs mk 0 ((st 0)).1 ((st 0)).2.1).2.2))), .int x_0, .int y_0, .int 0], zA t 3 rw 300 g_0]) ++ wNs t qq nw no mk [(1, (st 1)), (2, (st 2)), (3, (st 3)), (4, (st 4)), (5, (st 5)), (6, (st 6)), (0, ((xs mk 0 ((st 0)).1 ((st 0)).2.1).1, (xs mk 0 ((st 0)).1 ((st 0)).2.1).2.1, pr_0, bl_0, le_0, gr_0, sp_0))]) := by rw [show wNs t qq nw no mk [(1, (st 1)), (2, (st 2)), (3, (st 3)), (4, (st 4)), (5, (st 5)), (6, (st 6)), (0, ((xs mk 0 ((st 0)).1 ((st 0)).2.1).1, (xs mk 0 ((st 0)).1 ((st 0)).2.1).2.1, pr_0, bl_0, le_0, gr_0, sp_0))] = wNs t qq nw no mk [(1, (st 1)), (2, (st 2)), (3, (st 3)), (4, (st 4)), (5, (st 5)), (6, (st 6))] ++ wN t (qq 0) nw (no 0) 0 mk ((xs mk 0 ((st 0)).1 ((st 0)).2.1).1, (xs mk 0 ((st 0)).1 ((st 0)).2.1).2.1, pr_0, bl_0, le_0, gr_0, sp_0) from wNs_snoc _ _ _ _ _ [(1, (st 1)), (2, (st 2)), (3, (st 3)), (4, (st 4)), (5, (st 5)), (6, (st 6))] _]; exact hD
      refine lv_iinc (v := 1) (lv' := [(3, .int 1), (2, .int (nI turn)), (0, .ref xa), (1, .int (nI N))]) hx hb d_Q_tick_45 hl (k := 0) rfl rfl (by decide) rfl (fun ls hl => ?_)
      refine lv_goto (tgt := 30) hx hb d_Q_tick_48 (by decide) ?_
      refine lv_iload_n hx hb d_Q_tick_30 rfl (lv_at hl 0 rfl) ?_
      refine lv_bipush (v := 7) hx hb d_Q_tick_31 (by decide) ?_
      refine lv_icmp_ge (tgt := 51) hx hb d_Q_tick_33 (by decide) (fun c_6 => absurd c_6 (by decide)) (fun _ => ?_)
      refine lv_aload_n hx hb d_Q_tick_36 rfl (lv_at hl 2 rfl) ?_
      refine va_get (ci := 7) (C := "QuorumStore") (T := TX7) (N := 3) hx hb hts inX7 hown hK.2 hP 0 rfl rfl 1 (by decide) (hts _ k_256) (fun _ h9 => h9) rfl d_Q_tick_37 ?_
      refine lv_iload_n hx hb d_Q_tick_40 rfl (lv_at hl 0 rfl) ?_
      refine va_aldq hx hb hK.2 hP 1 4 rfl rfl (by unfold vp_in; decide) d_Q_tick_41 ?_
      have hP := xd_P hP (fun q h => (xk_p1 [zO 7 xa [.ref nw, .ref na, .int ky], zA t 4 na 7 (fun j => some (qq j 0))] [zO 2 nw [.ref rw, .int (nI (min 300 (z + (xs mk 0 ((st 0)).1 ((st 0)).2.1).2.2))), .int x_0, .int y_0, .int 0], zA t 3 rw 300 g_0] (wN t (qq 1) nw (no 1) 1 mk (st 1)) (wNs t qq nw no mk [(2, (st 2)), (3, (st 3)), (4, (st 4)), (5, (st 5)), (6, (st 6)), (0, ((xs mk 0 ((st 0)).1 ((st 0)).2.1).1, (xs mk 0 ((st 0)).1 ((st 0)).2.1).2.1, pr_0, bl_0, le_0, gr_0, sp_0))])).mem_iff.mpr h)
      have hD := xd_perm hD (xk_p1 [zO 7 xa [.ref nw, .ref na, .int ky], zA t 4 na 7 (fun j => some (qq j 0))] [zO 2 nw [.ref rw, .int (nI (min 300 (z + (xs mk 0 ((st 0)).1 ((st 0)).2.1).2.2))), .int x_0, .int y_0, .int 0], zA t 3 rw 300 g_0] (wN t (qq 1) nw (no 1) 1 mk (st 1)) (wNs t qq nw no mk [(2, (st 2)), (3, (st 3)), (4, (st 4)), (5, (st 5)), (6, (st 6)), (0, ((xs mk 0 ((st 0)).1 ((st 0)).2.1).1, (xs mk 0 ((st 0)).1 ((st 0)).2.1).2.1, pr_0, bl_0, le_0, gr_0, sp_0))]))
      have hPc : va_P D vwCl (wN t (qq 1) nw (no 1) 1 mk (st 1) ++ [zO 2 nw [.ref rw, .int (nI (min 300 (z + (xs mk 0 ((st 0)).1 ((st 0)).2.1).2.2))), .int x_0, .int y_0, .int 0], zA t 3 rw 300 g_0]) H := xd_P hP (fun q h => List.mem_append_right _ h)
      have hDc : va_D A (wN t (qq 1) nw (no 1) 1 mk (st 1) ++ [zO 2 nw [.ref rw, .int (nI (min 300 (z + (xs mk 0 ((st 0)).1 ((st 0)).2.1).2.2))), .int x_0, .int y_0, .int 0], zA t 3 rw 300 g_0]) := xd_R hD
      refine xe_sfxv (wr := [zO 7 xa [.ref nw, .ref na, .int ky], zA t 4 na 7 (fun j => some (qq j 0))] ++ wNs t qq nw no mk [(2, (st 2)), (3, (st 3)), (4, (st 4)), (5, (st 5)), (6, (st 6)), (0, ((xs mk 0 ((st 0)).1 ((st 0)).2.1).1, (xs mk 0 ((st 0)).1 ((st 0)).2.1).2.1, pr_0, bl_0, le_0, gr_0, sp_0))]) (wc := wN t (qq 1) nw (no 1) 1 mk (st 1) ++ [zO 2 nw [.ref rw, .int (nI (min 300 (z + (xs mk 0 ((st 0)).1 ((st 0)).2.1).2.2))), .int x_0, .int y_0, .int 0], zA t 3 rw 300 g_0]) (xs_V (As := []) (rest := []) Z (C_D_passTime l D t (qq 1) nw (no 1) 1 ((st 1)).1 ((st 1)).2.1 (hok 1 (by decide)).1 (Nat.le_trans (hok 1 (by decide)).2.1 (by decide)) ((st 1)).2.2.1 ((st 1)).2.2.2.1 ((st 1)).2.2.2.2.1 ((st 1)).2.2.2.2.2.1 ((st 1)).2.2.2.2.2.2 mk (hok 1 (by decide)).2.2 rw (min 300 (z + (xs mk 0 ((st 0)).1 ((st 0)).2.1).2.2)) (by omega) x_0 y_0 g_0 H.size) m_D_passTime k_348 k_349 k_350 rfl rfl ⟨Nat.le_of_ble_eq_true rfl, Nat.le_of_ble_eq_true rfl⟩ (va_recv hK.2 hPc (ci := 3) (q0 := 0) rfl rfl) (xe_pre hK hPc hDc) rfl hl.1 rfl (Nat.le_of_ble_eq_true rfl) d_Q_tick_42 ⟨show 98 * turn + 14 + 14 ≤ 4900 by omega, show 784 * turn + 112 + 112 ≤ 39200 by omega⟩) hP hD hS hA (fun u_ H locs hw hP hD hS => ?_)
      obtain ⟨r_, pr_1, bl_1, le_1, gr_1, sp_1, x_1, y_1, g_1⟩ := u_
      obtain ⟨e_, hg_1⟩ := hw
      dsimp only at e_ hg_1
      subst e_
      have hP : va_P D vwCl (([zO 7 xa [.ref nw, .ref na, .int ky], zA t 4 na 7 (fun j => some (qq j 0))] ++ wNs t qq nw no mk [(2, (st 2)), (3, (st 3)), (4, (st 4)), (5, (st 5)), (6, (st 6)), (0, ((xs mk 0 ((st 0)).1 ((st 0)).2.1).1, (xs mk 0 ((st 0)).1 ((st 0)).2.1).2.1, pr_0, bl_0, le_0, gr_0, sp_0))]) ++ (wN t (qq 1) nw (no 1) 1 mk ((xs mk 1 ((st 1)).1 ((st 1)).2.1).1, (xs mk 1 ((st 1)).1 ((st 1)).2.1).2.1, pr_1, bl_1, le_1, gr_1, sp_1) ++ [zO 2 nw [.ref rw, .int (nI (min 300 (min 300 (z + (xs mk 0 ((st 0)).1 ((st 0)).2.1).2.2) + (xs mk 1 ((st 1)).1 ((st 1)).2.1).2.2))), .int x_1, .int y_1, .int 0], zA t 3 rw 300 g_1])) H := hP
      have hD : va_D A (([zO 7 xa [.ref nw, .ref na, .int ky], zA t 4 na 7 (fun j => some (qq j 0))] ++ wNs t qq nw no mk [(2, (st 2)), (3, (st 3)), (4, (st 4)), (5, (st 5)), (6, (st 6)), (0, ((xs mk 0 ((st 0)).1 ((st 0)).2.1).1, (xs mk 0 ((st 0)).1 ((st 0)).2.1).2.1, pr_0, bl_0, le_0, gr_0, sp_0))]) ++ (wN t (qq 1) nw (no 1) 1 mk ((xs mk 1 ((st 1)).1 ((st 1)).2.1).1, (xs mk 1 ((st 1)).1 ((st 1)).2.1).2.1, pr_1, bl_1, le_1, gr_1, sp_1) ++ [zO 2 nw [.ref rw, .int (nI (min 300 (min 300 (z + (xs mk 0 ((st 0)).1 ((st 0)).2.1).2.2) + (xs mk 1 ((st 1)).1 ((st 1)).2.1).2.2))), .int x_1, .int y_1, .int 0], zA t 3 rw 300 g_1])) := hD
      have hP := xd_P hP (fun q h => (xk_p2 [zO 7 xa [.ref nw, .ref na, .int ky], zA t 4 na 7 (fun j => some (qq j 0))] [zO 2 nw [.ref rw, .int (nI (min 300 (min 300 (z + (xs mk 0 ((st 0)).1 ((st 0)).2.1).2.2) + (xs mk 1 ((st 1)).1 ((st 1)).2.1).2.2))), .int x_1, .int y_1, .int 0], zA t 3 rw 300 g_1] (wN t (qq 1) nw (no 1) 1 mk ((xs mk 1 ((st 1)).1 ((st 1)).2.1).1, (xs mk 1 ((st 1)).1 ((st 1)).2.1).2.1, pr_1, bl_1, le_1, gr_1, sp_1)) (wNs t qq nw no mk [(2, (st 2)), (3, (st 3)), (4, (st 4)), (5, (st 5)), (6, (st 6)), (0, ((xs mk 0 ((st 0)).1 ((st 0)).2.1).1, (xs mk 0 ((st 0)).1 ((st 0)).2.1).2.1, pr_0, bl_0, le_0, gr_0, sp_0))])).mem_iff.mpr h)
      have hD := xd_perm hD (xk_p2 [zO 7 xa [.ref nw, .ref na, .int ky], zA t 4 na 7 (fun j => some (qq j 0))] [zO 2 nw [.ref rw, .int (nI (min 300 (min 300 (z + (xs mk 0 ((st 0)).1 ((st 0)).2.1).2.2) + (xs mk 1 ((st 1)).1 ((st 1)).2.1).2.2))), .int x_1, .int y_1, .int 0], zA t 3 rw 300 g_1] (wN t (qq 1) nw (no 1) 1 mk ((xs mk 1 ((st 1)).1 ((st 1)).2.1).1, (xs mk 1 ((st 1)).1 ((st 1)).2.1).2.1, pr_1, bl_1, le_1, gr_1, sp_1)) (wNs t qq nw no mk [(2, (st 2)), (3, (st 3)), (4, (st 4)), (5, (st 5)), (6, (st 6)), (0, ((xs mk 0 ((st 0)).1 ((st 0)).2.1).1, (xs mk 0 ((st 0)).1 ((st 0)).2.1).2.1, pr_0, bl_0, le_0, gr_0, sp_0))]))
      have hP : va_P D vwCl (([zO 7 xa [.ref nw, .ref na, .int ky], zA t 4 na 7 (fun j => some (qq j 0))] ++ [zO 2 nw [.ref rw, .int (nI (min 300 (min 300 (z + (xs mk 0 ((st 0)).1 ((st 0)).2.1).2.2) + (xs mk 1 ((st 1)).1 ((st 1)).2.1).2.2))), .int x_1, .int y_1, .int 0], zA t 3 rw 300 g_1]) ++ wNs t qq nw no mk [(2, (st 2)), (3, (st 3)), (4, (st 4)), (5, (st 5)), (6, (st 6)), (0, ((xs mk 0 ((st 0)).1 ((st 0)).2.1).1, (xs mk 0 ((st 0)).1 ((st 0)).2.1).2.1, pr_0, bl_0, le_0, gr_0, sp_0)), (1, ((xs mk 1 ((st 1)).1 ((st 1)).2.1).1, (xs mk 1 ((st 1)).1 ((st 1)).2.1).2.1, pr_1, bl_1, le_1, gr_1, sp_1))]) H := by rw [show wNs t qq nw no mk [(2, (st 2)), (3, (st 3)), (4, (st 4)), (5, (st 5)), (6, (st 6)), (0, ((xs mk 0 ((st 0)).1 ((st 0)).2.1).1, (xs mk 0 ((st 0)).1 ((st 0)).2.1).2.1, pr_0, bl_0, le_0, gr_0, sp_0)), (1, ((xs mk 1 ((st 1)).1 ((st 1)).2.1).1, (xs mk 1 ((st 1)).1 ((st 1)).2.1).2.1, pr_1, bl_1, le_1, gr_1, sp_1))] = wNs t qq nw no mk [(2, (st 2)), (3, (st 3)), (4, (st 4)), (5, (st 5)), (6, (st 6)), (0, ((xs mk 0 ((st 0)).1 ((st 0)).2.1).1, (xs mk 0 ((st 0)).1 ((st 0)).2.1).2.1, pr_0, bl_0, le_0, gr_0, sp_0))] ++ wN t (qq 1) nw (no 1) 1 mk ((xs mk 1 ((st 1)).1 ((st 1)).2.1).1, (xs mk 1 ((st 1)).1 ((st 1)).2.1).2.1, pr_1, bl_1, le_1, gr_1, sp_1) from wNs_snoc _ _ _ _ _ [(2, (st 2)), (3, (st 3)), (4, (st 4)), (5, (st 5)), (6, (st 6)), (0, ((xs mk 0 ((st 0)).1 ((st 0)).2.1).1, (xs mk 0 ((st 0)).1 ((st 0)).2.1).2.1, pr_0, bl_0, le_0, gr_0, sp_0))] _]; exact hP
      have hD : va_D A (([zO 7 xa [.ref nw, .ref na, .int ky], zA t 4 na 7 (fun j => some (qq j 0))] ++ [zO 2 nw [.ref rw, .int (nI (min 300 (min 300 (z + (xs mk 0 ((st 0)).1 ((st 0)).2.1).2.2) + (xs mk 1 ((st 1)).1 ((st 1)).2.1).2.2))), .int x_1, .int y_1, .int 0], zA t 3 rw 300 g_1]) ++ wNs t qq nw no mk [(2, (st 2)), (3, (st 3)), (4, (st 4)), (5, (st 5)), (6, (st 6)), (0, ((xs mk 0 ((st 0)).1 ((st 0)).2.1).1, (xs mk 0 ((st 0)).1 ((st 0)).2.1).2.1, pr_0, bl_0, le_0, gr_0, sp_0)), (1, ((xs mk 1 ((st 1)).1 ((st 1)).2.1).1, (xs mk 1 ((st 1)).1 ((st 1)).2.1).2.1, pr_1, bl_1, le_1, gr_1, sp_1))]) := by rw [show wNs t qq nw no mk [(2, (st 2)), (3, (st 3)), (4, (st 4)), (5, (st 5)), (6, (st 6)), (0, ((xs mk 0 ((st 0)).1 ((st 0)).2.1).1, (xs mk 0 ((st 0)).1 ((st 0)).2.1).2.1, pr_0, bl_0, le_0, gr_0, sp_0)), (1, ((xs mk 1 ((st 1)).1 ((st 1)).2.1).1, (xs mk 1 ((st 1)).1 ((st 1)).2.1).2.1, pr_1, bl_1, le_1, gr_1, sp_1))] = wNs t qq nw no mk [(2, (st 2)), (3, (st 3)), (4, (st 4)), (5, (st 5)), (6, (st 6)), (0, ((xs mk 0 ((st 0)).1 ((st 0)).2.1).1, (xs mk 0 ((st 0)).1 ((st 0)).2.1).2.1, pr_0, bl_0, le_0, gr_0, sp_0))] ++ wN t (qq 1) nw (no 1) 1 mk ((xs mk 1 ((st 1)).1 ((st 1)).2.1).1, (xs mk 1 ((st 1)).1 ((st 1)).2.1).2.1, pr_1, bl_1, le_1, gr_1, sp_1) from wNs_snoc _ _ _ _ _ [(2, (st 2)), (3, (st 3)), (4, (st 4)), (5, (st 5)), (6, (st 6)), (0, ((xs mk 0 ((st 0)).1 ((st 0)).2.1).1, (xs mk 0 ((st 0)).1 ((st 0)).2.1).2.1, pr_0, bl_0, le_0, gr_0, sp_0))] _]; exact hD
      refine lv_iinc (v := 2) (lv' := [(3, .int 2), (2, .int (nI turn)), (0, .ref xa), (1, .int (nI N))]) hx hb d_Q_tick_45 hl (k := 0) rfl rfl (by decide) rfl (fun ls hl => ?_)
      refine lv_goto (tgt := 30) hx hb d_Q_tick_48 (by decide) ?_
      refine lv_iload_n hx hb d_Q_tick_30 rfl (lv_at hl 0 rfl) ?_
      refine lv_bipush (v := 7) hx hb d_Q_tick_31 (by decide) ?_
      refine lv_icmp_ge (tgt := 51) hx hb d_Q_tick_33 (by decide) (fun c_7 => absurd c_7 (by decide)) (fun _ => ?_)
      refine lv_aload_n hx hb d_Q_tick_36 rfl (lv_at hl 2 rfl) ?_
      refine va_get (ci := 7) (C := "QuorumStore") (T := TX7) (N := 3) hx hb hts inX7 hown hK.2 hP 0 rfl rfl 1 (by decide) (hts _ k_256) (fun _ h9 => h9) rfl d_Q_tick_37 ?_
      refine lv_iload_n hx hb d_Q_tick_40 rfl (lv_at hl 0 rfl) ?_
      refine va_aldq hx hb hK.2 hP 1 4 rfl rfl (by unfold vp_in; decide) d_Q_tick_41 ?_
      have hP := xd_P hP (fun q h => (xk_p1 [zO 7 xa [.ref nw, .ref na, .int ky], zA t 4 na 7 (fun j => some (qq j 0))] [zO 2 nw [.ref rw, .int (nI (min 300 (min 300 (z + (xs mk 0 ((st 0)).1 ((st 0)).2.1).2.2) + (xs mk 1 ((st 1)).1 ((st 1)).2.1).2.2))), .int x_1, .int y_1, .int 0], zA t 3 rw 300 g_1] (wN t (qq 2) nw (no 2) 2 mk (st 2)) (wNs t qq nw no mk [(3, (st 3)), (4, (st 4)), (5, (st 5)), (6, (st 6)), (0, ((xs mk 0 ((st 0)).1 ((st 0)).2.1).1, (xs mk 0 ((st 0)).1 ((st 0)).2.1).2.1, pr_0, bl_0, le_0, gr_0, sp_0)), (1, ((xs mk 1 ((st 1)).1 ((st 1)).2.1).1, (xs mk 1 ((st 1)).1 ((st 1)).2.1).2.1, pr_1, bl_1, le_1, gr_1, sp_1))])).mem_iff.mpr h)
      have hD := xd_perm hD (xk_p1 [zO 7 xa [.ref nw, .ref na, .int ky], zA t 4 na 7 (fun j => some (qq j 0))] [zO 2 nw [.ref rw, .int (nI (min 300 (min 300 (z + (xs mk 0 ((st 0)).1 ((st 0)).2.1).2.2) + (xs mk 1 ((st 1)).1 ((st 1)).2.1).2.2))), .int x_1, .int y_1, .int 0], zA t 3 rw 300 g_1] (wN t (qq 2) nw (no 2) 2 mk (st 2)) (wNs t qq nw no mk [(3, (st 3)), (4, (st 4)), (5, (st 5)), (6, (st 6)), (0, ((xs mk 0 ((st 0)).1 ((st 0)).2.1).1, (xs mk 0 ((st 0)).1 ((st 0)).2.1).2.1, pr_0, bl_0, le_0, gr_0, sp_0)), (1, ((xs mk 1 ((st 1)).1 ((st 1)).2.1).1, (xs mk 1 ((st 1)).1 ((st 1)).2.1).2.1, pr_1, bl_1, le_1, gr_1, sp_1))]))
      have hPc : va_P D vwCl (wN t (qq 2) nw (no 2) 2 mk (st 2) ++ [zO 2 nw [.ref rw, .int (nI (min 300 (min 300 (z + (xs mk 0 ((st 0)).1 ((st 0)).2.1).2.2) + (xs mk 1 ((st 1)).1 ((st 1)).2.1).2.2))), .int x_1, .int y_1, .int 0], zA t 3 rw 300 g_1]) H := xd_P hP (fun q h => List.mem_append_right _ h)
      have hDc : va_D A (wN t (qq 2) nw (no 2) 2 mk (st 2) ++ [zO 2 nw [.ref rw, .int (nI (min 300 (min 300 (z + (xs mk 0 ((st 0)).1 ((st 0)).2.1).2.2) + (xs mk 1 ((st 1)).1 ((st 1)).2.1).2.2))), .int x_1, .int y_1, .int 0], zA t 3 rw 300 g_1]) := xd_R hD
      refine xe_sfxv (wr := [zO 7 xa [.ref nw, .ref na, .int ky], zA t 4 na 7 (fun j => some (qq j 0))] ++ wNs t qq nw no mk [(3, (st 3)), (4, (st 4)), (5, (st 5)), (6, (st 6)), (0, ((xs mk 0 ((st 0)).1 ((st 0)).2.1).1, (xs mk 0 ((st 0)).1 ((st 0)).2.1).2.1, pr_0, bl_0, le_0, gr_0, sp_0)), (1, ((xs mk 1 ((st 1)).1 ((st 1)).2.1).1, (xs mk 1 ((st 1)).1 ((st 1)).2.1).2.1, pr_1, bl_1, le_1, gr_1, sp_1))]) (wc := wN t (qq 2) nw (no 2) 2 mk (st 2) ++ [zO 2 nw [.ref rw, .int (nI (min 300 (min 300 (z + (xs mk 0 ((st 0)).1 ((st 0)).2.1).2.2) + (xs mk 1 ((st 1)).1 ((st 1)).2.1).2.2))), .int x_1, .int y_1, .int 0], zA t 3 rw 300 g_1]) (xs_V (As := []) (rest := []) Z (C_D_passTime l D t (qq 2) nw (no 2) 2 ((st 2)).1 ((st 2)).2.1 (hok 2 (by decide)).1 (Nat.le_trans (hok 2 (by decide)).2.1 (by decide)) ((st 2)).2.2.1 ((st 2)).2.2.2.1 ((st 2)).2.2.2.2.1 ((st 2)).2.2.2.2.2.1 ((st 2)).2.2.2.2.2.2 mk (hok 2 (by decide)).2.2 rw (min 300 (min 300 (z + (xs mk 0 ((st 0)).1 ((st 0)).2.1).2.2) + (xs mk 1 ((st 1)).1 ((st 1)).2.1).2.2)) (by omega) x_1 y_1 g_1 H.size) m_D_passTime k_348 k_349 k_350 rfl rfl ⟨Nat.le_of_ble_eq_true rfl, Nat.le_of_ble_eq_true rfl⟩ (va_recv hK.2 hPc (ci := 3) (q0 := 0) rfl rfl) (xe_pre hK hPc hDc) rfl hl.1 rfl (Nat.le_of_ble_eq_true rfl) d_Q_tick_42 ⟨show 98 * turn + 14 + 14 + 14 ≤ 4900 by omega, show 784 * turn + 112 + 112 + 112 ≤ 39200 by omega⟩) hP hD hS hA (fun u_ H locs hw hP hD hS => ?_)
      obtain ⟨r_, pr_2, bl_2, le_2, gr_2, sp_2, x_2, y_2, g_2⟩ := u_
      obtain ⟨e_, hg_2⟩ := hw
      dsimp only at e_ hg_2
      subst e_
      have hP : va_P D vwCl (([zO 7 xa [.ref nw, .ref na, .int ky], zA t 4 na 7 (fun j => some (qq j 0))] ++ wNs t qq nw no mk [(3, (st 3)), (4, (st 4)), (5, (st 5)), (6, (st 6)), (0, ((xs mk 0 ((st 0)).1 ((st 0)).2.1).1, (xs mk 0 ((st 0)).1 ((st 0)).2.1).2.1, pr_0, bl_0, le_0, gr_0, sp_0)), (1, ((xs mk 1 ((st 1)).1 ((st 1)).2.1).1, (xs mk 1 ((st 1)).1 ((st 1)).2.1).2.1, pr_1, bl_1, le_1, gr_1, sp_1))]) ++ (wN t (qq 2) nw (no 2) 2 mk ((xs mk 2 ((st 2)).1 ((st 2)).2.1).1, (xs mk 2 ((st 2)).1 ((st 2)).2.1).2.1, pr_2, bl_2, le_2, gr_2, sp_2) ++ [zO 2 nw [.ref rw, .int (nI (min 300 (min 300 (min 300 (z + (xs mk 0 ((st 0)).1 ((st 0)).2.1).2.2) + (xs mk 1 ((st 1)).1 ((st 1)).2.1).2.2) + (xs mk 2 ((st 2)).1 ((st 2)).2.1).2.2))), .int x_2, .int y_2, .int 0], zA t 3 rw 300 g_2])) H := hP
      have hD : va_D A (([zO 7 xa [.ref nw, .ref na, .int ky], zA t 4 na 7 (fun j => some (qq j 0))] ++ wNs t qq nw no mk [(3, (st 3)), (4, (st 4)), (5, (st 5)), (6, (st 6)), (0, ((xs mk 0 ((st 0)).1 ((st 0)).2.1).1, (xs mk 0 ((st 0)).1 ((st 0)).2.1).2.1, pr_0, bl_0, le_0, gr_0, sp_0)), (1, ((xs mk 1 ((st 1)).1 ((st 1)).2.1).1, (xs mk 1 ((st 1)).1 ((st 1)).2.1).2.1, pr_1, bl_1, le_1, gr_1, sp_1))]) ++ (wN t (qq 2) nw (no 2) 2 mk ((xs mk 2 ((st 2)).1 ((st 2)).2.1).1, (xs mk 2 ((st 2)).1 ((st 2)).2.1).2.1, pr_2, bl_2, le_2, gr_2, sp_2) ++ [zO 2 nw [.ref rw, .int (nI (min 300 (min 300 (min 300 (z + (xs mk 0 ((st 0)).1 ((st 0)).2.1).2.2) + (xs mk 1 ((st 1)).1 ((st 1)).2.1).2.2) + (xs mk 2 ((st 2)).1 ((st 2)).2.1).2.2))), .int x_2, .int y_2, .int 0], zA t 3 rw 300 g_2])) := hD
      have hP := xd_P hP (fun q h => (xk_p2 [zO 7 xa [.ref nw, .ref na, .int ky], zA t 4 na 7 (fun j => some (qq j 0))] [zO 2 nw [.ref rw, .int (nI (min 300 (min 300 (min 300 (z + (xs mk 0 ((st 0)).1 ((st 0)).2.1).2.2) + (xs mk 1 ((st 1)).1 ((st 1)).2.1).2.2) + (xs mk 2 ((st 2)).1 ((st 2)).2.1).2.2))), .int x_2, .int y_2, .int 0], zA t 3 rw 300 g_2] (wN t (qq 2) nw (no 2) 2 mk ((xs mk 2 ((st 2)).1 ((st 2)).2.1).1, (xs mk 2 ((st 2)).1 ((st 2)).2.1).2.1, pr_2, bl_2, le_2, gr_2, sp_2)) (wNs t qq nw no mk [(3, (st 3)), (4, (st 4)), (5, (st 5)), (6, (st 6)), (0, ((xs mk 0 ((st 0)).1 ((st 0)).2.1).1, (xs mk 0 ((st 0)).1 ((st 0)).2.1).2.1, pr_0, bl_0, le_0, gr_0, sp_0)), (1, ((xs mk 1 ((st 1)).1 ((st 1)).2.1).1, (xs mk 1 ((st 1)).1 ((st 1)).2.1).2.1, pr_1, bl_1, le_1, gr_1, sp_1))])).mem_iff.mpr h)
      have hD := xd_perm hD (xk_p2 [zO 7 xa [.ref nw, .ref na, .int ky], zA t 4 na 7 (fun j => some (qq j 0))] [zO 2 nw [.ref rw, .int (nI (min 300 (min 300 (min 300 (z + (xs mk 0 ((st 0)).1 ((st 0)).2.1).2.2) + (xs mk 1 ((st 1)).1 ((st 1)).2.1).2.2) + (xs mk 2 ((st 2)).1 ((st 2)).2.1).2.2))), .int x_2, .int y_2, .int 0], zA t 3 rw 300 g_2] (wN t (qq 2) nw (no 2) 2 mk ((xs mk 2 ((st 2)).1 ((st 2)).2.1).1, (xs mk 2 ((st 2)).1 ((st 2)).2.1).2.1, pr_2, bl_2, le_2, gr_2, sp_2)) (wNs t qq nw no mk [(3, (st 3)), (4, (st 4)), (5, (st 5)), (6, (st 6)), (0, ((xs mk 0 ((st 0)).1 ((st 0)).2.1).1, (xs mk 0 ((st 0)).1 ((st 0)).2.1).2.1, pr_0, bl_0, le_0, gr_0, sp_0)), (1, ((xs mk 1 ((st 1)).1 ((st 1)).2.1).1, (xs mk 1 ((st 1)).1 ((st 1)).2.1).2.1, pr_1, bl_1, le_1, gr_1, sp_1))]))
      have hP : va_P D vwCl (([zO 7 xa [.ref nw, .ref na, .int ky], zA t 4 na 7 (fun j => some (qq j 0))] ++ [zO 2 nw [.ref rw, .int (nI (min 300 (min 300 (min 300 (z + (xs mk 0 ((st 0)).1 ((st 0)).2.1).2.2) + (xs mk 1 ((st 1)).1 ((st 1)).2.1).2.2) + (xs mk 2 ((st 2)).1 ((st 2)).2.1).2.2))), .int x_2, .int y_2, .int 0], zA t 3 rw 300 g_2]) ++ wNs t qq nw no mk [(3, (st 3)), (4, (st 4)), (5, (st 5)), (6, (st 6)), (0, ((xs mk 0 ((st 0)).1 ((st 0)).2.1).1, (xs mk 0 ((st 0)).1 ((st 0)).2.1).2.1, pr_0, bl_0, le_0, gr_0, sp_0)), (1, ((xs mk 1 ((st 1)).1 ((st 1)).2.1).1, (xs mk 1 ((st 1)).1 ((st 1)).2.1).2.1, pr_1, bl_1, le_1, gr_1, sp_1)), (2, ((xs mk 2 ((st 2)).1 ((st 2)).2.1).1, (xs mk 2 ((st 2)).1 ((st 2)).2.1).2.1, pr_2, bl_2, le_2, gr_2, sp_2))]) H := by rw [show wNs t qq nw no mk [(3, (st 3)), (4, (st 4)), (5, (st 5)), (6, (st 6)), (0, ((xs mk 0 ((st 0)).1 ((st 0)).2.1).1, (xs mk 0 ((st 0)).1 ((st 0)).2.1).2.1, pr_0, bl_0, le_0, gr_0, sp_0)), (1, ((xs mk 1 ((st 1)).1 ((st 1)).2.1).1, (xs mk 1 ((st 1)).1 ((st 1)).2.1).2.1, pr_1, bl_1, le_1, gr_1, sp_1)), (2, ((xs mk 2 ((st 2)).1 ((st 2)).2.1).1, (xs mk 2 ((st 2)).1 ((st 2)).2.1).2.1, pr_2, bl_2, le_2, gr_2, sp_2))] = wNs t qq nw no mk [(3, (st 3)), (4, (st 4)), (5, (st 5)), (6, (st 6)), (0, ((xs mk 0 ((st 0)).1 ((st 0)).2.1).1, (xs mk 0 ((st 0)).1 ((st 0)).2.1).2.1, pr_0, bl_0, le_0, gr_0, sp_0)), (1, ((xs mk 1 ((st 1)).1 ((st 1)).2.1).1, (xs mk 1 ((st 1)).1 ((st 1)).2.1).2.1, pr_1, bl_1, le_1, gr_1, sp_1))] ++ wN t (qq 2) nw (no 2) 2 mk ((xs mk 2 ((st 2)).1 ((st 2)).2.1).1, (xs mk 2 ((st 2)).1 ((st 2)).2.1).2.1, pr_2, bl_2, le_2, gr_2, sp_2) from wNs_snoc _ _ _ _ _ [(3, (st 3)), (4, (st 4)), (5, (st 5)), (6, (st 6)), (0, ((xs mk 0 ((st 0)).1 ((st 0)).2.1).1, (xs mk 0 ((st 0)).1 ((st 0)).2.1).2.1, pr_0, bl_0, le_0, gr_0, sp_0)), (1, ((xs mk 1 ((st 1)).1 ((st 1)).2.1).1, (xs mk 1 ((st 1)).1 ((st 1)).2.1).2.1, pr_1, bl_1, le_1, gr_1, sp_1))] _]; exact hP
      have hD : va_D A (([zO 7 xa [.ref nw, .ref na, .int ky], zA t 4 na 7 (fun j => some (qq j 0))] ++ [zO 2 nw [.ref rw, .int (nI (min 300 (min 300 (min 300 (z + (xs mk 0 ((st 0)).1 ((st 0)).2.1).2.2) + (xs mk 1 ((st 1)).1 ((st 1)).2.1).2.2) + (xs mk 2 ((st 2)).1 ((st 2)).2.1).2.2))), .int x_2, .int y_2, .int 0], zA t 3 rw 300 g_2]) ++ wNs t qq nw no mk [(3, (st 3)), (4, (st 4)), (5, (st 5)), (6, (st 6)), (0, ((xs mk 0 ((st 0)).1 ((st 0)).2.1).1, (xs mk 0 ((st 0)).1 ((st 0)).2.1).2.1, pr_0, bl_0, le_0, gr_0, sp_0)), (1, ((xs mk 1 ((st 1)).1 ((st 1)).2.1).1, (xs mk 1 ((st 1)).1 ((st 1)).2.1).2.1, pr_1, bl_1, le_1, gr_1, sp_1)), (2, ((xs mk 2 ((st 2)).1 ((st 2)).2.1).1, (xs mk 2 ((st 2)).1 ((st 2)).2.1).2.1, pr_2, bl_2, le_2, gr_2, sp_2))]) := by rw [show wNs t qq nw no mk [(3, (st 3)), (4, (st 4)), (5, (st 5)), (6, (st 6)), (0, ((xs mk 0 ((st 0)).1 ((st 0)).2.1).1, (xs mk 0 ((st 0)).1 ((st 0)).2.1).2.1, pr_0, bl_0, le_0, gr_0, sp_0)), (1, ((xs mk 1 ((st 1)).1 ((st 1)).2.1).1, (xs mk 1 ((st 1)).1 ((st 1)).2.1).2.1, pr_1, bl_1, le_1, gr_1, sp_1)), (2, ((xs mk 2 ((st 2)).1 ((st 2)).2.1).1, (xs mk 2 ((st 2)).1 ((st 2)).2.1).2.1, pr_2, bl_2, le_2, gr_2, sp_2))] = wNs t qq nw no mk [(3, (st 3)), (4, (st 4)), (5, (st 5)), (6, (st 6)), (0, ((xs mk 0 ((st 0)).1 ((st 0)).2.1).1, (xs mk 0 ((st 0)).1 ((st 0)).2.1).2.1, pr_0, bl_0, le_0, gr_0, sp_0)), (1, ((xs mk 1 ((st 1)).1 ((st 1)).2.1).1, (xs mk 1 ((st 1)).1 ((st 1)).2.1).2.1, pr_1, bl_1, le_1, gr_1, sp_1))] ++ wN t (qq 2) nw (no 2) 2 mk ((xs mk 2 ((st 2)).1 ((st 2)).2.1).1, (xs mk 2 ((st 2)).1 ((st 2)).2.1).2.1, pr_2, bl_2, le_2, gr_2, sp_2) from wNs_snoc _ _ _ _ _ [(3, (st 3)), (4, (st 4)), (5, (st 5)), (6, (st 6)), (0, ((xs mk 0 ((st 0)).1 ((st 0)).2.1).1, (xs mk 0 ((st 0)).1 ((st 0)).2.1).2.1, pr_0, bl_0, le_0, gr_0, sp_0)), (1, ((xs mk 1 ((st 1)).1 ((st 1)).2.1).1, (xs mk 1 ((st 1)).1 ((st 1)).2.1).2.1, pr_1, bl_1, le_1, gr_1, sp_1))] _]; exact hD
      refine lv_iinc (v := 3) (lv' := [(3, .int 3), (2, .int (nI turn)), (0, .ref xa), (1, .int (nI N))]) hx hb d_Q_tick_45 hl (k := 0) rfl rfl (by decide) rfl (fun ls hl => ?_)
      refine lv_goto (tgt := 30) hx hb d_Q_tick_48 (by decide) ?_
      refine lv_iload_n hx hb d_Q_tick_30 rfl (lv_at hl 0 rfl) ?_
      refine lv_bipush (v := 7) hx hb d_Q_tick_31 (by decide) ?_
      refine lv_icmp_ge (tgt := 51) hx hb d_Q_tick_33 (by decide) (fun c_8 => absurd c_8 (by decide)) (fun _ => ?_)
      refine lv_aload_n hx hb d_Q_tick_36 rfl (lv_at hl 2 rfl) ?_
      refine va_get (ci := 7) (C := "QuorumStore") (T := TX7) (N := 3) hx hb hts inX7 hown hK.2 hP 0 rfl rfl 1 (by decide) (hts _ k_256) (fun _ h9 => h9) rfl d_Q_tick_37 ?_
      refine lv_iload_n hx hb d_Q_tick_40 rfl (lv_at hl 0 rfl) ?_
      refine va_aldq hx hb hK.2 hP 1 4 rfl rfl (by unfold vp_in; decide) d_Q_tick_41 ?_
      have hP := xd_P hP (fun q h => (xk_p1 [zO 7 xa [.ref nw, .ref na, .int ky], zA t 4 na 7 (fun j => some (qq j 0))] [zO 2 nw [.ref rw, .int (nI (min 300 (min 300 (min 300 (z + (xs mk 0 ((st 0)).1 ((st 0)).2.1).2.2) + (xs mk 1 ((st 1)).1 ((st 1)).2.1).2.2) + (xs mk 2 ((st 2)).1 ((st 2)).2.1).2.2))), .int x_2, .int y_2, .int 0], zA t 3 rw 300 g_2] (wN t (qq 3) nw (no 3) 3 mk (st 3)) (wNs t qq nw no mk [(4, (st 4)), (5, (st 5)), (6, (st 6)), (0, ((xs mk 0 ((st 0)).1 ((st 0)).2.1).1, (xs mk 0 ((st 0)).1 ((st 0)).2.1).2.1, pr_0, bl_0, le_0, gr_0, sp_0)), (1, ((xs mk 1 ((st 1)).1 ((st 1)).2.1).1, (xs mk 1 ((st 1)).1 ((st 1)).2.1).2.1, pr_1, bl_1, le_1, gr_1, sp_1)), (2, ((xs mk 2 ((st 2)).1 ((st 2)).2.1).1, (xs mk 2 ((st 2)).1 ((st 2)).2.1).2.1, pr_2, bl_2, le_2, gr_2, sp_2))])).mem_iff.mpr h)
      have hD := xd_perm hD (xk_p1 [zO 7 xa [.ref nw, .ref na, .int ky], zA t 4 na 7 (fun j => some (qq j 0))] [zO 2 nw [.ref rw, .int (nI (min 300 (min 300 (min 300 (z + (xs mk 0 ((st 0)).1 ((st 0)).2.1).2.2) + (xs mk 1 ((st 1)).1 ((st 1)).2.1).2.2) + (xs mk 2 ((st 2)).1 ((st 2)).2.1).2.2))), .int x_2, .int y_2, .int 0], zA t 3 rw 300 g_2] (wN t (qq 3) nw (no 3) 3 mk (st 3)) (wNs t qq nw no mk [(4, (st 4)), (5, (st 5)), (6, (st 6)), (0, ((xs mk 0 ((st 0)).1 ((st 0)).2.1).1, (xs mk 0 ((st 0)).1 ((st 0)).2.1).2.1, pr_0, bl_0, le_0, gr_0, sp_0)), (1, ((xs mk 1 ((st 1)).1 ((st 1)).2.1).1, (xs mk 1 ((st 1)).1 ((st 1)).2.1).2.1, pr_1, bl_1, le_1, gr_1, sp_1)), (2, ((xs mk 2 ((st 2)).1 ((st 2)).2.1).1, (xs mk 2 ((st 2)).1 ((st 2)).2.1).2.1, pr_2, bl_2, le_2, gr_2, sp_2))]))
      have hPc : va_P D vwCl (wN t (qq 3) nw (no 3) 3 mk (st 3) ++ [zO 2 nw [.ref rw, .int (nI (min 300 (min 300 (min 300 (z + (xs mk 0 ((st 0)).1 ((st 0)).2.1).2.2) + (xs mk 1 ((st 1)).1 ((st 1)).2.1).2.2) + (xs mk 2 ((st 2)).1 ((st 2)).2.1).2.2))), .int x_2, .int y_2, .int 0], zA t 3 rw 300 g_2]) H := xd_P hP (fun q h => List.mem_append_right _ h)
      have hDc : va_D A (wN t (qq 3) nw (no 3) 3 mk (st 3) ++ [zO 2 nw [.ref rw, .int (nI (min 300 (min 300 (min 300 (z + (xs mk 0 ((st 0)).1 ((st 0)).2.1).2.2) + (xs mk 1 ((st 1)).1 ((st 1)).2.1).2.2) + (xs mk 2 ((st 2)).1 ((st 2)).2.1).2.2))), .int x_2, .int y_2, .int 0], zA t 3 rw 300 g_2]) := xd_R hD
      refine xe_sfxv (wr := [zO 7 xa [.ref nw, .ref na, .int ky], zA t 4 na 7 (fun j => some (qq j 0))] ++ wNs t qq nw no mk [(4, (st 4)), (5, (st 5)), (6, (st 6)), (0, ((xs mk 0 ((st 0)).1 ((st 0)).2.1).1, (xs mk 0 ((st 0)).1 ((st 0)).2.1).2.1, pr_0, bl_0, le_0, gr_0, sp_0)), (1, ((xs mk 1 ((st 1)).1 ((st 1)).2.1).1, (xs mk 1 ((st 1)).1 ((st 1)).2.1).2.1, pr_1, bl_1, le_1, gr_1, sp_1)), (2, ((xs mk 2 ((st 2)).1 ((st 2)).2.1).1, (xs mk 2 ((st 2)).1 ((st 2)).2.1).2.1, pr_2, bl_2, le_2, gr_2, sp_2))]) (wc := wN t (qq 3) nw (no 3) 3 mk (st 3) ++ [zO 2 nw [.ref rw, .int (nI (min 300 (min 300 (min 300 (z + (xs mk 0 ((st 0)).1 ((st 0)).2.1).2.2) + (xs mk 1 ((st 1)).1 ((st 1)).2.1).2.2) + (xs mk 2 ((st 2)).1 ((st 2)).2.1).2.2))), .int x_2, .int y_2, .int 0], zA t 3 rw 300 g_2]) (xs_V (As := []) (rest := []) Z (C_D_passTime l D t (qq 3) nw (no 3) 3 ((st 3)).1 ((st 3)).2.1 (hok 3 (by decide)).1 (Nat.le_trans (hok 3 (by decide)).2.1 (by decide)) ((st 3)).2.2.1 ((st 3)).2.2.2.1 ((st 3)).2.2.2.2.1 ((st 3)).2.2.2.2.2.1 ((st 3)).2.2.2.2.2.2 mk (hok 3 (by decide)).2.2 rw (min 300 (min 300 (min 300 (z + (xs mk 0 ((st 0)).1 ((st 0)).2.1).2.2) + (xs mk 1 ((st 1)).1 ((st 1)).2.1).2.2) + (xs mk 2 ((st 2)).1 ((st 2)).2.1).2.2)) (by omega) x_2 y_2 g_2 H.size) m_D_passTime k_348 k_349 k_350 rfl rfl ⟨Nat.le_of_ble_eq_true rfl, Nat.le_of_ble_eq_true rfl⟩ (va_recv hK.2 hPc (ci := 3) (q0 := 0) rfl rfl) (xe_pre hK hPc hDc) rfl hl.1 rfl (Nat.le_of_ble_eq_true rfl) d_Q_tick_42 ⟨show 98 * turn + 14 + 14 + 14 + 14 ≤ 4900 by omega, show 784 * turn + 112 + 112 + 112 + 112 ≤ 39200 by omega⟩) hP hD hS hA (fun u_ H locs hw hP hD hS => ?_)
      obtain ⟨r_, pr_3, bl_3, le_3, gr_3, sp_3, x_3, y_3, g_3⟩ := u_
      obtain ⟨e_, hg_3⟩ := hw
      dsimp only at e_ hg_3
      subst e_
      have hP : va_P D vwCl (([zO 7 xa [.ref nw, .ref na, .int ky], zA t 4 na 7 (fun j => some (qq j 0))] ++ wNs t qq nw no mk [(4, (st 4)), (5, (st 5)), (6, (st 6)), (0, ((xs mk 0 ((st 0)).1 ((st 0)).2.1).1, (xs mk 0 ((st 0)).1 ((st 0)).2.1).2.1, pr_0, bl_0, le_0, gr_0, sp_0)), (1, ((xs mk 1 ((st 1)).1 ((st 1)).2.1).1, (xs mk 1 ((st 1)).1 ((st 1)).2.1).2.1, pr_1, bl_1, le_1, gr_1, sp_1)), (2, ((xs mk 2 ((st 2)).1 ((st 2)).2.1).1, (xs mk 2 ((st 2)).1 ((st 2)).2.1).2.1, pr_2, bl_2, le_2, gr_2, sp_2))]) ++ (wN t (qq 3) nw (no 3) 3 mk ((xs mk 3 ((st 3)).1 ((st 3)).2.1).1, (xs mk 3 ((st 3)).1 ((st 3)).2.1).2.1, pr_3, bl_3, le_3, gr_3, sp_3) ++ [zO 2 nw [.ref rw, .int (nI (min 300 (min 300 (min 300 (min 300 (z + (xs mk 0 ((st 0)).1 ((st 0)).2.1).2.2) + (xs mk 1 ((st 1)).1 ((st 1)).2.1).2.2) + (xs mk 2 ((st 2)).1 ((st 2)).2.1).2.2) + (xs mk 3 ((st 3)).1 ((st 3)).2.1).2.2))), .int x_3, .int y_3, .int 0], zA t 3 rw 300 g_3])) H := hP
      have hD : va_D A (([zO 7 xa [.ref nw, .ref na, .int ky], zA t 4 na 7 (fun j => some (qq j 0))] ++ wNs t qq nw no mk [(4, (st 4)), (5, (st 5)), (6, (st 6)), (0, ((xs mk 0 ((st 0)).1 ((st 0)).2.1).1, (xs mk 0 ((st 0)).1 ((st 0)).2.1).2.1, pr_0, bl_0, le_0, gr_0, sp_0)), (1, ((xs mk 1 ((st 1)).1 ((st 1)).2.1).1, (xs mk 1 ((st 1)).1 ((st 1)).2.1).2.1, pr_1, bl_1, le_1, gr_1, sp_1)), (2, ((xs mk 2 ((st 2)).1 ((st 2)).2.1).1, (xs mk 2 ((st 2)).1 ((st 2)).2.1).2.1, pr_2, bl_2, le_2, gr_2, sp_2))]) ++ (wN t (qq 3) nw (no 3) 3 mk ((xs mk 3 ((st 3)).1 ((st 3)).2.1).1, (xs mk 3 ((st 3)).1 ((st 3)).2.1).2.1, pr_3, bl_3, le_3, gr_3, sp_3) ++ [zO 2 nw [.ref rw, .int (nI (min 300 (min 300 (min 300 (min 300 (z + (xs mk 0 ((st 0)).1 ((st 0)).2.1).2.2) + (xs mk 1 ((st 1)).1 ((st 1)).2.1).2.2) + (xs mk 2 ((st 2)).1 ((st 2)).2.1).2.2) + (xs mk 3 ((st 3)).1 ((st 3)).2.1).2.2))), .int x_3, .int y_3, .int 0], zA t 3 rw 300 g_3])) := hD
      have hP := xd_P hP (fun q h => (xk_p2 [zO 7 xa [.ref nw, .ref na, .int ky], zA t 4 na 7 (fun j => some (qq j 0))] [zO 2 nw [.ref rw, .int (nI (min 300 (min 300 (min 300 (min 300 (z + (xs mk 0 ((st 0)).1 ((st 0)).2.1).2.2) + (xs mk 1 ((st 1)).1 ((st 1)).2.1).2.2) + (xs mk 2 ((st 2)).1 ((st 2)).2.1).2.2) + (xs mk 3 ((st 3)).1 ((st 3)).2.1).2.2))), .int x_3, .int y_3, .int 0], zA t 3 rw 300 g_3] (wN t (qq 3) nw (no 3) 3 mk ((xs mk 3 ((st 3)).1 ((st 3)).2.1).1, (xs mk 3 ((st 3)).1 ((st 3)).2.1).2.1, pr_3, bl_3, le_3, gr_3, sp_3)) (wNs t qq nw no mk [(4, (st 4)), (5, (st 5)), (6, (st 6)), (0, ((xs mk 0 ((st 0)).1 ((st 0)).2.1).1, (xs mk 0 ((st 0)).1 ((st 0)).2.1).2.1, pr_0, bl_0, le_0, gr_0, sp_0)), (1, ((xs mk 1 ((st 1)).1 ((st 1)).2.1).1, (xs mk 1 ((st 1)).1 ((st 1)).2.1).2.1, pr_1, bl_1, le_1, gr_1, sp_1)), (2, ((xs mk 2 ((st 2)).1 ((st 2)).2.1).1, (xs mk 2 ((st 2)).1 ((st 2)).2.1).2.1, pr_2, bl_2, le_2, gr_2, sp_2))])).mem_iff.mpr h)
      have hD := xd_perm hD (xk_p2 [zO 7 xa [.ref nw, .ref na, .int ky], zA t 4 na 7 (fun j => some (qq j 0))] [zO 2 nw [.ref rw, .int (nI (min 300 (min 300 (min 300 (min 300 (z + (xs mk 0 ((st 0)).1 ((st 0)).2.1).2.2) + (xs mk 1 ((st 1)).1 ((st 1)).2.1).2.2) + (xs mk 2 ((st 2)).1 ((st 2)).2.1).2.2) + (xs mk 3 ((st 3)).1 ((st 3)).2.1).2.2))), .int x_3, .int y_3, .int 0], zA t 3 rw 300 g_3] (wN t (qq 3) nw (no 3) 3 mk ((xs mk 3 ((st 3)).1 ((st 3)).2.1).1, (xs mk 3 ((st 3)).1 ((st 3)).2.1).2.1, pr_3, bl_3, le_3, gr_3, sp_3)) (wNs t qq nw no mk [(4, (st 4)), (5, (st 5)), (6, (st 6)), (0, ((xs mk 0 ((st 0)).1 ((st 0)).2.1).1, (xs mk 0 ((st 0)).1 ((st 0)).2.1).2.1, pr_0, bl_0, le_0, gr_0, sp_0)), (1, ((xs mk 1 ((st 1)).1 ((st 1)).2.1).1, (xs mk 1 ((st 1)).1 ((st 1)).2.1).2.1, pr_1, bl_1, le_1, gr_1, sp_1)), (2, ((xs mk 2 ((st 2)).1 ((st 2)).2.1).1, (xs mk 2 ((st 2)).1 ((st 2)).2.1).2.1, pr_2, bl_2, le_2, gr_2, sp_2))]))
      have hP : va_P D vwCl (([zO 7 xa [.ref nw, .ref na, .int ky], zA t 4 na 7 (fun j => some (qq j 0))] ++ [zO 2 nw [.ref rw, .int (nI (min 300 (min 300 (min 300 (min 300 (z + (xs mk 0 ((st 0)).1 ((st 0)).2.1).2.2) + (xs mk 1 ((st 1)).1 ((st 1)).2.1).2.2) + (xs mk 2 ((st 2)).1 ((st 2)).2.1).2.2) + (xs mk 3 ((st 3)).1 ((st 3)).2.1).2.2))), .int x_3, .int y_3, .int 0], zA t 3 rw 300 g_3]) ++ wNs t qq nw no mk [(4, (st 4)), (5, (st 5)), (6, (st 6)), (0, ((xs mk 0 ((st 0)).1 ((st 0)).2.1).1, (xs mk 0 ((st 0)).1 ((st 0)).2.1).2.1, pr_0, bl_0, le_0, gr_0, sp_0)), (1, ((xs mk 1 ((st 1)).1 ((st 1)).2.1).1, (xs mk 1 ((st 1)).1 ((st 1)).2.1).2.1, pr_1, bl_1, le_1, gr_1, sp_1)), (2, ((xs mk 2 ((st 2)).1 ((st 2)).2.1).1, (xs mk 2 ((st 2)).1 ((st 2)).2.1).2.1, pr_2, bl_2, le_2, gr_2, sp_2)), (3, ((xs mk 3 ((st 3)).1 ((st 3)).2.1).1, (xs mk 3 ((st 3)).1 ((st 3)).2.1).2.1, pr_3, bl_3, le_3, gr_3, sp_3))]) H := by rw [show wNs t qq nw no mk [(4, (st 4)), (5, (st 5)), (6, (st 6)), (0, ((xs mk 0 ((st 0)).1 ((st 0)).2.1).1, (xs mk 0 ((st 0)).1 ((st 0)).2.1).2.1, pr_0, bl_0, le_0, gr_0, sp_0)), (1, ((xs mk 1 ((st 1)).1 ((st 1)).2.1).1, (xs mk 1 ((st 1)).1 ((st 1)).2.1).2.1, pr_1, bl_1, le_1, gr_1, sp_1)), (2, ((xs mk 2 ((st 2)).1 ((st 2)).2.1).1, (xs mk 2 ((st 2)).1 ((st 2)).2.1).2.1, pr_2, bl_2, le_2, gr_2, sp_2)), (3, ((xs mk 3 ((st 3)).1 ((st 3)).2.1).1, (xs mk 3 ((st 3)).1 ((st 3)).2.1).2.1, pr_3, bl_3, le_3, gr_3, sp_3))] = wNs t qq nw no mk [(4, (st 4)), (5, (st 5)), (6, (st 6)), (0, ((xs mk 0 ((st 0)).1 ((st 0)).2.1).1, (xs mk 0 ((st 0)).1 ((st 0)).2.1).2.1, pr_0, bl_0, le_0, gr_0, sp_0)), (1, ((xs mk 1 ((st 1)).1 ((st 1)).2.1).1, (xs mk 1 ((st 1)).1 ((st 1)).2.1).2.1, pr_1, bl_1, le_1, gr_1, sp_1)), (2, ((xs mk 2 ((st 2)).1 ((st 2)).2.1).1, (xs mk 2 ((st 2)).1 ((st 2)).2.1).2.1, pr_2, bl_2, le_2, gr_2, sp_2))] ++ wN t (qq 3) nw (no 3) 3 mk ((xs mk 3 ((st 3)).1 ((st 3)).2.1).1, (xs mk 3 ((st 3)).1 ((st 3)).2.1).2.1, pr_3, bl_3, le_3, gr_3, sp_3) from wNs_snoc _ _ _ _ _ [(4, (st 4)), (5, (st 5)), (6, (st 6)), (0, ((xs mk 0 ((st 0)).1 ((st 0)).2.1).1, (xs mk 0 ((st 0)).1 ((st 0)).2.1).2.1, pr_0, bl_0, le_0, gr_0, sp_0)), (1, ((xs mk 1 ((st 1)).1 ((st 1)).2.1).1, (xs mk 1 ((st 1)).1 ((st 1)).2.1).2.1, pr_1, bl_1, le_1, gr_1, sp_1)), (2, ((xs mk 2 ((st 2)).1 ((st 2)).2.1).1, (xs mk 2 ((st 2)).1 ((st 2)).2.1).2.1, pr_2, bl_2, le_2, gr_2, sp_2))] _]; exact hP
      have hD : va_D A (([zO 7 xa [.ref nw, .ref na, .int ky], zA t 4 na 7 (fun j => some (qq j 0))] ++ [zO 2 nw [.ref rw, .int (nI (min 300 (min 300 (min 300 (min 300 (z + (xs mk 0 ((st 0)).1 ((st 0)).2.1).2.2) + (xs mk 1 ((st 1)).1 ((st 1)).2.1).2.2) + (xs mk 2 ((st 2)).1 ((st 2)).2.1).2.2) + (xs mk 3 ((st 3)).1 ((st 3)).2.1).2.2))), .int x_3, .int y_3, .int 0], zA t 3 rw 300 g_3]) ++ wNs t qq nw no mk [(4, (st 4)), (5, (st 5)), (6, (st 6)), (0, ((xs mk 0 ((st 0)).1 ((st 0)).2.1).1, (xs mk 0 ((st 0)).1 ((st 0)).2.1).2.1, pr_0, bl_0, le_0, gr_0, sp_0)), (1, ((xs mk 1 ((st 1)).1 ((st 1)).2.1).1, (xs mk 1 ((st 1)).1 ((st 1)).2.1).2.1, pr_1, bl_1, le_1, gr_1, sp_1)), (2, ((xs mk 2 ((st 2)).1 ((st 2)).2.1).1, (xs mk 2 ((st 2)).1 ((st 2)).2.1).2.1, pr_2, bl_2, le_2, gr_2, sp_2)), (3, ((xs mk 3 ((st 3)).1 ((st 3)).2.1).1, (xs mk 3 ((st 3)).1 ((st 3)).2.1).2.1, pr_3, bl_3, le_3, gr_3, sp_3))]) := by rw [show wNs t qq nw no mk [(4, (st 4)), (5, (st 5)), (6, (st 6)), (0, ((xs mk 0 ((st 0)).1 ((st 0)).2.1).1, (xs mk 0 ((st 0)).1 ((st 0)).2.1).2.1, pr_0, bl_0, le_0, gr_0, sp_0)), (1, ((xs mk 1 ((st 1)).1 ((st 1)).2.1).1, (xs mk 1 ((st 1)).1 ((st 1)).2.1).2.1, pr_1, bl_1, le_1, gr_1, sp_1)), (2, ((xs mk 2 ((st 2)).1 ((st 2)).2.1).1, (xs mk 2 ((st 2)).1 ((st 2)).2.1).2.1, pr_2, bl_2, le_2, gr_2, sp_2)), (3, ((xs mk 3 ((st 3)).1 ((st 3)).2.1).1, (xs mk 3 ((st 3)).1 ((st 3)).2.1).2.1, pr_3, bl_3, le_3, gr_3, sp_3))] = wNs t qq nw no mk [(4, (st 4)), (5, (st 5)), (6, (st 6)), (0, ((xs mk 0 ((st 0)).1 ((st 0)).2.1).1, (xs mk 0 ((st 0)).1 ((st 0)).2.1).2.1, pr_0, bl_0, le_0, gr_0, sp_0)), (1, ((xs mk 1 ((st 1)).1 ((st 1)).2.1).1, (xs mk 1 ((st 1)).1 ((st 1)).2.1).2.1, pr_1, bl_1, le_1, gr_1, sp_1)), (2, ((xs mk 2 ((st 2)).1 ((st 2)).2.1).1, (xs mk 2 ((st 2)).1 ((st 2)).2.1).2.1, pr_2, bl_2, le_2, gr_2, sp_2))] ++ wN t (qq 3) nw (no 3) 3 mk ((xs mk 3 ((st 3)).1 ((st 3)).2.1).1, (xs mk 3 ((st 3)).1 ((st 3)).2.1).2.1, pr_3, bl_3, le_3, gr_3, sp_3) from wNs_snoc _ _ _ _ _ [(4, (st 4)), (5, (st 5)), (6, (st 6)), (0, ((xs mk 0 ((st 0)).1 ((st 0)).2.1).1, (xs mk 0 ((st 0)).1 ((st 0)).2.1).2.1, pr_0, bl_0, le_0, gr_0, sp_0)), (1, ((xs mk 1 ((st 1)).1 ((st 1)).2.1).1, (xs mk 1 ((st 1)).1 ((st 1)).2.1).2.1, pr_1, bl_1, le_1, gr_1, sp_1)), (2, ((xs mk 2 ((st 2)).1 ((st 2)).2.1).1, (xs mk 2 ((st 2)).1 ((st 2)).2.1).2.1, pr_2, bl_2, le_2, gr_2, sp_2))] _]; exact hD
      refine lv_iinc (v := 4) (lv' := [(3, .int 4), (2, .int (nI turn)), (0, .ref xa), (1, .int (nI N))]) hx hb d_Q_tick_45 hl (k := 0) rfl rfl (by decide) rfl (fun ls hl => ?_)
      refine lv_goto (tgt := 30) hx hb d_Q_tick_48 (by decide) ?_
      refine lv_iload_n hx hb d_Q_tick_30 rfl (lv_at hl 0 rfl) ?_
      refine lv_bipush (v := 7) hx hb d_Q_tick_31 (by decide) ?_
      refine lv_icmp_ge (tgt := 51) hx hb d_Q_tick_33 (by decide) (fun c_9 => absurd c_9 (by decide)) (fun _ => ?_)
      refine lv_aload_n hx hb d_Q_tick_36 rfl (lv_at hl 2 rfl) ?_
      refine va_get (ci := 7) (C := "QuorumStore") (T := TX7) (N := 3) hx hb hts inX7 hown hK.2 hP 0 rfl rfl 1 (by decide) (hts _ k_256) (fun _ h9 => h9) rfl d_Q_tick_37 ?_
      refine lv_iload_n hx hb d_Q_tick_40 rfl (lv_at hl 0 rfl) ?_
      refine va_aldq hx hb hK.2 hP 1 4 rfl rfl (by unfold vp_in; decide) d_Q_tick_41 ?_
      have hP := xd_P hP (fun q h => (xk_p1 [zO 7 xa [.ref nw, .ref na, .int ky], zA t 4 na 7 (fun j => some (qq j 0))] [zO 2 nw [.ref rw, .int (nI (min 300 (min 300 (min 300 (min 300 (z + (xs mk 0 ((st 0)).1 ((st 0)).2.1).2.2) + (xs mk 1 ((st 1)).1 ((st 1)).2.1).2.2) + (xs mk 2 ((st 2)).1 ((st 2)).2.1).2.2) + (xs mk 3 ((st 3)).1 ((st 3)).2.1).2.2))), .int x_3, .int y_3, .int 0], zA t 3 rw 300 g_3] (wN t (qq 4) nw (no 4) 4 mk (st 4)) (wNs t qq nw no mk [(5, (st 5)), (6, (st 6)), (0, ((xs mk 0 ((st 0)).1 ((st 0)).2.1).1, (xs mk 0 ((st 0)).1 ((st 0)).2.1).2.1, pr_0, bl_0, le_0, gr_0, sp_0)), (1, ((xs mk 1 ((st 1)).1 ((st 1)).2.1).1, (xs mk 1 ((st 1)).1 ((st 1)).2.1).2.1, pr_1, bl_1, le_1, gr_1, sp_1)), (2, ((xs mk 2 ((st 2)).1 ((st 2)).2.1).1, (xs mk 2 ((st 2)).1 ((st 2)).2.1).2.1, pr_2, bl_2, le_2, gr_2, sp_2)), (3, ((xs mk 3 ((st 3)).1 ((st 3)).2.1).1, (xs mk 3 ((st 3)).1 ((st 3)).2.1).2.1, pr_3, bl_3, le_3, gr_3, sp_3))])).mem_iff.mpr h)
      have hD := xd_perm hD (xk_p1 [zO 7 xa [.ref nw, .ref na, .int ky], zA t 4 na 7 (fun j => some (qq j 0))] [zO 2 nw [.ref rw, .int (nI (min 300 (min 300 (min 300 (min 300 (z + (xs mk 0 ((st 0)).1 ((st 0)).2.1).2.2) + (xs mk 1 ((st 1)).1 ((st 1)).2.1).2.2) + (xs mk 2 ((st 2)).1 ((st 2)).2.1).2.2) + (xs mk 3 ((st 3)).1 ((st 3)).2.1).2.2))), .int x_3, .int y_3, .int 0], zA t 3 rw 300 g_3] (wN t (qq 4) nw (no 4) 4 mk (st 4)) (wNs t qq nw no mk [(5, (st 5)), (6, (st 6)), (0, ((xs mk 0 ((st 0)).1 ((st 0)).2.1).1, (xs mk 0 ((st 0)).1 ((st 0)).2.1).2.1, pr_0, bl_0, le_0, gr_0, sp_0)), (1, ((xs mk 1 ((st 1)).1 ((st 1)).2.1).1, (xs mk 1 ((st 1)).1 ((st 1)).2.1).2.1, pr_1, bl_1, le_1, gr_1, sp_1)), (2, ((xs mk 2 ((st 2)).1 ((st 2)).2.1).1, (xs mk 2 ((st 2)).1 ((st 2)).2.1).2.1, pr_2, bl_2, le_2, gr_2, sp_2)), (3, ((xs mk 3 ((st 3)).1 ((st 3)).2.1).1, (xs mk 3 ((st 3)).1 ((st 3)).2.1).2.1, pr_3, bl_3, le_3, gr_3, sp_3))]))
      have hPc : va_P D vwCl (wN t (qq 4) nw (no 4) 4 mk (st 4) ++ [zO 2 nw [.ref rw, .int (nI (min 300 (min 300 (min 300 (min 300 (z + (xs mk 0 ((st 0)).1 ((st 0)).2.1).2.2) + (xs mk 1 ((st 1)).1 ((st 1)).2.1).2.2) + (xs mk 2 ((st 2)).1 ((st 2)).2.1).2.2) + (xs mk 3 ((st 3)).1 ((st 3)).2.1).2.2))), .int x_3, .int y_3, .int 0], zA t 3 rw 300 g_3]) H := xd_P hP (fun q h => List.mem_append_right _ h)
      have hDc : va_D A (wN t (qq 4) nw (no 4) 4 mk (st 4) ++ [zO 2 nw [.ref rw, .int (nI (min 300 (min 300 (min 300 (min 300 (z + (xs mk 0 ((st 0)).1 ((st 0)).2.1).2.2) + (xs mk 1 ((st 1)).1 ((st 1)).2.1).2.2) + (xs mk 2 ((st 2)).1 ((st 2)).2.1).2.2) + (xs mk 3 ((st 3)).1 ((st 3)).2.1).2.2))), .int x_3, .int y_3, .int 0], zA t 3 rw 300 g_3]) := xd_R hD
      refine xe_sfxv (wr := [zO 7 xa [.ref nw, .ref na, .int ky], zA t 4 na 7 (fun j => some (qq j 0))] ++ wNs t qq nw no mk [(5, (st 5)), (6, (st 6)), (0, ((xs mk 0 ((st 0)).1 ((st 0)).2.1).1, (xs mk 0 ((st 0)).1 ((st 0)).2.1).2.1, pr_0, bl_0, le_0, gr_0, sp_0)), (1, ((xs mk 1 ((st 1)).1 ((st 1)).2.1).1, (xs mk 1 ((st 1)).1 ((st 1)).2.1).2.1, pr_1, bl_1, le_1, gr_1, sp_1)), (2, ((xs mk 2 ((st 2)).1 ((st 2)).2.1).1, (xs mk 2 ((st 2)).1 ((st 2)).2.1).2.1, pr_2, bl_2, le_2, gr_2, sp_2)), (3, ((xs mk 3 ((st 3)).1 ((st 3)).2.1).1, (xs mk 3 ((st 3)).1 ((st 3)).2.1).2.1, pr_3, bl_3, le_3, gr_3, sp_3))]) (wc := wN t (qq 4) nw (no 4) 4 mk (st 4) ++ [zO 2 nw [.ref rw, .int (nI (min 300 (min 300 (min 300 (min 300 (z + (xs mk 0 ((st 0)).1 ((st 0)).2.1).2.2) + (xs mk 1 ((st 1)).1 ((st 1)).2.1).2.2) + (xs mk 2 ((st 2)).1 ((st 2)).2.1).2.2) + (xs mk 3 ((st 3)).1 ((st 3)).2.1).2.2))), .int x_3, .int y_3, .int 0], zA t 3 rw 300 g_3]) (xs_V (As := []) (rest := []) Z (C_D_passTime l D t (qq 4) nw (no 4) 4 ((st 4)).1 ((st 4)).2.1 (hok 4 (by decide)).1 (Nat.le_trans (hok 4 (by decide)).2.1 (by decide)) ((st 4)).2.2.1 ((st 4)).2.2.2.1 ((st 4)).2.2.2.2.1 ((st 4)).2.2.2.2.2.1 ((st 4)).2.2.2.2.2.2 mk (hok 4 (by decide)).2.2 rw (min 300 (min 300 (min 300 (min 300 (z + (xs mk 0 ((st 0)).1 ((st 0)).2.1).2.2) + (xs mk 1 ((st 1)).1 ((st 1)).2.1).2.2) + (xs mk 2 ((st 2)).1 ((st 2)).2.1).2.2) + (xs mk 3 ((st 3)).1 ((st 3)).2.1).2.2)) (by omega) x_3 y_3 g_3 H.size) m_D_passTime k_348 k_349 k_350 rfl rfl ⟨Nat.le_of_ble_eq_true rfl, Nat.le_of_ble_eq_true rfl⟩ (va_recv hK.2 hPc (ci := 3) (q0 := 0) rfl rfl) (xe_pre hK hPc hDc) rfl hl.1 rfl (Nat.le_of_ble_eq_true rfl) d_Q_tick_42 ⟨show 98 * turn + 14 + 14 + 14 + 14 + 14 ≤ 4900 by omega, show 784 * turn + 112 + 112 + 112 + 112 + 112 ≤ 39200 by omega⟩) hP hD hS hA (fun u_ H locs hw hP hD hS => ?_)
      obtain ⟨r_, pr_4, bl_4, le_4, gr_4, sp_4, x_4, y_4, g_4⟩ := u_
      obtain ⟨e_, hg_4⟩ := hw
      dsimp only at e_ hg_4
      subst e_
      have hP : va_P D vwCl (([zO 7 xa [.ref nw, .ref na, .int ky], zA t 4 na 7 (fun j => some (qq j 0))] ++ wNs t qq nw no mk [(5, (st 5)), (6, (st 6)), (0, ((xs mk 0 ((st 0)).1 ((st 0)).2.1).1, (xs mk 0 ((st 0)).1 ((st 0)).2.1).2.1, pr_0, bl_0, le_0, gr_0, sp_0)), (1, ((xs mk 1 ((st 1)).1 ((st 1)).2.1).1, (xs mk 1 ((st 1)).1 ((st 1)).2.1).2.1, pr_1, bl_1, le_1, gr_1, sp_1)), (2, ((xs mk 2 ((st 2)).1 ((st 2)).2.1).1, (xs mk 2 ((st 2)).1 ((st 2)).2.1).2.1, pr_2, bl_2, le_2, gr_2, sp_2)), (3, ((xs mk 3 ((st 3)).1 ((st 3)).2.1).1, (xs mk 3 ((st 3)).1 ((st 3)).2.1).2.1, pr_3, bl_3, le_3, gr_3, sp_3))]) ++ (wN t (qq 4) nw (no 4) 4 mk ((xs mk 4 ((st 4)).1 ((st 4)).2.1).1, (xs mk 4 ((st 4)).1 ((st 4)).2.1).2.1, pr_4, bl_4, le_4, gr_4, sp_4) ++ [zO 2 nw [.ref rw, .int (nI (min 300 (min 300 (min 300 (min 300 (min 300 (z + (xs mk 0 ((st 0)).1 ((st 0)).2.1).2.2) + (xs mk 1 ((st 1)).1 ((st 1)).2.1).2.2) + (xs mk 2 ((st 2)).1 ((st 2)).2.1).2.2) + (xs mk 3 ((st 3)).1 ((st 3)).2.1).2.2) + (xs mk 4 ((st 4)).1 ((st 4)).2.1).2.2))), .int x_4, .int y_4, .int 0], zA t 3 rw 300 g_4])) H := hP
      have hD : va_D A (([zO 7 xa [.ref nw, .ref na, .int ky], zA t 4 na 7 (fun j => some (qq j 0))] ++ wNs t qq nw no mk [(5, (st 5)), (6, (st 6)), (0, ((xs mk 0 ((st 0)).1 ((st 0)).2.1).1, (xs mk 0 ((st 0)).1 ((st 0)).2.1).2.1, pr_0, bl_0, le_0, gr_0, sp_0)), (1, ((xs mk 1 ((st 1)).1 ((st 1)).2.1).1, (xs mk 1 ((st 1)).1 ((st 1)).2.1).2.1, pr_1, bl_1, le_1, gr_1, sp_1)), (2, ((xs mk 2 ((st 2)).1 ((st 2)).2.1).1, (xs mk 2 ((st 2)).1 ((st 2)).2.1).2.1, pr_2, bl_2, le_2, gr_2, sp_2)), (3, ((xs mk 3 ((st 3)).1 ((st 3)).2.1).1, (xs mk 3 ((st 3)).1 ((st 3)).2.1).2.1, pr_3, bl_3, le_3, gr_3, sp_3))]) ++ (wN t (qq 4) nw (no 4) 4 mk ((xs mk 4 ((st 4)).1 ((st 4)).2.1).1, (xs mk 4 ((st 4)).1 ((st 4)).2.1).2.1, pr_4, bl_4, le_4, gr_4, sp_4) ++ [zO 2 nw [.ref rw, .int (nI (min 300 (min 300 (min 300 (min 300 (min 300 (z + (xs mk 0 ((st 0)).1 ((st 0)).2.1).2.2) + (xs mk 1 ((st 1)).1 ((st 1)).2.1).2.2) + (xs mk 2 ((st 2)).1 ((st 2)).2.1).2.2) + (xs mk 3 ((st 3)).1 ((st 3)).2.1).2.2) + (xs mk 4 ((st 4)).1 ((st 4)).2.1).2.2))), .int x_4, .int y_4, .int 0], zA t 3 rw 300 g_4])) := hD
      have hP := xd_P hP (fun q h => (xk_p2 [zO 7 xa [.ref nw, .ref na, .int ky], zA t 4 na 7 (fun j => some (qq j 0))] [zO 2 nw [.ref rw, .int (nI (min 300 (min 300 (min 300 (min 300 (min 300 (z + (xs mk 0 ((st 0)).1 ((st 0)).2.1).2.2) + (xs mk 1 ((st 1)).1 ((st 1)).2.1).2.2) + (xs mk 2 ((st 2)).1 ((st 2)).2.1).2.2) + (xs mk 3 ((st 3)).1 ((st 3)).2.1).2.2) + (xs mk 4 ((st 4)).1 ((st 4)).2.1).2.2))), .int x_4, .int y_4, .int 0], zA t 3 rw 300 g_4] (wN t (qq 4) nw (no 4) 4 mk ((xs mk 4 ((st 4)).1 ((st 4)).2.1).1, (xs mk 4 ((st 4)).1 ((st 4)).2.1).2.1, pr_4, bl_4, le_4, gr_4, sp_4)) (wNs t qq nw no mk [(5, (st 5)), (6, (st 6)), (0, ((xs mk 0 ((st 0)).1 ((st 0)).2.1).1, (xs mk 0 ((st 0)).1 ((st 0)).2.1).2.1, pr_0, bl_0, le_0, gr_0, sp_0)), (1, ((xs mk 1 ((st 1)).1 ((st 1)).2.1).1, (xs mk 1 ((st 1)).1 ((st 1)).2.1).2.1, pr_1, bl_1, le_1, gr_1, sp_1)), (2, ((xs mk 2 ((st 2)).1 ((st 2)).2.1).1, (xs mk 2 ((st 2)).1 ((st 2)).2.1).2.1, pr_2, bl_2, le_2, gr_2, sp_2)), (3, ((xs mk 3 ((st 3)).1 ((st 3)).2.1).1, (xs mk 3 ((st 3)).1 ((st 3)).2.1).2.1, pr_3, bl_3, le_3, gr_3, sp_3))])).mem_iff.mpr h)
      have hD := xd_perm hD (xk_p2 [zO 7 xa [.ref nw, .ref na, .int ky], zA t 4 na 7 (fun j => some (qq j 0))] [zO 2 nw [.ref rw, .int (nI (min 300 (min 300 (min 300 (min 300 (min 300 (z + (xs mk 0 ((st 0)).1 ((st 0)).2.1).2.2) + (xs mk 1 ((st 1)).1 ((st 1)).2.1).2.2) + (xs mk 2 ((st 2)).1 ((st 2)).2.1).2.2) + (xs mk 3 ((st 3)).1 ((st 3)).2.1).2.2) + (xs mk 4 ((st 4)).1 ((st 4)).2.1).2.2))), .int x_4, .int y_4, .int 0], zA t 3 rw 300 g_4] (wN t (qq 4) nw (no 4) 4 mk ((xs mk 4 ((st 4)).1 ((st 4)).2.1).1, (xs mk 4 ((st 4)).1 ((st 4)).2.1).2.1, pr_4, bl_4, le_4, gr_4, sp_4)) (wNs t qq nw no mk [(5, (st 5)), (6, (st 6)), (0, ((xs mk 0 ((st 0)).1 ((st 0)).2.1).1, (xs mk 0 ((st 0)).1 ((st 0)).2.1).2.1, pr_0, bl_0, le_0, gr_0, sp_0)), (1, ((xs mk 1 ((st 1)).1 ((st 1)).2.1).1, (xs mk 1 ((st 1)).1 ((st 1)).2.1).2.1, pr_1, bl_1, le_1, gr_1, sp_1)), (2, ((xs mk 2 ((st 2)).1 ((st 2)).2.1).1, (xs mk 2 ((st 2)).1 ((st 2)).2.1).2.1, pr_2, bl_2, le_2, gr_2, sp_2)), (3, ((xs mk 3 ((st 3)).1 ((st 3)).2.1).1, (xs mk 3 ((st 3)).1 ((st 3)).2.1).2.1, pr_3, bl_3, le_3, gr_3, sp_3))]))
      have hP : va_P D vwCl (([zO 7 xa [.ref nw, .ref na, .int ky], zA t 4 na 7 (fun j => some (qq j 0))] ++ [zO 2 nw [.ref rw, .int (nI (min 300 (min 300 (min 300 (min 300 (min 300 (z + (xs mk 0 ((st 0)).1 ((st 0)).2.1).2.2) + (xs mk 1 ((st 1)).1 ((st 1)).2.1).2.2) + (xs mk 2 ((st 2)).1 ((st 2)).2.1).2.2) + (xs mk 3 ((st 3)).1 ((st 3)).2.1).2.2) + (xs mk 4 ((st 4)).1 ((st 4)).2.1).2.2))), .int x_4, .int y_4, .int 0], zA t 3 rw 300 g_4]) ++ wNs t qq nw no mk [(5, (st 5)), (6, (st 6)), (0, ((xs mk 0 ((st 0)).1 ((st 0)).2.1).1, (xs mk 0 ((st 0)).1 ((st 0)).2.1).2.1, pr_0, bl_0, le_0, gr_0, sp_0)), (1, ((xs mk 1 ((st 1)).1 ((st 1)).2.1).1, (xs mk 1 ((st 1)).1 ((st 1)).2.1).2.1, pr_1, bl_1, le_1, gr_1, sp_1)), (2, ((xs mk 2 ((st 2)).1 ((st 2)).2.1).1, (xs mk 2 ((st 2)).1 ((st 2)).2.1).2.1, pr_2, bl_2, le_2, gr_2, sp_2)), (3, ((xs mk 3 ((st 3)).1 ((st 3)).2.1).1, (xs mk 3 ((st 3)).1 ((st 3)).2.1).2.1, pr_3, bl_3, le_3, gr_3, sp_3)), (4, ((xs mk 4 ((st 4)).1 ((st 4)).2.1).1, (xs mk 4 ((st 4)).1 ((st 4)).2.1).2.1, pr_4, bl_4, le_4, gr_4, sp_4))]) H := by rw [show wNs t qq nw no mk [(5, (st 5)), (6, (st 6)), (0, ((xs mk 0 ((st 0)).1 ((st 0)).2.1).1, (xs mk 0 ((st 0)).1 ((st 0)).2.1).2.1, pr_0, bl_0, le_0, gr_0, sp_0)), (1, ((xs mk 1 ((st 1)).1 ((st 1)).2.1).1, (xs mk 1 ((st 1)).1 ((st 1)).2.1).2.1, pr_1, bl_1, le_1, gr_1, sp_1)), (2, ((xs mk 2 ((st 2)).1 ((st 2)).2.1).1, (xs mk 2 ((st 2)).1 ((st 2)).2.1).2.1, pr_2, bl_2, le_2, gr_2, sp_2)), (3, ((xs mk 3 ((st 3)).1 ((st 3)).2.1).1, (xs mk 3 ((st 3)).1 ((st 3)).2.1).2.1, pr_3, bl_3, le_3, gr_3, sp_3)), (4, ((xs mk 4 ((st 4)).1 ((st 4)).2.1).1, (xs mk 4 ((st 4)).1 ((st 4)).2.1).2.1, pr_4, bl_4, le_4, gr_4, sp_4))] = wNs t qq nw no mk [(5, (st 5)), (6, (st 6)), (0, ((xs mk 0 ((st 0)).1 ((st 0)).2.1).1, (xs mk 0 ((st 0)).1 ((st 0)).2.1).2.1, pr_0, bl_0, le_0, gr_0, sp_0)), (1, ((xs mk 1 ((st 1)).1 ((st 1)).2.1).1, (xs mk 1 ((st 1)).1 ((st 1)).2.1).2.1, pr_1, bl_1, le_1, gr_1, sp_1)), (2, ((xs mk 2 ((st 2)).1 ((st 2)).2.1).1, (xs mk 2 ((st 2)).1 ((st 2)).2.1).2.1, pr_2, bl_2, le_2, gr_2, sp_2)), (3, ((xs mk 3 ((st 3)).1 ((st 3)).2.1).1, (xs mk 3 ((st 3)).1 ((st 3)).2.1).2.1, pr_3, bl_3, le_3, gr_3, sp_3))] ++ wN t (qq 4) nw (no 4) 4 mk ((xs mk 4 ((st 4)).1 ((st 4)).2.1).1, (xs mk 4 ((st 4)).1 ((st 4)).2.1).2.1, pr_4, bl_4, le_4, gr_4, sp_4) from wNs_snoc _ _ _ _ _ [(5, (st 5)), (6, (st 6)), (0, ((xs mk 0 ((st 0)).1 ((st 0)).2.1).1, (xs mk 0 ((st 0)).1 ((st 0)).2.1).2.1, pr_0, bl_0, le_0, gr_0, sp_0)), (1, ((xs mk 1 ((st 1)).1 ((st 1)).2.1).1, (xs mk 1 ((st 1)).1 ((st 1)).2.1).2.1, pr_1, bl_1, le_1, gr_1, sp_1)), (2, ((xs mk 2 ((st 2)).1 ((st 2)).2.1).1, (xs mk 2 ((st 2)).1 ((st 2)).2.1).2.1, pr_2, bl_2, le_2, gr_2, sp_2)), (3, ((xs mk 3 ((st 3)).1 ((st 3)).2.1).1, (xs mk 3 ((st 3)).1 ((st 3)).2.1).2.1, pr_3, bl_3, le_3, gr_3, sp_3))] _]; exact hP
      have hD : va_D A (([zO 7 xa [.ref nw, .ref na, .int ky], zA t 4 na 7 (fun j => some (qq j 0))] ++ [zO 2 nw [.ref rw, .int (nI (min 300 (min 300 (min 300 (min 300 (min 300 (z + (xs mk 0 ((st 0)).1 ((st 0)).2.1).2.2) + (xs mk 1 ((st 1)).1 ((st 1)).2.1).2.2) + (xs mk 2 ((st 2)).1 ((st 2)).2.1).2.2) + (xs mk 3 ((st 3)).1 ((st 3)).2.1).2.2) + (xs mk 4 ((st 4)).1 ((st 4)).2.1).2.2))), .int x_4, .int y_4, .int 0], zA t 3 rw 300 g_4]) ++ wNs t qq nw no mk [(5, (st 5)), (6, (st 6)), (0, ((xs mk 0 ((st 0)).1 ((st 0)).2.1).1, (xs mk 0 ((st 0)).1 ((st 0)).2.1).2.1, pr_0, bl_0, le_0, gr_0, sp_0)), (1, ((xs mk 1 ((st 1)).1 ((st 1)).2.1).1, (xs mk 1 ((st 1)).1 ((st 1)).2.1).2.1, pr_1, bl_1, le_1, gr_1, sp_1)), (2, ((xs mk 2 ((st 2)).1 ((st 2)).2.1).1, (xs mk 2 ((st 2)).1 ((st 2)).2.1).2.1, pr_2, bl_2, le_2, gr_2, sp_2)), (3, ((xs mk 3 ((st 3)).1 ((st 3)).2.1).1, (xs mk 3 ((st 3)).1 ((st 3)).2.1).2.1, pr_3, bl_3, le_3, gr_3, sp_3)), (4, ((xs mk 4 ((st 4)).1 ((st 4)).2.1).1, (xs mk 4 ((st 4)).1 ((st 4)).2.1).2.1, pr_4, bl_4, le_4, gr_4, sp_4))]) := by rw [show wNs t qq nw no mk [(5, (st 5)), (6, (st 6)), (0, ((xs mk 0 ((st 0)).1 ((st 0)).2.1).1, (xs mk 0 ((st 0)).1 ((st 0)).2.1).2.1, pr_0, bl_0, le_0, gr_0, sp_0)), (1, ((xs mk 1 ((st 1)).1 ((st 1)).2.1).1, (xs mk 1 ((st 1)).1 ((st 1)).2.1).2.1, pr_1, bl_1, le_1, gr_1, sp_1)), (2, ((xs mk 2 ((st 2)).1 ((st 2)).2.1).1, (xs mk 2 ((st 2)).1 ((st 2)).2.1).2.1, pr_2, bl_2, le_2, gr_2, sp_2)), (3, ((xs mk 3 ((st 3)).1 ((st 3)).2.1).1, (xs mk 3 ((st 3)).1 ((st 3)).2.1).2.1, pr_3, bl_3, le_3, gr_3, sp_3)), (4, ((xs mk 4 ((st 4)).1 ((st 4)).2.1).1, (xs mk 4 ((st 4)).1 ((st 4)).2.1).2.1, pr_4, bl_4, le_4, gr_4, sp_4))] = wNs t qq nw no mk [(5, (st 5)), (6, (st 6)), (0, ((xs mk 0 ((st 0)).1 ((st 0)).2.1).1, (xs mk 0 ((st 0)).1 ((st 0)).2.1).2.1, pr_0, bl_0, le_0, gr_0, sp_0)), (1, ((xs mk 1 ((st 1)).1 ((st 1)).2.1).1, (xs mk 1 ((st 1)).1 ((st 1)).2.1).2.1, pr_1, bl_1, le_1, gr_1, sp_1)), (2, ((xs mk 2 ((st 2)).1 ((st 2)).2.1).1, (xs mk 2 ((st 2)).1 ((st 2)).2.1).2.1, pr_2, bl_2, le_2, gr_2, sp_2)), (3, ((xs mk 3 ((st 3)).1 ((st 3)).2.1).1, (xs mk 3 ((st 3)).1 ((st 3)).2.1).2.1, pr_3, bl_3, le_3, gr_3, sp_3))] ++ wN t (qq 4) nw (no 4) 4 mk ((xs mk 4 ((st 4)).1 ((st 4)).2.1).1, (xs mk 4 ((st 4)).1 ((st 4)).2.1).2.1, pr_4, bl_4, le_4, gr_4, sp_4) from wNs_snoc _ _ _ _ _ [(5, (st 5)), (6, (st 6)), (0, ((xs mk 0 ((st 0)).1 ((st 0)).2.1).1, (xs mk 0 ((st 0)).1 ((st 0)).2.1).2.1, pr_0, bl_0, le_0, gr_0, sp_0)), (1, ((xs mk 1 ((st 1)).1 ((st 1)).2.1).1, (xs mk 1 ((st 1)).1 ((st 1)).2.1).2.1, pr_1, bl_1, le_1, gr_1, sp_1)), (2, ((xs mk 2 ((st 2)).1 ((st 2)).2.1).1, (xs mk 2 ((st 2)).1 ((st 2)).2.1).2.1, pr_2, bl_2, le_2, gr_2, sp_2)), (3, ((xs mk 3 ((st 3)).1 ((st 3)).2.1).1, (xs mk 3 ((st 3)).1 ((st 3)).2.1).2.1, pr_3, bl_3, le_3, gr_3, sp_3))] _]; exact hD
      refine lv_iinc (v := 5) (lv' := [(3, .int 5), (2, .int (nI turn)), (0, .ref xa), (1, .int (nI N))]) hx hb d_Q_tick_45 hl (k := 0) rfl rfl (by decide) rfl (fun ls hl => ?_)
      refine lv_goto (tgt := 30) hx hb d_Q_tick_48 (by decide) ?_
      refine lv_iload_n hx hb d_Q_tick_30 rfl (lv_at hl 0 rfl) ?_
      refine lv_bipush (v := 7) hx hb d_Q_tick_31 (by decide) ?_
      refine lv_icmp_ge (tgt := 51) hx hb d_Q_tick_33 (by decide) (fun c_10 => absurd c_10 (by decide)) (fun _ => ?_)
      refine lv_aload_n hx hb d_Q_tick_36 rfl (lv_at hl 2 rfl) ?_
      refine va_get (ci := 7) (C := "QuorumStore") (T := TX7) (N := 3) hx hb hts inX7 hown hK.2 hP 0 rfl rfl 1 (by decide) (hts _ k_256) (fun _ h9 => h9) rfl d_Q_tick_37 ?_
      refine lv_iload_n hx hb d_Q_tick_40 rfl (lv_at hl 0 rfl) ?_
      refine va_aldq hx hb hK.2 hP 1 4 rfl rfl (by unfold vp_in; decide) d_Q_tick_41 ?_
      have hP := xd_P hP (fun q h => (xk_p1 [zO 7 xa [.ref nw, .ref na, .int ky], zA t 4 na 7 (fun j => some (qq j 0))] [zO 2 nw [.ref rw, .int (nI (min 300 (min 300 (min 300 (min 300 (min 300 (z + (xs mk 0 ((st 0)).1 ((st 0)).2.1).2.2) + (xs mk 1 ((st 1)).1 ((st 1)).2.1).2.2) + (xs mk 2 ((st 2)).1 ((st 2)).2.1).2.2) + (xs mk 3 ((st 3)).1 ((st 3)).2.1).2.2) + (xs mk 4 ((st 4)).1 ((st 4)).2.1).2.2))), .int x_4, .int y_4, .int 0], zA t 3 rw 300 g_4] (wN t (qq 5) nw (no 5) 5 mk (st 5)) (wNs t qq nw no mk [(6, (st 6)), (0, ((xs mk 0 ((st 0)).1 ((st 0)).2.1).1, (xs mk 0 ((st 0)).1 ((st 0)).2.1).2.1, pr_0, bl_0, le_0, gr_0, sp_0)), (1, ((xs mk 1 ((st 1)).1 ((st 1)).2.1).1, (xs mk 1 ((st 1)).1 ((st 1)).2.1).2.1, pr_1, bl_1, le_1, gr_1, sp_1)), (2, ((xs mk 2 ((st 2)).1 ((st 2)).2.1).1, (xs mk 2 ((st 2)).1 ((st 2)).2.1).2.1, pr_2, bl_2, le_2, gr_2, sp_2)), (3, ((xs mk 3 ((st 3)).1 ((st 3)).2.1).1, (xs mk 3 ((st 3)).1 ((st 3)).2.1).2.1, pr_3, bl_3, le_3, gr_3, sp_3)), (4, ((xs mk 4 ((st 4)).1 ((st 4)).2.1).1, (xs mk 4 ((st 4)).1 ((st 4)).2.1).2.1, pr_4, bl_4, le_4, gr_4, sp_4))])).mem_iff.mpr h)
      have hD := xd_perm hD (xk_p1 [zO 7 xa [.ref nw, .ref na, .int ky], zA t 4 na 7 (fun j => some (qq j 0))] [zO 2 nw [.ref rw, .int (nI (min 300 (min 300 (min 300 (min 300 (min 300 (z + (xs mk 0 ((st 0)).1 ((st 0)).2.1).2.2) + (xs mk 1 ((st 1)).1 ((st 1)).2.1).2.2) + (xs mk 2 ((st 2)).1 ((st 2)).2.1).2.2) + (xs mk 3 ((st 3)).1 ((st 3)).2.1).2.2) + (xs mk 4 ((st 4)).1 ((st 4)).2.1).2.2))), .int x_4, .int y_4, .int 0], zA t 3 rw 300 g_4] (wN t (qq 5) nw (no 5) 5 mk (st 5)) (wNs t qq nw no mk [(6, (st 6)), (0, ((xs mk 0 ((st 0)).1 ((st 0)).2.1).1, (xs mk 0 ((st 0)).1 ((st 0)).2.1).2.1, pr_0, bl_0, le_0, gr_0, sp_0)), (1, ((xs mk 1 ((st 1)).1 ((st 1)).2.1).1, (xs mk 1 ((st 1)).1 ((st 1)).2.1).2.1, pr_1, bl_1, le_1, gr_1, sp_1)), (2, ((xs mk 2 ((st 2)).1 ((st 2)).2.1).1, (xs mk 2 ((st 2)).1 ((st 2)).2.1).2.1, pr_2, bl_2, le_2, gr_2, sp_2)), (3, ((xs mk 3 ((st 3)).1 ((st 3)).2.1).1, (xs mk 3 ((st 3)).1 ((st 3)).2.1).2.1, pr_3, bl_3, le_3, gr_3, sp_3)), (4, ((xs mk 4 ((st 4)).1 ((st 4)).2.1).1, (xs mk 4 ((st 4)).1 ((st 4)).2.1).2.1, pr_4, bl_4, le_4, gr_4, sp_4))]))
      have hPc : va_P D vwCl (wN t (qq 5) nw (no 5) 5 mk (st 5) ++ [zO 2 nw [.ref rw, .int (nI (min 300 (min 300 (min 300 (min 300 (min 300 (z + (xs mk 0 ((st 0)).1 ((st 0)).2.1).2.2) + (xs mk 1 ((st 1)).1 ((st 1)).2.1).2.2) + (xs mk 2 ((st 2)).1 ((st 2)).2.1).2.2) + (xs mk 3 ((st 3)).1 ((st 3)).2.1).2.2) + (xs mk 4 ((st 4)).1 ((st 4)).2.1).2.2))), .int x_4, .int y_4, .int 0], zA t 3 rw 300 g_4]) H := xd_P hP (fun q h => List.mem_append_right _ h)
      have hDc : va_D A (wN t (qq 5) nw (no 5) 5 mk (st 5) ++ [zO 2 nw [.ref rw, .int (nI (min 300 (min 300 (min 300 (min 300 (min 300 (z + (xs mk 0 ((st 0)).1 ((st 0)).2.1).2.2) + (xs mk 1 ((st 1)).1 ((st 1)).2.1).2.2) + (xs mk 2 ((st 2)).1 ((st 2)).2.1).2.2) + (xs mk 3 ((st 3)).1 ((st 3)).2.1).2.2) + (xs mk 4 ((st 4)).1 ((st 4)).2.1).2.2))), .int x_4, .int y_4, .int 0], zA t 3 rw 300 g_4]) := xd_R hD
      refine xe_sfxv (wr := [zO 7 xa [.ref nw, .ref na, .int ky], zA t 4 na 7 (fun j => some (qq j 0))] ++ wNs t qq nw no mk [(6, (st 6)), (0, ((xs mk 0 ((st 0)).1 ((st 0)).2.1).1, (xs mk 0 ((st 0)).1 ((st 0)).2.1).2.1, pr_0, bl_0, le_0, gr_0, sp_0)), (1, ((xs mk 1 ((st 1)).1 ((st 1)).2.1).1, (xs mk 1 ((st 1)).1 ((st 1)).2.1).2.1, pr_1, bl_1, le_1, gr_1, sp_1)), (2, ((xs mk 2 ((st 2)).1 ((st 2)).2.1).1, (xs mk 2 ((st 2)).1 ((st 2)).2.1).2.1, pr_2, bl_2, le_2, gr_2, sp_2)), (3, ((xs mk 3 ((st 3)).1 ((st 3)).2.1).1, (xs mk 3 ((st 3)).1 ((st 3)).2.1).2.1, pr_3, bl_3, le_3, gr_3, sp_3)), (4, ((xs mk 4 ((st 4)).1 ((st 4)).2.1).1, (xs mk 4 ((st 4)).1 ((st 4)).2.1).2.1, pr_4, bl_4, le_4, gr_4, sp_4))]) (wc := wN t (qq 5) nw (no 5) 5 mk (st 5) ++ [zO 2 nw [.ref rw, .int (nI (min 300 (min 300 (min 300 (min 300 (min 300 (z + (xs mk 0 ((st 0)).1 ((st 0)).2.1).2.2) + (xs mk 1 ((st 1)).1 ((st 1)).2.1).2.2) + (xs mk 2 ((st 2)).1 ((st 2)).2.1).2.2) + (xs mk 3 ((st 3)).1 ((st 3)).2.1).2.2) + (xs mk 4 ((st 4)).1 ((st 4)).2.1).2.2))), .int x_4, .int y_4, .int 0], zA t 3 rw 300 g_4]) (xs_V (As := []) (rest := []) Z (C_D_passTime l D t (qq 5) nw (no 5) 5 ((st 5)).1 ((st 5)).2.1 (hok 5 (by decide)).1 (Nat.le_trans (hok 5 (by decide)).2.1 (by decide)) ((st 5)).2.2.1 ((st 5)).2.2.2.1 ((st 5)).2.2.2.2.1 ((st 5)).2.2.2.2.2.1 ((st 5)).2.2.2.2.2.2 mk (hok 5 (by decide)).2.2 rw (min 300 (min 300 (min 300 (min 300 (min 300 (z + (xs mk 0 ((st 0)).1 ((st 0)).2.1).2.2) + (xs mk 1 ((st 1)).1 ((st 1)).2.1).2.2) + (xs mk 2 ((st 2)).1 ((st 2)).2.1).2.2) + (xs mk 3 ((st 3)).1 ((st 3)).2.1).2.2) + (xs mk 4 ((st 4)).1 ((st 4)).2.1).2.2)) (by omega) x_4 y_4 g_4 H.size) m_D_passTime k_348 k_349 k_350 rfl rfl ⟨Nat.le_of_ble_eq_true rfl, Nat.le_of_ble_eq_true rfl⟩ (va_recv hK.2 hPc (ci := 3) (q0 := 0) rfl rfl) (xe_pre hK hPc hDc) rfl hl.1 rfl (Nat.le_of_ble_eq_true rfl) d_Q_tick_42 ⟨show 98 * turn + 14 + 14 + 14 + 14 + 14 + 14 ≤ 4900 by omega, show 784 * turn + 112 + 112 + 112 + 112 + 112 + 112 ≤ 39200 by omega⟩) hP hD hS hA (fun u_ H locs hw hP hD hS => ?_)
      obtain ⟨r_, pr_5, bl_5, le_5, gr_5, sp_5, x_5, y_5, g_5⟩ := u_
      obtain ⟨e_, hg_5⟩ := hw
      dsimp only at e_ hg_5
      subst e_
      have hP : va_P D vwCl (([zO 7 xa [.ref nw, .ref na, .int ky], zA t 4 na 7 (fun j => some (qq j 0))] ++ wNs t qq nw no mk [(6, (st 6)), (0, ((xs mk 0 ((st 0)).1 ((st 0)).2.1).1, (xs mk 0 ((st 0)).1 ((st 0)).2.1).2.1, pr_0, bl_0, le_0, gr_0, sp_0)), (1, ((xs mk 1 ((st 1)).1 ((st 1)).2.1).1, (xs mk 1 ((st 1)).1 ((st 1)).2.1).2.1, pr_1, bl_1, le_1, gr_1, sp_1)), (2, ((xs mk 2 ((st 2)).1 ((st 2)).2.1).1, (xs mk 2 ((st 2)).1 ((st 2)).2.1).2.1, pr_2, bl_2, le_2, gr_2, sp_2)), (3, ((xs mk 3 ((st 3)).1 ((st 3)).2.1).1, (xs mk 3 ((st 3)).1 ((st 3)).2.1).2.1, pr_3, bl_3, le_3, gr_3, sp_3)), (4, ((xs mk 4 ((st 4)).1 ((st 4)).2.1).1, (xs mk 4 ((st 4)).1 ((st 4)).2.1).2.1, pr_4, bl_4, le_4, gr_4, sp_4))]) ++ (wN t (qq 5) nw (no 5) 5 mk ((xs mk 5 ((st 5)).1 ((st 5)).2.1).1, (xs mk 5 ((st 5)).1 ((st 5)).2.1).2.1, pr_5, bl_5, le_5, gr_5, sp_5) ++ [zO 2 nw [.ref rw, .int (nI (min 300 (min 300 (min 300 (min 300 (min 300 (min 300 (z + (xs mk 0 ((st 0)).1 ((st 0)).2.1).2.2) + (xs mk 1 ((st 1)).1 ((st 1)).2.1).2.2) + (xs mk 2 ((st 2)).1 ((st 2)).2.1).2.2) + (xs mk 3 ((st 3)).1 ((st 3)).2.1).2.2) + (xs mk 4 ((st 4)).1 ((st 4)).2.1).2.2) + (xs mk 5 ((st 5)).1 ((st 5)).2.1).2.2))), .int x_5, .int y_5, .int 0], zA t 3 rw 300 g_5])) H := hP
      have hD : va_D A (([zO 7 xa [.ref nw, .ref na, .int ky], zA t 4 na 7 (fun j => some (qq j 0))] ++ wNs t qq nw no mk [(6, (st 6)), (0, ((xs mk 0 ((st 0)).1 ((st 0)).2.1).1, (xs mk 0 ((st 0)).1 ((st 0)).2.1).2.1, pr_0, bl_0, le_0, gr_0, sp_0)), (1, ((xs mk 1 ((st 1)).1 ((st 1)).2.1).1, (xs mk 1 ((st 1)).1 ((st 1)).2.1).2.1, pr_1, bl_1, le_1, gr_1, sp_1)), (2, ((xs mk 2 ((st 2)).1 ((st 2)).2.1).1, (xs mk 2 ((st 2)).1 ((st 2)).2.1).2.1, pr_2, bl_2, le_2, gr_2, sp_2)), (3, ((xs mk 3 ((st 3)).1 ((st 3)).2.1).1, (xs mk 3 ((st 3)).1 ((st 3)).2.1).2.1, pr_3, bl_3, le_3, gr_3, sp_3)), (4, ((xs mk 4 ((st 4)).1 ((st 4)).2.1).1, (xs mk 4 ((st 4)).1 ((st 4)).2.1).2.1, pr_4, bl_4, le_4, gr_4, sp_4))]) ++ (wN t (qq 5) nw (no 5) 5 mk ((xs mk 5 ((st 5)).1 ((st 5)).2.1).1, (xs mk 5 ((st 5)).1 ((st 5)).2.1).2.1, pr_5, bl_5, le_5, gr_5, sp_5) ++ [zO 2 nw [.ref rw, .int (nI (min 300 (min 300 (min 300 (min 300 (min 300 (min 300 (z + (xs mk 0 ((st 0)).1 ((st 0)).2.1).2.2) + (xs mk 1 ((st 1)).1 ((st 1)).2.1).2.2) + (xs mk 2 ((st 2)).1 ((st 2)).2.1).2.2) + (xs mk 3 ((st 3)).1 ((st 3)).2.1).2.2) + (xs mk 4 ((st 4)).1 ((st 4)).2.1).2.2) + (xs mk 5 ((st 5)).1 ((st 5)).2.1).2.2))), .int x_5, .int y_5, .int 0], zA t 3 rw 300 g_5])) := hD
      have hP := xd_P hP (fun q h => (xk_p2 [zO 7 xa [.ref nw, .ref na, .int ky], zA t 4 na 7 (fun j => some (qq j 0))] [zO 2 nw [.ref rw, .int (nI (min 300 (min 300 (min 300 (min 300 (min 300 (min 300 (z + (xs mk 0 ((st 0)).1 ((st 0)).2.1).2.2) + (xs mk 1 ((st 1)).1 ((st 1)).2.1).2.2) + (xs mk 2 ((st 2)).1 ((st 2)).2.1).2.2) + (xs mk 3 ((st 3)).1 ((st 3)).2.1).2.2) + (xs mk 4 ((st 4)).1 ((st 4)).2.1).2.2) + (xs mk 5 ((st 5)).1 ((st 5)).2.1).2.2))), .int x_5, .int y_5, .int 0], zA t 3 rw 300 g_5] (wN t (qq 5) nw (no 5) 5 mk ((xs mk 5 ((st 5)).1 ((st 5)).2.1).1, (xs mk 5 ((st 5)).1 ((st 5)).2.1).2.1, pr_5, bl_5, le_5, gr_5, sp_5)) (wNs t qq nw no mk [(6, (st 6)), (0, ((xs mk 0 ((st 0)).1 ((st 0)).2.1).1, (xs mk 0 ((st 0)).1 ((st 0)).2.1).2.1, pr_0, bl_0, le_0, gr_0, sp_0)), (1, ((xs mk 1 ((st 1)).1 ((st 1)).2.1).1, (xs mk 1 ((st 1)).1 ((st 1)).2.1).2.1, pr_1, bl_1, le_1, gr_1, sp_1)), (2, ((xs mk 2 ((st 2)).1 ((st 2)).2.1).1, (xs mk 2 ((st 2)).1 ((st 2)).2.1).2.1, pr_2, bl_2, le_2, gr_2, sp_2)), (3, ((xs mk 3 ((st 3)).1 ((st 3)).2.1).1, (xs mk 3 ((st 3)).1 ((st 3)).2.1).2.1, pr_3, bl_3, le_3, gr_3, sp_3)), (4, ((xs mk 4 ((st 4)).1 ((st 4)).2.1).1, (xs mk 4 ((st 4)).1 ((st 4)).2.1).2.1, pr_4, bl_4, le_4, gr_4, sp_4))])).mem_iff.mpr h)
      have hD := xd_perm hD (xk_p2 [zO 7 xa [.ref nw, .ref na, .int ky], zA t 4 na 7 (fun j => some (qq j 0))] [zO 2 nw [.ref rw, .int (nI (min 300 (min 300 (min 300 (min 300 (min 300 (min 300 (z + (xs mk 0 ((st 0)).1 ((st 0)).2.1).2.2) + (xs mk 1 ((st 1)).1 ((st 1)).2.1).2.2) + (xs mk 2 ((st 2)).1 ((st 2)).2.1).2.2) + (xs mk 3 ((st 3)).1 ((st 3)).2.1).2.2) + (xs mk 4 ((st 4)).1 ((st 4)).2.1).2.2) + (xs mk 5 ((st 5)).1 ((st 5)).2.1).2.2))), .int x_5, .int y_5, .int 0], zA t 3 rw 300 g_5] (wN t (qq 5) nw (no 5) 5 mk ((xs mk 5 ((st 5)).1 ((st 5)).2.1).1, (xs mk 5 ((st 5)).1 ((st 5)).2.1).2.1, pr_5, bl_5, le_5, gr_5, sp_5)) (wNs t qq nw no mk [(6, (st 6)), (0, ((xs mk 0 ((st 0)).1 ((st 0)).2.1).1, (xs mk 0 ((st 0)).1 ((st 0)).2.1).2.1, pr_0, bl_0, le_0, gr_0, sp_0)), (1, ((xs mk 1 ((st 1)).1 ((st 1)).2.1).1, (xs mk 1 ((st 1)).1 ((st 1)).2.1).2.1, pr_1, bl_1, le_1, gr_1, sp_1)), (2, ((xs mk 2 ((st 2)).1 ((st 2)).2.1).1, (xs mk 2 ((st 2)).1 ((st 2)).2.1).2.1, pr_2, bl_2, le_2, gr_2, sp_2)), (3, ((xs mk 3 ((st 3)).1 ((st 3)).2.1).1, (xs mk 3 ((st 3)).1 ((st 3)).2.1).2.1, pr_3, bl_3, le_3, gr_3, sp_3)), (4, ((xs mk 4 ((st 4)).1 ((st 4)).2.1).1, (xs mk 4 ((st 4)).1 ((st 4)).2.1).2.1, pr_4, bl_4, le_4, gr_4, sp_4))]))
      have hP : va_P D vwCl (([zO 7 xa [.ref nw, .ref na, .int ky], zA t 4 na 7 (fun j => some (qq j 0))] ++ [zO 2 nw [.ref rw, .int (nI (min 300 (min 300 (min 300 (min 300 (min 300 (min 300 (z + (xs mk 0 ((st 0)).1 ((st 0)).2.1).2.2) + (xs mk 1 ((st 1)).1 ((st 1)).2.1).2.2) + (xs mk 2 ((st 2)).1 ((st 2)).2.1).2.2) + (xs mk 3 ((st 3)).1 ((st 3)).2.1).2.2) + (xs mk 4 ((st 4)).1 ((st 4)).2.1).2.2) + (xs mk 5 ((st 5)).1 ((st 5)).2.1).2.2))), .int x_5, .int y_5, .int 0], zA t 3 rw 300 g_5]) ++ wNs t qq nw no mk [(6, (st 6)), (0, ((xs mk 0 ((st 0)).1 ((st 0)).2.1).1, (xs mk 0 ((st 0)).1 ((st 0)).2.1).2.1, pr_0, bl_0, le_0, gr_0, sp_0)), (1, ((xs mk 1 ((st 1)).1 ((st 1)).2.1).1, (xs mk 1 ((st 1)).1 ((st 1)).2.1).2.1, pr_1, bl_1, le_1, gr_1, sp_1)), (2, ((xs mk 2 ((st 2)).1 ((st 2)).2.1).1, (xs mk 2 ((st 2)).1 ((st 2)).2.1).2.1, pr_2, bl_2, le_2, gr_2, sp_2)), (3, ((xs mk 3 ((st 3)).1 ((st 3)).2.1).1, (xs mk 3 ((st 3)).1 ((st 3)).2.1).2.1, pr_3, bl_3, le_3, gr_3, sp_3)), (4, ((xs mk 4 ((st 4)).1 ((st 4)).2.1).1, (xs mk 4 ((st 4)).1 ((st 4)).2.1).2.1, pr_4, bl_4, le_4, gr_4, sp_4)), (5, ((xs mk 5 ((st 5)).1 ((st 5)).2.1).1, (xs mk 5 ((st 5)).1 ((st 5)).2.1).2.1, pr_5, bl_5, le_5, gr_5, sp_5))]) H := by rw [show wNs t qq nw no mk [(6, (st 6)), (0, ((xs mk 0 ((st 0)).1 ((st 0)).2.1).1, (xs mk 0 ((st 0)).1 ((st 0)).2.1).2.1, pr_0, bl_0, le_0, gr_0, sp_0)), (1, ((xs mk 1 ((st 1)).1 ((st 1)).2.1).1, (xs mk 1 ((st 1)).1 ((st 1)).2.1).2.1, pr_1, bl_1, le_1, gr_1, sp_1)), (2, ((xs mk 2 ((st 2)).1 ((st 2)).2.1).1, (xs mk 2 ((st 2)).1 ((st 2)).2.1).2.1, pr_2, bl_2, le_2, gr_2, sp_2)), (3, ((xs mk 3 ((st 3)).1 ((st 3)).2.1).1, (xs mk 3 ((st 3)).1 ((st 3)).2.1).2.1, pr_3, bl_3, le_3, gr_3, sp_3)), (4, ((xs mk 4 ((st 4)).1 ((st 4)).2.1).1, (xs mk 4 ((st 4)).1 ((st 4)).2.1).2.1, pr_4, bl_4, le_4, gr_4, sp_4)), (5, ((xs mk 5 ((st 5)).1 ((st 5)).2.1).1, (xs mk 5 ((st 5)).1 ((st 5)).2.1).2.1, pr_5, bl_5, le_5, gr_5, sp_5))] = wNs t qq nw no mk [(6, (st 6)), (0, ((xs mk 0 ((st 0)).1 ((st 0)).2.1).1, (xs mk 0 ((st 0)).1 ((st 0)).2.1).2.1, pr_0, bl_0, le_0, gr_0, sp_0)), (1, ((xs mk 1 ((st 1)).1 ((st 1)).2.1).1, (xs mk 1 ((st 1)).1 ((st 1)).2.1).2.1, pr_1, bl_1, le_1, gr_1, sp_1)), (2, ((xs mk 2 ((st 2)).1 ((st 2)).2.1).1, (xs mk 2 ((st 2)).1 ((st 2)).2.1).2.1, pr_2, bl_2, le_2, gr_2, sp_2)), (3, ((xs mk 3 ((st 3)).1 ((st 3)).2.1).1, (xs mk 3 ((st 3)).1 ((st 3)).2.1).2.1, pr_3, bl_3, le_3, gr_3, sp_3)), (4, ((xs mk 4 ((st 4)).1 ((st 4)).2.1).1, (xs mk 4 ((st 4)).1 ((st 4)).2.1).2.1, pr_4, bl_4, le_4, gr_4, sp_4))] ++ wN t (qq 5) nw (no 5) 5 mk ((xs mk 5 ((st 5)).1 ((st 5)).2.1).1, (xs mk 5 ((st 5)).1 ((st 5)).2.1).2.1, pr_5, bl_5, le_5, gr_5, sp_5) from wNs_snoc _ _ _ _ _ [(6, (st 6)), (0, ((xs mk 0 ((st 0)).1 ((st 0)).2.1).1, (xs mk 0 ((st 0)).1 ((st 0)).2.1).2.1, pr_0, bl_0, le_0, gr_0, sp_0)), (1, ((xs mk 1 ((st 1)).1 ((st 1)).2.1).1, (xs mk 1 ((st 1)).1 ((st 1)).2.1).2.1, pr_1, bl_1, le_1, gr_1, sp_1)), (2, ((xs mk 2 ((st 2)).1 ((st 2)).2.1).1, (xs mk 2 ((st 2)).1 ((st 2)).2.1).2.1, pr_2, bl_2, le_2, gr_2, sp_2)), (3, ((xs mk 3 ((st 3)).1 ((st 3)).2.1).1, (xs mk 3 ((st 3)).1 ((st 3)).2.1).2.1, pr_3, bl_3, le_3, gr_3, sp_3)), (4, ((xs mk 4 ((st 4)).1 ((st 4)).2.1).1, (xs mk 4 ((st 4)).1 ((st 4)).2.1).2.1, pr_4, bl_4, le_4, gr_4, sp_4))] _]; exact hP
      have hD : va_D A (([zO 7 xa [.ref nw, .ref na, .int ky], zA t 4 na 7 (fun j => some (qq j 0))] ++ [zO 2 nw [.ref rw, .int (nI (min 300 (min 300 (min 300 (min 300 (min 300 (min 300 (z + (xs mk 0 ((st 0)).1 ((st 0)).2.1).2.2) + (xs mk 1 ((st 1)).1 ((st 1)).2.1).2.2) + (xs mk 2 ((st 2)).1 ((st 2)).2.1).2.2) + (xs mk 3 ((st 3)).1 ((st 3)).2.1).2.2) + (xs mk 4 ((st 4)).1 ((st 4)).2.1).2.2) + (xs mk 5 ((st 5)).1 ((st 5)).2.1).2.2))), .int x_5, .int y_5, .int 0], zA t 3 rw 300 g_5]) ++ wNs t qq nw no mk [(6, (st 6)), (0, ((xs mk 0 ((st 0)).1 ((st 0)).2.1).1, (xs mk 0 ((st 0)).1 ((st 0)).2.1).2.1, pr_0, bl_0, le_0, gr_0, sp_0)), (1, ((xs mk 1 ((st 1)).1 ((st 1)).2.1).1, (xs mk 1 ((st 1)).1 ((st 1)).2.1).2.1, pr_1, bl_1, le_1, gr_1, sp_1)), (2, ((xs mk 2 ((st 2)).1 ((st 2)).2.1).1, (xs mk 2 ((st 2)).1 ((st 2)).2.1).2.1, pr_2, bl_2, le_2, gr_2, sp_2)), (3, ((xs mk 3 ((st 3)).1 ((st 3)).2.1).1, (xs mk 3 ((st 3)).1 ((st 3)).2.1).2.1, pr_3, bl_3, le_3, gr_3, sp_3)), (4, ((xs mk 4 ((st 4)).1 ((st 4)).2.1).1, (xs mk 4 ((st 4)).1 ((st 4)).2.1).2.1, pr_4, bl_4, le_4, gr_4, sp_4)), (5, ((xs mk 5 ((st 5)).1 ((st 5)).2.1).1, (xs mk 5 ((st 5)).1 ((st 5)).2.1).2.1, pr_5, bl_5, le_5, gr_5, sp_5))]) := by rw [show wNs t qq nw no mk [(6, (st 6)), (0, ((xs mk 0 ((st 0)).1 ((st 0)).2.1).1, (xs mk 0 ((st 0)).1 ((st 0)).2.1).2.1, pr_0, bl_0, le_0, gr_0, sp_0)), (1, ((xs mk 1 ((st 1)).1 ((st 1)).2.1).1, (xs mk 1 ((st 1)).1 ((st 1)).2.1).2.1, pr_1, bl_1, le_1, gr_1, sp_1)), (2, ((xs mk 2 ((st 2)).1 ((st 2)).2.1).1, (xs mk 2 ((st 2)).1 ((st 2)).2.1).2.1, pr_2, bl_2, le_2, gr_2, sp_2)), (3, ((xs mk 3 ((st 3)).1 ((st 3)).2.1).1, (xs mk 3 ((st 3)).1 ((st 3)).2.1).2.1, pr_3, bl_3, le_3, gr_3, sp_3)), (4, ((xs mk 4 ((st 4)).1 ((st 4)).2.1).1, (xs mk 4 ((st 4)).1 ((st 4)).2.1).2.1, pr_4, bl_4, le_4, gr_4, sp_4)), (5, ((xs mk 5 ((st 5)).1 ((st 5)).2.1).1, (xs mk 5 ((st 5)).1 ((st 5)).2.1).2.1, pr_5, bl_5, le_5, gr_5, sp_5))] = wNs t qq nw no mk [(6, (st 6)), (0, ((xs mk 0 ((st 0)).1 ((st 0)).2.1).1, (xs mk 0 ((st 0)).1 ((st 0)).2.1).2.1, pr_0, bl_0, le_0, gr_0, sp_0)), (1, ((xs mk 1 ((st 1)).1 ((st 1)).2.1).1, (xs mk 1 ((st 1)).1 ((st 1)).2.1).2.1, pr_1, bl_1, le_1, gr_1, sp_1)), (2, ((xs mk 2 ((st 2)).1 ((st 2)).2.1).1, (xs mk 2 ((st 2)).1 ((st 2)).2.1).2.1, pr_2, bl_2, le_2, gr_2, sp_2)), (3, ((xs mk 3 ((st 3)).1 ((st 3)).2.1).1, (xs mk 3 ((st 3)).1 ((st 3)).2.1).2.1, pr_3, bl_3, le_3, gr_3, sp_3)), (4, ((xs mk 4 ((st 4)).1 ((st 4)).2.1).1, (xs mk 4 ((st 4)).1 ((st 4)).2.1).2.1, pr_4, bl_4, le_4, gr_4, sp_4))] ++ wN t (qq 5) nw (no 5) 5 mk ((xs mk 5 ((st 5)).1 ((st 5)).2.1).1, (xs mk 5 ((st 5)).1 ((st 5)).2.1).2.1, pr_5, bl_5, le_5, gr_5, sp_5) from wNs_snoc _ _ _ _ _ [(6, (st 6)), (0, ((xs mk 0 ((st 0)).1 ((st 0)).2.1).1, (xs mk 0 ((st 0)).1 ((st 0)).2.1).2.1, pr_0, bl_0, le_0, gr_0, sp_0)), (1, ((xs mk 1 ((st 1)).1 ((st 1)).2.1).1, (xs mk 1 ((st 1)).1 ((st 1)).2.1).2.1, pr_1, bl_1, le_1, gr_1, sp_1)), (2, ((xs mk 2 ((st 2)).1 ((st 2)).2.1).1, (xs mk 2 ((st 2)).1 ((st 2)).2.1).2.1, pr_2, bl_2, le_2, gr_2, sp_2)), (3, ((xs mk 3 ((st 3)).1 ((st 3)).2.1).1, (xs mk 3 ((st 3)).1 ((st 3)).2.1).2.1, pr_3, bl_3, le_3, gr_3, sp_3)), (4, ((xs mk 4 ((st 4)).1 ((st 4)).2.1).1, (xs mk 4 ((st 4)).1 ((st 4)).2.1).2.1, pr_4, bl_4, le_4, gr_4, sp_4))] _]; exact hD
      refine lv_iinc (v := 6) (lv' := [(3, .int 6), (2, .int (nI turn)), (0, .ref xa), (1, .int (nI N))]) hx hb d_Q_tick_45 hl (k := 0) rfl rfl (by decide) rfl (fun ls hl => ?_)
      refine lv_goto (tgt := 30) hx hb d_Q_tick_48 (by decide) ?_
      refine lv_iload_n hx hb d_Q_tick_30 rfl (lv_at hl 0 rfl) ?_
      refine lv_bipush (v := 7) hx hb d_Q_tick_31 (by decide) ?_
      refine lv_icmp_ge (tgt := 51) hx hb d_Q_tick_33 (by decide) (fun c_11 => absurd c_11 (by decide)) (fun _ => ?_)
      refine lv_aload_n hx hb d_Q_tick_36 rfl (lv_at hl 2 rfl) ?_
      refine va_get (ci := 7) (C := "QuorumStore") (T := TX7) (N := 3) hx hb hts inX7 hown hK.2 hP 0 rfl rfl 1 (by decide) (hts _ k_256) (fun _ h9 => h9) rfl d_Q_tick_37 ?_
      refine lv_iload_n hx hb d_Q_tick_40 rfl (lv_at hl 0 rfl) ?_
      refine va_aldq hx hb hK.2 hP 1 4 rfl rfl (by unfold vp_in; decide) d_Q_tick_41 ?_
      have hP := xd_P hP (fun q h => (xk_p1 [zO 7 xa [.ref nw, .ref na, .int ky], zA t 4 na 7 (fun j => some (qq j 0))] [zO 2 nw [.ref rw, .int (nI (min 300 (min 300 (min 300 (min 300 (min 300 (min 300 (z + (xs mk 0 ((st 0)).1 ((st 0)).2.1).2.2) + (xs mk 1 ((st 1)).1 ((st 1)).2.1).2.2) + (xs mk 2 ((st 2)).1 ((st 2)).2.1).2.2) + (xs mk 3 ((st 3)).1 ((st 3)).2.1).2.2) + (xs mk 4 ((st 4)).1 ((st 4)).2.1).2.2) + (xs mk 5 ((st 5)).1 ((st 5)).2.1).2.2))), .int x_5, .int y_5, .int 0], zA t 3 rw 300 g_5] (wN t (qq 6) nw (no 6) 6 mk (st 6)) (wNs t qq nw no mk [(0, ((xs mk 0 ((st 0)).1 ((st 0)).2.1).1, (xs mk 0 ((st 0)).1 ((st 0)).2.1).2.1, pr_0, bl_0, le_0, gr_0, sp_0)), (1, ((xs mk 1 ((st 1)).1 ((st 1)).2.1).1, (xs mk 1 ((st 1)).1 ((st 1)).2.1).2.1, pr_1, bl_1, le_1, gr_1, sp_1)), (2, ((xs mk 2 ((st 2)).1 ((st 2)).2.1).1, (xs mk 2 ((st 2)).1 ((st 2)).2.1).2.1, pr_2, bl_2, le_2, gr_2, sp_2)), (3, ((xs mk 3 ((st 3)).1 ((st 3)).2.1).1, (xs mk 3 ((st 3)).1 ((st 3)).2.1).2.1, pr_3, bl_3, le_3, gr_3, sp_3)), (4, ((xs mk 4 ((st 4)).1 ((st 4)).2.1).1, (xs mk 4 ((st 4)).1 ((st 4)).2.1).2.1, pr_4, bl_4, le_4, gr_4, sp_4)), (5, ((xs mk 5 ((st 5)).1 ((st 5)).2.1).1, (xs mk 5 ((st 5)).1 ((st 5)).2.1).2.1, pr_5, bl_5, le_5, gr_5, sp_5))])).mem_iff.mpr h)
      have hD := xd_perm hD (xk_p1 [zO 7 xa [.ref nw, .ref na, .int ky], zA t 4 na 7 (fun j => some (qq j 0))] [zO 2 nw [.ref rw, .int (nI (min 300 (min 300 (min 300 (min 300 (min 300 (min 300 (z + (xs mk 0 ((st 0)).1 ((st 0)).2.1).2.2) + (xs mk 1 ((st 1)).1 ((st 1)).2.1).2.2) + (xs mk 2 ((st 2)).1 ((st 2)).2.1).2.2) + (xs mk 3 ((st 3)).1 ((st 3)).2.1).2.2) + (xs mk 4 ((st 4)).1 ((st 4)).2.1).2.2) + (xs mk 5 ((st 5)).1 ((st 5)).2.1).2.2))), .int x_5, .int y_5, .int 0], zA t 3 rw 300 g_5] (wN t (qq 6) nw (no 6) 6 mk (st 6)) (wNs t qq nw no mk [(0, ((xs mk 0 ((st 0)).1 ((st 0)).2.1).1, (xs mk 0 ((st 0)).1 ((st 0)).2.1).2.1, pr_0, bl_0, le_0, gr_0, sp_0)), (1, ((xs mk 1 ((st 1)).1 ((st 1)).2.1).1, (xs mk 1 ((st 1)).1 ((st 1)).2.1).2.1, pr_1, bl_1, le_1, gr_1, sp_1)), (2, ((xs mk 2 ((st 2)).1 ((st 2)).2.1).1, (xs mk 2 ((st 2)).1 ((st 2)).2.1).2.1, pr_2, bl_2, le_2, gr_2, sp_2)), (3, ((xs mk 3 ((st 3)).1 ((st 3)).2.1).1, (xs mk 3 ((st 3)).1 ((st 3)).2.1).2.1, pr_3, bl_3, le_3, gr_3, sp_3)), (4, ((xs mk 4 ((st 4)).1 ((st 4)).2.1).1, (xs mk 4 ((st 4)).1 ((st 4)).2.1).2.1, pr_4, bl_4, le_4, gr_4, sp_4)), (5, ((xs mk 5 ((st 5)).1 ((st 5)).2.1).1, (xs mk 5 ((st 5)).1 ((st 5)).2.1).2.1, pr_5, bl_5, le_5, gr_5, sp_5))]))
      have hPc : va_P D vwCl (wN t (qq 6) nw (no 6) 6 mk (st 6) ++ [zO 2 nw [.ref rw, .int (nI (min 300 (min 300 (min 300 (min 300 (min 300 (min 300 (z + (xs mk 0 ((st 0)).1 ((st 0)).2.1).2.2) + (xs mk 1 ((st 1)).1 ((st 1)).2.1).2.2) + (xs mk 2 ((st 2)).1 ((st 2)).2.1).2.2) + (xs mk 3 ((st 3)).1 ((st 3)).2.1).2.2) + (xs mk 4 ((st 4)).1 ((st 4)).2.1).2.2) + (xs mk 5 ((st 5)).1 ((st 5)).2.1).2.2))), .int x_5, .int y_5, .int 0], zA t 3 rw 300 g_5]) H := xd_P hP (fun q h => List.mem_append_right _ h)
      have hDc : va_D A (wN t (qq 6) nw (no 6) 6 mk (st 6) ++ [zO 2 nw [.ref rw, .int (nI (min 300 (min 300 (min 300 (min 300 (min 300 (min 300 (z + (xs mk 0 ((st 0)).1 ((st 0)).2.1).2.2) + (xs mk 1 ((st 1)).1 ((st 1)).2.1).2.2) + (xs mk 2 ((st 2)).1 ((st 2)).2.1).2.2) + (xs mk 3 ((st 3)).1 ((st 3)).2.1).2.2) + (xs mk 4 ((st 4)).1 ((st 4)).2.1).2.2) + (xs mk 5 ((st 5)).1 ((st 5)).2.1).2.2))), .int x_5, .int y_5, .int 0], zA t 3 rw 300 g_5]) := xd_R hD
      refine xe_sfxv (wr := [zO 7 xa [.ref nw, .ref na, .int ky], zA t 4 na 7 (fun j => some (qq j 0))] ++ wNs t qq nw no mk [(0, ((xs mk 0 ((st 0)).1 ((st 0)).2.1).1, (xs mk 0 ((st 0)).1 ((st 0)).2.1).2.1, pr_0, bl_0, le_0, gr_0, sp_0)), (1, ((xs mk 1 ((st 1)).1 ((st 1)).2.1).1, (xs mk 1 ((st 1)).1 ((st 1)).2.1).2.1, pr_1, bl_1, le_1, gr_1, sp_1)), (2, ((xs mk 2 ((st 2)).1 ((st 2)).2.1).1, (xs mk 2 ((st 2)).1 ((st 2)).2.1).2.1, pr_2, bl_2, le_2, gr_2, sp_2)), (3, ((xs mk 3 ((st 3)).1 ((st 3)).2.1).1, (xs mk 3 ((st 3)).1 ((st 3)).2.1).2.1, pr_3, bl_3, le_3, gr_3, sp_3)), (4, ((xs mk 4 ((st 4)).1 ((st 4)).2.1).1, (xs mk 4 ((st 4)).1 ((st 4)).2.1).2.1, pr_4, bl_4, le_4, gr_4, sp_4)), (5, ((xs mk 5 ((st 5)).1 ((st 5)).2.1).1, (xs mk 5 ((st 5)).1 ((st 5)).2.1).2.1, pr_5, bl_5, le_5, gr_5, sp_5))]) (wc := wN t (qq 6) nw (no 6) 6 mk (st 6) ++ [zO 2 nw [.ref rw, .int (nI (min 300 (min 300 (min 300 (min 300 (min 300 (min 300 (z + (xs mk 0 ((st 0)).1 ((st 0)).2.1).2.2) + (xs mk 1 ((st 1)).1 ((st 1)).2.1).2.2) + (xs mk 2 ((st 2)).1 ((st 2)).2.1).2.2) + (xs mk 3 ((st 3)).1 ((st 3)).2.1).2.2) + (xs mk 4 ((st 4)).1 ((st 4)).2.1).2.2) + (xs mk 5 ((st 5)).1 ((st 5)).2.1).2.2))), .int x_5, .int y_5, .int 0], zA t 3 rw 300 g_5]) (xs_V (As := []) (rest := []) Z (C_D_passTime l D t (qq 6) nw (no 6) 6 ((st 6)).1 ((st 6)).2.1 (hok 6 (by decide)).1 (Nat.le_trans (hok 6 (by decide)).2.1 (by decide)) ((st 6)).2.2.1 ((st 6)).2.2.2.1 ((st 6)).2.2.2.2.1 ((st 6)).2.2.2.2.2.1 ((st 6)).2.2.2.2.2.2 mk (hok 6 (by decide)).2.2 rw (min 300 (min 300 (min 300 (min 300 (min 300 (min 300 (z + (xs mk 0 ((st 0)).1 ((st 0)).2.1).2.2) + (xs mk 1 ((st 1)).1 ((st 1)).2.1).2.2) + (xs mk 2 ((st 2)).1 ((st 2)).2.1).2.2) + (xs mk 3 ((st 3)).1 ((st 3)).2.1).2.2) + (xs mk 4 ((st 4)).1 ((st 4)).2.1).2.2) + (xs mk 5 ((st 5)).1 ((st 5)).2.1).2.2)) (by omega) x_5 y_5 g_5 H.size) m_D_passTime k_348 k_349 k_350 rfl rfl ⟨Nat.le_of_ble_eq_true rfl, Nat.le_of_ble_eq_true rfl⟩ (va_recv hK.2 hPc (ci := 3) (q0 := 0) rfl rfl) (xe_pre hK hPc hDc) rfl hl.1 rfl (Nat.le_of_ble_eq_true rfl) d_Q_tick_42 ⟨show 98 * turn + 14 + 14 + 14 + 14 + 14 + 14 + 14 ≤ 4900 by omega, show 784 * turn + 112 + 112 + 112 + 112 + 112 + 112 + 112 ≤ 39200 by omega⟩) hP hD hS hA (fun u_ H locs hw hP hD hS => ?_)
      obtain ⟨r_, pr_6, bl_6, le_6, gr_6, sp_6, x_6, y_6, g_6⟩ := u_
      obtain ⟨e_, hg_6⟩ := hw
      dsimp only at e_ hg_6
      subst e_
      have hP : va_P D vwCl (([zO 7 xa [.ref nw, .ref na, .int ky], zA t 4 na 7 (fun j => some (qq j 0))] ++ wNs t qq nw no mk [(0, ((xs mk 0 ((st 0)).1 ((st 0)).2.1).1, (xs mk 0 ((st 0)).1 ((st 0)).2.1).2.1, pr_0, bl_0, le_0, gr_0, sp_0)), (1, ((xs mk 1 ((st 1)).1 ((st 1)).2.1).1, (xs mk 1 ((st 1)).1 ((st 1)).2.1).2.1, pr_1, bl_1, le_1, gr_1, sp_1)), (2, ((xs mk 2 ((st 2)).1 ((st 2)).2.1).1, (xs mk 2 ((st 2)).1 ((st 2)).2.1).2.1, pr_2, bl_2, le_2, gr_2, sp_2)), (3, ((xs mk 3 ((st 3)).1 ((st 3)).2.1).1, (xs mk 3 ((st 3)).1 ((st 3)).2.1).2.1, pr_3, bl_3, le_3, gr_3, sp_3)), (4, ((xs mk 4 ((st 4)).1 ((st 4)).2.1).1, (xs mk 4 ((st 4)).1 ((st 4)).2.1).2.1, pr_4, bl_4, le_4, gr_4, sp_4)), (5, ((xs mk 5 ((st 5)).1 ((st 5)).2.1).1, (xs mk 5 ((st 5)).1 ((st 5)).2.1).2.1, pr_5, bl_5, le_5, gr_5, sp_5))]) ++ (wN t (qq 6) nw (no 6) 6 mk ((xs mk 6 ((st 6)).1 ((st 6)).2.1).1, (xs mk 6 ((st 6)).1 ((st 6)).2.1).2.1, pr_6, bl_6, le_6, gr_6, sp_6) ++ [zO 2 nw [.ref rw, .int (nI (min 300 (min 300 (min 300 (min 300 (min 300 (min 300 (min 300 (z + (xs mk 0 ((st 0)).1 ((st 0)).2.1).2.2) + (xs mk 1 ((st 1)).1 ((st 1)).2.1).2.2) + (xs mk 2 ((st 2)).1 ((st 2)).2.1).2.2) + (xs mk 3 ((st 3)).1 ((st 3)).2.1).2.2) + (xs mk 4 ((st 4)).1 ((st 4)).2.1).2.2) + (xs mk 5 ((st 5)).1 ((st 5)).2.1).2.2) + (xs mk 6 ((st 6)).1 ((st 6)).2.1).2.2))), .int x_6, .int y_6, .int 0], zA t 3 rw 300 g_6])) H := hP
      have hD : va_D A (([zO 7 xa [.ref nw, .ref na, .int ky], zA t 4 na 7 (fun j => some (qq j 0))] ++ wNs t qq nw no mk [(0, ((xs mk 0 ((st 0)).1 ((st 0)).2.1).1, (xs mk 0 ((st 0)).1 ((st 0)).2.1).2.1, pr_0, bl_0, le_0, gr_0, sp_0)), (1, ((xs mk 1 ((st 1)).1 ((st 1)).2.1).1, (xs mk 1 ((st 1)).1 ((st 1)).2.1).2.1, pr_1, bl_1, le_1, gr_1, sp_1)), (2, ((xs mk 2 ((st 2)).1 ((st 2)).2.1).1, (xs mk 2 ((st 2)).1 ((st 2)).2.1).2.1, pr_2, bl_2, le_2, gr_2, sp_2)), (3, ((xs mk 3 ((st 3)).1 ((st 3)).2.1).1, (xs mk 3 ((st 3)).1 ((st 3)).2.1).2.1, pr_3, bl_3, le_3, gr_3, sp_3)), (4, ((xs mk 4 ((st 4)).1 ((st 4)).2.1).1, (xs mk 4 ((st 4)).1 ((st 4)).2.1).2.1, pr_4, bl_4, le_4, gr_4, sp_4)), (5, ((xs mk 5 ((st 5)).1 ((st 5)).2.1).1, (xs mk 5 ((st 5)).1 ((st 5)).2.1).2.1, pr_5, bl_5, le_5, gr_5, sp_5))]) ++ (wN t (qq 6) nw (no 6) 6 mk ((xs mk 6 ((st 6)).1 ((st 6)).2.1).1, (xs mk 6 ((st 6)).1 ((st 6)).2.1).2.1, pr_6, bl_6, le_6, gr_6, sp_6) ++ [zO 2 nw [.ref rw, .int (nI (min 300 (min 300 (min 300 (min 300 (min 300 (min 300 (min 300 (z + (xs mk 0 ((st 0)).1 ((st 0)).2.1).2.2) + (xs mk 1 ((st 1)).1 ((st 1)).2.1).2.2) + (xs mk 2 ((st 2)).1 ((st 2)).2.1).2.2) + (xs mk 3 ((st 3)).1 ((st 3)).2.1).2.2) + (xs mk 4 ((st 4)).1 ((st 4)).2.1).2.2) + (xs mk 5 ((st 5)).1 ((st 5)).2.1).2.2) + (xs mk 6 ((st 6)).1 ((st 6)).2.1).2.2))), .int x_6, .int y_6, .int 0], zA t 3 rw 300 g_6])) := hD
      have hP := xd_P hP (fun q h => (xk_p2 [zO 7 xa [.ref nw, .ref na, .int ky], zA t 4 na 7 (fun j => some (qq j 0))] [zO 2 nw [.ref rw, .int (nI (min 300 (min 300 (min 300 (min 300 (min 300 (min 300 (min 300 (z + (xs mk 0 ((st 0)).1 ((st 0)).2.1).2.2) + (xs mk 1 ((st 1)).1 ((st 1)).2.1).2.2) + (xs mk 2 ((st 2)).1 ((st 2)).2.1).2.2) + (xs mk 3 ((st 3)).1 ((st 3)).2.1).2.2) + (xs mk 4 ((st 4)).1 ((st 4)).2.1).2.2) + (xs mk 5 ((st 5)).1 ((st 5)).2.1).2.2) + (xs mk 6 ((st 6)).1 ((st 6)).2.1).2.2))), .int x_6, .int y_6, .int 0], zA t 3 rw 300 g_6] (wN t (qq 6) nw (no 6) 6 mk ((xs mk 6 ((st 6)).1 ((st 6)).2.1).1, (xs mk 6 ((st 6)).1 ((st 6)).2.1).2.1, pr_6, bl_6, le_6, gr_6, sp_6)) (wNs t qq nw no mk [(0, ((xs mk 0 ((st 0)).1 ((st 0)).2.1).1, (xs mk 0 ((st 0)).1 ((st 0)).2.1).2.1, pr_0, bl_0, le_0, gr_0, sp_0)), (1, ((xs mk 1 ((st 1)).1 ((st 1)).2.1).1, (xs mk 1 ((st 1)).1 ((st 1)).2.1).2.1, pr_1, bl_1, le_1, gr_1, sp_1)), (2, ((xs mk 2 ((st 2)).1 ((st 2)).2.1).1, (xs mk 2 ((st 2)).1 ((st 2)).2.1).2.1, pr_2, bl_2, le_2, gr_2, sp_2)), (3, ((xs mk 3 ((st 3)).1 ((st 3)).2.1).1, (xs mk 3 ((st 3)).1 ((st 3)).2.1).2.1, pr_3, bl_3, le_3, gr_3, sp_3)), (4, ((xs mk 4 ((st 4)).1 ((st 4)).2.1).1, (xs mk 4 ((st 4)).1 ((st 4)).2.1).2.1, pr_4, bl_4, le_4, gr_4, sp_4)), (5, ((xs mk 5 ((st 5)).1 ((st 5)).2.1).1, (xs mk 5 ((st 5)).1 ((st 5)).2.1).2.1, pr_5, bl_5, le_5, gr_5, sp_5))])).mem_iff.mpr h)
      have hD := xd_perm hD (xk_p2 [zO 7 xa [.ref nw, .ref na, .int ky], zA t 4 na 7 (fun j => some (qq j 0))] [zO 2 nw [.ref rw, .int (nI (min 300 (min 300 (min 300 (min 300 (min 300 (min 300 (min 300 (z + (xs mk 0 ((st 0)).1 ((st 0)).2.1).2.2) + (xs mk 1 ((st 1)).1 ((st 1)).2.1).2.2) + (xs mk 2 ((st 2)).1 ((st 2)).2.1).2.2) + (xs mk 3 ((st 3)).1 ((st 3)).2.1).2.2) + (xs mk 4 ((st 4)).1 ((st 4)).2.1).2.2) + (xs mk 5 ((st 5)).1 ((st 5)).2.1).2.2) + (xs mk 6 ((st 6)).1 ((st 6)).2.1).2.2))), .int x_6, .int y_6, .int 0], zA t 3 rw 300 g_6] (wN t (qq 6) nw (no 6) 6 mk ((xs mk 6 ((st 6)).1 ((st 6)).2.1).1, (xs mk 6 ((st 6)).1 ((st 6)).2.1).2.1, pr_6, bl_6, le_6, gr_6, sp_6)) (wNs t qq nw no mk [(0, ((xs mk 0 ((st 0)).1 ((st 0)).2.1).1, (xs mk 0 ((st 0)).1 ((st 0)).2.1).2.1, pr_0, bl_0, le_0, gr_0, sp_0)), (1, ((xs mk 1 ((st 1)).1 ((st 1)).2.1).1, (xs mk 1 ((st 1)).1 ((st 1)).2.1).2.1, pr_1, bl_1, le_1, gr_1, sp_1)), (2, ((xs mk 2 ((st 2)).1 ((st 2)).2.1).1, (xs mk 2 ((st 2)).1 ((st 2)).2.1).2.1, pr_2, bl_2, le_2, gr_2, sp_2)), (3, ((xs mk 3 ((st 3)).1 ((st 3)).2.1).1, (xs mk 3 ((st 3)).1 ((st 3)).2.1).2.1, pr_3, bl_3, le_3, gr_3, sp_3)), (4, ((xs mk 4 ((st 4)).1 ((st 4)).2.1).1, (xs mk 4 ((st 4)).1 ((st 4)).2.1).2.1, pr_4, bl_4, le_4, gr_4, sp_4)), (5, ((xs mk 5 ((st 5)).1 ((st 5)).2.1).1, (xs mk 5 ((st 5)).1 ((st 5)).2.1).2.1, pr_5, bl_5, le_5, gr_5, sp_5))]))
      have hP : va_P D vwCl (([zO 7 xa [.ref nw, .ref na, .int ky], zA t 4 na 7 (fun j => some (qq j 0))] ++ [zO 2 nw [.ref rw, .int (nI (min 300 (min 300 (min 300 (min 300 (min 300 (min 300 (min 300 (z + (xs mk 0 ((st 0)).1 ((st 0)).2.1).2.2) + (xs mk 1 ((st 1)).1 ((st 1)).2.1).2.2) + (xs mk 2 ((st 2)).1 ((st 2)).2.1).2.2) + (xs mk 3 ((st 3)).1 ((st 3)).2.1).2.2) + (xs mk 4 ((st 4)).1 ((st 4)).2.1).2.2) + (xs mk 5 ((st 5)).1 ((st 5)).2.1).2.2) + (xs mk 6 ((st 6)).1 ((st 6)).2.1).2.2))), .int x_6, .int y_6, .int 0], zA t 3 rw 300 g_6]) ++ wNs t qq nw no mk [(0, ((xs mk 0 ((st 0)).1 ((st 0)).2.1).1, (xs mk 0 ((st 0)).1 ((st 0)).2.1).2.1, pr_0, bl_0, le_0, gr_0, sp_0)), (1, ((xs mk 1 ((st 1)).1 ((st 1)).2.1).1, (xs mk 1 ((st 1)).1 ((st 1)).2.1).2.1, pr_1, bl_1, le_1, gr_1, sp_1)), (2, ((xs mk 2 ((st 2)).1 ((st 2)).2.1).1, (xs mk 2 ((st 2)).1 ((st 2)).2.1).2.1, pr_2, bl_2, le_2, gr_2, sp_2)), (3, ((xs mk 3 ((st 3)).1 ((st 3)).2.1).1, (xs mk 3 ((st 3)).1 ((st 3)).2.1).2.1, pr_3, bl_3, le_3, gr_3, sp_3)), (4, ((xs mk 4 ((st 4)).1 ((st 4)).2.1).1, (xs mk 4 ((st 4)).1 ((st 4)).2.1).2.1, pr_4, bl_4, le_4, gr_4, sp_4)), (5, ((xs mk 5 ((st 5)).1 ((st 5)).2.1).1, (xs mk 5 ((st 5)).1 ((st 5)).2.1).2.1, pr_5, bl_5, le_5, gr_5, sp_5)), (6, ((xs mk 6 ((st 6)).1 ((st 6)).2.1).1, (xs mk 6 ((st 6)).1 ((st 6)).2.1).2.1, pr_6, bl_6, le_6, gr_6, sp_6))]) H := by rw [show wNs t qq nw no mk [(0, ((xs mk 0 ((st 0)).1 ((st 0)).2.1).1, (xs mk 0 ((st 0)).1 ((st 0)).2.1).2.1, pr_0, bl_0, le_0, gr_0, sp_0)), (1, ((xs mk 1 ((st 1)).1 ((st 1)).2.1).1, (xs mk 1 ((st 1)).1 ((st 1)).2.1).2.1, pr_1, bl_1, le_1, gr_1, sp_1)), (2, ((xs mk 2 ((st 2)).1 ((st 2)).2.1).1, (xs mk 2 ((st 2)).1 ((st 2)).2.1).2.1, pr_2, bl_2, le_2, gr_2, sp_2)), (3, ((xs mk 3 ((st 3)).1 ((st 3)).2.1).1, (xs mk 3 ((st 3)).1 ((st 3)).2.1).2.1, pr_3, bl_3, le_3, gr_3, sp_3)), (4, ((xs mk 4 ((st 4)).1 ((st 4)).2.1).1, (xs mk 4 ((st 4)).1 ((st 4)).2.1).2.1, pr_4, bl_4, le_4, gr_4, sp_4)), (5, ((xs mk 5 ((st 5)).1 ((st 5)).2.1).1, (xs mk 5 ((st 5)).1 ((st 5)).2.1).2.1, pr_5, bl_5, le_5, gr_5, sp_5)), (6, ((xs mk 6 ((st 6)).1 ((st 6)).2.1).1, (xs mk 6 ((st 6)).1 ((st 6)).2.1).2.1, pr_6, bl_6, le_6, gr_6, sp_6))] = wNs t qq nw no mk [(0, ((xs mk 0 ((st 0)).1 ((st 0)).2.1).1, (xs mk 0 ((st 0)).1 ((st 0)).2.1).2.1, pr_0, bl_0, le_0, gr_0, sp_0)), (1, ((xs mk 1 ((st 1)).1 ((st 1)).2.1).1, (xs mk 1 ((st 1)).1 ((st 1)).2.1).2.1, pr_1, bl_1, le_1, gr_1, sp_1)), (2, ((xs mk 2 ((st 2)).1 ((st 2)).2.1).1, (xs mk 2 ((st 2)).1 ((st 2)).2.1).2.1, pr_2, bl_2, le_2, gr_2, sp_2)), (3, ((xs mk 3 ((st 3)).1 ((st 3)).2.1).1, (xs mk 3 ((st 3)).1 ((st 3)).2.1).2.1, pr_3, bl_3, le_3, gr_3, sp_3)), (4, ((xs mk 4 ((st 4)).1 ((st 4)).2.1).1, (xs mk 4 ((st 4)).1 ((st 4)).2.1).2.1, pr_4, bl_4, le_4, gr_4, sp_4)), (5, ((xs mk 5 ((st 5)).1 ((st 5)).2.1).1, (xs mk 5 ((st 5)).1 ((st 5)).2.1).2.1, pr_5, bl_5, le_5, gr_5, sp_5))] ++ wN t (qq 6) nw (no 6) 6 mk ((xs mk 6 ((st 6)).1 ((st 6)).2.1).1, (xs mk 6 ((st 6)).1 ((st 6)).2.1).2.1, pr_6, bl_6, le_6, gr_6, sp_6) from wNs_snoc _ _ _ _ _ [(0, ((xs mk 0 ((st 0)).1 ((st 0)).2.1).1, (xs mk 0 ((st 0)).1 ((st 0)).2.1).2.1, pr_0, bl_0, le_0, gr_0, sp_0)), (1, ((xs mk 1 ((st 1)).1 ((st 1)).2.1).1, (xs mk 1 ((st 1)).1 ((st 1)).2.1).2.1, pr_1, bl_1, le_1, gr_1, sp_1)), (2, ((xs mk 2 ((st 2)).1 ((st 2)).2.1).1, (xs mk 2 ((st 2)).1 ((st 2)).2.1).2.1, pr_2, bl_2, le_2, gr_2, sp_2)), (3, ((xs mk 3 ((st 3)).1 ((st 3)).2.1).1, (xs mk 3 ((st 3)).1 ((st 3)).2.1).2.1, pr_3, bl_3, le_3, gr_3, sp_3)), (4, ((xs mk 4 ((st 4)).1 ((st 4)).2.1).1, (xs mk 4 ((st 4)).1 ((st 4)).2.1).2.1, pr_4, bl_4, le_4, gr_4, sp_4)), (5, ((xs mk 5 ((st 5)).1 ((st 5)).2.1).1, (xs mk 5 ((st 5)).1 ((st 5)).2.1).2.1, pr_5, bl_5, le_5, gr_5, sp_5))] _]; exact hP
      have hD : va_D A (([zO 7 xa [.ref nw, .ref na, .int ky], zA t 4 na 7 (fun j => some (qq j 0))] ++ [zO 2 nw [.ref rw, .int (nI (min 300 (min 300 (min 300 (min 300 (min 300 (min 300 (min 300 (z + (xs mk 0 ((st 0)).1 ((st 0)).2.1).2.2) + (xs mk 1 ((st 1)).1 ((st 1)).2.1).2.2) + (xs mk 2 ((st 2)).1 ((st 2)).2.1).2.2) + (xs mk 3 ((st 3)).1 ((st 3)).2.1).2.2) + (xs mk 4 ((st 4)).1 ((st 4)).2.1).2.2) + (xs mk 5 ((st 5)).1 ((st 5)).2.1).2.2) + (xs mk 6 ((st 6)).1 ((st 6)).2.1).2.2))), .int x_6, .int y_6, .int 0], zA t 3 rw 300 g_6]) ++ wNs t qq nw no mk [(0, ((xs mk 0 ((st 0)).1 ((st 0)).2.1).1, (xs mk 0 ((st 0)).1 ((st 0)).2.1).2.1, pr_0, bl_0, le_0, gr_0, sp_0)), (1, ((xs mk 1 ((st 1)).1 ((st 1)).2.1).1, (xs mk 1 ((st 1)).1 ((st 1)).2.1).2.1, pr_1, bl_1, le_1, gr_1, sp_1)), (2, ((xs mk 2 ((st 2)).1 ((st 2)).2.1).1, (xs mk 2 ((st 2)).1 ((st 2)).2.1).2.1, pr_2, bl_2, le_2, gr_2, sp_2)), (3, ((xs mk 3 ((st 3)).1 ((st 3)).2.1).1, (xs mk 3 ((st 3)).1 ((st 3)).2.1).2.1, pr_3, bl_3, le_3, gr_3, sp_3)), (4, ((xs mk 4 ((st 4)).1 ((st 4)).2.1).1, (xs mk 4 ((st 4)).1 ((st 4)).2.1).2.1, pr_4, bl_4, le_4, gr_4, sp_4)), (5, ((xs mk 5 ((st 5)).1 ((st 5)).2.1).1, (xs mk 5 ((st 5)).1 ((st 5)).2.1).2.1, pr_5, bl_5, le_5, gr_5, sp_5)), (6, ((xs mk 6 ((st 6)).1 ((st 6)).2.1).1, (xs mk 6 ((st 6)).1 ((st 6)).2.1).2.1, pr_6, bl_6, le_6, gr_6, sp_6))]) := by rw [show wNs t qq nw no mk [(0, ((xs mk 0 ((st 0)).1 ((st 0)).2.1).1, (xs mk 0 ((st 0)).1 ((st 0)).2.1).2.1, pr_0, bl_0, le_0, gr_0, sp_0)), (1, ((xs mk 1 ((st 1)).1 ((st 1)).2.1).1, (xs mk 1 ((st 1)).1 ((st 1)).2.1).2.1, pr_1, bl_1, le_1, gr_1, sp_1)), (2, ((xs mk 2 ((st 2)).1 ((st 2)).2.1).1, (xs mk 2 ((st 2)).1 ((st 2)).2.1).2.1, pr_2, bl_2, le_2, gr_2, sp_2)), (3, ((xs mk 3 ((st 3)).1 ((st 3)).2.1).1, (xs mk 3 ((st 3)).1 ((st 3)).2.1).2.1, pr_3, bl_3, le_3, gr_3, sp_3)), (4, ((xs mk 4 ((st 4)).1 ((st 4)).2.1).1, (xs mk 4 ((st 4)).1 ((st 4)).2.1).2.1, pr_4, bl_4, le_4, gr_4, sp_4)), (5, ((xs mk 5 ((st 5)).1 ((st 5)).2.1).1, (xs mk 5 ((st 5)).1 ((st 5)).2.1).2.1, pr_5, bl_5, le_5, gr_5, sp_5)), (6, ((xs mk 6 ((st 6)).1 ((st 6)).2.1).1, (xs mk 6 ((st 6)).1 ((st 6)).2.1).2.1, pr_6, bl_6, le_6, gr_6, sp_6))] = wNs t qq nw no mk [(0, ((xs mk 0 ((st 0)).1 ((st 0)).2.1).1, (xs mk 0 ((st 0)).1 ((st 0)).2.1).2.1, pr_0, bl_0, le_0, gr_0, sp_0)), (1, ((xs mk 1 ((st 1)).1 ((st 1)).2.1).1, (xs mk 1 ((st 1)).1 ((st 1)).2.1).2.1, pr_1, bl_1, le_1, gr_1, sp_1)), (2, ((xs mk 2 ((st 2)).1 ((st 2)).2.1).1, (xs mk 2 ((st 2)).1 ((st 2)).2.1).2.1, pr_2, bl_2, le_2, gr_2, sp_2)), (3, ((xs mk 3 ((st 3)).1 ((st 3)).2.1).1, (xs mk 3 ((st 3)).1 ((st 3)).2.1).2.1, pr_3, bl_3, le_3, gr_3, sp_3)), (4, ((xs mk 4 ((st 4)).1 ((st 4)).2.1).1, (xs mk 4 ((st 4)).1 ((st 4)).2.1).2.1, pr_4, bl_4, le_4, gr_4, sp_4)), (5, ((xs mk 5 ((st 5)).1 ((st 5)).2.1).1, (xs mk 5 ((st 5)).1 ((st 5)).2.1).2.1, pr_5, bl_5, le_5, gr_5, sp_5))] ++ wN t (qq 6) nw (no 6) 6 mk ((xs mk 6 ((st 6)).1 ((st 6)).2.1).1, (xs mk 6 ((st 6)).1 ((st 6)).2.1).2.1, pr_6, bl_6, le_6, gr_6, sp_6) from wNs_snoc _ _ _ _ _ [(0, ((xs mk 0 ((st 0)).1 ((st 0)).2.1).1, (xs mk 0 ((st 0)).1 ((st 0)).2.1).2.1, pr_0, bl_0, le_0, gr_0, sp_0)), (1, ((xs mk 1 ((st 1)).1 ((st 1)).2.1).1, (xs mk 1 ((st 1)).1 ((st 1)).2.1).2.1, pr_1, bl_1, le_1, gr_1, sp_1)), (2, ((xs mk 2 ((st 2)).1 ((st 2)).2.1).1, (xs mk 2 ((st 2)).1 ((st 2)).2.1).2.1, pr_2, bl_2, le_2, gr_2, sp_2)), (3, ((xs mk 3 ((st 3)).1 ((st 3)).2.1).1, (xs mk 3 ((st 3)).1 ((st 3)).2.1).2.1, pr_3, bl_3, le_3, gr_3, sp_3)), (4, ((xs mk 4 ((st 4)).1 ((st 4)).2.1).1, (xs mk 4 ((st 4)).1 ((st 4)).2.1).2.1, pr_4, bl_4, le_4, gr_4, sp_4)), (5, ((xs mk 5 ((st 5)).1 ((st 5)).2.1).1, (xs mk 5 ((st 5)).1 ((st 5)).2.1).2.1, pr_5, bl_5, le_5, gr_5, sp_5))] _]; exact hD
      refine lv_iinc (v := 7) (lv' := [(3, .int 7), (2, .int (nI turn)), (0, .ref xa), (1, .int (nI N))]) hx hb d_Q_tick_45 hl (k := 0) rfl rfl (by decide) rfl (fun ls hl => ?_)
      refine lv_goto (tgt := 30) hx hb d_Q_tick_48 (by decide) ?_
      refine lv_iload_n hx hb d_Q_tick_30 rfl (lv_at hl 0 rfl) ?_
      refine lv_bipush (v := 7) hx hb d_Q_tick_31 (by decide) ?_
      refine lv_icmp_ge (tgt := 51) hx hb d_Q_tick_33 (by decide) (fun _ => ?_) (fun c_12 => absurd (by decide) c_12)
      refine lv_iinc (v := nI (turn + 1)) (lv' := [(2, .int (nI (turn + 1))), (3, .int 7), (0, .ref xa), (1, .int (nI N))]) hx hb d_Q_tick_51 hl (k := 1) rfl (nI_1 turn) (by decide) rfl (fun ls hl => ?_)
      refine lv_goto (tgt := 23) hx hb d_Q_tick_54 (by decide) ?_
      refine W.widen (k := 98 * (turn + 1)) (n := 784 * (turn + 1)) (by omega) (by omega) ?_
      refine ih (turn + 1) (fun k => ([((xs mk 0 ((st 0)).1 ((st 0)).2.1).1, (xs mk 0 ((st 0)).1 ((st 0)).2.1).2.1, pr_0, bl_0, le_0, gr_0, sp_0), ((xs mk 1 ((st 1)).1 ((st 1)).2.1).1, (xs mk 1 ((st 1)).1 ((st 1)).2.1).2.1, pr_1, bl_1, le_1, gr_1, sp_1), ((xs mk 2 ((st 2)).1 ((st 2)).2.1).1, (xs mk 2 ((st 2)).1 ((st 2)).2.1).2.1, pr_2, bl_2, le_2, gr_2, sp_2), ((xs mk 3 ((st 3)).1 ((st 3)).2.1).1, (xs mk 3 ((st 3)).1 ((st 3)).2.1).2.1, pr_3, bl_3, le_3, gr_3, sp_3), ((xs mk 4 ((st 4)).1 ((st 4)).2.1).1, (xs mk 4 ((st 4)).1 ((st 4)).2.1).2.1, pr_4, bl_4, le_4, gr_4, sp_4), ((xs mk 5 ((st 5)).1 ((st 5)).2.1).1, (xs mk 5 ((st 5)).1 ((st 5)).2.1).2.1, pr_5, bl_5, le_5, gr_5, sp_5), ((xs mk 6 ((st 6)).1 ((st 6)).2.1).1, (xs mk 6 ((st 6)).1 ((st 6)).2.1).2.1, pr_6, bl_6, le_6, gr_6, sp_6)]).getD k (st 0)) (min 300 (min 300 (min 300 (min 300 (min 300 (min 300 (min 300 (z + (xs mk 0 ((st 0)).1 ((st 0)).2.1).2.2) + (xs mk 1 ((st 1)).1 ((st 1)).2.1).2.2) + (xs mk 2 ((st 2)).1 ((st 2)).2.1).2.2) + (xs mk 3 ((st 3)).1 ((st 3)).2.1).2.2) + (xs mk 4 ((st 4)).1 ((st 4)).2.1).2.2) + (xs mk 5 ((st 5)).1 ((st 5)).2.1).2.2) + (xs mk 6 ((st 6)).1 ((st 6)).2.1).2.2)) x_6 y_6 g_6 (by omega) (by omega) ?_ hQ H locs hP hD hS ls (lv_sub hl [0, 2, 3] rfl)
      intro k hk
      rcases (show k = 0 ∨ k = 1 ∨ k = 2 ∨ k = 3 ∨ k = 4 ∨ k = 5 ∨ k = 6 by omega) with rfl | rfl | rfl | rfl | rfl | rfl | rfl
      · exact ⟨(xs_le (hok 0 (by decide)).1 (hok 0 (by decide)).2.1 (by decide)).1, (xs_le (hok 0 (by decide)).1 (hok 0 (by decide)).2.1 (by decide)).2, hg_0⟩
      · exact ⟨(xs_le (hok 1 (by decide)).1 (hok 1 (by decide)).2.1 (by decide)).1, (xs_le (hok 1 (by decide)).1 (hok 1 (by decide)).2.1 (by decide)).2, hg_1⟩
      · exact ⟨(xs_le (hok 2 (by decide)).1 (hok 2 (by decide)).2.1 (by decide)).1, (xs_le (hok 2 (by decide)).1 (hok 2 (by decide)).2.1 (by decide)).2, hg_2⟩
      · exact ⟨(xs_le (hok 3 (by decide)).1 (hok 3 (by decide)).2.1 (by decide)).1, (xs_le (hok 3 (by decide)).1 (hok 3 (by decide)).2.1 (by decide)).2, hg_3⟩
      · exact ⟨(xs_le (hok 4 (by decide)).1 (hok 4 (by decide)).2.1 (by decide)).1, (xs_le (hok 4 (by decide)).1 (hok 4 (by decide)).2.1 (by decide)).2, hg_4⟩
      · exact ⟨(xs_le (hok 5 (by decide)).1 (hok 5 (by decide)).2.1 (by decide)).1, (xs_le (hok 5 (by decide)).1 (hok 5 (by decide)).2.1 (by decide)).2, hg_5⟩
      · exact ⟨(xs_le (hok 6 (by decide)).1 (hok 6 (by decide)).2.1 (by decide)).1, (xs_le (hok 6 (by decide)).1 (hok 6 (by decide)).2.1 (by decide)).2, hg_6⟩
  exact loop N 0 st z x y g (by omega) hz hok hR _ _ hP hD hS ls (lv_sub hl [0, 1, 2] rfl)
end
section
/-! New objects of the class. -/
theorem xa_V {cA : ClassId} {n : Nat} {F G : Nat → Value} (h : ∀ j, j < n → F j = G j) : arrV cA n F = arrV cA n G := by
  have hs : (arrV cA n F).slots = (arrV cA n G).slots := by
    apply Array.ext_getElem?
    intro i
    rcases Nat.lt_or_ge i n with hi | hi
    · rw [arrV_read _ _ hi, arrV_read _ _ hi, h i hi]
    · rw [Array.getElem?_eq_none (by rw [arrV_size]; exact hi), Array.getElem?_eq_none (by rw [arrV_size]; exact hi)]
  unfold arrV at hs ⊢
  simp only [] at hs
  rw [hs]
theorem xa_J {D : va_G} {cl : List vw_C} {t : Nat → ClassId} {q n : Nat} {f g : Nat → Int64} {H : Heap} (h : ∀ j, j < n → f j = g j) (hP : va_at D cl (zJ t q n f) H) : va_at D cl (zJ t q n g) H := by
  have e : arrV (t 1) n (fun j => Value.long (f j)) = arrV (t 1) n (fun j => Value.long (g j)) := xa_V (fun j hj => by rw [h j hj])
  show H[q]? = some (arrV (t 1) n (fun j => Value.long (g j)))
  rw [← e]
  exact hP
theorem xa_A {D : va_G} {cl : List vw_C} {t : Nat → ClassId} {k q n : Nat} {f g : Nat → Option Nat} {H : Heap} (h : ∀ j, j < n → f j = g j) (hP : va_at D cl (zA t k q n f) H) : va_at D cl (zA t k q n g) H := by
  have e : arrV (t k) n (fun j => va_rf (f j)) = arrV (t k) n (fun j => va_rf (g j)) := xa_V (fun j hj => by rw [h j hj])
  show H[q]? = some (arrV (t k) n (fun j => va_rf (g j)))
  rw [← e]
  exact hP
theorem xd_set {D : va_G} {cl : List vw_C} {ws : va_W} {H : Heap} (hP : va_P D cl ws H) (k : Nat) {a : Nat} {e e' : va_E} (_ : ws[k]? = some (a, e)) (h : va_at D cl (a, e') H) : va_P D cl (ws.set k (a, e')) H := by
  intro i q hi
  rw [List.getElem?_set] at hi
  split at hi
  · split at hi
    · cases hi; exact h
    · cases hi
  · exact hP i q hi
theorem xd_setD {A : Nat → Prop} {ws : va_W} {a : Nat} {e e' : va_E} (hD : va_D A ws) (k : Nat) (hk : ws[k]? = some (a, e)) : va_D A (ws.set k (a, e')) := hD.set hk
theorem xu_m (x : Int32) : upd (fun _ => (0 : Int32)) (0 : Int32).toNatClampNeg x = xm x := by
  funext j
  show (if j = 0 then x else 0) = xm x j
  rfl
theorem xu_J {i : Nat} {x : Int64} (hi : i < 2 ^ 31) : vp_updL (fun j => if j < i then x else 0) (nI i).toNatClampNeg x = fun j => if j < i + 1 then x else 0 := by
  rw [nI_clamp hi]
  funext j
  unfold vp_updL
  by_cases h : j = i
  · rw [if_pos h, if_pos (by omega)]
  · rw [if_neg h]
    show (if j < i then x else 0) = if j < i + 1 then x else 0
    by_cases h2 : j < i
    · rw [if_pos h2, if_pos (by omega)]
    · rw [if_neg h2, if_neg (by omega)]
theorem d_V_init_0 : decode c_V_init 0 = .ok (.aload_n 0, 1) := by decide +kernel
theorem d_V_init_1 : decode c_V_init 1 = .ok (.invokespecial 1, 3) := by decide +kernel
theorem d_V_init_4 : decode c_V_init 4 = .ok (.aload_n 0, 1) := by decide +kernel
theorem d_V_init_5 : decode c_V_init 5 = .ok (.iload_n 1, 1) := by decide +kernel
theorem d_V_init_6 : decode c_V_init 6 = .ok (.putfield 7, 3) := by decide +kernel
theorem d_V_init_9 : decode c_V_init 9 = .ok (.aload_n 0, 1) := by decide +kernel
theorem d_V_init_10 : decode c_V_init 10 = .ok (.iload_n 2, 1) := by decide +kernel
theorem d_V_init_11 : decode c_V_init 11 = .ok (.putfield 13, 3) := by decide +kernel
theorem d_V_init_14 : decode c_V_init 14 = .ok (.aload_n 0, 1) := by decide +kernel
theorem d_V_init_15 : decode c_V_init 15 = .ok (.iload_n 3, 1) := by decide +kernel
theorem d_V_init_16 : decode c_V_init 16 = .ok (.putfield 16, 3) := by decide +kernel
theorem d_V_init_19 : decode c_V_init 19 = .ok (.aload_n 0, 1) := by decide +kernel
theorem d_V_init_20 : decode c_V_init 20 = .ok (.iload 4, 2) := by decide +kernel
theorem d_V_init_22 : decode c_V_init 22 = .ok (.putfield 19, 3) := by decide +kernel
theorem d_V_init_25 : decode c_V_init 25 = .ok (.aload_n 0, 1) := by decide +kernel
theorem d_V_init_26 : decode c_V_init 26 = .ok (.iload 5, 2) := by decide +kernel
theorem d_V_init_28 : decode c_V_init 28 = .ok (.putfield 22, 3) := by decide +kernel
theorem d_V_init_31 : decode c_V_init 31 = .ok (.aload_n 0, 1) := by decide +kernel
theorem d_V_init_32 : decode c_V_init 32 = .ok (.iload 6, 2) := by decide +kernel
theorem d_V_init_34 : decode c_V_init 34 = .ok (.putfield 25, 3) := by decide +kernel
theorem d_V_init_37 : decode c_V_init 37 = .ok (.return_, 1) := by decide +kernel
set_option maxHeartbeats 4000000 in
set_option maxRecDepth 100000 in
/-- a value -/
theorem C_V_init (l : Launch) (D : va_G) (t : Nat → ClassId) (h : Nat) (k1 k2 k3 k4 k5 k6 : Int32) : xe_C l D vwCl (xTY t) y_V_init c_V_init 7 (Option.none : Option FieldType) ({ frames := 1, cells := 0, slots := 0, locals := 20 }) [.ref h, .int k1, .int k2, .int k3, .int k4, .int k5, .int k6] [zO 6 h [.int 0, .int 0, .int 0, .int 0, .int 0, .int 0]] (xe_v D vwCl (fun _ : Unit => True) (fun _ => [zO 6 h [.int k1, .int k2, .int k3, .int k4, .int k5, .int k6]])) 0 0 := by
  refine xe_of (by decide) (Nat.le_of_ble_eq_true rfl) ?_
  intro p e s m below meth c ls A Z hr hlocks hin hA hP hD hS hl
  obtain ⟨hx, hb, hml, hown, hK⟩ := id Z
  have hown : s.vm.findClass "QuorumStore$Value" = some m.cls := hown
  have hts := hK.1.at (args := ([.ref h, .int k1, .int k2, .int k3, .int k4, .int k5, .int k6] : List Value).toArray)
  have hl : lv_has ls 7 [(0, .ref h), (1, .int k1), (2, .int k2), (3, .int k3), (4, .int k4), (5, .int k5), (6, .int k6)] := hl
  refine lv_aload_n hx hb d_V_init_0 rfl (lv_at hl 0 rfl) ?_
  refine W.objInit hx hb hown (hts _ k_98) (hts _ k_30) (hts _ k_31) rfl (by rw [hml]; exact hl.1) rfl d_V_init_1 (Nat.le_of_ble_eq_true rfl) (Nat.le_of_ble_eq_true rfl) ?_
  refine W.eq (g2 := F0 m 4 ls []) rfl ?_
  refine lv_aload_n hx hb d_V_init_4 rfl (lv_at hl 0 rfl) ?_
  refine lv_iload_n hx hb d_V_init_5 rfl (lv_at hl 1 rfl) ?_
  refine va_putF (ci := 6) (v := .int k1) (ty := tyX6 0) (C := "QuorumStore$Value") (T := TX6) (N := 6) hx hb hts inX6 tyX6 okX6 nmX6 hown hK.2 hP hD hS 0 rfl rfl 0 (by decide) (hts _ k_99) (fun _ h9 => h9) rfl hin rfl (by decide +kernel) rfl rfl (Nat.le_of_ble_eq_true rfl) d_V_init_6 (fun H locs hP hD hS => ?_)
  have hP : va_P D vwCl [zO 6 h [.int k1, .int 0, .int 0, .int 0, .int 0, .int 0]] H := hP
  have hD : va_D A [zO 6 h [.int k1, .int 0, .int 0, .int 0, .int 0, .int 0]] := hD
  refine lv_aload_n hx hb d_V_init_9 rfl (lv_at hl 0 rfl) ?_
  refine lv_iload_n hx hb d_V_init_10 rfl (lv_at hl 2 rfl) ?_
  refine va_putF (ci := 6) (v := .int k2) (ty := tyX6 1) (C := "QuorumStore$Value") (T := TX6) (N := 6) hx hb hts inX6 tyX6 okX6 nmX6 hown hK.2 hP hD hS 0 rfl rfl 1 (by decide) (hts _ k_102) (fun _ h9 => h9) rfl hin rfl (by decide +kernel) rfl rfl (Nat.le_of_ble_eq_true rfl) d_V_init_11 (fun H locs hP hD hS => ?_)
  have hP : va_P D vwCl [zO 6 h [.int k1, .int k2, .int 0, .int 0, .int 0, .int 0]] H := hP
  have hD : va_D A [zO 6 h [.int k1, .int k2, .int 0, .int 0, .int 0, .int 0]] := hD
  refine lv_aload_n hx hb d_V_init_14 rfl (lv_at hl 0 rfl) ?_
  refine lv_iload_n hx hb d_V_init_15 rfl (lv_at hl 3 rfl) ?_
  refine va_putF (ci := 6) (v := .int k3) (ty := tyX6 2) (C := "QuorumStore$Value") (T := TX6) (N := 6) hx hb hts inX6 tyX6 okX6 nmX6 hown hK.2 hP hD hS 0 rfl rfl 2 (by decide) (hts _ k_106) (fun _ h9 => h9) rfl hin rfl (by decide +kernel) rfl rfl (Nat.le_of_ble_eq_true rfl) d_V_init_16 (fun H locs hP hD hS => ?_)
  have hP : va_P D vwCl [zO 6 h [.int k1, .int k2, .int k3, .int 0, .int 0, .int 0]] H := hP
  have hD : va_D A [zO 6 h [.int k1, .int k2, .int k3, .int 0, .int 0, .int 0]] := hD
  refine lv_aload_n hx hb d_V_init_19 rfl (lv_at hl 0 rfl) ?_
  refine lv_iload hx hb d_V_init_20 (lv_at hl 4 rfl) ?_
  refine va_putF (ci := 6) (v := .int k4) (ty := tyX6 3) (C := "QuorumStore$Value") (T := TX6) (N := 6) hx hb hts inX6 tyX6 okX6 nmX6 hown hK.2 hP hD hS 0 rfl rfl 3 (by decide) (hts _ k_110) (fun _ h9 => h9) rfl hin rfl (by decide +kernel) rfl rfl (Nat.le_of_ble_eq_true rfl) d_V_init_22 (fun H locs hP hD hS => ?_)
  have hP : va_P D vwCl [zO 6 h [.int k1, .int k2, .int k3, .int k4, .int 0, .int 0]] H := hP
  have hD : va_D A [zO 6 h [.int k1, .int k2, .int k3, .int k4, .int 0, .int 0]] := hD
  refine lv_aload_n hx hb d_V_init_25 rfl (lv_at hl 0 rfl) ?_
  refine lv_iload hx hb d_V_init_26 (lv_at hl 5 rfl) ?_
  refine va_putF (ci := 6) (v := .int k5) (ty := tyX6 4) (C := "QuorumStore$Value") (T := TX6) (N := 6) hx hb hts inX6 tyX6 okX6 nmX6 hown hK.2 hP hD hS 0 rfl rfl 4 (by decide) (hts _ k_113) (fun _ h9 => h9) rfl hin rfl (by decide +kernel) rfl rfl (Nat.le_of_ble_eq_true rfl) d_V_init_28 (fun H locs hP hD hS => ?_)
  have hP : va_P D vwCl [zO 6 h [.int k1, .int k2, .int k3, .int k4, .int k5, .int 0]] H := hP
  have hD : va_D A [zO 6 h [.int k1, .int k2, .int k3, .int k4, .int k5, .int 0]] := hD
  refine lv_aload_n hx hb d_V_init_31 rfl (lv_at hl 0 rfl) ?_
  refine lv_iload hx hb d_V_init_32 (lv_at hl 6 rfl) ?_
  refine va_putF (ci := 6) (v := .int k6) (ty := tyX6 5) (C := "QuorumStore$Value") (T := TX6) (N := 6) hx hb hts inX6 tyX6 okX6 nmX6 hown hK.2 hP hD hS 0 rfl rfl 5 (by decide) (hts _ k_116) (fun _ h9 => h9) rfl hin rfl (by decide +kernel) rfl rfl (Nat.le_of_ble_eq_true rfl) d_V_init_34 (fun H locs hP hD hS => ?_)
  have hP : va_P D vwCl [zO 6 h [.int k1, .int k2, .int k3, .int k4, .int k5, .int k6]] H := hP
  have hD : va_D A [zO 6 h [.int k1, .int k2, .int k3, .int k4, .int k5, .int k6]] := hD
  exact W.vret hx hb hr (fun t ht hW => ⟨⟨(), rfl, trivial, by rw [ht]; exact hP, hD⟩, hS.F ht⟩) hS.2.2 d_V_init_37
theorem d_R_init_0 : decode c_R_init 0 = .ok (.aload_n 0, 1) := by decide +kernel
theorem d_R_init_1 : decode c_R_init 1 = .ok (.invokespecial 1, 3) := by decide +kernel
theorem d_R_init_4 : decode c_R_init 4 = .ok (.aload_n 0, 1) := by decide +kernel
theorem d_R_init_5 : decode c_R_init 5 = .ok (.iload_n 1, 1) := by decide +kernel
theorem d_R_init_6 : decode c_R_init 6 = .ok (.newarray .int, 2) := by decide +kernel
theorem d_R_init_8 : decode c_R_init 8 = .ok (.putfield 7, 3) := by decide +kernel
theorem d_R_init_11 : decode c_R_init 11 = .ok (.aload_n 0, 1) := by decide +kernel
theorem d_R_init_12 : decode c_R_init 12 = .ok (.iload_n 1, 1) := by decide +kernel
theorem d_R_init_13 : decode c_R_init 13 = .ok (.newarray .int, 2) := by decide +kernel
theorem d_R_init_15 : decode c_R_init 15 = .ok (.putfield 13, 3) := by decide +kernel
theorem d_R_init_18 : decode c_R_init 18 = .ok (.aload_n 0, 1) := by decide +kernel
theorem d_R_init_19 : decode c_R_init 19 = .ok (.iload_n 1, 1) := by decide +kernel
theorem d_R_init_20 : decode c_R_init 20 = .ok (.anewarray 16, 3) := by decide +kernel
theorem d_R_init_23 : decode c_R_init 23 = .ok (.putfield 18, 3) := by decide +kernel
theorem d_R_init_26 : decode c_R_init 26 = .ok (.return_, 1) := by decide +kernel
set_option maxHeartbeats 4000000 in
set_option maxRecDepth 100000 in
/-- an empty row of 4 -/
theorem C_R_init_4 (l : Launch) (D : va_G) (t : Nat → ClassId) (h : Nat) : xe_C l D vwCl (xTY t) y_R_init c_R_init 2 (Option.none : Option FieldType) ({ frames := 1, cells := 3, slots := 12, locals := 20 }) [.ref h, .int 4] [zO 4 h [.null, .null, .null]] (xe_v D vwCl (fun _ : Nat × Nat × Nat => True) (fun u => [zO 4 h [.ref u.1, .ref u.2.1, .ref u.2.2], zI t u.1 4 (fun _ => 0), zI t u.2.1 4 (fun _ => 0), zA t 2 u.2.2 4 (fun _ => none)])) 3 12 := by
  refine xe_of (by decide) (Nat.le_of_ble_eq_true rfl) ?_
  intro p e s m below meth c ls A Z hr hlocks hin hA hP hD hS hl
  obtain ⟨hx, hb, hml, hown, hK⟩ := id Z
  have hown : s.vm.findClass "QuorumStore$Row" = some m.cls := hown
  have hts := hK.1.at (args := ([.ref h, .int 4] : List Value).toArray)
  have hl : lv_has ls 2 [(0, .ref h), (1, .int 4)] := hl
  refine lv_aload_n hx hb d_R_init_0 rfl (lv_at hl 0 rfl) ?_
  refine W.objInit hx hb hown (hts _ k_72) (hts _ k_30) (hts _ k_31) rfl (by rw [hml]; exact hl.1) rfl d_R_init_1 (Nat.le_of_ble_eq_true rfl) (Nat.le_of_ble_eq_true rfl) ?_
  refine W.eq (g2 := F0 m 4 ls []) rfl ?_
  refine lv_aload_n hx hb d_R_init_4 rfl (lv_at hl 0 rfl) ?_
  refine lv_iload_n hx hb d_R_init_5 rfl (lv_at hl 1 rfl) ?_
  refine va_newa (atype := .int) (ty := .int) (a0 := (4, .inl (fun _ => 0))) hx hb (hts _ k_86) rfl hK.2 hP hD hS hA (fun _ => rfl) (by decide) rfl (by decide) (Nat.le_of_ble_eq_true rfl) (Nat.le_of_ble_eq_true rfl) d_R_init_6 (fun q_1 c_2 H hKn hP hD hS => ?_)
  obtain rfl : c_2 = t 0 := xk_arr hKn (i := 0) rfl
  have hP : va_P D vwCl [zO 4 h [.null, .null, .null], zI t q_1 4 (fun _ => 0)] H := hP
  have hD : va_D A [zO 4 h [.null, .null, .null], zI t q_1 4 (fun _ => 0)] := hD
  refine va_putF (ci := 4) (v := .ref q_1) (ty := tyX4 0) (C := "QuorumStore$Row") (T := TX4) (N := 3) hx hb hts inX4 tyX4 okX4 nmX4 hown hK.2 hP hD hS 0 rfl rfl 0 (by decide) (hts _ k_75) (fun _ h9 => h9) rfl hin rfl (by decide +kernel) rfl rfl (Nat.le_of_ble_eq_true rfl) d_R_init_8 (fun H locs hP hD hS => ?_)
  have hP : va_P D vwCl [zO 4 h [.ref q_1, .null, .null], zI t q_1 4 (fun _ => 0)] H := hP
  have hD : va_D A [zO 4 h [.ref q_1, .null, .null], zI t q_1 4 (fun _ => 0)] := hD
  refine lv_aload_n hx hb d_R_init_11 rfl (lv_at hl 0 rfl) ?_
  refine lv_iload_n hx hb d_R_init_12 rfl (lv_at hl 1 rfl) ?_
  refine va_newa (atype := .int) (ty := .int) (a0 := (4, .inl (fun _ => 0))) hx hb (hts _ k_86) rfl hK.2 hP hD hS hA (fun _ => rfl) (by decide) rfl (by decide) (Nat.le_of_ble_eq_true rfl) (Nat.le_of_ble_eq_true rfl) d_R_init_13 (fun q_3 c_4 H hKn hP hD hS => ?_)
  obtain rfl : c_4 = t 0 := xk_arr hKn (i := 0) rfl
  have hP : va_P D vwCl [zO 4 h [.ref q_1, .null, .null], zI t q_1 4 (fun _ => 0), zI t q_3 4 (fun _ => 0)] H := hP
  have hD : va_D A [zO 4 h [.ref q_1, .null, .null], zI t q_1 4 (fun _ => 0), zI t q_3 4 (fun _ => 0)] := hD
  refine va_putF (ci := 4) (v := .ref q_3) (ty := tyX4 1) (C := "QuorumStore$Row") (T := TX4) (N := 3) hx hb hts inX4 tyX4 okX4 nmX4 hown hK.2 hP hD hS 0 rfl rfl 1 (by decide) (hts _ k_76) (fun _ h9 => h9) rfl hin rfl (by decide +kernel) rfl rfl (Nat.le_of_ble_eq_true rfl) d_R_init_15 (fun H locs hP hD hS => ?_)
  have hP : va_P D vwCl [zO 4 h [.ref q_1, .ref q_3, .null], zI t q_1 4 (fun _ => 0), zI t q_3 4 (fun _ => 0)] H := hP
  have hD : va_D A [zO 4 h [.ref q_1, .ref q_3, .null], zI t q_1 4 (fun _ => 0), zI t q_3 4 (fun _ => 0)] := hD
  refine lv_aload_n hx hb d_R_init_18 rfl (lv_at hl 0 rfl) ?_
  refine lv_iload_n hx hb d_R_init_19 rfl (lv_at hl 1 rfl) ?_
  refine va_newq (N' := 4) hx hb hown (hts _ k_73) (va_AO.of (hts _ k_74)) hK.2 hP hD hS hA (by decide) rfl (by decide) (Nat.le_of_ble_eq_true rfl) (Nat.le_of_ble_eq_true rfl) d_R_init_20 (fun q_5 c_6 H hKn hP hD hS => ?_)
  obtain rfl : c_6 = t 2 := xk_arr hKn (i := 2) rfl
  have hP : va_P D vwCl [zO 4 h [.ref q_1, .ref q_3, .null], zI t q_1 4 (fun _ => 0), zI t q_3 4 (fun _ => 0), zA t 2 q_5 4 (fun _ => none)] H := hP
  have hD : va_D A [zO 4 h [.ref q_1, .ref q_3, .null], zI t q_1 4 (fun _ => 0), zI t q_3 4 (fun _ => 0), zA t 2 q_5 4 (fun _ => none)] := hD
  refine va_putF (ci := 4) (v := .ref q_5) (ty := tyX4 2) (C := "QuorumStore$Row") (T := TX4) (N := 3) hx hb hts inX4 tyX4 okX4 nmX4 hown hK.2 hP hD hS 0 rfl rfl 2 (by decide) (hts _ k_77) (fun _ h9 => h9) rfl hin rfl (by decide +kernel) rfl rfl (Nat.le_of_ble_eq_true rfl) d_R_init_23 (fun H locs hP hD hS => ?_)
  have hP : va_P D vwCl [zO 4 h [.ref q_1, .ref q_3, .ref q_5], zI t q_1 4 (fun _ => 0), zI t q_3 4 (fun _ => 0), zA t 2 q_5 4 (fun _ => none)] H := hP
  have hD : va_D A [zO 4 h [.ref q_1, .ref q_3, .ref q_5], zI t q_1 4 (fun _ => 0), zI t q_3 4 (fun _ => 0), zA t 2 q_5 4 (fun _ => none)] := hD
  exact W.vret hx hb hr (fun t ht hW => ⟨⟨(q_1, q_3, q_5), rfl, trivial, by rw [ht]; exact hP, hD⟩, hS.F ht⟩) hS.2.2 d_R_init_26
set_option maxHeartbeats 4000000 in
set_option maxRecDepth 100000 in
/-- an empty row of 32 -/
theorem C_R_init_32 (l : Launch) (D : va_G) (t : Nat → ClassId) (h : Nat) : xe_C l D vwCl (xTY t) y_R_init c_R_init 2 (Option.none : Option FieldType) ({ frames := 1, cells := 3, slots := 96, locals := 20 }) [.ref h, .int 32] [zO 4 h [.null, .null, .null]] (xe_v D vwCl (fun _ : Nat × Nat × Nat => True) (fun u => [zO 4 h [.ref u.1, .ref u.2.1, .ref u.2.2], zI t u.1 32 (fun _ => 0), zI t u.2.1 32 (fun _ => 0), zA t 2 u.2.2 32 (fun _ => none)])) 3 96 := by
  refine xe_of (by decide) (Nat.le_of_ble_eq_true rfl) ?_
  intro p e s m below meth c ls A Z hr hlocks hin hA hP hD hS hl
  obtain ⟨hx, hb, hml, hown, hK⟩ := id Z
  have hown : s.vm.findClass "QuorumStore$Row" = some m.cls := hown
  have hts := hK.1.at (args := ([.ref h, .int 32] : List Value).toArray)
  have hl : lv_has ls 2 [(0, .ref h), (1, .int 32)] := hl
  refine lv_aload_n hx hb d_R_init_0 rfl (lv_at hl 0 rfl) ?_
  refine W.objInit hx hb hown (hts _ k_72) (hts _ k_30) (hts _ k_31) rfl (by rw [hml]; exact hl.1) rfl d_R_init_1 (Nat.le_of_ble_eq_true rfl) (Nat.le_of_ble_eq_true rfl) ?_
  refine W.eq (g2 := F0 m 4 ls []) rfl ?_
  refine lv_aload_n hx hb d_R_init_4 rfl (lv_at hl 0 rfl) ?_
  refine lv_iload_n hx hb d_R_init_5 rfl (lv_at hl 1 rfl) ?_
  refine va_newa (atype := .int) (ty := .int) (a0 := (32, .inl (fun _ => 0))) hx hb (hts _ k_86) rfl hK.2 hP hD hS hA (fun _ => rfl) (by decide) rfl (by decide) (Nat.le_of_ble_eq_true rfl) (Nat.le_of_ble_eq_true rfl) d_R_init_6 (fun q_1 c_2 H hKn hP hD hS => ?_)
  obtain rfl : c_2 = t 0 := xk_arr hKn (i := 0) rfl
  have hP : va_P D vwCl [zO 4 h [.null, .null, .null], zI t q_1 32 (fun _ => 0)] H := hP
  have hD : va_D A [zO 4 h [.null, .null, .null], zI t q_1 32 (fun _ => 0)] := hD
  refine va_putF (ci := 4) (v := .ref q_1) (ty := tyX4 0) (C := "QuorumStore$Row") (T := TX4) (N := 3) hx hb hts inX4 tyX4 okX4 nmX4 hown hK.2 hP hD hS 0 rfl rfl 0 (by decide) (hts _ k_75) (fun _ h9 => h9) rfl hin rfl (by decide +kernel) rfl rfl (Nat.le_of_ble_eq_true rfl) d_R_init_8 (fun H locs hP hD hS => ?_)
  have hP : va_P D vwCl [zO 4 h [.ref q_1, .null, .null], zI t q_1 32 (fun _ => 0)] H := hP
  have hD : va_D A [zO 4 h [.ref q_1, .null, .null], zI t q_1 32 (fun _ => 0)] := hD
  refine lv_aload_n hx hb d_R_init_11 rfl (lv_at hl 0 rfl) ?_
  refine lv_iload_n hx hb d_R_init_12 rfl (lv_at hl 1 rfl) ?_
  refine va_newa (atype := .int) (ty := .int) (a0 := (32, .inl (fun _ => 0))) hx hb (hts _ k_86) rfl hK.2 hP hD hS hA (fun _ => rfl) (by decide) rfl (by decide) (Nat.le_of_ble_eq_true rfl) (Nat.le_of_ble_eq_true rfl) d_R_init_13 (fun q_3 c_4 H hKn hP hD hS => ?_)
  obtain rfl : c_4 = t 0 := xk_arr hKn (i := 0) rfl
  have hP : va_P D vwCl [zO 4 h [.ref q_1, .null, .null], zI t q_1 32 (fun _ => 0), zI t q_3 32 (fun _ => 0)] H := hP
  have hD : va_D A [zO 4 h [.ref q_1, .null, .null], zI t q_1 32 (fun _ => 0), zI t q_3 32 (fun _ => 0)] := hD
  refine va_putF (ci := 4) (v := .ref q_3) (ty := tyX4 1) (C := "QuorumStore$Row") (T := TX4) (N := 3) hx hb hts inX4 tyX4 okX4 nmX4 hown hK.2 hP hD hS 0 rfl rfl 1 (by decide) (hts _ k_76) (fun _ h9 => h9) rfl hin rfl (by decide +kernel) rfl rfl (Nat.le_of_ble_eq_true rfl) d_R_init_15 (fun H locs hP hD hS => ?_)
  have hP : va_P D vwCl [zO 4 h [.ref q_1, .ref q_3, .null], zI t q_1 32 (fun _ => 0), zI t q_3 32 (fun _ => 0)] H := hP
  have hD : va_D A [zO 4 h [.ref q_1, .ref q_3, .null], zI t q_1 32 (fun _ => 0), zI t q_3 32 (fun _ => 0)] := hD
  refine lv_aload_n hx hb d_R_init_18 rfl (lv_at hl 0 rfl) ?_
  refine lv_iload_n hx hb d_R_init_19 rfl (lv_at hl 1 rfl) ?_
  refine va_newq (N' := 32) hx hb hown (hts _ k_73) (va_AO.of (hts _ k_74)) hK.2 hP hD hS hA (by decide) rfl (by decide) (Nat.le_of_ble_eq_true rfl) (Nat.le_of_ble_eq_true rfl) d_R_init_20 (fun q_5 c_6 H hKn hP hD hS => ?_)
  obtain rfl : c_6 = t 2 := xk_arr hKn (i := 2) rfl
  have hP : va_P D vwCl [zO 4 h [.ref q_1, .ref q_3, .null], zI t q_1 32 (fun _ => 0), zI t q_3 32 (fun _ => 0), zA t 2 q_5 32 (fun _ => none)] H := hP
  have hD : va_D A [zO 4 h [.ref q_1, .ref q_3, .null], zI t q_1 32 (fun _ => 0), zI t q_3 32 (fun _ => 0), zA t 2 q_5 32 (fun _ => none)] := hD
  refine va_putF (ci := 4) (v := .ref q_5) (ty := tyX4 2) (C := "QuorumStore$Row") (T := TX4) (N := 3) hx hb hts inX4 tyX4 okX4 nmX4 hown hK.2 hP hD hS 0 rfl rfl 2 (by decide) (hts _ k_77) (fun _ h9 => h9) rfl hin rfl (by decide +kernel) rfl rfl (Nat.le_of_ble_eq_true rfl) d_R_init_23 (fun H locs hP hD hS => ?_)
  have hP : va_P D vwCl [zO 4 h [.ref q_1, .ref q_3, .ref q_5], zI t q_1 32 (fun _ => 0), zI t q_3 32 (fun _ => 0), zA t 2 q_5 32 (fun _ => none)] H := hP
  have hD : va_D A [zO 4 h [.ref q_1, .ref q_3, .ref q_5], zI t q_1 32 (fun _ => 0), zI t q_3 32 (fun _ => 0), zA t 2 q_5 32 (fun _ => none)] := hD
  exact W.vret hx hb hr (fun t ht hW => ⟨⟨(q_1, q_3, q_5), rfl, trivial, by rw [ht]; exact hP, hD⟩, hS.F ht⟩) hS.2.2 d_R_init_26
set_option maxHeartbeats 4000000 in
set_option maxRecDepth 100000 in
/-- an empty row of 64 -/
theorem C_R_init_64 (l : Launch) (D : va_G) (t : Nat → ClassId) (h : Nat) : xe_C l D vwCl (xTY t) y_R_init c_R_init 2 (Option.none : Option FieldType) ({ frames := 1, cells := 3, slots := 192, locals := 20 }) [.ref h, .int 64] [zO 4 h [.null, .null, .null]] (xe_v D vwCl (fun _ : Nat × Nat × Nat => True) (fun u => [zO 4 h [.ref u.1, .ref u.2.1, .ref u.2.2], zI t u.1 64 (fun _ => 0), zI t u.2.1 64 (fun _ => 0), zA t 2 u.2.2 64 (fun _ => none)])) 3 192 := by
  refine xe_of (by decide) (Nat.le_of_ble_eq_true rfl) ?_
  intro p e s m below meth c ls A Z hr hlocks hin hA hP hD hS hl
  obtain ⟨hx, hb, hml, hown, hK⟩ := id Z
  have hown : s.vm.findClass "QuorumStore$Row" = some m.cls := hown
  have hts := hK.1.at (args := ([.ref h, .int 64] : List Value).toArray)
  have hl : lv_has ls 2 [(0, .ref h), (1, .int 64)] := hl
  refine lv_aload_n hx hb d_R_init_0 rfl (lv_at hl 0 rfl) ?_
  refine W.objInit hx hb hown (hts _ k_72) (hts _ k_30) (hts _ k_31) rfl (by rw [hml]; exact hl.1) rfl d_R_init_1 (Nat.le_of_ble_eq_true rfl) (Nat.le_of_ble_eq_true rfl) ?_
  refine W.eq (g2 := F0 m 4 ls []) rfl ?_
  refine lv_aload_n hx hb d_R_init_4 rfl (lv_at hl 0 rfl) ?_
  refine lv_iload_n hx hb d_R_init_5 rfl (lv_at hl 1 rfl) ?_
  refine va_newa (atype := .int) (ty := .int) (a0 := (64, .inl (fun _ => 0))) hx hb (hts _ k_86) rfl hK.2 hP hD hS hA (fun _ => rfl) (by decide) rfl (by decide) (Nat.le_of_ble_eq_true rfl) (Nat.le_of_ble_eq_true rfl) d_R_init_6 (fun q_1 c_2 H hKn hP hD hS => ?_)
  obtain rfl : c_2 = t 0 := xk_arr hKn (i := 0) rfl
  have hP : va_P D vwCl [zO 4 h [.null, .null, .null], zI t q_1 64 (fun _ => 0)] H := hP
  have hD : va_D A [zO 4 h [.null, .null, .null], zI t q_1 64 (fun _ => 0)] := hD
  refine va_putF (ci := 4) (v := .ref q_1) (ty := tyX4 0) (C := "QuorumStore$Row") (T := TX4) (N := 3) hx hb hts inX4 tyX4 okX4 nmX4 hown hK.2 hP hD hS 0 rfl rfl 0 (by decide) (hts _ k_75) (fun _ h9 => h9) rfl hin rfl (by decide +kernel) rfl rfl (Nat.le_of_ble_eq_true rfl) d_R_init_8 (fun H locs hP hD hS => ?_)
  have hP : va_P D vwCl [zO 4 h [.ref q_1, .null, .null], zI t q_1 64 (fun _ => 0)] H := hP
  have hD : va_D A [zO 4 h [.ref q_1, .null, .null], zI t q_1 64 (fun _ => 0)] := hD
  refine lv_aload_n hx hb d_R_init_11 rfl (lv_at hl 0 rfl) ?_
  refine lv_iload_n hx hb d_R_init_12 rfl (lv_at hl 1 rfl) ?_
  refine va_newa (atype := .int) (ty := .int) (a0 := (64, .inl (fun _ => 0))) hx hb (hts _ k_86) rfl hK.2 hP hD hS hA (fun _ => rfl) (by decide) rfl (by decide) (Nat.le_of_ble_eq_true rfl) (Nat.le_of_ble_eq_true rfl) d_R_init_13 (fun q_3 c_4 H hKn hP hD hS => ?_)
  obtain rfl : c_4 = t 0 := xk_arr hKn (i := 0) rfl
  have hP : va_P D vwCl [zO 4 h [.ref q_1, .null, .null], zI t q_1 64 (fun _ => 0), zI t q_3 64 (fun _ => 0)] H := hP
  have hD : va_D A [zO 4 h [.ref q_1, .null, .null], zI t q_1 64 (fun _ => 0), zI t q_3 64 (fun _ => 0)] := hD
  refine va_putF (ci := 4) (v := .ref q_3) (ty := tyX4 1) (C := "QuorumStore$Row") (T := TX4) (N := 3) hx hb hts inX4 tyX4 okX4 nmX4 hown hK.2 hP hD hS 0 rfl rfl 1 (by decide) (hts _ k_76) (fun _ h9 => h9) rfl hin rfl (by decide +kernel) rfl rfl (Nat.le_of_ble_eq_true rfl) d_R_init_15 (fun H locs hP hD hS => ?_)
  have hP : va_P D vwCl [zO 4 h [.ref q_1, .ref q_3, .null], zI t q_1 64 (fun _ => 0), zI t q_3 64 (fun _ => 0)] H := hP
  have hD : va_D A [zO 4 h [.ref q_1, .ref q_3, .null], zI t q_1 64 (fun _ => 0), zI t q_3 64 (fun _ => 0)] := hD
  refine lv_aload_n hx hb d_R_init_18 rfl (lv_at hl 0 rfl) ?_
  refine lv_iload_n hx hb d_R_init_19 rfl (lv_at hl 1 rfl) ?_
  refine va_newq (N' := 64) hx hb hown (hts _ k_73) (va_AO.of (hts _ k_74)) hK.2 hP hD hS hA (by decide) rfl (by decide) (Nat.le_of_ble_eq_true rfl) (Nat.le_of_ble_eq_true rfl) d_R_init_20 (fun q_5 c_6 H hKn hP hD hS => ?_)
  obtain rfl : c_6 = t 2 := xk_arr hKn (i := 2) rfl
  have hP : va_P D vwCl [zO 4 h [.ref q_1, .ref q_3, .null], zI t q_1 64 (fun _ => 0), zI t q_3 64 (fun _ => 0), zA t 2 q_5 64 (fun _ => none)] H := hP
  have hD : va_D A [zO 4 h [.ref q_1, .ref q_3, .null], zI t q_1 64 (fun _ => 0), zI t q_3 64 (fun _ => 0), zA t 2 q_5 64 (fun _ => none)] := hD
  refine va_putF (ci := 4) (v := .ref q_5) (ty := tyX4 2) (C := "QuorumStore$Row") (T := TX4) (N := 3) hx hb hts inX4 tyX4 okX4 nmX4 hown hK.2 hP hD hS 0 rfl rfl 2 (by decide) (hts _ k_77) (fun _ h9 => h9) rfl hin rfl (by decide +kernel) rfl rfl (Nat.le_of_ble_eq_true rfl) d_R_init_23 (fun H locs hP hD hS => ?_)
  have hP : va_P D vwCl [zO 4 h [.ref q_1, .ref q_3, .ref q_5], zI t q_1 64 (fun _ => 0), zI t q_3 64 (fun _ => 0), zA t 2 q_5 64 (fun _ => none)] H := hP
  have hD : va_D A [zO 4 h [.ref q_1, .ref q_3, .ref q_5], zI t q_1 64 (fun _ => 0), zI t q_3 64 (fun _ => 0), zA t 2 q_5 64 (fun _ => none)] := hD
  exact W.vret hx hb hr (fun t ht hW => ⟨⟨(q_1, q_3, q_5), rfl, trivial, by rw [ht]; exact hP, hD⟩, hS.F ht⟩) hS.2.2 d_R_init_26
theorem d_S_init_0 : decode c_S_init 0 = .ok (.aload_n 0, 1) := by decide +kernel
theorem d_S_init_1 : decode c_S_init 1 = .ok (.invokespecial 3, 3) := by decide +kernel
theorem d_S_init_4 : decode c_S_init 4 = .ok (.aload_n 0, 1) := by decide +kernel
theorem d_S_init_5 : decode c_S_init 5 = .ok (.bipush 32, 2) := by decide +kernel
theorem d_S_init_7 : decode c_S_init 7 = .ok (.newarray .long, 2) := by decide +kernel
theorem d_S_init_9 : decode c_S_init 9 = .ok (.putfield 9, 3) := by decide +kernel
theorem d_S_init_12 : decode c_S_init 12 = .ok (.aload_n 0, 1) := by decide +kernel
theorem d_S_init_13 : decode c_S_init 13 = .ok (.bipush 8, 2) := by decide +kernel
theorem d_S_init_15 : decode c_S_init 15 = .ok (.newarray .int, 2) := by decide +kernel
theorem d_S_init_17 : decode c_S_init 17 = .ok (.putfield 15, 3) := by decide +kernel
theorem d_S_init_20 : decode c_S_init 20 = .ok (.aload_n 0, 1) := by decide +kernel
theorem d_S_init_21 : decode c_S_init 21 = .ok (.bipush 8, 2) := by decide +kernel
theorem d_S_init_23 : decode c_S_init 23 = .ok (.newarray .long, 2) := by decide +kernel
theorem d_S_init_25 : decode c_S_init 25 = .ok (.putfield 19, 3) := by decide +kernel
theorem d_S_init_28 : decode c_S_init 28 = .ok (.aload_n 0, 1) := by decide +kernel
theorem d_S_init_29 : decode c_S_init 29 = .ok (.iconst 4, 1) := by decide +kernel
theorem d_S_init_30 : decode c_S_init 30 = .ok (.newarray .int, 2) := by decide +kernel
theorem d_S_init_32 : decode c_S_init 32 = .ok (.putfield 22, 3) := by decide +kernel
theorem d_S_init_35 : decode c_S_init 35 = .ok (.aload_n 0, 1) := by decide +kernel
theorem d_S_init_36 : decode c_S_init 36 = .ok (.iconst 4, 1) := by decide +kernel
theorem d_S_init_37 : decode c_S_init 37 = .ok (.newarray .int, 2) := by decide +kernel
theorem d_S_init_39 : decode c_S_init 39 = .ok (.putfield 25, 3) := by decide +kernel
theorem d_S_init_42 : decode c_S_init 42 = .ok (.iconst 0, 1) := by decide +kernel
theorem d_S_init_43 : decode c_S_init 43 = .ok (.istore_n 2, 1) := by decide +kernel
theorem d_S_init_44 : decode c_S_init 44 = .ok (.iload_n 2, 1) := by decide +kernel
theorem d_S_init_45 : decode c_S_init 45 = .ok (.bipush 32, 2) := by decide +kernel
theorem d_S_init_47 : decode c_S_init 47 = .ok (.if_icmp .ge 18, 3) := by decide +kernel
theorem d_S_init_50 : decode c_S_init 50 = .ok (.aload_n 0, 1) := by decide +kernel
theorem d_S_init_51 : decode c_S_init 51 = .ok (.getfield 9, 3) := by decide +kernel
theorem d_S_init_54 : decode c_S_init 54 = .ok (.iload_n 2, 1) := by decide +kernel
theorem d_S_init_55 : decode c_S_init 55 = .ok (.ldc2_w 28, 3) := by decide +kernel
theorem d_S_init_58 : decode c_S_init 58 = .ok (.lastore, 1) := by decide +kernel
theorem d_S_init_59 : decode c_S_init 59 = .ok (.iinc 2 1, 3) := by decide +kernel
theorem d_S_init_62 : decode c_S_init 62 = .ok (.goto (-18), 3) := by decide +kernel
theorem d_S_init_65 : decode c_S_init 65 = .ok (.aload_n 0, 1) := by decide +kernel
theorem d_S_init_66 : decode c_S_init 66 = .ok (.getfield 22, 3) := by decide +kernel
theorem d_S_init_69 : decode c_S_init 69 = .ok (.iconst 0, 1) := by decide +kernel
theorem d_S_init_70 : decode c_S_init 70 = .ok (.iconst 1, 1) := by decide +kernel
theorem d_S_init_71 : decode c_S_init 71 = .ok (.iastore, 1) := by decide +kernel
theorem d_S_init_72 : decode c_S_init 72 = .ok (.aload_n 0, 1) := by decide +kernel
theorem d_S_init_73 : decode c_S_init 73 = .ok (.getfield 25, 3) := by decide +kernel
theorem d_S_init_76 : decode c_S_init 76 = .ok (.iconst 0, 1) := by decide +kernel
theorem d_S_init_77 : decode c_S_init 77 = .ok (.iload_n 1, 1) := by decide +kernel
theorem d_S_init_78 : decode c_S_init 78 = .ok (.iastore, 1) := by decide +kernel
theorem d_S_init_79 : decode c_S_init 79 = .ok (.aload_n 0, 1) := by decide +kernel
theorem d_S_init_80 : decode c_S_init 80 = .ok (.iconst 1, 1) := by decide +kernel
theorem d_S_init_81 : decode c_S_init 81 = .ok (.putfield 30, 3) := by decide +kernel
theorem d_S_init_84 : decode c_S_init 84 = .ok (.return_, 1) := by decide +kernel
set_option maxHeartbeats 4000000 in
set_option maxRecDepth 100000 in
/-- a new state -/
theorem C_S_init (l : Launch) (D : va_G) (t : Nat → ClassId) (h : Nat) (mk : Int32) : xe_C l D vwCl (xTY t) y_S_init c_S_init 3 (Option.none : Option FieldType) ({ frames := 1, cells := 5, slots := 56, locals := 20 }) [.ref h, .int mk] [zO 5 h [.null, .null, .null, .null, .null, .int 0]] (xe_v D vwCl (fun _ : Nat × Nat × Nat × Nat × Nat => True) (fun u => [zO 5 h [.ref u.1, .ref u.2.1, .ref u.2.2.1, .ref u.2.2.2.1, .ref u.2.2.2.2, .int 1], zJ t u.1 32 (fun _ => 1099511627776), zI t u.2.1 8 (fun _ => 0), zJ t u.2.2.1 8 (fun _ => 0), zI t u.2.2.2.1 4 (xm 1), zI t u.2.2.2.2 4 (xm mk)])) 5 56 := by
  refine xe_of (by decide) (Nat.le_of_ble_eq_true rfl) ?_
  intro p e s m below meth c ls A Z hr hlocks hin hA hP hD hS hl
  obtain ⟨hx, hb, hml, hown, hK⟩ := id Z
  have hown : s.vm.findClass "QuorumStore$State" = some m.cls := hown
  have hts := hK.1.at (args := ([.ref h, .int mk] : List Value).toArray)
  have hl : lv_has ls 3 [(0, .ref h), (1, .int mk)] := hl
  refine lv_aload_n hx hb d_S_init_0 rfl (lv_at hl 0 rfl) ?_
  refine W.objInit hx hb hown (hts _ k_170) (hts _ k_30) (hts _ k_31) rfl (by rw [hml]; exact hl.1) rfl d_S_init_1 (Nat.le_of_ble_eq_true rfl) (Nat.le_of_ble_eq_true rfl) ?_
  refine W.eq (g2 := F0 m 4 ls []) rfl ?_
  refine lv_aload_n hx hb d_S_init_4 rfl (lv_at hl 0 rfl) ?_
  refine lv_bipush (v := 32) hx hb d_S_init_5 (by decide) ?_
  refine va_newa (atype := .long) (ty := .long) (a0 := (32, .inr (.inl (fun _ => 0)))) hx hb (hts _ k_196) rfl hK.2 hP hD hS hA (fun _ => rfl) (by decide) rfl (by decide) (Nat.le_of_ble_eq_true rfl) (Nat.le_of_ble_eq_true rfl) d_S_init_7 (fun q_1 c_2 H hKn hP hD hS => ?_)
  obtain rfl : c_2 = t 1 := xk_arr hKn (i := 1) rfl
  have hP : va_P D vwCl [zO 5 h [.null, .null, .null, .null, .null, .int 0], zJ t q_1 32 (fun _ => 0)] H := hP
  have hD : va_D A [zO 5 h [.null, .null, .null, .null, .null, .int 0], zJ t q_1 32 (fun _ => 0)] := hD
  refine va_putF (ci := 5) (v := .ref q_1) (ty := tyX5 0) (C := "QuorumStore$State") (T := TX5) (N := 6) hx hb hts inX5 tyX5 okX5 nmX5 hown hK.2 hP hD hS 0 rfl rfl 0 (by decide) (hts _ k_172) (fun _ h9 => h9) rfl hin rfl (by decide +kernel) rfl rfl (Nat.le_of_ble_eq_true rfl) d_S_init_9 (fun H locs hP hD hS => ?_)
  have hP : va_P D vwCl [zO 5 h [.ref q_1, .null, .null, .null, .null, .int 0], zJ t q_1 32 (fun _ => 0)] H := hP
  have hD : va_D A [zO 5 h [.ref q_1, .null, .null, .null, .null, .int 0], zJ t q_1 32 (fun _ => 0)] := hD
  refine lv_aload_n hx hb d_S_init_12 rfl (lv_at hl 0 rfl) ?_
  refine lv_bipush (v := 8) hx hb d_S_init_13 (by decide) ?_
  refine va_newa (atype := .int) (ty := .int) (a0 := (8, .inl (fun _ => 0))) hx hb (hts _ k_86) rfl hK.2 hP hD hS hA (fun _ => rfl) (by decide) rfl (by decide) (Nat.le_of_ble_eq_true rfl) (Nat.le_of_ble_eq_true rfl) d_S_init_15 (fun q_3 c_4 H hKn hP hD hS => ?_)
  obtain rfl : c_4 = t 0 := xk_arr hKn (i := 0) rfl
  have hP : va_P D vwCl [zO 5 h [.ref q_1, .null, .null, .null, .null, .int 0], zJ t q_1 32 (fun _ => 0), zI t q_3 8 (fun _ => 0)] H := hP
  have hD : va_D A [zO 5 h [.ref q_1, .null, .null, .null, .null, .int 0], zJ t q_1 32 (fun _ => 0), zI t q_3 8 (fun _ => 0)] := hD
  refine va_putF (ci := 5) (v := .ref q_3) (ty := tyX5 1) (C := "QuorumStore$State") (T := TX5) (N := 6) hx hb hts inX5 tyX5 okX5 nmX5 hown hK.2 hP hD hS 0 rfl rfl 1 (by decide) (hts _ k_174) (fun _ h9 => h9) rfl hin rfl (by decide +kernel) rfl rfl (Nat.le_of_ble_eq_true rfl) d_S_init_17 (fun H locs hP hD hS => ?_)
  have hP : va_P D vwCl [zO 5 h [.ref q_1, .ref q_3, .null, .null, .null, .int 0], zJ t q_1 32 (fun _ => 0), zI t q_3 8 (fun _ => 0)] H := hP
  have hD : va_D A [zO 5 h [.ref q_1, .ref q_3, .null, .null, .null, .int 0], zJ t q_1 32 (fun _ => 0), zI t q_3 8 (fun _ => 0)] := hD
  refine lv_aload_n hx hb d_S_init_20 rfl (lv_at hl 0 rfl) ?_
  refine lv_bipush (v := 8) hx hb d_S_init_21 (by decide) ?_
  refine va_newa (atype := .long) (ty := .long) (a0 := (8, .inr (.inl (fun _ => 0)))) hx hb (hts _ k_196) rfl hK.2 hP hD hS hA (fun _ => rfl) (by decide) rfl (by decide) (Nat.le_of_ble_eq_true rfl) (Nat.le_of_ble_eq_true rfl) d_S_init_23 (fun q_5 c_6 H hKn hP hD hS => ?_)
  obtain rfl : c_6 = t 1 := xk_arr hKn (i := 1) rfl
  have hP : va_P D vwCl [zO 5 h [.ref q_1, .ref q_3, .null, .null, .null, .int 0], zJ t q_1 32 (fun _ => 0), zI t q_3 8 (fun _ => 0), zJ t q_5 8 (fun _ => 0)] H := hP
  have hD : va_D A [zO 5 h [.ref q_1, .ref q_3, .null, .null, .null, .int 0], zJ t q_1 32 (fun _ => 0), zI t q_3 8 (fun _ => 0), zJ t q_5 8 (fun _ => 0)] := hD
  refine va_putF (ci := 5) (v := .ref q_5) (ty := tyX5 2) (C := "QuorumStore$State") (T := TX5) (N := 6) hx hb hts inX5 tyX5 okX5 nmX5 hown hK.2 hP hD hS 0 rfl rfl 2 (by decide) (hts _ k_177) (fun _ h9 => h9) rfl hin rfl (by decide +kernel) rfl rfl (Nat.le_of_ble_eq_true rfl) d_S_init_25 (fun H locs hP hD hS => ?_)
  have hP : va_P D vwCl [zO 5 h [.ref q_1, .ref q_3, .ref q_5, .null, .null, .int 0], zJ t q_1 32 (fun _ => 0), zI t q_3 8 (fun _ => 0), zJ t q_5 8 (fun _ => 0)] H := hP
  have hD : va_D A [zO 5 h [.ref q_1, .ref q_3, .ref q_5, .null, .null, .int 0], zJ t q_1 32 (fun _ => 0), zI t q_3 8 (fun _ => 0), zJ t q_5 8 (fun _ => 0)] := hD
  refine lv_aload_n hx hb d_S_init_28 rfl (lv_at hl 0 rfl) ?_
  refine lv_iconst (v := 4) hx hb d_S_init_29 (by decide) ?_
  refine va_newa (atype := .int) (ty := .int) (a0 := (4, .inl (fun _ => 0))) hx hb (hts _ k_86) rfl hK.2 hP hD hS hA (fun _ => rfl) (by decide) rfl (by decide) (Nat.le_of_ble_eq_true rfl) (Nat.le_of_ble_eq_true rfl) d_S_init_30 (fun q_7 c_8 H hKn hP hD hS => ?_)
  obtain rfl : c_8 = t 0 := xk_arr hKn (i := 0) rfl
  have hP : va_P D vwCl [zO 5 h [.ref q_1, .ref q_3, .ref q_5, .null, .null, .int 0], zJ t q_1 32 (fun _ => 0), zI t q_3 8 (fun _ => 0), zJ t q_5 8 (fun _ => 0), zI t q_7 4 (fun _ => 0)] H := hP
  have hD : va_D A [zO 5 h [.ref q_1, .ref q_3, .ref q_5, .null, .null, .int 0], zJ t q_1 32 (fun _ => 0), zI t q_3 8 (fun _ => 0), zJ t q_5 8 (fun _ => 0), zI t q_7 4 (fun _ => 0)] := hD
  refine va_putF (ci := 5) (v := .ref q_7) (ty := tyX5 3) (C := "QuorumStore$State") (T := TX5) (N := 6) hx hb hts inX5 tyX5 okX5 nmX5 hown hK.2 hP hD hS 0 rfl rfl 3 (by decide) (hts _ k_179) (fun _ h9 => h9) rfl hin rfl (by decide +kernel) rfl rfl (Nat.le_of_ble_eq_true rfl) d_S_init_32 (fun H locs hP hD hS => ?_)
  have hP : va_P D vwCl [zO 5 h [.ref q_1, .ref q_3, .ref q_5, .ref q_7, .null, .int 0], zJ t q_1 32 (fun _ => 0), zI t q_3 8 (fun _ => 0), zJ t q_5 8 (fun _ => 0), zI t q_7 4 (fun _ => 0)] H := hP
  have hD : va_D A [zO 5 h [.ref q_1, .ref q_3, .ref q_5, .ref q_7, .null, .int 0], zJ t q_1 32 (fun _ => 0), zI t q_3 8 (fun _ => 0), zJ t q_5 8 (fun _ => 0), zI t q_7 4 (fun _ => 0)] := hD
  refine lv_aload_n hx hb d_S_init_35 rfl (lv_at hl 0 rfl) ?_
  refine lv_iconst (v := 4) hx hb d_S_init_36 (by decide) ?_
  refine va_newa (atype := .int) (ty := .int) (a0 := (4, .inl (fun _ => 0))) hx hb (hts _ k_86) rfl hK.2 hP hD hS hA (fun _ => rfl) (by decide) rfl (by decide) (Nat.le_of_ble_eq_true rfl) (Nat.le_of_ble_eq_true rfl) d_S_init_37 (fun q_9 c_10 H hKn hP hD hS => ?_)
  obtain rfl : c_10 = t 0 := xk_arr hKn (i := 0) rfl
  have hP : va_P D vwCl [zO 5 h [.ref q_1, .ref q_3, .ref q_5, .ref q_7, .null, .int 0], zJ t q_1 32 (fun _ => 0), zI t q_3 8 (fun _ => 0), zJ t q_5 8 (fun _ => 0), zI t q_7 4 (fun _ => 0), zI t q_9 4 (fun _ => 0)] H := hP
  have hD : va_D A [zO 5 h [.ref q_1, .ref q_3, .ref q_5, .ref q_7, .null, .int 0], zJ t q_1 32 (fun _ => 0), zI t q_3 8 (fun _ => 0), zJ t q_5 8 (fun _ => 0), zI t q_7 4 (fun _ => 0), zI t q_9 4 (fun _ => 0)] := hD
  refine va_putF (ci := 5) (v := .ref q_9) (ty := tyX5 4) (C := "QuorumStore$State") (T := TX5) (N := 6) hx hb hts inX5 tyX5 okX5 nmX5 hown hK.2 hP hD hS 0 rfl rfl 4 (by decide) (hts _ k_180) (fun _ h9 => h9) rfl hin rfl (by decide +kernel) rfl rfl (Nat.le_of_ble_eq_true rfl) d_S_init_39 (fun H locs hP hD hS => ?_)
  have hP : va_P D vwCl [zO 5 h [.ref q_1, .ref q_3, .ref q_5, .ref q_7, .ref q_9, .int 0], zJ t q_1 32 (fun _ => 0), zI t q_3 8 (fun _ => 0), zJ t q_5 8 (fun _ => 0), zI t q_7 4 (fun _ => 0), zI t q_9 4 (fun _ => 0)] H := hP
  have hD : va_D A [zO 5 h [.ref q_1, .ref q_3, .ref q_5, .ref q_7, .ref q_9, .int 0], zJ t q_1 32 (fun _ => 0), zI t q_3 8 (fun _ => 0), zJ t q_5 8 (fun _ => 0), zI t q_7 4 (fun _ => 0), zI t q_9 4 (fun _ => 0)] := hD
  refine lv_iconst (v := 0) hx hb d_S_init_42 (by decide) ?_
  refine lv_istore_n (lv' := [(2, .int 0), (0, .ref h), (1, .int mk)]) hx hb d_S_init_43 rfl hl (by decide) rfl (fun ls hl => ?_)
  have e0 : (fun _ => (0 : Int64)) = fun j => if j < 0 then 1099511627776 else 0 := by funext j; rfl
  rw [show (zJ t q_1 32 (fun _ => 0)) = zJ t q_1 32 (fun j => if j < 0 then 1099511627776 else 0) from by rw [← e0]] at hP hD
  have loop : ∀ (n : Nat) (i : Nat), i + n = 32 → ∀ (H : Heap) (locs : List Loc), va_P D vwCl [zO 5 h [.ref q_1, .ref q_3, .ref q_5, .ref q_7, .ref q_9, .int 0], zJ t q_1 32 (fun j => if j < i then 1099511627776 else 0), zI t q_3 8 (fun _ => 0), zJ t q_5 8 (fun _ => 0), zI t q_7 4 (fun _ => 0), zI t q_9 4 (fun _ => 0)] H → va_D A [zO 5 h [.ref q_1, .ref q_3, .ref q_5, .ref q_7, .ref q_9, .int 0], zJ t q_1 32 (fun j => if j < i then 1099511627776 else 0), zI t q_3 8 (fun _ => 0), zJ t q_5 8 (fun _ => 0), zI t q_7 4 (fun _ => 0), zI t q_9 4 (fun _ => 0)] → va_S A s.heap H locs → ∀ (ls : Array Slot), lv_has ls 3 [(2, .int (nI i)), (0, .ref h), (1, .int mk)] → W p l e ({ frames := 1, cells := 5, slots := 56, locals := 20 } : Room) s m ([.ref h, .int mk] : List Value).toArray below meth c H locs 5 56 (MQ below ((xe_v D vwCl (fun _ : Nat × Nat × Nat × Nat × Nat => True) (fun u => [zO 5 h [.ref u.1, .ref u.2.1, .ref u.2.2.1, .ref u.2.2.2.1, .ref u.2.2.2.2, .int 1], zJ t u.1 32 (fun _ => 1099511627776), zI t u.2.1 8 (fun _ => 0), zJ t u.2.2.1 8 (fun _ => 0), zI t u.2.2.2.1 4 (xm 1), zI t u.2.2.2.2 4 (xm mk)])) A) ([.ref h, .int mk] : List Value).toArray s 5 56 A) (F0 m 44 ls []) := by
    intro n
    induction n with
    | zero =>
      intro i hi H locs hP hD hS ls hl
      refine lv_iload_n hx hb d_S_init_44 rfl (lv_at hl 0 rfl) ?_
      refine lv_bipush (v := 32) hx hb d_S_init_45 (by decide) ?_
      refine lv_icmp_ge (tgt := 65) hx hb d_S_init_47 (by decide) (fun _ => ?_) (fun c_11 => absurd (nI_le (b := i) (a := 32) (by omega) (by omega)) c_11)
      obtain rfl : i = 32 := by omega
      have e1 := xa_J (D := D) (cl := vwCl) (t := t) (q := q_1) (n := 32) (g := fun _ => 1099511627776) (H := H) (fun j hj => if_pos hj) (hP 1 _ rfl)
      have hP := xd_set hP 1 rfl e1
      have hD := xd_setD (e' := (zJ t q_1 32 (fun _ => 1099511627776)).2) hD 1 rfl
      have hP : va_P D vwCl [zO 5 h [.ref q_1, .ref q_3, .ref q_5, .ref q_7, .ref q_9, .int 0], zJ t q_1 32 (fun _ => 1099511627776), zI t q_3 8 (fun _ => 0), zJ t q_5 8 (fun _ => 0), zI t q_7 4 (fun _ => 0), zI t q_9 4 (fun _ => 0)] H := hP
      have hD : va_D A [zO 5 h [.ref q_1, .ref q_3, .ref q_5, .ref q_7, .ref q_9, .int 0], zJ t q_1 32 (fun _ => 1099511627776), zI t q_3 8 (fun _ => 0), zJ t q_5 8 (fun _ => 0), zI t q_7 4 (fun _ => 0), zI t q_9 4 (fun _ => 0)] := hD
      refine lv_aload_n hx hb d_S_init_65 rfl (lv_at hl 1 rfl) ?_
      refine va_get (ci := 5) (C := "QuorumStore$State") (T := TX5) (N := 6) hx hb hts inX5 hown hK.2 hP 0 rfl rfl 3 (by decide) (hts _ k_179) (fun _ h9 => h9) rfl d_S_init_66 ?_
      refine lv_iconst (v := 0) hx hb d_S_init_69 (by decide) ?_
      refine lv_iconst (v := 1) hx hb d_S_init_70 (by decide) ?_
      refine va_iast hx hb hK.2 hP hD hS 4 0 rfl rfl (by unfold vp_in; decide) d_S_init_71 (fun H locs hP hD hS => ?_)
      rw [xu_m] at hP hD
      have hP : va_P D vwCl [zO 5 h [.ref q_1, .ref q_3, .ref q_5, .ref q_7, .ref q_9, .int 0], zJ t q_1 32 (fun _ => 1099511627776), zI t q_3 8 (fun _ => 0), zJ t q_5 8 (fun _ => 0), zI t q_7 4 (xm 1), zI t q_9 4 (fun _ => 0)] H := hP
      have hD : va_D A [zO 5 h [.ref q_1, .ref q_3, .ref q_5, .ref q_7, .ref q_9, .int 0], zJ t q_1 32 (fun _ => 1099511627776), zI t q_3 8 (fun _ => 0), zJ t q_5 8 (fun _ => 0), zI t q_7 4 (xm 1), zI t q_9 4 (fun _ => 0)] := hD
      refine lv_aload_n hx hb d_S_init_72 rfl (lv_at hl 1 rfl) ?_
      refine va_get (ci := 5) (C := "QuorumStore$State") (T := TX5) (N := 6) hx hb hts inX5 hown hK.2 hP 0 rfl rfl 4 (by decide) (hts _ k_180) (fun _ h9 => h9) rfl d_S_init_73 ?_
      refine lv_iconst (v := 0) hx hb d_S_init_76 (by decide) ?_
      refine lv_iload_n hx hb d_S_init_77 rfl (lv_at hl 2 rfl) ?_
      refine va_iast hx hb hK.2 hP hD hS 5 0 rfl rfl (by unfold vp_in; decide) d_S_init_78 (fun H locs hP hD hS => ?_)
      rw [xu_m] at hP hD
      have hP : va_P D vwCl [zO 5 h [.ref q_1, .ref q_3, .ref q_5, .ref q_7, .ref q_9, .int 0], zJ t q_1 32 (fun _ => 1099511627776), zI t q_3 8 (fun _ => 0), zJ t q_5 8 (fun _ => 0), zI t q_7 4 (xm 1), zI t q_9 4 (xm mk)] H := hP
      have hD : va_D A [zO 5 h [.ref q_1, .ref q_3, .ref q_5, .ref q_7, .ref q_9, .int 0], zJ t q_1 32 (fun _ => 1099511627776), zI t q_3 8 (fun _ => 0), zJ t q_5 8 (fun _ => 0), zI t q_7 4 (xm 1), zI t q_9 4 (xm mk)] := hD
      refine lv_aload_n hx hb d_S_init_79 rfl (lv_at hl 1 rfl) ?_
      refine lv_iconst (v := 1) hx hb d_S_init_80 (by decide) ?_
      refine va_put (ci := 5) (v := .int 1) (ty := tyX5 5) (C := "QuorumStore$State") (T := TX5) (N := 6) hx hb hts inX5 tyX5 okX5 nmX5 hown hK.2 hP hD hS 0 rfl rfl 5 (by decide) (hts _ k_181) (fun _ h9 => h9) rfl (by decide +kernel) rfl rfl (Nat.le_of_ble_eq_true rfl) d_S_init_81 (fun H locs hP hD hS => ?_)
      have hP : va_P D vwCl [zO 5 h [.ref q_1, .ref q_3, .ref q_5, .ref q_7, .ref q_9, .int 1], zJ t q_1 32 (fun _ => 1099511627776), zI t q_3 8 (fun _ => 0), zJ t q_5 8 (fun _ => 0), zI t q_7 4 (xm 1), zI t q_9 4 (xm mk)] H := hP
      have hD : va_D A [zO 5 h [.ref q_1, .ref q_3, .ref q_5, .ref q_7, .ref q_9, .int 1], zJ t q_1 32 (fun _ => 1099511627776), zI t q_3 8 (fun _ => 0), zJ t q_5 8 (fun _ => 0), zI t q_7 4 (xm 1), zI t q_9 4 (xm mk)] := hD
      exact W.vret hx hb hr (fun t ht hW => ⟨⟨(q_1, q_3, q_5, q_7, q_9), rfl, trivial, by rw [ht]; exact hP, hD⟩, hS.F ht⟩) hS.2.2 d_S_init_84
    | succ n ih =>
      intro i hi H locs hP hD hS ls hl
      refine lv_iload_n hx hb d_S_init_44 rfl (lv_at hl 0 rfl) ?_
      refine lv_bipush (v := 32) hx hb d_S_init_45 (by decide) ?_
      refine lv_icmp_ge (tgt := 65) hx hb d_S_init_47 (by decide) (fun c_12 => absurd c_12 (nI_ge (a := i) (b := 32) (by omega) (by omega))) (fun _ => ?_)
      refine lv_aload_n hx hb d_S_init_50 rfl (lv_at hl 1 rfl) ?_
      refine va_get (ci := 5) (C := "QuorumStore$State") (T := TX5) (N := 6) hx hb hts inX5 hown hK.2 hP 0 rfl rfl 0 (by decide) (hts _ k_172) (fun _ h9 => h9) rfl d_S_init_51 ?_
      refine lv_iload_n hx hb d_S_init_54 rfl (lv_at hl 0 rfl) ?_
      refine lv_ldc2 (v := 1099511627776) hx hb hown (hts _ k_171) d_S_init_55 ?_
      refine va_last hx hb hK.2 hP hD hS 1 1 rfl rfl (vp_in_nI (by omega) (by decide)) d_S_init_58 (fun H locs hP hD hS => ?_)
      rw [xu_J (by omega)] at hP hD
      have hP : va_P D vwCl [zO 5 h [.ref q_1, .ref q_3, .ref q_5, .ref q_7, .ref q_9, .int 0], zJ t q_1 32 (fun j => if j < i + 1 then 1099511627776 else 0), zI t q_3 8 (fun _ => 0), zJ t q_5 8 (fun _ => 0), zI t q_7 4 (fun _ => 0), zI t q_9 4 (fun _ => 0)] H := hP
      have hD : va_D A [zO 5 h [.ref q_1, .ref q_3, .ref q_5, .ref q_7, .ref q_9, .int 0], zJ t q_1 32 (fun j => if j < i + 1 then 1099511627776 else 0), zI t q_3 8 (fun _ => 0), zJ t q_5 8 (fun _ => 0), zI t q_7 4 (fun _ => 0), zI t q_9 4 (fun _ => 0)] := hD
      refine lv_iinc (v := nI (i + 1)) (lv' := [(2, .int (nI (i + 1))), (0, .ref h), (1, .int mk)]) hx hb d_S_init_59 hl (k := 0) rfl (nI_1 i) (by decide) rfl (fun ls hl => ?_)
      refine lv_goto (tgt := 44) hx hb d_S_init_62 (by decide) ?_
      exact ih (i + 1) (by omega) H locs hP hD hS ls (lv_sub hl [0, 1, 2] rfl)
  exact loop 32 0 (by omega) _ _ hP hD hS ls (lv_sub hl [0, 1, 2] rfl)
theorem d_L_init_0 : decode c_L_init 0 = .ok (.aload_n 0, 1) := by decide +kernel
theorem d_L_init_1 : decode c_L_init 1 = .ok (.invokespecial 3, 3) := by decide +kernel
theorem d_L_init_4 : decode c_L_init 4 = .ok (.aload_n 0, 1) := by decide +kernel
theorem d_L_init_5 : decode c_L_init 5 = .ok (.new 9, 3) := by decide +kernel
theorem d_L_init_8 : decode c_L_init 8 = .ok (.dup, 1) := by decide +kernel
theorem d_L_init_9 : decode c_L_init 9 = .ok (.iconst 0, 1) := by decide +kernel
theorem d_L_init_10 : decode c_L_init 10 = .ok (.iconst 0, 1) := by decide +kernel
theorem d_L_init_11 : decode c_L_init 11 = .ok (.iconst 0, 1) := by decide +kernel
theorem d_L_init_12 : decode c_L_init 12 = .ok (.iconst 0, 1) := by decide +kernel
theorem d_L_init_13 : decode c_L_init 13 = .ok (.iconst 0, 1) := by decide +kernel
theorem d_L_init_14 : decode c_L_init 14 = .ok (.iconst 0, 1) := by decide +kernel
theorem d_L_init_15 : decode c_L_init 15 = .ok (.invokespecial 11, 3) := by decide +kernel
theorem d_L_init_18 : decode c_L_init 18 = .ok (.putfield 14, 3) := by decide +kernel
theorem d_L_init_21 : decode c_L_init 21 = .ok (.aload_n 0, 1) := by decide +kernel
theorem d_L_init_22 : decode c_L_init 22 = .ok (.new 20, 3) := by decide +kernel
theorem d_L_init_25 : decode c_L_init 25 = .ok (.dup, 1) := by decide +kernel
theorem d_L_init_26 : decode c_L_init 26 = .ok (.bipush 32, 2) := by decide +kernel
theorem d_L_init_28 : decode c_L_init 28 = .ok (.invokespecial 22, 3) := by decide +kernel
theorem d_L_init_31 : decode c_L_init 31 = .ok (.putfield 25, 3) := by decide +kernel
theorem d_L_init_34 : decode c_L_init 34 = .ok (.aload_n 0, 1) := by decide +kernel
theorem d_L_init_35 : decode c_L_init 35 = .ok (.new 20, 3) := by decide +kernel
theorem d_L_init_38 : decode c_L_init 38 = .ok (.dup, 1) := by decide +kernel
theorem d_L_init_39 : decode c_L_init 39 = .ok (.iconst 4, 1) := by decide +kernel
theorem d_L_init_40 : decode c_L_init 40 = .ok (.invokespecial 22, 3) := by decide +kernel
theorem d_L_init_43 : decode c_L_init 43 = .ok (.putfield 29, 3) := by decide +kernel
theorem d_L_init_46 : decode c_L_init 46 = .ok (.aload_n 0, 1) := by decide +kernel
theorem d_L_init_47 : decode c_L_init 47 = .ok (.bipush 16, 2) := by decide +kernel
theorem d_L_init_49 : decode c_L_init 49 = .ok (.anewarray 9, 3) := by decide +kernel
theorem d_L_init_52 : decode c_L_init 52 = .ok (.putfield 32, 3) := by decide +kernel
theorem d_L_init_55 : decode c_L_init 55 = .ok (.return_, 1) := by decide +kernel
set_option maxHeartbeats 4000000 in
set_option maxRecDepth 100000 in
/-- a new lead -/
theorem C_L_init (l : Launch) (D : va_G) (t : Nat → ClassId) (h : Nat) : xe_C l D vwCl (xTY t) y_L_init c_L_init 1 (Option.none : Option FieldType) ({ frames := 2, cells := 10, slots := 136, locals := 46 }) [.ref h] [zO 0 h [.null, .int 0, .null, .null, .null, .int 0, .int 0, .int 0]] (xe_v D vwCl (fun _ : Nat × Nat × Nat × Nat × Nat × Nat × Nat × Nat × Nat × Nat => True) (fun u => [zO 0 h [.ref u.1, .int 0, .ref u.2.1, .ref u.2.2.2.2.2.1, .ref u.2.2.2.2.2.2.2.2.2, .int 0, .int 0, .int 0], zO 4 u.2.1 [.ref u.2.2.1, .ref u.2.2.2.1, .ref u.2.2.2.2.1], zI t u.2.2.1 32 (fun _ => 0), zI t u.2.2.2.1 32 (fun _ => 0), zA t 2 u.2.2.2.2.1 32 (fun _ => none), zO 4 u.2.2.2.2.2.1 [.ref u.2.2.2.2.2.2.1, .ref u.2.2.2.2.2.2.2.1, .ref u.2.2.2.2.2.2.2.2.1], zI t u.2.2.2.2.2.2.1 4 (fun _ => 0), zI t u.2.2.2.2.2.2.2.1 4 (fun _ => 0), zA t 2 u.2.2.2.2.2.2.2.2.1 4 (fun _ => none), zA t 2 u.2.2.2.2.2.2.2.2.2 16 (fun _ => none)])) 10 136 := by
  refine xe_of (by decide) (Nat.le_of_ble_eq_true rfl) ?_
  intro p e s m below meth c ls A Z hr hlocks hin hA hP hD hS hl
  obtain ⟨hx, hb, hml, hown, hK⟩ := id Z
  have hown : s.vm.findClass "QuorumStore$Lead" = some m.cls := hown
  have hts := hK.1.at (args := ([.ref h] : List Value).toArray)
  have hl : lv_has ls 1 [(0, .ref h)] := hl
  refine lv_aload_n hx hb d_L_init_0 rfl (lv_at hl 0 rfl) ?_
  refine W.objInit hx hb hown (hts _ k_92) (hts _ k_30) (hts _ k_31) rfl (by rw [hml]; exact hl.1) rfl d_L_init_1 (Nat.le_of_ble_eq_true rfl) (Nat.le_of_ble_eq_true rfl) ?_
  refine W.eq (g2 := F0 m 4 ls []) rfl ?_
  refine lv_aload_n hx hb d_L_init_4 rfl (lv_at hl 0 rfl) ?_
  refine va_new (ci := 6) (fs := [.int 0, .int 0, .int 0, .int 0, .int 0, .int 0]) (C := "QuorumStore$Value") (T := TX6) (N := 6) hx hb hts inX6 tyX6 okX6 hown (hts _ k_93) (hts _ k_94) (hts _ k_6) hK.2 hP hD hS hA rfl (by decide) (Nat.le_of_ble_eq_true rfl) (Nat.le_of_ble_eq_true rfl) d_L_init_5 (fun q_1 H hP hD hS => ?_)
  have hP : va_P D vwCl [zO 0 h [.null, .int 0, .null, .null, .null, .int 0, .int 0, .int 0], zO 6 q_1 [.int 0, .int 0, .int 0, .int 0, .int 0, .int 0]] H := hP
  have hD : va_D A [zO 0 h [.null, .int 0, .null, .null, .null, .int 0, .int 0, .int 0], zO 6 q_1 [.int 0, .int 0, .int 0, .int 0, .int 0, .int 0]] := hD
  refine lv_dup hx hb d_L_init_8 rfl ?_
  refine lv_iconst (v := 0) hx hb d_L_init_9 (by decide) ?_
  refine lv_iconst (v := 0) hx hb d_L_init_10 (by decide) ?_
  refine lv_iconst (v := 0) hx hb d_L_init_11 (by decide) ?_
  refine lv_iconst (v := 0) hx hb d_L_init_12 (by decide) ?_
  refine lv_iconst (v := 0) hx hb d_L_init_13 (by decide) ?_
  refine lv_iconst (v := 0) hx hb d_L_init_14 (by decide) ?_
  refine xe_callv (wr := [zO 0 h [.null, .int 0, .null, .null, .null, .int 0, .int 0, .int 0]]) (xs_I (As := [.int 0, .int 0, .int 0, .int 0, .int 0, .int 0]) (rest := [.ref q_1, .ref h]) Z (C_V_init l D t q_1 0 0 0 0 0 0 H.size) m_V_init k_95 k_96 rfl rfl rfl ⟨Nat.le_of_ble_eq_true rfl, Nat.le_of_ble_eq_true rfl⟩ (xe_pre hK (hP.sub [1] rfl) (hD.sub [1] (by decide) rfl)) rfl hl.1 rfl (Nat.le_of_ble_eq_true rfl) d_L_init_15 ⟨Nat.le_of_ble_eq_true rfl, Nat.le_of_ble_eq_true rfl⟩) hP hD hS hA [1] [0] rfl rfl (by decide) (by decide) (fun u_ H locs _ hP hD hS => ?_)
  have hP : va_P D vwCl [zO 0 h [.null, .int 0, .null, .null, .null, .int 0, .int 0, .int 0], zO 6 q_1 [.int 0, .int 0, .int 0, .int 0, .int 0, .int 0]] H := hP
  have hD : va_D A [zO 0 h [.null, .int 0, .null, .null, .null, .int 0, .int 0, .int 0], zO 6 q_1 [.int 0, .int 0, .int 0, .int 0, .int 0, .int 0]] := hD
  refine va_putF (ci := 0) (v := .ref q_1) (ty := tyX0 0) (C := "QuorumStore$Lead") (T := TX0) (N := 8) hx hb hts inX0 tyX0 okX0 nmX0 hown hK.2 hP hD hS 0 rfl rfl 0 (by decide) (hts _ k_134) (fun _ h9 => h9) rfl hin rfl (by decide +kernel) rfl rfl (Nat.le_of_ble_eq_true rfl) d_L_init_18 (fun H locs hP hD hS => ?_)
  have hP : va_P D vwCl [zO 0 h [.ref q_1, .int 0, .null, .null, .null, .int 0, .int 0, .int 0], zO 6 q_1 [.int 0, .int 0, .int 0, .int 0, .int 0, .int 0]] H := hP
  have hD : va_D A [zO 0 h [.ref q_1, .int 0, .null, .null, .null, .int 0, .int 0, .int 0], zO 6 q_1 [.int 0, .int 0, .int 0, .int 0, .int 0, .int 0]] := hD
  refine lv_aload_n hx hb d_L_init_21 rfl (lv_at hl 0 rfl) ?_
  refine va_new (ci := 4) (fs := [.null, .null, .null]) (C := "QuorumStore$Row") (T := TX4) (N := 3) hx hb hts inX4 tyX4 okX4 hown (hts _ k_132) (hts _ k_68) (hts _ k_4) hK.2 hP hD hS hA rfl (by decide) (Nat.le_of_ble_eq_true rfl) (Nat.le_of_ble_eq_true rfl) d_L_init_22 (fun q_2 H hP hD hS => ?_)
  have hP : va_P D vwCl [zO 0 h [.ref q_1, .int 0, .null, .null, .null, .int 0, .int 0, .int 0], zO 6 q_1 [.int 0, .int 0, .int 0, .int 0, .int 0, .int 0], zO 4 q_2 [.null, .null, .null]] H := hP
  have hD : va_D A [zO 0 h [.ref q_1, .int 0, .null, .null, .null, .int 0, .int 0, .int 0], zO 6 q_1 [.int 0, .int 0, .int 0, .int 0, .int 0, .int 0], zO 4 q_2 [.null, .null, .null]] := hD
  refine lv_dup hx hb d_L_init_25 rfl ?_
  refine lv_bipush (v := 32) hx hb d_L_init_26 (by decide) ?_
  refine xe_callv (wr := [zO 0 h [.ref q_1, .int 0, .null, .null, .null, .int 0, .int 0, .int 0], zO 6 q_1 [.int 0, .int 0, .int 0, .int 0, .int 0, .int 0]]) (xs_I (As := [.int 32]) (rest := [.ref q_2, .ref h]) Z (C_R_init_32 l D t q_2 H.size) m_R_init k_133 k_70 rfl rfl rfl ⟨Nat.le_of_ble_eq_true rfl, Nat.le_of_ble_eq_true rfl⟩ (xe_pre hK (hP.sub [2] rfl) (hD.sub [2] (by decide) rfl)) rfl hl.1 rfl (Nat.le_of_ble_eq_true rfl) d_L_init_28 ⟨Nat.le_of_ble_eq_true rfl, Nat.le_of_ble_eq_true rfl⟩) hP hD hS hA [2] [0, 1] rfl rfl (by decide) (by decide) (fun u_ H locs _ hP hD hS => ?_)
  obtain ⟨a1, b1, v1⟩ := u_
  have hP : va_P D vwCl [zO 0 h [.ref q_1, .int 0, .null, .null, .null, .int 0, .int 0, .int 0], zO 6 q_1 [.int 0, .int 0, .int 0, .int 0, .int 0, .int 0], zO 4 q_2 [.ref a1, .ref b1, .ref v1], zI t a1 32 (fun _ => 0), zI t b1 32 (fun _ => 0), zA t 2 v1 32 (fun _ => none)] H := hP
  have hD : va_D A [zO 0 h [.ref q_1, .int 0, .null, .null, .null, .int 0, .int 0, .int 0], zO 6 q_1 [.int 0, .int 0, .int 0, .int 0, .int 0, .int 0], zO 4 q_2 [.ref a1, .ref b1, .ref v1], zI t a1 32 (fun _ => 0), zI t b1 32 (fun _ => 0), zA t 2 v1 32 (fun _ => none)] := hD
  refine va_putF (ci := 0) (v := .ref q_2) (ty := tyX0 2) (C := "QuorumStore$Lead") (T := TX0) (N := 8) hx hb hts inX0 tyX0 okX0 nmX0 hown hK.2 hP hD hS 0 rfl rfl 2 (by decide) (hts _ k_138) (fun _ h9 => h9) rfl hin rfl (by decide +kernel) rfl rfl (Nat.le_of_ble_eq_true rfl) d_L_init_31 (fun H locs hP hD hS => ?_)
  have hP : va_P D vwCl [zO 0 h [.ref q_1, .int 0, .ref q_2, .null, .null, .int 0, .int 0, .int 0], zO 6 q_1 [.int 0, .int 0, .int 0, .int 0, .int 0, .int 0], zO 4 q_2 [.ref a1, .ref b1, .ref v1], zI t a1 32 (fun _ => 0), zI t b1 32 (fun _ => 0), zA t 2 v1 32 (fun _ => none)] H := hP
  have hD : va_D A [zO 0 h [.ref q_1, .int 0, .ref q_2, .null, .null, .int 0, .int 0, .int 0], zO 6 q_1 [.int 0, .int 0, .int 0, .int 0, .int 0, .int 0], zO 4 q_2 [.ref a1, .ref b1, .ref v1], zI t a1 32 (fun _ => 0), zI t b1 32 (fun _ => 0), zA t 2 v1 32 (fun _ => none)] := hD
  refine lv_aload_n hx hb d_L_init_34 rfl (lv_at hl 0 rfl) ?_
  refine va_new (ci := 4) (fs := [.null, .null, .null]) (C := "QuorumStore$Row") (T := TX4) (N := 3) hx hb hts inX4 tyX4 okX4 hown (hts _ k_132) (hts _ k_68) (hts _ k_4) hK.2 hP hD hS hA rfl (by decide) (Nat.le_of_ble_eq_true rfl) (Nat.le_of_ble_eq_true rfl) d_L_init_35 (fun q_3 H hP hD hS => ?_)
  have hP : va_P D vwCl [zO 0 h [.ref q_1, .int 0, .ref q_2, .null, .null, .int 0, .int 0, .int 0], zO 6 q_1 [.int 0, .int 0, .int 0, .int 0, .int 0, .int 0], zO 4 q_2 [.ref a1, .ref b1, .ref v1], zI t a1 32 (fun _ => 0), zI t b1 32 (fun _ => 0), zA t 2 v1 32 (fun _ => none), zO 4 q_3 [.null, .null, .null]] H := hP
  have hD : va_D A [zO 0 h [.ref q_1, .int 0, .ref q_2, .null, .null, .int 0, .int 0, .int 0], zO 6 q_1 [.int 0, .int 0, .int 0, .int 0, .int 0, .int 0], zO 4 q_2 [.ref a1, .ref b1, .ref v1], zI t a1 32 (fun _ => 0), zI t b1 32 (fun _ => 0), zA t 2 v1 32 (fun _ => none), zO 4 q_3 [.null, .null, .null]] := hD
  refine lv_dup hx hb d_L_init_38 rfl ?_
  refine lv_iconst (v := 4) hx hb d_L_init_39 (by decide) ?_
  refine xe_callv (wr := [zO 0 h [.ref q_1, .int 0, .ref q_2, .null, .null, .int 0, .int 0, .int 0], zO 6 q_1 [.int 0, .int 0, .int 0, .int 0, .int 0, .int 0], zO 4 q_2 [.ref a1, .ref b1, .ref v1], zI t a1 32 (fun _ => 0), zI t b1 32 (fun _ => 0), zA t 2 v1 32 (fun _ => none)]) (xs_I (As := [.int 4]) (rest := [.ref q_3, .ref h]) Z (C_R_init_4 l D t q_3 H.size) m_R_init k_133 k_70 rfl rfl rfl ⟨Nat.le_of_ble_eq_true rfl, Nat.le_of_ble_eq_true rfl⟩ (xe_pre hK (hP.sub [6] rfl) (hD.sub [6] (by decide) rfl)) rfl hl.1 rfl (Nat.le_of_ble_eq_true rfl) d_L_init_40 ⟨Nat.le_of_ble_eq_true rfl, Nat.le_of_ble_eq_true rfl⟩) hP hD hS hA [6] [0, 1, 2, 3, 4, 5] rfl rfl (by decide) (by decide) (fun u_ H locs _ hP hD hS => ?_)
  obtain ⟨a2, b2, v2⟩ := u_
  have hP : va_P D vwCl [zO 0 h [.ref q_1, .int 0, .ref q_2, .null, .null, .int 0, .int 0, .int 0], zO 6 q_1 [.int 0, .int 0, .int 0, .int 0, .int 0, .int 0], zO 4 q_2 [.ref a1, .ref b1, .ref v1], zI t a1 32 (fun _ => 0), zI t b1 32 (fun _ => 0), zA t 2 v1 32 (fun _ => none), zO 4 q_3 [.ref a2, .ref b2, .ref v2], zI t a2 4 (fun _ => 0), zI t b2 4 (fun _ => 0), zA t 2 v2 4 (fun _ => none)] H := hP
  have hD : va_D A [zO 0 h [.ref q_1, .int 0, .ref q_2, .null, .null, .int 0, .int 0, .int 0], zO 6 q_1 [.int 0, .int 0, .int 0, .int 0, .int 0, .int 0], zO 4 q_2 [.ref a1, .ref b1, .ref v1], zI t a1 32 (fun _ => 0), zI t b1 32 (fun _ => 0), zA t 2 v1 32 (fun _ => none), zO 4 q_3 [.ref a2, .ref b2, .ref v2], zI t a2 4 (fun _ => 0), zI t b2 4 (fun _ => 0), zA t 2 v2 4 (fun _ => none)] := hD
  refine va_putF (ci := 0) (v := .ref q_3) (ty := tyX0 3) (C := "QuorumStore$Lead") (T := TX0) (N := 8) hx hb hts inX0 tyX0 okX0 nmX0 hown hK.2 hP hD hS 0 rfl rfl 3 (by decide) (hts _ k_140) (fun _ h9 => h9) rfl hin rfl (by decide +kernel) rfl rfl (Nat.le_of_ble_eq_true rfl) d_L_init_43 (fun H locs hP hD hS => ?_)
  have hP : va_P D vwCl [zO 0 h [.ref q_1, .int 0, .ref q_2, .ref q_3, .null, .int 0, .int 0, .int 0], zO 6 q_1 [.int 0, .int 0, .int 0, .int 0, .int 0, .int 0], zO 4 q_2 [.ref a1, .ref b1, .ref v1], zI t a1 32 (fun _ => 0), zI t b1 32 (fun _ => 0), zA t 2 v1 32 (fun _ => none), zO 4 q_3 [.ref a2, .ref b2, .ref v2], zI t a2 4 (fun _ => 0), zI t b2 4 (fun _ => 0), zA t 2 v2 4 (fun _ => none)] H := hP
  have hD : va_D A [zO 0 h [.ref q_1, .int 0, .ref q_2, .ref q_3, .null, .int 0, .int 0, .int 0], zO 6 q_1 [.int 0, .int 0, .int 0, .int 0, .int 0, .int 0], zO 4 q_2 [.ref a1, .ref b1, .ref v1], zI t a1 32 (fun _ => 0), zI t b1 32 (fun _ => 0), zA t 2 v1 32 (fun _ => none), zO 4 q_3 [.ref a2, .ref b2, .ref v2], zI t a2 4 (fun _ => 0), zI t b2 4 (fun _ => 0), zA t 2 v2 4 (fun _ => none)] := hD
  refine lv_aload_n hx hb d_L_init_46 rfl (lv_at hl 0 rfl) ?_
  refine lv_bipush (v := 16) hx hb d_L_init_47 (by decide) ?_
  refine va_newq (N' := 16) hx hb hown (hts _ k_93) (va_AO.of (hts _ k_74)) hK.2 hP hD hS hA (by decide) rfl (by decide) (Nat.le_of_ble_eq_true rfl) (Nat.le_of_ble_eq_true rfl) d_L_init_49 (fun q_4 c_5 H hKn hP hD hS => ?_)
  obtain rfl : c_5 = t 2 := xk_arr hKn (i := 2) rfl
  have hP : va_P D vwCl [zO 0 h [.ref q_1, .int 0, .ref q_2, .ref q_3, .null, .int 0, .int 0, .int 0], zO 6 q_1 [.int 0, .int 0, .int 0, .int 0, .int 0, .int 0], zO 4 q_2 [.ref a1, .ref b1, .ref v1], zI t a1 32 (fun _ => 0), zI t b1 32 (fun _ => 0), zA t 2 v1 32 (fun _ => none), zO 4 q_3 [.ref a2, .ref b2, .ref v2], zI t a2 4 (fun _ => 0), zI t b2 4 (fun _ => 0), zA t 2 v2 4 (fun _ => none), zA t 2 q_4 16 (fun _ => none)] H := hP
  have hD : va_D A [zO 0 h [.ref q_1, .int 0, .ref q_2, .ref q_3, .null, .int 0, .int 0, .int 0], zO 6 q_1 [.int 0, .int 0, .int 0, .int 0, .int 0, .int 0], zO 4 q_2 [.ref a1, .ref b1, .ref v1], zI t a1 32 (fun _ => 0), zI t b1 32 (fun _ => 0), zA t 2 v1 32 (fun _ => none), zO 4 q_3 [.ref a2, .ref b2, .ref v2], zI t a2 4 (fun _ => 0), zI t b2 4 (fun _ => 0), zA t 2 v2 4 (fun _ => none), zA t 2 q_4 16 (fun _ => none)] := hD
  refine va_putF (ci := 0) (v := .ref q_4) (ty := tyX0 4) (C := "QuorumStore$Lead") (T := TX0) (N := 8) hx hb hts inX0 tyX0 okX0 nmX0 hown hK.2 hP hD hS 0 rfl rfl 4 (by decide) (hts _ k_143) (fun _ h9 => h9) rfl hin rfl (by decide +kernel) rfl rfl (Nat.le_of_ble_eq_true rfl) d_L_init_52 (fun H locs hP hD hS => ?_)
  have hP : va_P D vwCl [zO 0 h [.ref q_1, .int 0, .ref q_2, .ref q_3, .ref q_4, .int 0, .int 0, .int 0], zO 6 q_1 [.int 0, .int 0, .int 0, .int 0, .int 0, .int 0], zO 4 q_2 [.ref a1, .ref b1, .ref v1], zI t a1 32 (fun _ => 0), zI t b1 32 (fun _ => 0), zA t 2 v1 32 (fun _ => none), zO 4 q_3 [.ref a2, .ref b2, .ref v2], zI t a2 4 (fun _ => 0), zI t b2 4 (fun _ => 0), zA t 2 v2 4 (fun _ => none), zA t 2 q_4 16 (fun _ => none)] H := hP
  have hD : va_D A [zO 0 h [.ref q_1, .int 0, .ref q_2, .ref q_3, .ref q_4, .int 0, .int 0, .int 0], zO 6 q_1 [.int 0, .int 0, .int 0, .int 0, .int 0, .int 0], zO 4 q_2 [.ref a1, .ref b1, .ref v1], zI t a1 32 (fun _ => 0), zI t b1 32 (fun _ => 0), zA t 2 v1 32 (fun _ => none), zO 4 q_3 [.ref a2, .ref b2, .ref v2], zI t a2 4 (fun _ => 0), zI t b2 4 (fun _ => 0), zA t 2 v2 4 (fun _ => none), zA t 2 q_4 16 (fun _ => none)] := hD
  have hP := hP.sub (ws' := [zO 0 h [.ref q_1, .int 0, .ref q_2, .ref q_3, .ref q_4, .int 0, .int 0, .int 0], zO 4 q_2 [.ref a1, .ref b1, .ref v1], zI t a1 32 (fun _ => 0), zI t b1 32 (fun _ => 0), zA t 2 v1 32 (fun _ => none), zO 4 q_3 [.ref a2, .ref b2, .ref v2], zI t a2 4 (fun _ => 0), zI t b2 4 (fun _ => 0), zA t 2 v2 4 (fun _ => none), zA t 2 q_4 16 (fun _ => none)]) [0, 2, 3, 4, 5, 6, 7, 8, 9, 10] rfl
  have hD := hD.sub (ws' := [zO 0 h [.ref q_1, .int 0, .ref q_2, .ref q_3, .ref q_4, .int 0, .int 0, .int 0], zO 4 q_2 [.ref a1, .ref b1, .ref v1], zI t a1 32 (fun _ => 0), zI t b1 32 (fun _ => 0), zA t 2 v1 32 (fun _ => none), zO 4 q_3 [.ref a2, .ref b2, .ref v2], zI t a2 4 (fun _ => 0), zI t b2 4 (fun _ => 0), zA t 2 v2 4 (fun _ => none), zA t 2 q_4 16 (fun _ => none)]) [0, 2, 3, 4, 5, 6, 7, 8, 9, 10] (by decide) rfl
  exact W.vret hx hb hr (fun t ht hW => ⟨⟨(q_1, q_2, a1, b1, v1, q_3, a2, b2, v2, q_4), rfl, trivial, by rw [ht]; exact hP, hD⟩, hS.F ht⟩) hS.2.2 d_L_init_55
theorem d_N_init_0 : decode c_N_init 0 = .ok (.aload_n 0, 1) := by decide +kernel
theorem d_N_init_1 : decode c_N_init 1 = .ok (.invokespecial 3, 3) := by decide +kernel
theorem d_N_init_4 : decode c_N_init 4 = .ok (.aload_n 0, 1) := by decide +kernel
theorem d_N_init_5 : decode c_N_init 5 = .ok (.sipush 300, 3) := by decide +kernel
theorem d_N_init_8 : decode c_N_init 8 = .ok (.anewarray 9, 3) := by decide +kernel
theorem d_N_init_11 : decode c_N_init 11 = .ok (.putfield 11, 3) := by decide +kernel
theorem d_N_init_14 : decode c_N_init 14 = .ok (.return_, 1) := by decide +kernel
set_option maxHeartbeats 4000000 in
set_option maxRecDepth 100000 in
/-- a new network -/
theorem C_N_init (l : Launch) (D : va_G) (t : Nat → ClassId) (h : Nat) : xe_C l D vwCl (xTY t) y_N_init c_N_init 1 (Option.none : Option FieldType) ({ frames := 1, cells := 1, slots := 300, locals := 20 }) [.ref h] [zO 2 h [.null, .int 0, .int 0, .int 0, .int 0]] (xe_v D vwCl (fun _ : Nat => True) (fun u => [zO 2 h [.ref u, .int 0, .int 0, .int 0, .int 0], zA t 3 u 300 (fun _ => none)])) 1 300 := by
  refine xe_of (by decide) (Nat.le_of_ble_eq_true rfl) ?_
  intro p e s m below meth c ls A Z hr hlocks hin hA hP hD hS hl
  obtain ⟨hx, hb, hml, hown, hK⟩ := id Z
  have hown : s.vm.findClass "QuorumStore$Network" = some m.cls := hown
  have hts := hK.1.at (args := ([.ref h] : List Value).toArray)
  have hl : lv_has ls 1 [(0, .ref h)] := hl
  refine lv_aload_n hx hb d_N_init_0 rfl (lv_at hl 0 rfl) ?_
  refine W.objInit hx hb hown (hts _ k_37) (hts _ k_30) (hts _ k_31) rfl (by rw [hml]; exact hl.1) rfl d_N_init_1 (Nat.le_of_ble_eq_true rfl) (Nat.le_of_ble_eq_true rfl) ?_
  refine W.eq (g2 := F0 m 4 ls []) rfl ?_
  refine lv_aload_n hx hb d_N_init_4 rfl (lv_at hl 0 rfl) ?_
  refine lv_sipush (v := 300) hx hb d_N_init_5 (by decide) ?_
  refine va_newq (N' := 300) hx hb hown (hts _ k_38) (va_AO.of (hts _ k_39)) hK.2 hP hD hS hA (by decide) rfl (by decide) (Nat.le_of_ble_eq_true rfl) (Nat.le_of_ble_eq_true rfl) d_N_init_8 (fun q_1 c_2 H hKn hP hD hS => ?_)
  obtain rfl : c_2 = t 3 := xk_arr hKn (i := 3) rfl
  have hP : va_P D vwCl [zO 2 h [.null, .int 0, .int 0, .int 0, .int 0], zA t 3 q_1 300 (fun _ => none)] H := hP
  have hD : va_D A [zO 2 h [.null, .int 0, .int 0, .int 0, .int 0], zA t 3 q_1 300 (fun _ => none)] := hD
  refine va_putF (ci := 2) (v := .ref q_1) (ty := tyX2 0) (C := "QuorumStore$Network") (T := TX2) (N := 5) hx hb hts inX2 tyX2 okX2 nmX2 hown hK.2 hP hD hS 0 rfl rfl 0 (by decide) (hts _ k_40) (fun _ h9 => h9) rfl hin rfl (by decide +kernel) rfl rfl (Nat.le_of_ble_eq_true rfl) d_N_init_11 (fun H locs hP hD hS => ?_)
  have hP : va_P D vwCl [zO 2 h [.ref q_1, .int 0, .int 0, .int 0, .int 0], zA t 3 q_1 300 (fun _ => none)] H := hP
  have hD : va_D A [zO 2 h [.ref q_1, .int 0, .int 0, .int 0, .int 0], zA t 3 q_1 300 (fun _ => none)] := hD
  exact W.vret hx hb hr (fun t ht hW => ⟨⟨q_1, rfl, trivial, by rw [ht]; exact hP, hD⟩, hS.F ht⟩) hS.2.2 d_N_init_14
theorem d_D_init_0 : decode c_D_init 0 = .ok (.aload_n 0, 1) := by decide +kernel
theorem d_D_init_1 : decode c_D_init 1 = .ok (.invokespecial 3, 3) := by decide +kernel
theorem d_D_init_4 : decode c_D_init 4 = .ok (.aload_n 0, 1) := by decide +kernel
theorem d_D_init_5 : decode c_D_init 5 = .ok (.new 9, 3) := by decide +kernel
theorem d_D_init_8 : decode c_D_init 8 = .ok (.dup, 1) := by decide +kernel
theorem d_D_init_9 : decode c_D_init 9 = .ok (.bipush 32, 2) := by decide +kernel
theorem d_D_init_11 : decode c_D_init 11 = .ok (.invokespecial 11, 3) := by decide +kernel
theorem d_D_init_14 : decode c_D_init 14 = .ok (.putfield 14, 3) := by decide +kernel
theorem d_D_init_17 : decode c_D_init 17 = .ok (.aload_n 0, 1) := by decide +kernel
theorem d_D_init_18 : decode c_D_init 18 = .ok (.new 9, 3) := by decide +kernel
theorem d_D_init_21 : decode c_D_init 21 = .ok (.dup, 1) := by decide +kernel
theorem d_D_init_22 : decode c_D_init 22 = .ok (.bipush 64, 2) := by decide +kernel
theorem d_D_init_24 : decode c_D_init 24 = .ok (.invokespecial 11, 3) := by decide +kernel
theorem d_D_init_27 : decode c_D_init 27 = .ok (.putfield 20, 3) := by decide +kernel
theorem d_D_init_30 : decode c_D_init 30 = .ok (.aload_n 0, 1) := by decide +kernel
theorem d_D_init_31 : decode c_D_init 31 = .ok (.new 23, 3) := by decide +kernel
theorem d_D_init_34 : decode c_D_init 34 = .ok (.dup, 1) := by decide +kernel
theorem d_D_init_35 : decode c_D_init 35 = .ok (.invokespecial 25, 3) := by decide +kernel
theorem d_D_init_38 : decode c_D_init 38 = .ok (.putfield 26, 3) := by decide +kernel
theorem d_D_init_41 : decode c_D_init 41 = .ok (.aload_n 0, 1) := by decide +kernel
theorem d_D_init_42 : decode c_D_init 42 = .ok (.iload_n 1, 1) := by decide +kernel
theorem d_D_init_43 : decode c_D_init 43 = .ok (.putfield 30, 3) := by decide +kernel
theorem d_D_init_46 : decode c_D_init 46 = .ok (.aload_n 0, 1) := by decide +kernel
theorem d_D_init_47 : decode c_D_init 47 = .ok (.aload_n 3, 1) := by decide +kernel
theorem d_D_init_48 : decode c_D_init 48 = .ok (.putfield 34, 3) := by decide +kernel
theorem d_D_init_51 : decode c_D_init 51 = .ok (.aload_n 0, 1) := by decide +kernel
theorem d_D_init_52 : decode c_D_init 52 = .ok (.new 38, 3) := by decide +kernel
theorem d_D_init_55 : decode c_D_init 55 = .ok (.dup, 1) := by decide +kernel
theorem d_D_init_56 : decode c_D_init 56 = .ok (.iload_n 2, 1) := by decide +kernel
theorem d_D_init_57 : decode c_D_init 57 = .ok (.invokespecial 40, 3) := by decide +kernel
theorem d_D_init_60 : decode c_D_init 60 = .ok (.putfield 41, 3) := by decide +kernel
theorem d_D_init_63 : decode c_D_init 63 = .ok (.aload_n 0, 1) := by decide +kernel
theorem d_D_init_64 : decode c_D_init 64 = .ok (.iconst 1, 1) := by decide +kernel
theorem d_D_init_65 : decode c_D_init 65 = .ok (.putfield 45, 3) := by decide +kernel
theorem d_D_init_68 : decode c_D_init 68 = .ok (.aload_n 0, 1) := by decide +kernel
theorem d_D_init_69 : decode c_D_init 69 = .ok (.iconst (-1), 1) := by decide +kernel
theorem d_D_init_70 : decode c_D_init 70 = .ok (.putfield 49, 3) := by decide +kernel
theorem d_D_init_73 : decode c_D_init 73 = .ok (.aload_n 0, 1) := by decide +kernel
theorem d_D_init_74 : decode c_D_init 74 = .ok (.bipush 8, 2) := by decide +kernel
theorem d_D_init_76 : decode c_D_init 76 = .ok (.iconst 3, 1) := by decide +kernel
theorem d_D_init_77 : decode c_D_init 77 = .ok (.iload_n 1, 1) := by decide +kernel
theorem d_D_init_78 : decode c_D_init 78 = .ok (.imul, 1) := by decide +kernel
theorem d_D_init_79 : decode c_D_init 79 = .ok (.iadd, 1) := by decide +kernel
theorem d_D_init_80 : decode c_D_init 80 = .ok (.putfield 52, 3) := by decide +kernel
theorem d_D_init_83 : decode c_D_init 83 = .ok (.return_, 1) := by decide +kernel
set_option maxHeartbeats 4000000 in
set_option maxRecDepth 100000 in
/-- a new node -/
theorem C_D_init (l : Launch) (D : va_G) (t : Nat → ClassId) (h nw : Nat) (i : Nat) (mk : Int32) : xe_C l D vwCl (xTY t) y_D_init c_D_init 4 (Option.none : Option FieldType) ({ frames := 3, cells := 25, slots := 500, locals := 66 }) [.ref h, .int (nI i), .int mk, .ref nw] [zO 3 h [.int 0, .null, .int 0, .int 0, .int 0, .null, .null, .null, .int 0, .int 0, .int 0, .int 0, .int 0, .int 0, .null]] (xe_v D vwCl (fun u : (Nat → Nat) × Nat => u.1 0 = h) (fun u => [zO 3 (u.1 0) [.int (nI i), .ref nw, .int 0, .int 0, .int 0, .ref ((u.1 1)), .ref ((u.1 7)), .ref ((u.1 11)), .int 1, .int 0, .int 0, .int (nI (8 + 3 * i)), .int ((-1)), .int 0, .ref ((u.1 15))], zO 5 (u.1 1) [.ref ((u.1 2)), .ref ((u.1 3)), .ref ((u.1 4)), .ref ((u.1 5)), .ref ((u.1 6)), .int 1], zJ t (u.1 2) 32 (fun _ => 1099511627776), zI t (u.1 3) 8 (fun _ => 0), zJ t (u.1 4) 8 (fun _ => 0), zI t (u.1 5) 4 (xm 1), zI t (u.1 6) 4 (xm mk), zO 4 (u.1 7) [.ref ((u.1 8)), .ref ((u.1 9)), .ref ((u.1 10))], zI t (u.1 8) 32 (fun _ => 0), zI t (u.1 9) 32 (fun _ => 0), zA t 2 (u.1 10) 32 (fun _ => none), zO 4 (u.1 11) [.ref ((u.1 12)), .ref ((u.1 13)), .ref ((u.1 14))], zI t (u.1 12) 64 (fun _ => 0), zI t (u.1 13) 64 (fun _ => 0), zA t 2 (u.1 14) 64 (fun _ => none), zO 0 (u.1 15) [.ref u.2, .int 0, .ref ((u.1 16)), .ref ((u.1 20)), .ref ((u.1 24)), .int 0, .int 0, .int 0], zO 4 (u.1 16) [.ref ((u.1 17)), .ref ((u.1 18)), .ref ((u.1 19))], zI t (u.1 17) 32 (fun _ => 0), zI t (u.1 18) 32 (fun _ => 0), zA t 2 (u.1 19) 32 (fun _ => none), zO 4 (u.1 20) [.ref ((u.1 21)), .ref ((u.1 22)), .ref ((u.1 23))], zI t (u.1 21) 4 (fun _ => 0), zI t (u.1 22) 4 (fun _ => 0), zA t 2 (u.1 23) 4 (fun _ => none), zA t 2 (u.1 24) 16 (fun _ => none)])) 25 500 := by
  refine xe_of (by decide) (Nat.le_of_ble_eq_true rfl) ?_
  intro p e s m below meth c ls A Z hr hlocks hin hA hP hD hS hl
  obtain ⟨hx, hb, hml, hown, hK⟩ := id Z
  have hown : s.vm.findClass "QuorumStore$Node" = some m.cls := hown
  have hts := hK.1.at (args := ([.ref h, .int (nI i), .int mk, .ref nw] : List Value).toArray)
  have hl : lv_has ls 4 [(0, .ref h), (1, .int (nI i)), (2, .int mk), (3, .ref nw)] := hl
  refine lv_aload_n hx hb d_D_init_0 rfl (lv_at hl 0 rfl) ?_
  refine W.objInit hx hb hown (hts _ k_66) (hts _ k_30) (hts _ k_31) rfl (by rw [hml]; exact hl.1) rfl d_D_init_1 (Nat.le_of_ble_eq_true rfl) (Nat.le_of_ble_eq_true rfl) ?_
  refine W.eq (g2 := F0 m 4 ls []) rfl ?_
  refine lv_aload_n hx hb d_D_init_4 rfl (lv_at hl 0 rfl) ?_
  refine va_new (ci := 4) (fs := [.null, .null, .null]) (C := "QuorumStore$Row") (T := TX4) (N := 3) hx hb hts inX4 tyX4 okX4 hown (hts _ k_67) (hts _ k_68) (hts _ k_4) hK.2 hP hD hS hA rfl (by decide) (Nat.le_of_ble_eq_true rfl) (Nat.le_of_ble_eq_true rfl) d_D_init_5 (fun q_1 H hP hD hS => ?_)
  have hP : va_P D vwCl [zO 3 h [.int 0, .null, .int 0, .int 0, .int 0, .null, .null, .null, .int 0, .int 0, .int 0, .int 0, .int 0, .int 0, .null], zO 4 q_1 [.null, .null, .null]] H := hP
  have hD : va_D A [zO 3 h [.int 0, .null, .int 0, .int 0, .int 0, .null, .null, .null, .int 0, .int 0, .int 0, .int 0, .int 0, .int 0, .null], zO 4 q_1 [.null, .null, .null]] := hD
  refine lv_dup hx hb d_D_init_8 rfl ?_
  refine lv_bipush (v := 32) hx hb d_D_init_9 (by decide) ?_
  refine xe_callv (wr := [zO 3 h [.int 0, .null, .int 0, .int 0, .int 0, .null, .null, .null, .int 0, .int 0, .int 0, .int 0, .int 0, .int 0, .null]]) (xs_I (As := [.int 32]) (rest := [.ref q_1, .ref h]) Z (C_R_init_32 l D t q_1 H.size) m_R_init k_69 k_70 rfl rfl rfl ⟨Nat.le_of_ble_eq_true rfl, Nat.le_of_ble_eq_true rfl⟩ (xe_pre hK (hP.sub [1] rfl) (hD.sub [1] (by decide) rfl)) rfl hl.1 rfl (Nat.le_of_ble_eq_true rfl) d_D_init_11 ⟨Nat.le_of_ble_eq_true rfl, Nat.le_of_ble_eq_true rfl⟩) hP hD hS hA [1] [0] rfl rfl (by decide) (by decide) (fun u_ H locs _ hP hD hS => ?_)
  obtain ⟨a1, b1, v1⟩ := u_
  have hP : va_P D vwCl [zO 3 h [.int 0, .null, .int 0, .int 0, .int 0, .null, .null, .null, .int 0, .int 0, .int 0, .int 0, .int 0, .int 0, .null], zO 4 q_1 [.ref a1, .ref b1, .ref v1], zI t a1 32 (fun _ => 0), zI t b1 32 (fun _ => 0), zA t 2 v1 32 (fun _ => none)] H := hP
  have hD : va_D A [zO 3 h [.int 0, .null, .int 0, .int 0, .int 0, .null, .null, .null, .int 0, .int 0, .int 0, .int 0, .int 0, .int 0, .null], zO 4 q_1 [.ref a1, .ref b1, .ref v1], zI t a1 32 (fun _ => 0), zI t b1 32 (fun _ => 0), zA t 2 v1 32 (fun _ => none)] := hD
  refine va_putF (ci := 3) (v := .ref q_1) (ty := tyX3 6) (C := "QuorumStore$Node") (T := TX3) (N := 15) hx hb hts inX3 tyX3 okX3 nmX3 hown hK.2 hP hD hS 0 rfl rfl 6 (by decide) (hts _ k_207) (fun _ h9 => h9) rfl hin rfl (by decide +kernel) rfl rfl (Nat.le_of_ble_eq_true rfl) d_D_init_14 (fun H locs hP hD hS => ?_)
  have hP : va_P D vwCl [zO 3 h [.int 0, .null, .int 0, .int 0, .int 0, .null, .ref q_1, .null, .int 0, .int 0, .int 0, .int 0, .int 0, .int 0, .null], zO 4 q_1 [.ref a1, .ref b1, .ref v1], zI t a1 32 (fun _ => 0), zI t b1 32 (fun _ => 0), zA t 2 v1 32 (fun _ => none)] H := hP
  have hD : va_D A [zO 3 h [.int 0, .null, .int 0, .int 0, .int 0, .null, .ref q_1, .null, .int 0, .int 0, .int 0, .int 0, .int 0, .int 0, .null], zO 4 q_1 [.ref a1, .ref b1, .ref v1], zI t a1 32 (fun _ => 0), zI t b1 32 (fun _ => 0), zA t 2 v1 32 (fun _ => none)] := hD
  refine lv_aload_n hx hb d_D_init_17 rfl (lv_at hl 0 rfl) ?_
  refine va_new (ci := 4) (fs := [.null, .null, .null]) (C := "QuorumStore$Row") (T := TX4) (N := 3) hx hb hts inX4 tyX4 okX4 hown (hts _ k_67) (hts _ k_68) (hts _ k_4) hK.2 hP hD hS hA rfl (by decide) (Nat.le_of_ble_eq_true rfl) (Nat.le_of_ble_eq_true rfl) d_D_init_18 (fun q_2 H hP hD hS => ?_)
  have hP : va_P D vwCl [zO 3 h [.int 0, .null, .int 0, .int 0, .int 0, .null, .ref q_1, .null, .int 0, .int 0, .int 0, .int 0, .int 0, .int 0, .null], zO 4 q_1 [.ref a1, .ref b1, .ref v1], zI t a1 32 (fun _ => 0), zI t b1 32 (fun _ => 0), zA t 2 v1 32 (fun _ => none), zO 4 q_2 [.null, .null, .null]] H := hP
  have hD : va_D A [zO 3 h [.int 0, .null, .int 0, .int 0, .int 0, .null, .ref q_1, .null, .int 0, .int 0, .int 0, .int 0, .int 0, .int 0, .null], zO 4 q_1 [.ref a1, .ref b1, .ref v1], zI t a1 32 (fun _ => 0), zI t b1 32 (fun _ => 0), zA t 2 v1 32 (fun _ => none), zO 4 q_2 [.null, .null, .null]] := hD
  refine lv_dup hx hb d_D_init_21 rfl ?_
  refine lv_bipush (v := 64) hx hb d_D_init_22 (by decide) ?_
  refine xe_callv (wr := [zO 3 h [.int 0, .null, .int 0, .int 0, .int 0, .null, .ref q_1, .null, .int 0, .int 0, .int 0, .int 0, .int 0, .int 0, .null], zO 4 q_1 [.ref a1, .ref b1, .ref v1], zI t a1 32 (fun _ => 0), zI t b1 32 (fun _ => 0), zA t 2 v1 32 (fun _ => none)]) (xs_I (As := [.int 64]) (rest := [.ref q_2, .ref h]) Z (C_R_init_64 l D t q_2 H.size) m_R_init k_69 k_70 rfl rfl rfl ⟨Nat.le_of_ble_eq_true rfl, Nat.le_of_ble_eq_true rfl⟩ (xe_pre hK (hP.sub [5] rfl) (hD.sub [5] (by decide) rfl)) rfl hl.1 rfl (Nat.le_of_ble_eq_true rfl) d_D_init_24 ⟨Nat.le_of_ble_eq_true rfl, Nat.le_of_ble_eq_true rfl⟩) hP hD hS hA [5] [0, 1, 2, 3, 4] rfl rfl (by decide) (by decide) (fun u_ H locs _ hP hD hS => ?_)
  obtain ⟨a2, b2, v2⟩ := u_
  have hP : va_P D vwCl [zO 3 h [.int 0, .null, .int 0, .int 0, .int 0, .null, .ref q_1, .null, .int 0, .int 0, .int 0, .int 0, .int 0, .int 0, .null], zO 4 q_1 [.ref a1, .ref b1, .ref v1], zI t a1 32 (fun _ => 0), zI t b1 32 (fun _ => 0), zA t 2 v1 32 (fun _ => none), zO 4 q_2 [.ref a2, .ref b2, .ref v2], zI t a2 64 (fun _ => 0), zI t b2 64 (fun _ => 0), zA t 2 v2 64 (fun _ => none)] H := hP
  have hD : va_D A [zO 3 h [.int 0, .null, .int 0, .int 0, .int 0, .null, .ref q_1, .null, .int 0, .int 0, .int 0, .int 0, .int 0, .int 0, .null], zO 4 q_1 [.ref a1, .ref b1, .ref v1], zI t a1 32 (fun _ => 0), zI t b1 32 (fun _ => 0), zA t 2 v1 32 (fun _ => none), zO 4 q_2 [.ref a2, .ref b2, .ref v2], zI t a2 64 (fun _ => 0), zI t b2 64 (fun _ => 0), zA t 2 v2 64 (fun _ => none)] := hD
  refine va_putF (ci := 3) (v := .ref q_2) (ty := tyX3 7) (C := "QuorumStore$Node") (T := TX3) (N := 15) hx hb hts inX3 tyX3 okX3 nmX3 hown hK.2 hP hD hS 0 rfl rfl 7 (by decide) (hts _ k_209) (fun _ h9 => h9) rfl hin rfl (by decide +kernel) rfl rfl (Nat.le_of_ble_eq_true rfl) d_D_init_27 (fun H locs hP hD hS => ?_)
  have hP : va_P D vwCl [zO 3 h [.int 0, .null, .int 0, .int 0, .int 0, .null, .ref q_1, .ref q_2, .int 0, .int 0, .int 0, .int 0, .int 0, .int 0, .null], zO 4 q_1 [.ref a1, .ref b1, .ref v1], zI t a1 32 (fun _ => 0), zI t b1 32 (fun _ => 0), zA t 2 v1 32 (fun _ => none), zO 4 q_2 [.ref a2, .ref b2, .ref v2], zI t a2 64 (fun _ => 0), zI t b2 64 (fun _ => 0), zA t 2 v2 64 (fun _ => none)] H := hP
  have hD : va_D A [zO 3 h [.int 0, .null, .int 0, .int 0, .int 0, .null, .ref q_1, .ref q_2, .int 0, .int 0, .int 0, .int 0, .int 0, .int 0, .null], zO 4 q_1 [.ref a1, .ref b1, .ref v1], zI t a1 32 (fun _ => 0), zI t b1 32 (fun _ => 0), zA t 2 v1 32 (fun _ => none), zO 4 q_2 [.ref a2, .ref b2, .ref v2], zI t a2 64 (fun _ => 0), zI t b2 64 (fun _ => 0), zA t 2 v2 64 (fun _ => none)] := hD
  refine lv_aload_n hx hb d_D_init_30 rfl (lv_at hl 0 rfl) ?_
  refine va_new (ci := 0) (fs := [.null, .int 0, .null, .null, .null, .int 0, .int 0, .int 0]) (C := "QuorumStore$Lead") (T := TX0) (N := 8) hx hb hts inX0 tyX0 okX0 hown (hts _ k_87) (hts _ k_88) (hts _ k_5) hK.2 hP hD hS hA rfl (by decide) (Nat.le_of_ble_eq_true rfl) (Nat.le_of_ble_eq_true rfl) d_D_init_31 (fun q_3 H hP hD hS => ?_)
  have hP : va_P D vwCl [zO 3 h [.int 0, .null, .int 0, .int 0, .int 0, .null, .ref q_1, .ref q_2, .int 0, .int 0, .int 0, .int 0, .int 0, .int 0, .null], zO 4 q_1 [.ref a1, .ref b1, .ref v1], zI t a1 32 (fun _ => 0), zI t b1 32 (fun _ => 0), zA t 2 v1 32 (fun _ => none), zO 4 q_2 [.ref a2, .ref b2, .ref v2], zI t a2 64 (fun _ => 0), zI t b2 64 (fun _ => 0), zA t 2 v2 64 (fun _ => none), zO 0 q_3 [.null, .int 0, .null, .null, .null, .int 0, .int 0, .int 0]] H := hP
  have hD : va_D A [zO 3 h [.int 0, .null, .int 0, .int 0, .int 0, .null, .ref q_1, .ref q_2, .int 0, .int 0, .int 0, .int 0, .int 0, .int 0, .null], zO 4 q_1 [.ref a1, .ref b1, .ref v1], zI t a1 32 (fun _ => 0), zI t b1 32 (fun _ => 0), zA t 2 v1 32 (fun _ => none), zO 4 q_2 [.ref a2, .ref b2, .ref v2], zI t a2 64 (fun _ => 0), zI t b2 64 (fun _ => 0), zA t 2 v2 64 (fun _ => none), zO 0 q_3 [.null, .int 0, .null, .null, .null, .int 0, .int 0, .int 0]] := hD
  refine lv_dup hx hb d_D_init_34 rfl ?_
  refine xe_callv (wr := [zO 3 h [.int 0, .null, .int 0, .int 0, .int 0, .null, .ref q_1, .ref q_2, .int 0, .int 0, .int 0, .int 0, .int 0, .int 0, .null], zO 4 q_1 [.ref a1, .ref b1, .ref v1], zI t a1 32 (fun _ => 0), zI t b1 32 (fun _ => 0), zA t 2 v1 32 (fun _ => none), zO 4 q_2 [.ref a2, .ref b2, .ref v2], zI t a2 64 (fun _ => 0), zI t b2 64 (fun _ => 0), zA t 2 v2 64 (fun _ => none)]) (xs_IN (As := []) (rest := [.ref q_3, .ref h]) Z (C_L_init l D t q_3 H.size) m_L_init k_89 k_90 rfl rfl rfl ⟨Nat.le_of_ble_eq_true rfl, Nat.le_of_ble_eq_true rfl⟩ (xe_pre hK (hP.sub [9] rfl) (hD.sub [9] (by decide) rfl)) rfl hl.1 rfl (Nat.le_of_ble_eq_true rfl) d_D_init_35 ⟨Nat.le_of_ble_eq_true rfl, Nat.le_of_ble_eq_true rfl⟩) hP hD hS hA [9] [0, 1, 2, 3, 4, 5, 6, 7, 8] rfl rfl (by decide) (by decide) (fun u_ H locs _ hP hD hS => ?_)
  obtain ⟨no, r1, a3, b3, v3, r2, a4, b4, v4, qu⟩ := u_
  have hP : va_P D vwCl [zO 3 h [.int 0, .null, .int 0, .int 0, .int 0, .null, .ref q_1, .ref q_2, .int 0, .int 0, .int 0, .int 0, .int 0, .int 0, .null], zO 4 q_1 [.ref a1, .ref b1, .ref v1], zI t a1 32 (fun _ => 0), zI t b1 32 (fun _ => 0), zA t 2 v1 32 (fun _ => none), zO 4 q_2 [.ref a2, .ref b2, .ref v2], zI t a2 64 (fun _ => 0), zI t b2 64 (fun _ => 0), zA t 2 v2 64 (fun _ => none), zO 0 q_3 [.ref no, .int 0, .ref r1, .ref r2, .ref qu, .int 0, .int 0, .int 0], zO 4 r1 [.ref a3, .ref b3, .ref v3], zI t a3 32 (fun _ => 0), zI t b3 32 (fun _ => 0), zA t 2 v3 32 (fun _ => none), zO 4 r2 [.ref a4, .ref b4, .ref v4], zI t a4 4 (fun _ => 0), zI t b4 4 (fun _ => 0), zA t 2 v4 4 (fun _ => none), zA t 2 qu 16 (fun _ => none)] H := hP
  have hD : va_D A [zO 3 h [.int 0, .null, .int 0, .int 0, .int 0, .null, .ref q_1, .ref q_2, .int 0, .int 0, .int 0, .int 0, .int 0, .int 0, .null], zO 4 q_1 [.ref a1, .ref b1, .ref v1], zI t a1 32 (fun _ => 0), zI t b1 32 (fun _ => 0), zA t 2 v1 32 (fun _ => none), zO 4 q_2 [.ref a2, .ref b2, .ref v2], zI t a2 64 (fun _ => 0), zI t b2 64 (fun _ => 0), zA t 2 v2 64 (fun _ => none), zO 0 q_3 [.ref no, .int 0, .ref r1, .ref r2, .ref qu, .int 0, .int 0, .int 0], zO 4 r1 [.ref a3, .ref b3, .ref v3], zI t a3 32 (fun _ => 0), zI t b3 32 (fun _ => 0), zA t 2 v3 32 (fun _ => none), zO 4 r2 [.ref a4, .ref b4, .ref v4], zI t a4 4 (fun _ => 0), zI t b4 4 (fun _ => 0), zA t 2 v4 4 (fun _ => none), zA t 2 qu 16 (fun _ => none)] := hD
  refine va_putF (ci := 3) (v := .ref q_3) (ty := tyX3 14) (C := "QuorumStore$Node") (T := TX3) (N := 15) hx hb hts inX3 tyX3 okX3 nmX3 hown hK.2 hP hD hS 0 rfl rfl 14 (by decide) (hts _ k_222) (fun _ h9 => h9) rfl hin rfl (by decide +kernel) rfl rfl (Nat.le_of_ble_eq_true rfl) d_D_init_38 (fun H locs hP hD hS => ?_)
  have hP : va_P D vwCl [zO 3 h [.int 0, .null, .int 0, .int 0, .int 0, .null, .ref q_1, .ref q_2, .int 0, .int 0, .int 0, .int 0, .int 0, .int 0, .ref q_3], zO 4 q_1 [.ref a1, .ref b1, .ref v1], zI t a1 32 (fun _ => 0), zI t b1 32 (fun _ => 0), zA t 2 v1 32 (fun _ => none), zO 4 q_2 [.ref a2, .ref b2, .ref v2], zI t a2 64 (fun _ => 0), zI t b2 64 (fun _ => 0), zA t 2 v2 64 (fun _ => none), zO 0 q_3 [.ref no, .int 0, .ref r1, .ref r2, .ref qu, .int 0, .int 0, .int 0], zO 4 r1 [.ref a3, .ref b3, .ref v3], zI t a3 32 (fun _ => 0), zI t b3 32 (fun _ => 0), zA t 2 v3 32 (fun _ => none), zO 4 r2 [.ref a4, .ref b4, .ref v4], zI t a4 4 (fun _ => 0), zI t b4 4 (fun _ => 0), zA t 2 v4 4 (fun _ => none), zA t 2 qu 16 (fun _ => none)] H := hP
  have hD : va_D A [zO 3 h [.int 0, .null, .int 0, .int 0, .int 0, .null, .ref q_1, .ref q_2, .int 0, .int 0, .int 0, .int 0, .int 0, .int 0, .ref q_3], zO 4 q_1 [.ref a1, .ref b1, .ref v1], zI t a1 32 (fun _ => 0), zI t b1 32 (fun _ => 0), zA t 2 v1 32 (fun _ => none), zO 4 q_2 [.ref a2, .ref b2, .ref v2], zI t a2 64 (fun _ => 0), zI t b2 64 (fun _ => 0), zA t 2 v2 64 (fun _ => none), zO 0 q_3 [.ref no, .int 0, .ref r1, .ref r2, .ref qu, .int 0, .int 0, .int 0], zO 4 r1 [.ref a3, .ref b3, .ref v3], zI t a3 32 (fun _ => 0), zI t b3 32 (fun _ => 0), zA t 2 v3 32 (fun _ => none), zO 4 r2 [.ref a4, .ref b4, .ref v4], zI t a4 4 (fun _ => 0), zI t b4 4 (fun _ => 0), zA t 2 v4 4 (fun _ => none), zA t 2 qu 16 (fun _ => none)] := hD
  refine lv_aload_n hx hb d_D_init_41 rfl (lv_at hl 0 rfl) ?_
  refine lv_iload_n hx hb d_D_init_42 rfl (lv_at hl 1 rfl) ?_
  refine va_putF (ci := 3) (v := .int (nI i)) (ty := tyX3 0) (C := "QuorumStore$Node") (T := TX3) (N := 15) hx hb hts inX3 tyX3 okX3 nmX3 hown hK.2 hP hD hS 0 rfl rfl 0 (by decide) (hts _ k_197) (fun _ h9 => h9) rfl hin rfl (by decide +kernel) rfl rfl (Nat.le_of_ble_eq_true rfl) d_D_init_43 (fun H locs hP hD hS => ?_)
  have hP : va_P D vwCl [zO 3 h [.int (nI i), .null, .int 0, .int 0, .int 0, .null, .ref q_1, .ref q_2, .int 0, .int 0, .int 0, .int 0, .int 0, .int 0, .ref q_3], zO 4 q_1 [.ref a1, .ref b1, .ref v1], zI t a1 32 (fun _ => 0), zI t b1 32 (fun _ => 0), zA t 2 v1 32 (fun _ => none), zO 4 q_2 [.ref a2, .ref b2, .ref v2], zI t a2 64 (fun _ => 0), zI t b2 64 (fun _ => 0), zA t 2 v2 64 (fun _ => none), zO 0 q_3 [.ref no, .int 0, .ref r1, .ref r2, .ref qu, .int 0, .int 0, .int 0], zO 4 r1 [.ref a3, .ref b3, .ref v3], zI t a3 32 (fun _ => 0), zI t b3 32 (fun _ => 0), zA t 2 v3 32 (fun _ => none), zO 4 r2 [.ref a4, .ref b4, .ref v4], zI t a4 4 (fun _ => 0), zI t b4 4 (fun _ => 0), zA t 2 v4 4 (fun _ => none), zA t 2 qu 16 (fun _ => none)] H := hP
  have hD : va_D A [zO 3 h [.int (nI i), .null, .int 0, .int 0, .int 0, .null, .ref q_1, .ref q_2, .int 0, .int 0, .int 0, .int 0, .int 0, .int 0, .ref q_3], zO 4 q_1 [.ref a1, .ref b1, .ref v1], zI t a1 32 (fun _ => 0), zI t b1 32 (fun _ => 0), zA t 2 v1 32 (fun _ => none), zO 4 q_2 [.ref a2, .ref b2, .ref v2], zI t a2 64 (fun _ => 0), zI t b2 64 (fun _ => 0), zA t 2 v2 64 (fun _ => none), zO 0 q_3 [.ref no, .int 0, .ref r1, .ref r2, .ref qu, .int 0, .int 0, .int 0], zO 4 r1 [.ref a3, .ref b3, .ref v3], zI t a3 32 (fun _ => 0), zI t b3 32 (fun _ => 0), zA t 2 v3 32 (fun _ => none), zO 4 r2 [.ref a4, .ref b4, .ref v4], zI t a4 4 (fun _ => 0), zI t b4 4 (fun _ => 0), zA t 2 v4 4 (fun _ => none), zA t 2 qu 16 (fun _ => none)] := hD
  refine lv_aload_n hx hb d_D_init_46 rfl (lv_at hl 0 rfl) ?_
  refine lv_aload_n hx hb d_D_init_47 rfl (lv_at hl 3 rfl) ?_
  refine va_putF (ci := 3) (v := .ref nw) (ty := tyX3 1) (C := "QuorumStore$Node") (T := TX3) (N := 15) hx hb hts inX3 tyX3 okX3 nmX3 hown hK.2 hP hD hS 0 rfl rfl 1 (by decide) (hts _ k_198) (fun _ h9 => h9) rfl hin rfl (by decide +kernel) rfl rfl (Nat.le_of_ble_eq_true rfl) d_D_init_48 (fun H locs hP hD hS => ?_)
  have hP : va_P D vwCl [zO 3 h [.int (nI i), .ref nw, .int 0, .int 0, .int 0, .null, .ref q_1, .ref q_2, .int 0, .int 0, .int 0, .int 0, .int 0, .int 0, .ref q_3], zO 4 q_1 [.ref a1, .ref b1, .ref v1], zI t a1 32 (fun _ => 0), zI t b1 32 (fun _ => 0), zA t 2 v1 32 (fun _ => none), zO 4 q_2 [.ref a2, .ref b2, .ref v2], zI t a2 64 (fun _ => 0), zI t b2 64 (fun _ => 0), zA t 2 v2 64 (fun _ => none), zO 0 q_3 [.ref no, .int 0, .ref r1, .ref r2, .ref qu, .int 0, .int 0, .int 0], zO 4 r1 [.ref a3, .ref b3, .ref v3], zI t a3 32 (fun _ => 0), zI t b3 32 (fun _ => 0), zA t 2 v3 32 (fun _ => none), zO 4 r2 [.ref a4, .ref b4, .ref v4], zI t a4 4 (fun _ => 0), zI t b4 4 (fun _ => 0), zA t 2 v4 4 (fun _ => none), zA t 2 qu 16 (fun _ => none)] H := hP
  have hD : va_D A [zO 3 h [.int (nI i), .ref nw, .int 0, .int 0, .int 0, .null, .ref q_1, .ref q_2, .int 0, .int 0, .int 0, .int 0, .int 0, .int 0, .ref q_3], zO 4 q_1 [.ref a1, .ref b1, .ref v1], zI t a1 32 (fun _ => 0), zI t b1 32 (fun _ => 0), zA t 2 v1 32 (fun _ => none), zO 4 q_2 [.ref a2, .ref b2, .ref v2], zI t a2 64 (fun _ => 0), zI t b2 64 (fun _ => 0), zA t 2 v2 64 (fun _ => none), zO 0 q_3 [.ref no, .int 0, .ref r1, .ref r2, .ref qu, .int 0, .int 0, .int 0], zO 4 r1 [.ref a3, .ref b3, .ref v3], zI t a3 32 (fun _ => 0), zI t b3 32 (fun _ => 0), zA t 2 v3 32 (fun _ => none), zO 4 r2 [.ref a4, .ref b4, .ref v4], zI t a4 4 (fun _ => 0), zI t b4 4 (fun _ => 0), zA t 2 v4 4 (fun _ => none), zA t 2 qu 16 (fun _ => none)] := hD
  refine lv_aload_n hx hb d_D_init_51 rfl (lv_at hl 0 rfl) ?_
  refine va_new (ci := 5) (fs := [.null, .null, .null, .null, .null, .int 0]) (C := "QuorumStore$State") (T := TX5) (N := 6) hx hb hts inX5 tyX5 okX5 hown (hts _ k_165) (hts _ k_166) (hts _ k_7) hK.2 hP hD hS hA rfl (by decide) (Nat.le_of_ble_eq_true rfl) (Nat.le_of_ble_eq_true rfl) d_D_init_52 (fun q_4 H hP hD hS => ?_)
  have hP : va_P D vwCl [zO 3 h [.int (nI i), .ref nw, .int 0, .int 0, .int 0, .null, .ref q_1, .ref q_2, .int 0, .int 0, .int 0, .int 0, .int 0, .int 0, .ref q_3], zO 4 q_1 [.ref a1, .ref b1, .ref v1], zI t a1 32 (fun _ => 0), zI t b1 32 (fun _ => 0), zA t 2 v1 32 (fun _ => none), zO 4 q_2 [.ref a2, .ref b2, .ref v2], zI t a2 64 (fun _ => 0), zI t b2 64 (fun _ => 0), zA t 2 v2 64 (fun _ => none), zO 0 q_3 [.ref no, .int 0, .ref r1, .ref r2, .ref qu, .int 0, .int 0, .int 0], zO 4 r1 [.ref a3, .ref b3, .ref v3], zI t a3 32 (fun _ => 0), zI t b3 32 (fun _ => 0), zA t 2 v3 32 (fun _ => none), zO 4 r2 [.ref a4, .ref b4, .ref v4], zI t a4 4 (fun _ => 0), zI t b4 4 (fun _ => 0), zA t 2 v4 4 (fun _ => none), zA t 2 qu 16 (fun _ => none), zO 5 q_4 [.null, .null, .null, .null, .null, .int 0]] H := hP
  have hD : va_D A [zO 3 h [.int (nI i), .ref nw, .int 0, .int 0, .int 0, .null, .ref q_1, .ref q_2, .int 0, .int 0, .int 0, .int 0, .int 0, .int 0, .ref q_3], zO 4 q_1 [.ref a1, .ref b1, .ref v1], zI t a1 32 (fun _ => 0), zI t b1 32 (fun _ => 0), zA t 2 v1 32 (fun _ => none), zO 4 q_2 [.ref a2, .ref b2, .ref v2], zI t a2 64 (fun _ => 0), zI t b2 64 (fun _ => 0), zA t 2 v2 64 (fun _ => none), zO 0 q_3 [.ref no, .int 0, .ref r1, .ref r2, .ref qu, .int 0, .int 0, .int 0], zO 4 r1 [.ref a3, .ref b3, .ref v3], zI t a3 32 (fun _ => 0), zI t b3 32 (fun _ => 0), zA t 2 v3 32 (fun _ => none), zO 4 r2 [.ref a4, .ref b4, .ref v4], zI t a4 4 (fun _ => 0), zI t b4 4 (fun _ => 0), zA t 2 v4 4 (fun _ => none), zA t 2 qu 16 (fun _ => none), zO 5 q_4 [.null, .null, .null, .null, .null, .int 0]] := hD
  refine lv_dup hx hb d_D_init_55 rfl ?_
  refine lv_iload_n hx hb d_D_init_56 rfl (lv_at hl 2 rfl) ?_
  refine xe_callv (wr := [zO 3 h [.int (nI i), .ref nw, .int 0, .int 0, .int 0, .null, .ref q_1, .ref q_2, .int 0, .int 0, .int 0, .int 0, .int 0, .int 0, .ref q_3], zO 4 q_1 [.ref a1, .ref b1, .ref v1], zI t a1 32 (fun _ => 0), zI t b1 32 (fun _ => 0), zA t 2 v1 32 (fun _ => none), zO 4 q_2 [.ref a2, .ref b2, .ref v2], zI t a2 64 (fun _ => 0), zI t b2 64 (fun _ => 0), zA t 2 v2 64 (fun _ => none), zO 0 q_3 [.ref no, .int 0, .ref r1, .ref r2, .ref qu, .int 0, .int 0, .int 0], zO 4 r1 [.ref a3, .ref b3, .ref v3], zI t a3 32 (fun _ => 0), zI t b3 32 (fun _ => 0), zA t 2 v3 32 (fun _ => none), zO 4 r2 [.ref a4, .ref b4, .ref v4], zI t a4 4 (fun _ => 0), zI t b4 4 (fun _ => 0), zA t 2 v4 4 (fun _ => none), zA t 2 qu 16 (fun _ => none)]) (xs_I (As := [.int mk]) (rest := [.ref q_4, .ref h]) Z (C_S_init l D t q_4 mk H.size) m_S_init k_167 k_168 rfl rfl rfl ⟨Nat.le_of_ble_eq_true rfl, Nat.le_of_ble_eq_true rfl⟩ (xe_pre hK (hP.sub [19] rfl) (hD.sub [19] (by decide) rfl)) rfl hl.1 rfl (Nat.le_of_ble_eq_true rfl) d_D_init_57 ⟨Nat.le_of_ble_eq_true rfl, Nat.le_of_ble_eq_true rfl⟩) hP hD hS hA [19] [0, 1, 2, 3, 4, 5, 6, 7, 8, 9, 10, 11, 12, 13, 14, 15, 16, 17, 18] rfl rfl (by decide) (by decide) (fun u_ H locs _ hP hD hS => ?_)
  obtain ⟨s1, s2, s3, s4, s5⟩ := u_
  have hP : va_P D vwCl [zO 3 h [.int (nI i), .ref nw, .int 0, .int 0, .int 0, .null, .ref q_1, .ref q_2, .int 0, .int 0, .int 0, .int 0, .int 0, .int 0, .ref q_3], zO 4 q_1 [.ref a1, .ref b1, .ref v1], zI t a1 32 (fun _ => 0), zI t b1 32 (fun _ => 0), zA t 2 v1 32 (fun _ => none), zO 4 q_2 [.ref a2, .ref b2, .ref v2], zI t a2 64 (fun _ => 0), zI t b2 64 (fun _ => 0), zA t 2 v2 64 (fun _ => none), zO 0 q_3 [.ref no, .int 0, .ref r1, .ref r2, .ref qu, .int 0, .int 0, .int 0], zO 4 r1 [.ref a3, .ref b3, .ref v3], zI t a3 32 (fun _ => 0), zI t b3 32 (fun _ => 0), zA t 2 v3 32 (fun _ => none), zO 4 r2 [.ref a4, .ref b4, .ref v4], zI t a4 4 (fun _ => 0), zI t b4 4 (fun _ => 0), zA t 2 v4 4 (fun _ => none), zA t 2 qu 16 (fun _ => none), zO 5 q_4 [.ref s1, .ref s2, .ref s3, .ref s4, .ref s5, .int 1], zJ t s1 32 (fun _ => 1099511627776), zI t s2 8 (fun _ => 0), zJ t s3 8 (fun _ => 0), zI t s4 4 (xm 1), zI t s5 4 (xm mk)] H := hP
  have hD : va_D A [zO 3 h [.int (nI i), .ref nw, .int 0, .int 0, .int 0, .null, .ref q_1, .ref q_2, .int 0, .int 0, .int 0, .int 0, .int 0, .int 0, .ref q_3], zO 4 q_1 [.ref a1, .ref b1, .ref v1], zI t a1 32 (fun _ => 0), zI t b1 32 (fun _ => 0), zA t 2 v1 32 (fun _ => none), zO 4 q_2 [.ref a2, .ref b2, .ref v2], zI t a2 64 (fun _ => 0), zI t b2 64 (fun _ => 0), zA t 2 v2 64 (fun _ => none), zO 0 q_3 [.ref no, .int 0, .ref r1, .ref r2, .ref qu, .int 0, .int 0, .int 0], zO 4 r1 [.ref a3, .ref b3, .ref v3], zI t a3 32 (fun _ => 0), zI t b3 32 (fun _ => 0), zA t 2 v3 32 (fun _ => none), zO 4 r2 [.ref a4, .ref b4, .ref v4], zI t a4 4 (fun _ => 0), zI t b4 4 (fun _ => 0), zA t 2 v4 4 (fun _ => none), zA t 2 qu 16 (fun _ => none), zO 5 q_4 [.ref s1, .ref s2, .ref s3, .ref s4, .ref s5, .int 1], zJ t s1 32 (fun _ => 1099511627776), zI t s2 8 (fun _ => 0), zJ t s3 8 (fun _ => 0), zI t s4 4 (xm 1), zI t s5 4 (xm mk)] := hD
  refine va_putF (ci := 3) (v := .ref q_4) (ty := tyX3 5) (C := "QuorumStore$Node") (T := TX3) (N := 15) hx hb hts inX3 tyX3 okX3 nmX3 hown hK.2 hP hD hS 0 rfl rfl 5 (by decide) (hts _ k_205) (fun _ h9 => h9) rfl hin rfl (by decide +kernel) rfl rfl (Nat.le_of_ble_eq_true rfl) d_D_init_60 (fun H locs hP hD hS => ?_)
  have hP : va_P D vwCl [zO 3 h [.int (nI i), .ref nw, .int 0, .int 0, .int 0, .ref q_4, .ref q_1, .ref q_2, .int 0, .int 0, .int 0, .int 0, .int 0, .int 0, .ref q_3], zO 4 q_1 [.ref a1, .ref b1, .ref v1], zI t a1 32 (fun _ => 0), zI t b1 32 (fun _ => 0), zA t 2 v1 32 (fun _ => none), zO 4 q_2 [.ref a2, .ref b2, .ref v2], zI t a2 64 (fun _ => 0), zI t b2 64 (fun _ => 0), zA t 2 v2 64 (fun _ => none), zO 0 q_3 [.ref no, .int 0, .ref r1, .ref r2, .ref qu, .int 0, .int 0, .int 0], zO 4 r1 [.ref a3, .ref b3, .ref v3], zI t a3 32 (fun _ => 0), zI t b3 32 (fun _ => 0), zA t 2 v3 32 (fun _ => none), zO 4 r2 [.ref a4, .ref b4, .ref v4], zI t a4 4 (fun _ => 0), zI t b4 4 (fun _ => 0), zA t 2 v4 4 (fun _ => none), zA t 2 qu 16 (fun _ => none), zO 5 q_4 [.ref s1, .ref s2, .ref s3, .ref s4, .ref s5, .int 1], zJ t s1 32 (fun _ => 1099511627776), zI t s2 8 (fun _ => 0), zJ t s3 8 (fun _ => 0), zI t s4 4 (xm 1), zI t s5 4 (xm mk)] H := hP
  have hD : va_D A [zO 3 h [.int (nI i), .ref nw, .int 0, .int 0, .int 0, .ref q_4, .ref q_1, .ref q_2, .int 0, .int 0, .int 0, .int 0, .int 0, .int 0, .ref q_3], zO 4 q_1 [.ref a1, .ref b1, .ref v1], zI t a1 32 (fun _ => 0), zI t b1 32 (fun _ => 0), zA t 2 v1 32 (fun _ => none), zO 4 q_2 [.ref a2, .ref b2, .ref v2], zI t a2 64 (fun _ => 0), zI t b2 64 (fun _ => 0), zA t 2 v2 64 (fun _ => none), zO 0 q_3 [.ref no, .int 0, .ref r1, .ref r2, .ref qu, .int 0, .int 0, .int 0], zO 4 r1 [.ref a3, .ref b3, .ref v3], zI t a3 32 (fun _ => 0), zI t b3 32 (fun _ => 0), zA t 2 v3 32 (fun _ => none), zO 4 r2 [.ref a4, .ref b4, .ref v4], zI t a4 4 (fun _ => 0), zI t b4 4 (fun _ => 0), zA t 2 v4 4 (fun _ => none), zA t 2 qu 16 (fun _ => none), zO 5 q_4 [.ref s1, .ref s2, .ref s3, .ref s4, .ref s5, .int 1], zJ t s1 32 (fun _ => 1099511627776), zI t s2 8 (fun _ => 0), zJ t s3 8 (fun _ => 0), zI t s4 4 (xm 1), zI t s5 4 (xm mk)] := hD
  refine lv_aload_n hx hb d_D_init_63 rfl (lv_at hl 0 rfl) ?_
  refine lv_iconst (v := 1) hx hb d_D_init_64 (by decide) ?_
  refine va_put (ci := 3) (v := .int 1) (ty := tyX3 8) (C := "QuorumStore$Node") (T := TX3) (N := 15) hx hb hts inX3 tyX3 okX3 nmX3 hown hK.2 hP hD hS 0 rfl rfl 8 (by decide) (hts _ k_211) (fun _ h9 => h9) rfl (by decide +kernel) (by decide) (by decide) (Nat.le_of_ble_eq_true rfl) d_D_init_65 (fun H locs hP hD hS => ?_)
  have hP : va_P D vwCl [zO 3 h [.int (nI i), .ref nw, .int 0, .int 0, .int 0, .ref q_4, .ref q_1, .ref q_2, .int 1, .int 0, .int 0, .int 0, .int 0, .int 0, .ref q_3], zO 4 q_1 [.ref a1, .ref b1, .ref v1], zI t a1 32 (fun _ => 0), zI t b1 32 (fun _ => 0), zA t 2 v1 32 (fun _ => none), zO 4 q_2 [.ref a2, .ref b2, .ref v2], zI t a2 64 (fun _ => 0), zI t b2 64 (fun _ => 0), zA t 2 v2 64 (fun _ => none), zO 0 q_3 [.ref no, .int 0, .ref r1, .ref r2, .ref qu, .int 0, .int 0, .int 0], zO 4 r1 [.ref a3, .ref b3, .ref v3], zI t a3 32 (fun _ => 0), zI t b3 32 (fun _ => 0), zA t 2 v3 32 (fun _ => none), zO 4 r2 [.ref a4, .ref b4, .ref v4], zI t a4 4 (fun _ => 0), zI t b4 4 (fun _ => 0), zA t 2 v4 4 (fun _ => none), zA t 2 qu 16 (fun _ => none), zO 5 q_4 [.ref s1, .ref s2, .ref s3, .ref s4, .ref s5, .int 1], zJ t s1 32 (fun _ => 1099511627776), zI t s2 8 (fun _ => 0), zJ t s3 8 (fun _ => 0), zI t s4 4 (xm 1), zI t s5 4 (xm mk)] H := hP
  have hD : va_D A [zO 3 h [.int (nI i), .ref nw, .int 0, .int 0, .int 0, .ref q_4, .ref q_1, .ref q_2, .int 1, .int 0, .int 0, .int 0, .int 0, .int 0, .ref q_3], zO 4 q_1 [.ref a1, .ref b1, .ref v1], zI t a1 32 (fun _ => 0), zI t b1 32 (fun _ => 0), zA t 2 v1 32 (fun _ => none), zO 4 q_2 [.ref a2, .ref b2, .ref v2], zI t a2 64 (fun _ => 0), zI t b2 64 (fun _ => 0), zA t 2 v2 64 (fun _ => none), zO 0 q_3 [.ref no, .int 0, .ref r1, .ref r2, .ref qu, .int 0, .int 0, .int 0], zO 4 r1 [.ref a3, .ref b3, .ref v3], zI t a3 32 (fun _ => 0), zI t b3 32 (fun _ => 0), zA t 2 v3 32 (fun _ => none), zO 4 r2 [.ref a4, .ref b4, .ref v4], zI t a4 4 (fun _ => 0), zI t b4 4 (fun _ => 0), zA t 2 v4 4 (fun _ => none), zA t 2 qu 16 (fun _ => none), zO 5 q_4 [.ref s1, .ref s2, .ref s3, .ref s4, .ref s5, .int 1], zJ t s1 32 (fun _ => 1099511627776), zI t s2 8 (fun _ => 0), zJ t s3 8 (fun _ => 0), zI t s4 4 (xm 1), zI t s5 4 (xm mk)] := hD
  refine lv_aload_n hx hb d_D_init_68 rfl (lv_at hl 0 rfl) ?_
  refine lv_iconst (v := (-1)) hx hb d_D_init_69 (by decide) ?_
  refine va_put (ci := 3) (v := .int ((-1))) (ty := tyX3 12) (C := "QuorumStore$Node") (T := TX3) (N := 15) hx hb hts inX3 tyX3 okX3 nmX3 hown hK.2 hP hD hS 0 rfl rfl 12 (by decide) (hts _ k_219) (fun _ h9 => h9) rfl (by decide +kernel) rfl rfl (Nat.le_of_ble_eq_true rfl) d_D_init_70 (fun H locs hP hD hS => ?_)
  have hP : va_P D vwCl [zO 3 h [.int (nI i), .ref nw, .int 0, .int 0, .int 0, .ref q_4, .ref q_1, .ref q_2, .int 1, .int 0, .int 0, .int 0, .int ((-1)), .int 0, .ref q_3], zO 4 q_1 [.ref a1, .ref b1, .ref v1], zI t a1 32 (fun _ => 0), zI t b1 32 (fun _ => 0), zA t 2 v1 32 (fun _ => none), zO 4 q_2 [.ref a2, .ref b2, .ref v2], zI t a2 64 (fun _ => 0), zI t b2 64 (fun _ => 0), zA t 2 v2 64 (fun _ => none), zO 0 q_3 [.ref no, .int 0, .ref r1, .ref r2, .ref qu, .int 0, .int 0, .int 0], zO 4 r1 [.ref a3, .ref b3, .ref v3], zI t a3 32 (fun _ => 0), zI t b3 32 (fun _ => 0), zA t 2 v3 32 (fun _ => none), zO 4 r2 [.ref a4, .ref b4, .ref v4], zI t a4 4 (fun _ => 0), zI t b4 4 (fun _ => 0), zA t 2 v4 4 (fun _ => none), zA t 2 qu 16 (fun _ => none), zO 5 q_4 [.ref s1, .ref s2, .ref s3, .ref s4, .ref s5, .int 1], zJ t s1 32 (fun _ => 1099511627776), zI t s2 8 (fun _ => 0), zJ t s3 8 (fun _ => 0), zI t s4 4 (xm 1), zI t s5 4 (xm mk)] H := hP
  have hD : va_D A [zO 3 h [.int (nI i), .ref nw, .int 0, .int 0, .int 0, .ref q_4, .ref q_1, .ref q_2, .int 1, .int 0, .int 0, .int 0, .int ((-1)), .int 0, .ref q_3], zO 4 q_1 [.ref a1, .ref b1, .ref v1], zI t a1 32 (fun _ => 0), zI t b1 32 (fun _ => 0), zA t 2 v1 32 (fun _ => none), zO 4 q_2 [.ref a2, .ref b2, .ref v2], zI t a2 64 (fun _ => 0), zI t b2 64 (fun _ => 0), zA t 2 v2 64 (fun _ => none), zO 0 q_3 [.ref no, .int 0, .ref r1, .ref r2, .ref qu, .int 0, .int 0, .int 0], zO 4 r1 [.ref a3, .ref b3, .ref v3], zI t a3 32 (fun _ => 0), zI t b3 32 (fun _ => 0), zA t 2 v3 32 (fun _ => none), zO 4 r2 [.ref a4, .ref b4, .ref v4], zI t a4 4 (fun _ => 0), zI t b4 4 (fun _ => 0), zA t 2 v4 4 (fun _ => none), zA t 2 qu 16 (fun _ => none), zO 5 q_4 [.ref s1, .ref s2, .ref s3, .ref s4, .ref s5, .int 1], zJ t s1 32 (fun _ => 1099511627776), zI t s2 8 (fun _ => 0), zJ t s3 8 (fun _ => 0), zI t s4 4 (xm 1), zI t s5 4 (xm mk)] := hD
  refine lv_aload_n hx hb d_D_init_73 rfl (lv_at hl 0 rfl) ?_
  refine lv_bipush (v := 8) hx hb d_D_init_74 (by decide) ?_
  refine lv_iconst (v := 3) hx hb d_D_init_76 (by decide) ?_
  refine lv_iload_n hx hb d_D_init_77 rfl (lv_at hl 1 rfl) ?_
  refine lv_imul hx hb d_D_init_78 ?_
  refine lv_iadd hx hb d_D_init_79 ?_
  refine va_put (ci := 3) (v := .int ((8) + ((3) * (nI i)))) (ty := tyX3 11) (C := "QuorumStore$Node") (T := TX3) (N := 15) hx hb hts inX3 tyX3 okX3 nmX3 hown hK.2 hP hD hS 0 rfl rfl 11 (by decide) (hts _ k_217) (fun _ h9 => h9) rfl (by decide +kernel) rfl rfl (Nat.le_of_ble_eq_true rfl) d_D_init_80 (fun H locs hP hD hS => ?_)
  have hP : va_P D vwCl [zO 3 h [.int (nI i), .ref nw, .int 0, .int 0, .int 0, .ref q_4, .ref q_1, .ref q_2, .int 1, .int 0, .int 0, .int ((8) + ((3) * (nI i))), .int ((-1)), .int 0, .ref q_3], zO 4 q_1 [.ref a1, .ref b1, .ref v1], zI t a1 32 (fun _ => 0), zI t b1 32 (fun _ => 0), zA t 2 v1 32 (fun _ => none), zO 4 q_2 [.ref a2, .ref b2, .ref v2], zI t a2 64 (fun _ => 0), zI t b2 64 (fun _ => 0), zA t 2 v2 64 (fun _ => none), zO 0 q_3 [.ref no, .int 0, .ref r1, .ref r2, .ref qu, .int 0, .int 0, .int 0], zO 4 r1 [.ref a3, .ref b3, .ref v3], zI t a3 32 (fun _ => 0), zI t b3 32 (fun _ => 0), zA t 2 v3 32 (fun _ => none), zO 4 r2 [.ref a4, .ref b4, .ref v4], zI t a4 4 (fun _ => 0), zI t b4 4 (fun _ => 0), zA t 2 v4 4 (fun _ => none), zA t 2 qu 16 (fun _ => none), zO 5 q_4 [.ref s1, .ref s2, .ref s3, .ref s4, .ref s5, .int 1], zJ t s1 32 (fun _ => 1099511627776), zI t s2 8 (fun _ => 0), zJ t s3 8 (fun _ => 0), zI t s4 4 (xm 1), zI t s5 4 (xm mk)] H := hP
  have hD : va_D A [zO 3 h [.int (nI i), .ref nw, .int 0, .int 0, .int 0, .ref q_4, .ref q_1, .ref q_2, .int 1, .int 0, .int 0, .int ((8) + ((3) * (nI i))), .int ((-1)), .int 0, .ref q_3], zO 4 q_1 [.ref a1, .ref b1, .ref v1], zI t a1 32 (fun _ => 0), zI t b1 32 (fun _ => 0), zA t 2 v1 32 (fun _ => none), zO 4 q_2 [.ref a2, .ref b2, .ref v2], zI t a2 64 (fun _ => 0), zI t b2 64 (fun _ => 0), zA t 2 v2 64 (fun _ => none), zO 0 q_3 [.ref no, .int 0, .ref r1, .ref r2, .ref qu, .int 0, .int 0, .int 0], zO 4 r1 [.ref a3, .ref b3, .ref v3], zI t a3 32 (fun _ => 0), zI t b3 32 (fun _ => 0), zA t 2 v3 32 (fun _ => none), zO 4 r2 [.ref a4, .ref b4, .ref v4], zI t a4 4 (fun _ => 0), zI t b4 4 (fun _ => 0), zA t 2 v4 4 (fun _ => none), zA t 2 qu 16 (fun _ => none), zO 5 q_4 [.ref s1, .ref s2, .ref s3, .ref s4, .ref s5, .int 1], zJ t s1 32 (fun _ => 1099511627776), zI t s2 8 (fun _ => 0), zJ t s3 8 (fun _ => 0), zI t s4 4 (xm 1), zI t s5 4 (xm mk)] := hD
  have e8 : (8 : Int32) + 3 * nI i = nI (8 + 3 * i) := by rw [show (3 : Int32) = nI 3 from rfl, show (8 : Int32) = nI 8 from rfl, pk_mul, nI_add]
  have hP : va_P D vwCl [zO 3 h [.int (nI i), .ref nw, .int 0, .int 0, .int 0, .ref q_4, .ref q_1, .ref q_2, .int 1, .int 0, .int 0, .int (nI (8 + 3 * i)), .int ((-1)), .int 0, .ref q_3], zO 4 q_1 [.ref a1, .ref b1, .ref v1], zI t a1 32 (fun _ => 0), zI t b1 32 (fun _ => 0), zA t 2 v1 32 (fun _ => none), zO 4 q_2 [.ref a2, .ref b2, .ref v2], zI t a2 64 (fun _ => 0), zI t b2 64 (fun _ => 0), zA t 2 v2 64 (fun _ => none), zO 0 q_3 [.ref no, .int 0, .ref r1, .ref r2, .ref qu, .int 0, .int 0, .int 0], zO 4 r1 [.ref a3, .ref b3, .ref v3], zI t a3 32 (fun _ => 0), zI t b3 32 (fun _ => 0), zA t 2 v3 32 (fun _ => none), zO 4 r2 [.ref a4, .ref b4, .ref v4], zI t a4 4 (fun _ => 0), zI t b4 4 (fun _ => 0), zA t 2 v4 4 (fun _ => none), zA t 2 qu 16 (fun _ => none), zO 5 q_4 [.ref s1, .ref s2, .ref s3, .ref s4, .ref s5, .int 1], zJ t s1 32 (fun _ => 1099511627776), zI t s2 8 (fun _ => 0), zJ t s3 8 (fun _ => 0), zI t s4 4 (xm 1), zI t s5 4 (xm mk)] H := e8 ▸ hP
  have hD : va_D A [zO 3 h [.int (nI i), .ref nw, .int 0, .int 0, .int 0, .ref q_4, .ref q_1, .ref q_2, .int 1, .int 0, .int 0, .int (nI (8 + 3 * i)), .int ((-1)), .int 0, .ref q_3], zO 4 q_1 [.ref a1, .ref b1, .ref v1], zI t a1 32 (fun _ => 0), zI t b1 32 (fun _ => 0), zA t 2 v1 32 (fun _ => none), zO 4 q_2 [.ref a2, .ref b2, .ref v2], zI t a2 64 (fun _ => 0), zI t b2 64 (fun _ => 0), zA t 2 v2 64 (fun _ => none), zO 0 q_3 [.ref no, .int 0, .ref r1, .ref r2, .ref qu, .int 0, .int 0, .int 0], zO 4 r1 [.ref a3, .ref b3, .ref v3], zI t a3 32 (fun _ => 0), zI t b3 32 (fun _ => 0), zA t 2 v3 32 (fun _ => none), zO 4 r2 [.ref a4, .ref b4, .ref v4], zI t a4 4 (fun _ => 0), zI t b4 4 (fun _ => 0), zA t 2 v4 4 (fun _ => none), zA t 2 qu 16 (fun _ => none), zO 5 q_4 [.ref s1, .ref s2, .ref s3, .ref s4, .ref s5, .int 1], zJ t s1 32 (fun _ => 1099511627776), zI t s2 8 (fun _ => 0), zJ t s3 8 (fun _ => 0), zI t s4 4 (xm 1), zI t s5 4 (xm mk)] := e8 ▸ hD
  have hP := hP.sub (ws' := [zO 3 h [.int (nI i), .ref nw, .int 0, .int 0, .int 0, .ref q_4, .ref q_1, .ref q_2, .int 1, .int 0, .int 0, .int (nI (8 + 3 * i)), .int ((-1)), .int 0, .ref q_3], zO 5 q_4 [.ref s1, .ref s2, .ref s3, .ref s4, .ref s5, .int 1], zJ t s1 32 (fun _ => 1099511627776), zI t s2 8 (fun _ => 0), zJ t s3 8 (fun _ => 0), zI t s4 4 (xm 1), zI t s5 4 (xm mk), zO 4 q_1 [.ref a1, .ref b1, .ref v1], zI t a1 32 (fun _ => 0), zI t b1 32 (fun _ => 0), zA t 2 v1 32 (fun _ => none), zO 4 q_2 [.ref a2, .ref b2, .ref v2], zI t a2 64 (fun _ => 0), zI t b2 64 (fun _ => 0), zA t 2 v2 64 (fun _ => none), zO 0 q_3 [.ref no, .int 0, .ref r1, .ref r2, .ref qu, .int 0, .int 0, .int 0], zO 4 r1 [.ref a3, .ref b3, .ref v3], zI t a3 32 (fun _ => 0), zI t b3 32 (fun _ => 0), zA t 2 v3 32 (fun _ => none), zO 4 r2 [.ref a4, .ref b4, .ref v4], zI t a4 4 (fun _ => 0), zI t b4 4 (fun _ => 0), zA t 2 v4 4 (fun _ => none), zA t 2 qu 16 (fun _ => none)]) [0, 19, 20, 21, 22, 23, 24, 1, 2, 3, 4, 5, 6, 7, 8, 9, 10, 11, 12, 13, 14, 15, 16, 17, 18] rfl
  have hD := hD.sub (ws' := [zO 3 h [.int (nI i), .ref nw, .int 0, .int 0, .int 0, .ref q_4, .ref q_1, .ref q_2, .int 1, .int 0, .int 0, .int (nI (8 + 3 * i)), .int ((-1)), .int 0, .ref q_3], zO 5 q_4 [.ref s1, .ref s2, .ref s3, .ref s4, .ref s5, .int 1], zJ t s1 32 (fun _ => 1099511627776), zI t s2 8 (fun _ => 0), zJ t s3 8 (fun _ => 0), zI t s4 4 (xm 1), zI t s5 4 (xm mk), zO 4 q_1 [.ref a1, .ref b1, .ref v1], zI t a1 32 (fun _ => 0), zI t b1 32 (fun _ => 0), zA t 2 v1 32 (fun _ => none), zO 4 q_2 [.ref a2, .ref b2, .ref v2], zI t a2 64 (fun _ => 0), zI t b2 64 (fun _ => 0), zA t 2 v2 64 (fun _ => none), zO 0 q_3 [.ref no, .int 0, .ref r1, .ref r2, .ref qu, .int 0, .int 0, .int 0], zO 4 r1 [.ref a3, .ref b3, .ref v3], zI t a3 32 (fun _ => 0), zI t b3 32 (fun _ => 0), zA t 2 v3 32 (fun _ => none), zO 4 r2 [.ref a4, .ref b4, .ref v4], zI t a4 4 (fun _ => 0), zI t b4 4 (fun _ => 0), zA t 2 v4 4 (fun _ => none), zA t 2 qu 16 (fun _ => none)]) [0, 19, 20, 21, 22, 23, 24, 1, 2, 3, 4, 5, 6, 7, 8, 9, 10, 11, 12, 13, 14, 15, 16, 17, 18] (by decide) rfl
  exact W.vret hx hb hr (fun t ht hW => ⟨⟨((fun k => ([h, q_4, s1, s2, s3, s4, s5, q_1, a1, b1, v1, q_2, a2, b2, v2, q_3, r1, a3, b3, v3, r2, a4, b4, v4, qu] : List Nat).getD k 0), no), rfl, rfl, by rw [ht]; exact hP, hD⟩, hS.F ht⟩) hS.2.2 d_D_init_83
end
section
/-! A new object of the class: its network and its seven nodes. -/
theorem d_Q_init_0 : decode c_Q_init 0 = .ok (.aload_n 0, 1) := by decide +kernel
theorem d_Q_init_1 : decode c_Q_init 1 = .ok (.invokespecial 1, 3) := by decide +kernel
theorem d_Q_init_4 : decode c_Q_init 4 = .ok (.iload_n 1, 1) := by decide +kernel
theorem d_Q_init_5 : decode c_Q_init 5 = .ok (.bipush 127, 2) := by decide +kernel
theorem d_Q_init_7 : decode c_Q_init 7 = .ok (.iand, 1) := by decide +kernel
theorem d_Q_init_8 : decode c_Q_init 8 = .ok (.istore_n 2, 1) := by decide +kernel
theorem d_Q_init_9 : decode c_Q_init 9 = .ok (.new 9, 3) := by decide +kernel
theorem d_Q_init_12 : decode c_Q_init 12 = .ok (.dup, 1) := by decide +kernel
theorem d_Q_init_13 : decode c_Q_init 13 = .ok (.invokespecial 11, 3) := by decide +kernel
theorem d_Q_init_16 : decode c_Q_init 16 = .ok (.astore_n 3, 1) := by decide +kernel
theorem d_Q_init_17 : decode c_Q_init 17 = .ok (.aload_n 0, 1) := by decide +kernel
theorem d_Q_init_18 : decode c_Q_init 18 = .ok (.aload_n 3, 1) := by decide +kernel
theorem d_Q_init_19 : decode c_Q_init 19 = .ok (.putfield 12, 3) := by decide +kernel
theorem d_Q_init_22 : decode c_Q_init 22 = .ok (.aload_n 0, 1) := by decide +kernel
theorem d_Q_init_23 : decode c_Q_init 23 = .ok (.bipush 7, 2) := by decide +kernel
theorem d_Q_init_25 : decode c_Q_init 25 = .ok (.anewarray 16, 3) := by decide +kernel
theorem d_Q_init_28 : decode c_Q_init 28 = .ok (.putfield 18, 3) := by decide +kernel
theorem d_Q_init_31 : decode c_Q_init 31 = .ok (.iconst 0, 1) := by decide +kernel
theorem d_Q_init_32 : decode c_Q_init 32 = .ok (.istore 4, 2) := by decide +kernel
theorem d_Q_init_34 : decode c_Q_init 34 = .ok (.iload 4, 2) := by decide +kernel
theorem d_Q_init_36 : decode c_Q_init 36 = .ok (.bipush 7, 2) := by decide +kernel
theorem d_Q_init_38 : decode c_Q_init 38 = .ok (.if_icmp .ge 36, 3) := by decide +kernel
theorem d_Q_init_41 : decode c_Q_init 41 = .ok (.aload_n 0, 1) := by decide +kernel
theorem d_Q_init_42 : decode c_Q_init 42 = .ok (.getfield 18, 3) := by decide +kernel
theorem d_Q_init_45 : decode c_Q_init 45 = .ok (.iload 4, 2) := by decide +kernel
theorem d_Q_init_47 : decode c_Q_init 47 = .ok (.new 16, 3) := by decide +kernel
theorem d_Q_init_50 : decode c_Q_init 50 = .ok (.dup, 1) := by decide +kernel
theorem d_Q_init_51 : decode c_Q_init 51 = .ok (.iload 4, 2) := by decide +kernel
theorem d_Q_init_53 : decode c_Q_init 53 = .ok (.iload_n 2, 1) := by decide +kernel
theorem d_Q_init_54 : decode c_Q_init 54 = .ok (.ifCond .ne 8, 3) := by decide +kernel
theorem d_Q_init_57 : decode c_Q_init 57 = .ok (.bipush 7, 2) := by decide +kernel
theorem d_Q_init_59 : decode c_Q_init 59 = .ok (.goto 4, 3) := by decide +kernel
theorem d_Q_init_62 : decode c_Q_init 62 = .ok (.iload_n 2, 1) := by decide +kernel
theorem d_Q_init_63 : decode c_Q_init 63 = .ok (.aload_n 3, 1) := by decide +kernel
theorem d_Q_init_64 : decode c_Q_init 64 = .ok (.invokespecial 22, 3) := by decide +kernel
theorem d_Q_init_67 : decode c_Q_init 67 = .ok (.aastore, 1) := by decide +kernel
theorem d_Q_init_68 : decode c_Q_init 68 = .ok (.iinc 4 1, 3) := by decide +kernel
theorem d_Q_init_71 : decode c_Q_init 71 = .ok (.goto (-37), 3) := by decide +kernel
theorem d_Q_init_74 : decode c_Q_init 74 = .ok (.return_, 1) := by decide +kernel
set_option maxHeartbeats 4000000 in
set_option maxRecDepth 100000 in
/-- a new object -/
theorem C_Q_init (l : Launch) (D : va_G) (t : Nat → ClassId) (xa : Nat) (mem mk : Int32) (hmk : mk = if mem &&& 127 = 0 then 7 else mem &&& 127) : xe_C l D vwCl (xTY t) y_Q_init c_Q_init 5 (Option.none : Option FieldType) ({ frames := 4, cells := 185, slots := 3917, locals := 89 }) [.ref xa, .int mem] [zO 7 xa [.null, .null, .int 0]] (xe_v D vwCl (fun _ : Nat × Nat × Nat × (Nat → Nat → Nat) × (Nat → Nat) => True) (fun u => (([zO 7 xa [.ref u.1, .ref u.2.1, .int 0], zA t 4 u.2.1 7 (fun j => some (u.2.2.2.1 j 0))] ++ [zO 2 u.1 [.ref u.2.2.1, .int 0, .int 0, .int 0, .int 0], zA t 3 u.2.2.1 300 (fun _ => none)]) ++ wNs t u.2.2.2.1 u.1 u.2.2.2.2 mk [(0, (8, false, 0, 0, -1, 0, 0)), (1, (11, false, 0, 0, -1, 0, 0)), (2, (14, false, 0, 0, -1, 0, 0)), (3, (17, false, 0, 0, -1, 0, 0)), (4, (20, false, 0, 0, -1, 0, 0)), (5, (23, false, 0, 0, -1, 0, 0)), (6, (26, false, 0, 0, -1, 0, 0))]))) 185 3917 := by
  refine xe_of (by decide) (Nat.le_of_ble_eq_true rfl) ?_
  intro p e s m below meth c ls A Z hr hlocks hin hA hP hD hS hl
  obtain ⟨hx, hb, hml, hown, hK⟩ := id Z
  have hown : s.vm.findClass "QuorumStore" = some m.cls := hown
  have hts := hK.1.at (args := ([.ref xa, .int mem] : List Value).toArray)
  have hl : lv_has ls 5 [(0, .ref xa), (1, .int mem)] := hl
  refine lv_aload_n hx hb d_Q_init_0 rfl (lv_at hl 0 rfl) ?_
  refine W.objInit hx hb hown (hts _ k_29) (hts _ k_30) (hts _ k_31) rfl (by rw [hml]; exact hl.1) rfl d_Q_init_1 (Nat.le_of_ble_eq_true rfl) (Nat.le_of_ble_eq_true rfl) ?_
  refine W.eq (g2 := F0 m 4 ls []) rfl ?_
  refine lv_iload_n hx hb d_Q_init_4 rfl (lv_at hl 1 rfl) ?_
  refine lv_bipush (v := 127) hx hb d_Q_init_5 (by decide) ?_
  refine lv_iand hx hb d_Q_init_7 ?_
  refine lv_topi (fun mm emm => ?_)
  refine lv_istore_n (lv' := [(2, .int mm), (0, .ref xa), (1, .int mem)]) hx hb d_Q_init_8 rfl hl (by decide) rfl (fun ls hl => ?_)
  refine va_new (ci := 2) (fs := [.null, .int 0, .int 0, .int 0, .int 0]) (C := "QuorumStore$Network") (T := TX2) (N := 5) hx hb hts inX2 tyX2 okX2 hown (hts _ k_32) (hts _ k_33) (hts _ k_2) hK.2 hP hD hS hA rfl (by decide) (Nat.le_of_ble_eq_true rfl) (Nat.le_of_ble_eq_true rfl) d_Q_init_9 (fun q_1 H hP hD hS => ?_)
  have hP : va_P D vwCl [zO 7 xa [.null, .null, .int 0], zO 2 q_1 [.null, .int 0, .int 0, .int 0, .int 0]] H := hP
  have hD : va_D A [zO 7 xa [.null, .null, .int 0], zO 2 q_1 [.null, .int 0, .int 0, .int 0, .int 0]] := hD
  refine lv_dup hx hb d_Q_init_12 rfl ?_
  refine xe_callv (wr := [zO 7 xa [.null, .null, .int 0]]) (xs_IN (As := []) (rest := [.ref q_1]) Z (C_N_init l D t q_1 H.size) m_N_init k_34 k_35 rfl rfl rfl ⟨Nat.le_of_ble_eq_true rfl, Nat.le_of_ble_eq_true rfl⟩ (xe_pre hK (hP.sub [1] rfl) (hD.sub [1] (by decide) rfl)) rfl hl.1 rfl (Nat.le_of_ble_eq_true rfl) d_Q_init_13 ⟨Nat.le_of_ble_eq_true rfl, Nat.le_of_ble_eq_true rfl⟩) hP hD hS hA [1] [0] rfl rfl (by decide) (by decide) (fun rw H locs _ hP hD hS => ?_)
  have hP : va_P D vwCl [zO 7 xa [.null, .null, .int 0], zO 2 q_1 [.ref rw, .int 0, .int 0, .int 0, .int 0], zA t 3 rw 300 (fun _ => none)] H := hP
  have hD : va_D A [zO 7 xa [.null, .null, .int 0], zO 2 q_1 [.ref rw, .int 0, .int 0, .int 0, .int 0], zA t 3 rw 300 (fun _ => none)] := hD
  refine lv_astore_n (lv' := [(3, .ref q_1), (2, .int mm), (0, .ref xa), (1, .int mem)]) hx hb d_Q_init_16 rfl hl (by decide) rfl (fun ls hl => ?_)
  refine lv_aload_n hx hb d_Q_init_17 rfl (lv_at hl 2 rfl) ?_
  refine lv_aload_n hx hb d_Q_init_18 rfl (lv_at hl 0 rfl) ?_
  refine va_putF (ci := 7) (v := .ref q_1) (ty := tyX7 0) (C := "QuorumStore") (T := TX7) (N := 3) hx hb hts inX7 tyX7 okX7 nmX7 hown hK.2 hP hD hS 0 rfl rfl 0 (by decide) (hts _ k_255) (fun _ h9 => h9) rfl hin rfl (by decide +kernel) rfl rfl (Nat.le_of_ble_eq_true rfl) d_Q_init_19 (fun H locs hP hD hS => ?_)
  have hP : va_P D vwCl [zO 7 xa [.ref q_1, .null, .int 0], zO 2 q_1 [.ref rw, .int 0, .int 0, .int 0, .int 0], zA t 3 rw 300 (fun _ => none)] H := hP
  have hD : va_D A [zO 7 xa [.ref q_1, .null, .int 0], zO 2 q_1 [.ref rw, .int 0, .int 0, .int 0, .int 0], zA t 3 rw 300 (fun _ => none)] := hD
  refine lv_aload_n hx hb d_Q_init_22 rfl (lv_at hl 2 rfl) ?_
  refine lv_bipush (v := 7) hx hb d_Q_init_23 (by decide) ?_
  refine va_newq (N' := 7) hx hb hown (hts _ k_60) (va_AO.of (hts _ k_61)) hK.2 hP hD hS hA (by decide) rfl (by decide) (Nat.le_of_ble_eq_true rfl) (Nat.le_of_ble_eq_true rfl) d_Q_init_25 (fun q_2 c_3 H hKn hP hD hS => ?_)
  obtain rfl : c_3 = t 4 := xk_arr hKn (i := 4) rfl
  have hP : va_P D vwCl [zO 7 xa [.ref q_1, .null, .int 0], zO 2 q_1 [.ref rw, .int 0, .int 0, .int 0, .int 0], zA t 3 rw 300 (fun _ => none), zA t 4 q_2 7 (fun _ => none)] H := hP
  have hD : va_D A [zO 7 xa [.ref q_1, .null, .int 0], zO 2 q_1 [.ref rw, .int 0, .int 0, .int 0, .int 0], zA t 3 rw 300 (fun _ => none), zA t 4 q_2 7 (fun _ => none)] := hD
  refine va_putF (ci := 7) (v := .ref q_2) (ty := tyX7 1) (C := "QuorumStore") (T := TX7) (N := 3) hx hb hts inX7 tyX7 okX7 nmX7 hown hK.2 hP hD hS 0 rfl rfl 1 (by decide) (hts _ k_256) (fun _ h9 => h9) rfl hin rfl (by decide +kernel) rfl rfl (Nat.le_of_ble_eq_true rfl) d_Q_init_28 (fun H locs hP hD hS => ?_)
  have hP : va_P D vwCl [zO 7 xa [.ref q_1, .ref q_2, .int 0], zO 2 q_1 [.ref rw, .int 0, .int 0, .int 0, .int 0], zA t 3 rw 300 (fun _ => none), zA t 4 q_2 7 (fun _ => none)] H := hP
  have hD : va_D A [zO 7 xa [.ref q_1, .ref q_2, .int 0], zO 2 q_1 [.ref rw, .int 0, .int 0, .int 0, .int 0], zA t 3 rw 300 (fun _ => none), zA t 4 q_2 7 (fun _ => none)] := hD
  refine lv_iconst (v := 0) hx hb d_Q_init_31 (by decide) ?_
  refine lv_istore (lv' := [(4, .int 0), (3, .ref q_1), (2, .int mm), (0, .ref xa), (1, .int mem)]) hx hb d_Q_init_32 hl (by decide) rfl (fun ls hl => ?_)
  have hP := hP.sub (ws' := [zO 7 xa [.ref q_1, .ref q_2, .int 0], zA t 4 q_2 7 (fun _ => none), zO 2 q_1 [.ref rw, .int 0, .int 0, .int 0, .int 0], zA t 3 rw 300 (fun _ => none)]) [0, 3, 1, 2] rfl
  have hD := hD.sub (ws' := [zO 7 xa [.ref q_1, .ref q_2, .int 0], zA t 4 q_2 7 (fun _ => none), zO 2 q_1 [.ref rw, .int 0, .int 0, .int 0, .int 0], zA t 3 rw 300 (fun _ => none)]) [0, 3, 1, 2] (by decide) rfl
  have hP : va_P D vwCl (([zO 7 xa [.ref q_1, .ref q_2, .int 0], zA t 4 q_2 7 (fun _ => none)] ++ [zO 2 q_1 [.ref rw, .int 0, .int 0, .int 0, .int 0], zA t 3 rw 300 (fun _ => none)])) H := hP
  have hD : va_D A (([zO 7 xa [.ref q_1, .ref q_2, .int 0], zA t 4 q_2 7 (fun _ => none)] ++ [zO 2 q_1 [.ref rw, .int 0, .int 0, .int 0, .int 0], zA t 3 rw 300 (fun _ => none)])) := hD
  refine lv_iload hx hb d_Q_init_34 (lv_at hl 0 rfl) ?_
  refine lv_bipush (v := 7) hx hb d_Q_init_36 (by decide) ?_
  refine lv_icmp_ge (tgt := 74) hx hb d_Q_init_38 (by decide) (fun c_4 => absurd c_4 (by decide)) (fun _ => ?_)
  refine lv_aload_n hx hb d_Q_init_41 rfl (lv_at hl 3 rfl) ?_
  refine va_get (ci := 7) (C := "QuorumStore") (T := TX7) (N := 3) hx hb hts inX7 hown hK.2 hP 0 rfl rfl 1 (by decide) (hts _ k_256) (fun _ h9 => h9) rfl d_Q_init_42 ?_
  refine lv_iload hx hb d_Q_init_45 (lv_at hl 0 rfl) ?_
  refine va_new (ci := 3) (fs := [.int 0, .null, .int 0, .int 0, .int 0, .null, .null, .null, .int 0, .int 0, .int 0, .int 0, .int 0, .int 0, .null]) (C := "QuorumStore$Node") (T := TX3) (N := 15) hx hb hts inX3 tyX3 okX3 hown (hts _ k_60) (hts _ k_62) (hts _ k_3) hK.2 hP hD hS hA rfl (by decide) (Nat.le_of_ble_eq_true rfl) (Nat.le_of_ble_eq_true rfl) d_Q_init_47 (fun n_0 H hP hD hS => ?_)
  refine lv_dup hx hb d_Q_init_50 rfl ?_
  refine lv_iload hx hb d_Q_init_51 (lv_at hl 0 rfl) ?_
  have hj : W p l e ({ frames := 4, cells := 185, slots := 3917, locals := 89 } : Room) s m ([.ref xa, .int mem] : List Value).toArray below meth c H locs 4 327 (MQ below ((xe_v D vwCl (fun _ : Nat × Nat × Nat × (Nat → Nat → Nat) × (Nat → Nat) => True) (fun u => (([zO 7 xa [.ref u.1, .ref u.2.1, .int 0], zA t 4 u.2.1 7 (fun j => some (u.2.2.2.1 j 0))] ++ [zO 2 u.1 [.ref u.2.2.1, .int 0, .int 0, .int 0, .int 0], zA t 3 u.2.2.1 300 (fun _ => none)]) ++ wNs t u.2.2.2.1 u.1 u.2.2.2.2 mk [(0, (8, false, 0, 0, -1, 0, 0)), (1, (11, false, 0, 0, -1, 0, 0)), (2, (14, false, 0, 0, -1, 0, 0)), (3, (17, false, 0, 0, -1, 0, 0)), (4, (20, false, 0, 0, -1, 0, 0)), (5, (23, false, 0, 0, -1, 0, 0)), (6, (26, false, 0, 0, -1, 0, 0))]))) A) ([.ref xa, .int mem] : List Value).toArray s 185 3917 A) (F0 m 63 ls [.int mk, .int 0, .ref n_0, .ref n_0, .int 0, .ref q_2]) → W p l e ({ frames := 4, cells := 185, slots := 3917, locals := 89 } : Room) s m ([.ref xa, .int mem] : List Value).toArray below meth c H locs 4 327 (MQ below ((xe_v D vwCl (fun _ : Nat × Nat × Nat × (Nat → Nat → Nat) × (Nat → Nat) => True) (fun u => (([zO 7 xa [.ref u.1, .ref u.2.1, .int 0], zA t 4 u.2.1 7 (fun j => some (u.2.2.2.1 j 0))] ++ [zO 2 u.1 [.ref u.2.2.1, .int 0, .int 0, .int 0, .int 0], zA t 3 u.2.2.1 300 (fun _ => none)]) ++ wNs t u.2.2.2.1 u.1 u.2.2.2.2 mk [(0, (8, false, 0, 0, -1, 0, 0)), (1, (11, false, 0, 0, -1, 0, 0)), (2, (14, false, 0, 0, -1, 0, 0)), (3, (17, false, 0, 0, -1, 0, 0)), (4, (20, false, 0, 0, -1, 0, 0)), (5, (23, false, 0, 0, -1, 0, 0)), (6, (26, false, 0, 0, -1, 0, 0))]))) A) ([.ref xa, .int mem] : List Value).toArray s 185 3917 A) (F0 m 53 ls [.int 0, .ref n_0, .ref n_0, .int 0, .ref q_2]) := by
    intro hk
    refine lv_iload_n hx hb d_Q_init_53 rfl (lv_at hl 2 rfl) ?_
    refine lv_if_ne (tgt := 62) hx hb d_Q_init_54 (by decide) (fun c_5 => ?_) (fun c_5 => ?_)
    · refine lv_iload_n hx hb d_Q_init_62 rfl (lv_at hl 2 rfl) ?_
      exact (show mk = mm from by rw [hmk, ← emm, if_neg c_5]) ▸ hk
    · refine lv_bipush (v := 7) hx hb d_Q_init_57 (by decide) ?_
      refine lv_goto (tgt := 63) hx hb d_Q_init_59 (by decide) ?_
      exact (show mk = 7 from by rw [hmk, ← emm, if_pos c_5]) ▸ hk
  refine hj ?_
  refine lv_aload_n hx hb d_Q_init_63 rfl (lv_at hl 1 rfl) ?_
  have hPc : va_P D vwCl [zO 3 n_0 [.int 0, .null, .int 0, .int 0, .int 0, .null, .null, .null, .int 0, .int 0, .int 0, .int 0, .int 0, .int 0, .null]] H := xd_P hP (fun q h => List.mem_append_right _ h)
  have hDc : va_D A [zO 3 n_0 [.int 0, .null, .int 0, .int 0, .int 0, .null, .null, .null, .int 0, .int 0, .int 0, .int 0, .int 0, .int 0, .null]] := xd_R hD
  refine xe_sfxv (wr := (([zO 7 xa [.ref q_1, .ref q_2, .int 0], zA t 4 q_2 7 (fun _ => none)] ++ [zO 2 q_1 [.ref rw, .int 0, .int 0, .int 0, .int 0], zA t 3 rw 300 (fun _ => none)]))) (wc := [zO 3 n_0 [.int 0, .null, .int 0, .int 0, .int 0, .null, .null, .null, .int 0, .int 0, .int 0, .int 0, .int 0, .int 0, .null]]) (xs_I (As := [.int 0, .int mk, .ref q_1]) (rest := [.ref n_0, .int 0, .ref q_2]) Z (C_D_init l D t n_0 q_1 0 mk H.size) m_D_init k_63 k_64 rfl rfl rfl ⟨Nat.le_of_ble_eq_true rfl, Nat.le_of_ble_eq_true rfl⟩ (xe_pre hK hPc hDc) rfl hl.1 rfl (Nat.le_of_ble_eq_true rfl) d_Q_init_64 ⟨Nat.le_of_ble_eq_true rfl, Nat.le_of_ble_eq_true rfl⟩) hP hD hS hA (fun u_ H locs hw hP2 hD2 hS2 => ?_)
  obtain ⟨qf_0, nof_0⟩ := u_
  dsimp only at hw
  subst hw
  have hS := hS2
  have hP : va_P D vwCl (([zO 7 xa [.ref q_1, .ref q_2, .int 0], zA t 4 q_2 7 (fun _ => none)] ++ [zO 2 q_1 [.ref rw, .int 0, .int 0, .int 0, .int 0], zA t 3 rw 300 (fun _ => none)]) ++ wN t qf_0 q_1 nof_0 0 mk (8, false, 0, 0, -1, 0, 0)) H := hP2
  have hD : va_D A (([zO 7 xa [.ref q_1, .ref q_2, .int 0], zA t 4 q_2 7 (fun _ => none)] ++ [zO 2 q_1 [.ref rw, .int 0, .int 0, .int 0, .int 0], zA t 3 rw 300 (fun _ => none)]) ++ wN t qf_0 q_1 nof_0 0 mk (8, false, 0, 0, -1, 0, 0)) := hD2
  refine va_astq hx hb hK.2 hP hD hS 1 4 4 3 rfl rfl rfl rfl (by unfold vp_in; decide) d_Q_init_67 (fun H locs hP hD hS => ?_)
  have hP : va_P D vwCl (([zO 7 xa [.ref q_1, .ref q_2, .int 0], zA t 4 q_2 7 (va_up (fun _ => none) (0 : Int32).toNatClampNeg (some (qf_0 0)))] ++ [zO 2 q_1 [.ref rw, .int 0, .int 0, .int 0, .int 0], zA t 3 rw 300 (fun _ => none)]) ++ wN t qf_0 q_1 nof_0 0 mk (8, false, 0, 0, -1, 0, 0)) H := hP
  have hD : va_D A (([zO 7 xa [.ref q_1, .ref q_2, .int 0], zA t 4 q_2 7 (va_up (fun _ => none) (0 : Int32).toNatClampNeg (some (qf_0 0)))] ++ [zO 2 q_1 [.ref rw, .int 0, .int 0, .int 0, .int 0], zA t 3 rw 300 (fun _ => none)]) ++ wN t qf_0 q_1 nof_0 0 mk (8, false, 0, 0, -1, 0, 0)) := hD
  refine lv_iinc (v := 1) (lv' := [(4, .int 1), (3, .ref q_1), (2, .int mm), (0, .ref xa), (1, .int mem)]) hx hb d_Q_init_68 hl (k := 0) rfl rfl (by decide) rfl (fun ls hl => ?_)
  refine lv_goto (tgt := 34) hx hb d_Q_init_71 (by decide) ?_
  refine lv_iload hx hb d_Q_init_34 (lv_at hl 0 rfl) ?_
  refine lv_bipush (v := 7) hx hb d_Q_init_36 (by decide) ?_
  refine lv_icmp_ge (tgt := 74) hx hb d_Q_init_38 (by decide) (fun c_6 => absurd c_6 (by decide)) (fun _ => ?_)
  refine lv_aload_n hx hb d_Q_init_41 rfl (lv_at hl 3 rfl) ?_
  refine va_get (ci := 7) (C := "QuorumStore") (T := TX7) (N := 3) hx hb hts inX7 hown hK.2 hP 0 rfl rfl 1 (by decide) (hts _ k_256) (fun _ h9 => h9) rfl d_Q_init_42 ?_
  refine lv_iload hx hb d_Q_init_45 (lv_at hl 0 rfl) ?_
  refine va_new (ci := 3) (fs := [.int 0, .null, .int 0, .int 0, .int 0, .null, .null, .null, .int 0, .int 0, .int 0, .int 0, .int 0, .int 0, .null]) (C := "QuorumStore$Node") (T := TX3) (N := 15) hx hb hts inX3 tyX3 okX3 hown (hts _ k_60) (hts _ k_62) (hts _ k_3) hK.2 hP hD hS hA rfl (by decide) (Nat.le_of_ble_eq_true rfl) (Nat.le_of_ble_eq_true rfl) d_Q_init_47 (fun n_1 H hP hD hS => ?_)
  refine lv_dup hx hb d_Q_init_50 rfl ?_
  refine lv_iload hx hb d_Q_init_51 (lv_at hl 0 rfl) ?_
  have hj : W p l e ({ frames := 4, cells := 185, slots := 3917, locals := 89 } : Room) s m ([.ref xa, .int mem] : List Value).toArray below meth c H locs 30 842 (MQ below ((xe_v D vwCl (fun _ : Nat × Nat × Nat × (Nat → Nat → Nat) × (Nat → Nat) => True) (fun u => (([zO 7 xa [.ref u.1, .ref u.2.1, .int 0], zA t 4 u.2.1 7 (fun j => some (u.2.2.2.1 j 0))] ++ [zO 2 u.1 [.ref u.2.2.1, .int 0, .int 0, .int 0, .int 0], zA t 3 u.2.2.1 300 (fun _ => none)]) ++ wNs t u.2.2.2.1 u.1 u.2.2.2.2 mk [(0, (8, false, 0, 0, -1, 0, 0)), (1, (11, false, 0, 0, -1, 0, 0)), (2, (14, false, 0, 0, -1, 0, 0)), (3, (17, false, 0, 0, -1, 0, 0)), (4, (20, false, 0, 0, -1, 0, 0)), (5, (23, false, 0, 0, -1, 0, 0)), (6, (26, false, 0, 0, -1, 0, 0))]))) A) ([.ref xa, .int mem] : List Value).toArray s 185 3917 A) (F0 m 63 ls [.int mk, .int 1, .ref n_1, .ref n_1, .int 1, .ref q_2]) → W p l e ({ frames := 4, cells := 185, slots := 3917, locals := 89 } : Room) s m ([.ref xa, .int mem] : List Value).toArray below meth c H locs 30 842 (MQ below ((xe_v D vwCl (fun _ : Nat × Nat × Nat × (Nat → Nat → Nat) × (Nat → Nat) => True) (fun u => (([zO 7 xa [.ref u.1, .ref u.2.1, .int 0], zA t 4 u.2.1 7 (fun j => some (u.2.2.2.1 j 0))] ++ [zO 2 u.1 [.ref u.2.2.1, .int 0, .int 0, .int 0, .int 0], zA t 3 u.2.2.1 300 (fun _ => none)]) ++ wNs t u.2.2.2.1 u.1 u.2.2.2.2 mk [(0, (8, false, 0, 0, -1, 0, 0)), (1, (11, false, 0, 0, -1, 0, 0)), (2, (14, false, 0, 0, -1, 0, 0)), (3, (17, false, 0, 0, -1, 0, 0)), (4, (20, false, 0, 0, -1, 0, 0)), (5, (23, false, 0, 0, -1, 0, 0)), (6, (26, false, 0, 0, -1, 0, 0))]))) A) ([.ref xa, .int mem] : List Value).toArray s 185 3917 A) (F0 m 53 ls [.int 1, .ref n_1, .ref n_1, .int 1, .ref q_2]) := by
    intro hk
    refine lv_iload_n hx hb d_Q_init_53 rfl (lv_at hl 2 rfl) ?_
    refine lv_if_ne (tgt := 62) hx hb d_Q_init_54 (by decide) (fun c_7 => ?_) (fun c_7 => ?_)
    · refine lv_iload_n hx hb d_Q_init_62 rfl (lv_at hl 2 rfl) ?_
      exact (show mk = mm from by rw [hmk, ← emm, if_neg c_7]) ▸ hk
    · refine lv_bipush (v := 7) hx hb d_Q_init_57 (by decide) ?_
      refine lv_goto (tgt := 63) hx hb d_Q_init_59 (by decide) ?_
      exact (show mk = 7 from by rw [hmk, ← emm, if_pos c_7]) ▸ hk
  refine hj ?_
  refine lv_aload_n hx hb d_Q_init_63 rfl (lv_at hl 1 rfl) ?_
  have hPc : va_P D vwCl [zO 3 n_1 [.int 0, .null, .int 0, .int 0, .int 0, .null, .null, .null, .int 0, .int 0, .int 0, .int 0, .int 0, .int 0, .null]] H := xd_P hP (fun q h => List.mem_append_right _ h)
  have hDc : va_D A [zO 3 n_1 [.int 0, .null, .int 0, .int 0, .int 0, .null, .null, .null, .int 0, .int 0, .int 0, .int 0, .int 0, .int 0, .null]] := xd_R hD
  refine xe_sfxv (wr := (([zO 7 xa [.ref q_1, .ref q_2, .int 0], zA t 4 q_2 7 (va_up (fun _ => none) (0 : Int32).toNatClampNeg (some (qf_0 0)))] ++ [zO 2 q_1 [.ref rw, .int 0, .int 0, .int 0, .int 0], zA t 3 rw 300 (fun _ => none)]) ++ wN t qf_0 q_1 nof_0 0 mk (8, false, 0, 0, -1, 0, 0))) (wc := [zO 3 n_1 [.int 0, .null, .int 0, .int 0, .int 0, .null, .null, .null, .int 0, .int 0, .int 0, .int 0, .int 0, .int 0, .null]]) (xs_I (As := [.int 1, .int mk, .ref q_1]) (rest := [.ref n_1, .int 1, .ref q_2]) Z (C_D_init l D t n_1 q_1 1 mk H.size) m_D_init k_63 k_64 rfl rfl rfl ⟨Nat.le_of_ble_eq_true rfl, Nat.le_of_ble_eq_true rfl⟩ (xe_pre hK hPc hDc) rfl hl.1 rfl (Nat.le_of_ble_eq_true rfl) d_Q_init_64 ⟨Nat.le_of_ble_eq_true rfl, Nat.le_of_ble_eq_true rfl⟩) hP hD hS hA (fun u_ H locs hw hP2 hD2 hS2 => ?_)
  obtain ⟨qf_1, nof_1⟩ := u_
  dsimp only at hw
  subst hw
  have hS := hS2
  have hP : va_P D vwCl (([zO 7 xa [.ref q_1, .ref q_2, .int 0], zA t 4 q_2 7 (va_up (fun _ => none) (0 : Int32).toNatClampNeg (some (qf_0 0)))] ++ [zO 2 q_1 [.ref rw, .int 0, .int 0, .int 0, .int 0], zA t 3 rw 300 (fun _ => none)]) ++ wN t qf_0 q_1 nof_0 0 mk (8, false, 0, 0, -1, 0, 0) ++ wN t qf_1 q_1 nof_1 1 mk (11, false, 0, 0, -1, 0, 0)) H := hP2
  have hD : va_D A (([zO 7 xa [.ref q_1, .ref q_2, .int 0], zA t 4 q_2 7 (va_up (fun _ => none) (0 : Int32).toNatClampNeg (some (qf_0 0)))] ++ [zO 2 q_1 [.ref rw, .int 0, .int 0, .int 0, .int 0], zA t 3 rw 300 (fun _ => none)]) ++ wN t qf_0 q_1 nof_0 0 mk (8, false, 0, 0, -1, 0, 0) ++ wN t qf_1 q_1 nof_1 1 mk (11, false, 0, 0, -1, 0, 0)) := hD2
  refine va_astq hx hb hK.2 hP hD hS 1 4 29 3 rfl rfl rfl rfl (by unfold vp_in; decide) d_Q_init_67 (fun H locs hP hD hS => ?_)
  have hP : va_P D vwCl (([zO 7 xa [.ref q_1, .ref q_2, .int 0], zA t 4 q_2 7 (va_up (va_up (fun _ => none) (0 : Int32).toNatClampNeg (some (qf_0 0))) (1 : Int32).toNatClampNeg (some (qf_1 0)))] ++ [zO 2 q_1 [.ref rw, .int 0, .int 0, .int 0, .int 0], zA t 3 rw 300 (fun _ => none)]) ++ wN t qf_0 q_1 nof_0 0 mk (8, false, 0, 0, -1, 0, 0) ++ wN t qf_1 q_1 nof_1 1 mk (11, false, 0, 0, -1, 0, 0)) H := hP
  have hD : va_D A (([zO 7 xa [.ref q_1, .ref q_2, .int 0], zA t 4 q_2 7 (va_up (va_up (fun _ => none) (0 : Int32).toNatClampNeg (some (qf_0 0))) (1 : Int32).toNatClampNeg (some (qf_1 0)))] ++ [zO 2 q_1 [.ref rw, .int 0, .int 0, .int 0, .int 0], zA t 3 rw 300 (fun _ => none)]) ++ wN t qf_0 q_1 nof_0 0 mk (8, false, 0, 0, -1, 0, 0) ++ wN t qf_1 q_1 nof_1 1 mk (11, false, 0, 0, -1, 0, 0)) := hD
  refine lv_iinc (v := 2) (lv' := [(4, .int 2), (3, .ref q_1), (2, .int mm), (0, .ref xa), (1, .int mem)]) hx hb d_Q_init_68 hl (k := 0) rfl rfl (by decide) rfl (fun ls hl => ?_)
  refine lv_goto (tgt := 34) hx hb d_Q_init_71 (by decide) ?_
  refine lv_iload hx hb d_Q_init_34 (lv_at hl 0 rfl) ?_
  refine lv_bipush (v := 7) hx hb d_Q_init_36 (by decide) ?_
  refine lv_icmp_ge (tgt := 74) hx hb d_Q_init_38 (by decide) (fun c_8 => absurd c_8 (by decide)) (fun _ => ?_)
  refine lv_aload_n hx hb d_Q_init_41 rfl (lv_at hl 3 rfl) ?_
  refine va_get (ci := 7) (C := "QuorumStore") (T := TX7) (N := 3) hx hb hts inX7 hown hK.2 hP 0 rfl rfl 1 (by decide) (hts _ k_256) (fun _ h9 => h9) rfl d_Q_init_42 ?_
  refine lv_iload hx hb d_Q_init_45 (lv_at hl 0 rfl) ?_
  refine va_new (ci := 3) (fs := [.int 0, .null, .int 0, .int 0, .int 0, .null, .null, .null, .int 0, .int 0, .int 0, .int 0, .int 0, .int 0, .null]) (C := "QuorumStore$Node") (T := TX3) (N := 15) hx hb hts inX3 tyX3 okX3 hown (hts _ k_60) (hts _ k_62) (hts _ k_3) hK.2 hP hD hS hA rfl (by decide) (Nat.le_of_ble_eq_true rfl) (Nat.le_of_ble_eq_true rfl) d_Q_init_47 (fun n_2 H hP hD hS => ?_)
  refine lv_dup hx hb d_Q_init_50 rfl ?_
  refine lv_iload hx hb d_Q_init_51 (lv_at hl 0 rfl) ?_
  have hj : W p l e ({ frames := 4, cells := 185, slots := 3917, locals := 89 } : Room) s m ([.ref xa, .int mem] : List Value).toArray below meth c H locs 56 1357 (MQ below ((xe_v D vwCl (fun _ : Nat × Nat × Nat × (Nat → Nat → Nat) × (Nat → Nat) => True) (fun u => (([zO 7 xa [.ref u.1, .ref u.2.1, .int 0], zA t 4 u.2.1 7 (fun j => some (u.2.2.2.1 j 0))] ++ [zO 2 u.1 [.ref u.2.2.1, .int 0, .int 0, .int 0, .int 0], zA t 3 u.2.2.1 300 (fun _ => none)]) ++ wNs t u.2.2.2.1 u.1 u.2.2.2.2 mk [(0, (8, false, 0, 0, -1, 0, 0)), (1, (11, false, 0, 0, -1, 0, 0)), (2, (14, false, 0, 0, -1, 0, 0)), (3, (17, false, 0, 0, -1, 0, 0)), (4, (20, false, 0, 0, -1, 0, 0)), (5, (23, false, 0, 0, -1, 0, 0)), (6, (26, false, 0, 0, -1, 0, 0))]))) A) ([.ref xa, .int mem] : List Value).toArray s 185 3917 A) (F0 m 63 ls [.int mk, .int 2, .ref n_2, .ref n_2, .int 2, .ref q_2]) → W p l e ({ frames := 4, cells := 185, slots := 3917, locals := 89 } : Room) s m ([.ref xa, .int mem] : List Value).toArray below meth c H locs 56 1357 (MQ below ((xe_v D vwCl (fun _ : Nat × Nat × Nat × (Nat → Nat → Nat) × (Nat → Nat) => True) (fun u => (([zO 7 xa [.ref u.1, .ref u.2.1, .int 0], zA t 4 u.2.1 7 (fun j => some (u.2.2.2.1 j 0))] ++ [zO 2 u.1 [.ref u.2.2.1, .int 0, .int 0, .int 0, .int 0], zA t 3 u.2.2.1 300 (fun _ => none)]) ++ wNs t u.2.2.2.1 u.1 u.2.2.2.2 mk [(0, (8, false, 0, 0, -1, 0, 0)), (1, (11, false, 0, 0, -1, 0, 0)), (2, (14, false, 0, 0, -1, 0, 0)), (3, (17, false, 0, 0, -1, 0, 0)), (4, (20, false, 0, 0, -1, 0, 0)), (5, (23, false, 0, 0, -1, 0, 0)), (6, (26, false, 0, 0, -1, 0, 0))]))) A) ([.ref xa, .int mem] : List Value).toArray s 185 3917 A) (F0 m 53 ls [.int 2, .ref n_2, .ref n_2, .int 2, .ref q_2]) := by
    intro hk
    refine lv_iload_n hx hb d_Q_init_53 rfl (lv_at hl 2 rfl) ?_
    refine lv_if_ne (tgt := 62) hx hb d_Q_init_54 (by decide) (fun c_9 => ?_) (fun c_9 => ?_)
    · refine lv_iload_n hx hb d_Q_init_62 rfl (lv_at hl 2 rfl) ?_
      exact (show mk = mm from by rw [hmk, ← emm, if_neg c_9]) ▸ hk
    · refine lv_bipush (v := 7) hx hb d_Q_init_57 (by decide) ?_
      refine lv_goto (tgt := 63) hx hb d_Q_init_59 (by decide) ?_
      exact (show mk = 7 from by rw [hmk, ← emm, if_pos c_9]) ▸ hk
  refine hj ?_
  refine lv_aload_n hx hb d_Q_init_63 rfl (lv_at hl 1 rfl) ?_
  have hPc : va_P D vwCl [zO 3 n_2 [.int 0, .null, .int 0, .int 0, .int 0, .null, .null, .null, .int 0, .int 0, .int 0, .int 0, .int 0, .int 0, .null]] H := xd_P hP (fun q h => List.mem_append_right _ h)
  have hDc : va_D A [zO 3 n_2 [.int 0, .null, .int 0, .int 0, .int 0, .null, .null, .null, .int 0, .int 0, .int 0, .int 0, .int 0, .int 0, .null]] := xd_R hD
  refine xe_sfxv (wr := (([zO 7 xa [.ref q_1, .ref q_2, .int 0], zA t 4 q_2 7 (va_up (va_up (fun _ => none) (0 : Int32).toNatClampNeg (some (qf_0 0))) (1 : Int32).toNatClampNeg (some (qf_1 0)))] ++ [zO 2 q_1 [.ref rw, .int 0, .int 0, .int 0, .int 0], zA t 3 rw 300 (fun _ => none)]) ++ wN t qf_0 q_1 nof_0 0 mk (8, false, 0, 0, -1, 0, 0) ++ wN t qf_1 q_1 nof_1 1 mk (11, false, 0, 0, -1, 0, 0))) (wc := [zO 3 n_2 [.int 0, .null, .int 0, .int 0, .int 0, .null, .null, .null, .int 0, .int 0, .int 0, .int 0, .int 0, .int 0, .null]]) (xs_I (As := [.int 2, .int mk, .ref q_1]) (rest := [.ref n_2, .int 2, .ref q_2]) Z (C_D_init l D t n_2 q_1 2 mk H.size) m_D_init k_63 k_64 rfl rfl rfl ⟨Nat.le_of_ble_eq_true rfl, Nat.le_of_ble_eq_true rfl⟩ (xe_pre hK hPc hDc) rfl hl.1 rfl (Nat.le_of_ble_eq_true rfl) d_Q_init_64 ⟨Nat.le_of_ble_eq_true rfl, Nat.le_of_ble_eq_true rfl⟩) hP hD hS hA (fun u_ H locs hw hP2 hD2 hS2 => ?_)
  obtain ⟨qf_2, nof_2⟩ := u_
  dsimp only at hw
  subst hw
  have hS := hS2
  have hP : va_P D vwCl (([zO 7 xa [.ref q_1, .ref q_2, .int 0], zA t 4 q_2 7 (va_up (va_up (fun _ => none) (0 : Int32).toNatClampNeg (some (qf_0 0))) (1 : Int32).toNatClampNeg (some (qf_1 0)))] ++ [zO 2 q_1 [.ref rw, .int 0, .int 0, .int 0, .int 0], zA t 3 rw 300 (fun _ => none)]) ++ wN t qf_0 q_1 nof_0 0 mk (8, false, 0, 0, -1, 0, 0) ++ wN t qf_1 q_1 nof_1 1 mk (11, false, 0, 0, -1, 0, 0) ++ wN t qf_2 q_1 nof_2 2 mk (14, false, 0, 0, -1, 0, 0)) H := hP2
  have hD : va_D A (([zO 7 xa [.ref q_1, .ref q_2, .int 0], zA t 4 q_2 7 (va_up (va_up (fun _ => none) (0 : Int32).toNatClampNeg (some (qf_0 0))) (1 : Int32).toNatClampNeg (some (qf_1 0)))] ++ [zO 2 q_1 [.ref rw, .int 0, .int 0, .int 0, .int 0], zA t 3 rw 300 (fun _ => none)]) ++ wN t qf_0 q_1 nof_0 0 mk (8, false, 0, 0, -1, 0, 0) ++ wN t qf_1 q_1 nof_1 1 mk (11, false, 0, 0, -1, 0, 0) ++ wN t qf_2 q_1 nof_2 2 mk (14, false, 0, 0, -1, 0, 0)) := hD2
  refine va_astq hx hb hK.2 hP hD hS 1 4 54 3 rfl rfl rfl rfl (by unfold vp_in; decide) d_Q_init_67 (fun H locs hP hD hS => ?_)
  have hP : va_P D vwCl (([zO 7 xa [.ref q_1, .ref q_2, .int 0], zA t 4 q_2 7 (va_up (va_up (va_up (fun _ => none) (0 : Int32).toNatClampNeg (some (qf_0 0))) (1 : Int32).toNatClampNeg (some (qf_1 0))) (2 : Int32).toNatClampNeg (some (qf_2 0)))] ++ [zO 2 q_1 [.ref rw, .int 0, .int 0, .int 0, .int 0], zA t 3 rw 300 (fun _ => none)]) ++ wN t qf_0 q_1 nof_0 0 mk (8, false, 0, 0, -1, 0, 0) ++ wN t qf_1 q_1 nof_1 1 mk (11, false, 0, 0, -1, 0, 0) ++ wN t qf_2 q_1 nof_2 2 mk (14, false, 0, 0, -1, 0, 0)) H := hP
  have hD : va_D A (([zO 7 xa [.ref q_1, .ref q_2, .int 0], zA t 4 q_2 7 (va_up (va_up (va_up (fun _ => none) (0 : Int32).toNatClampNeg (some (qf_0 0))) (1 : Int32).toNatClampNeg (some (qf_1 0))) (2 : Int32).toNatClampNeg (some (qf_2 0)))] ++ [zO 2 q_1 [.ref rw, .int 0, .int 0, .int 0, .int 0], zA t 3 rw 300 (fun _ => none)]) ++ wN t qf_0 q_1 nof_0 0 mk (8, false, 0, 0, -1, 0, 0) ++ wN t qf_1 q_1 nof_1 1 mk (11, false, 0, 0, -1, 0, 0) ++ wN t qf_2 q_1 nof_2 2 mk (14, false, 0, 0, -1, 0, 0)) := hD
  refine lv_iinc (v := 3) (lv' := [(4, .int 3), (3, .ref q_1), (2, .int mm), (0, .ref xa), (1, .int mem)]) hx hb d_Q_init_68 hl (k := 0) rfl rfl (by decide) rfl (fun ls hl => ?_)
  refine lv_goto (tgt := 34) hx hb d_Q_init_71 (by decide) ?_
  refine lv_iload hx hb d_Q_init_34 (lv_at hl 0 rfl) ?_
  refine lv_bipush (v := 7) hx hb d_Q_init_36 (by decide) ?_
  refine lv_icmp_ge (tgt := 74) hx hb d_Q_init_38 (by decide) (fun c_10 => absurd c_10 (by decide)) (fun _ => ?_)
  refine lv_aload_n hx hb d_Q_init_41 rfl (lv_at hl 3 rfl) ?_
  refine va_get (ci := 7) (C := "QuorumStore") (T := TX7) (N := 3) hx hb hts inX7 hown hK.2 hP 0 rfl rfl 1 (by decide) (hts _ k_256) (fun _ h9 => h9) rfl d_Q_init_42 ?_
  refine lv_iload hx hb d_Q_init_45 (lv_at hl 0 rfl) ?_
  refine va_new (ci := 3) (fs := [.int 0, .null, .int 0, .int 0, .int 0, .null, .null, .null, .int 0, .int 0, .int 0, .int 0, .int 0, .int 0, .null]) (C := "QuorumStore$Node") (T := TX3) (N := 15) hx hb hts inX3 tyX3 okX3 hown (hts _ k_60) (hts _ k_62) (hts _ k_3) hK.2 hP hD hS hA rfl (by decide) (Nat.le_of_ble_eq_true rfl) (Nat.le_of_ble_eq_true rfl) d_Q_init_47 (fun n_3 H hP hD hS => ?_)
  refine lv_dup hx hb d_Q_init_50 rfl ?_
  refine lv_iload hx hb d_Q_init_51 (lv_at hl 0 rfl) ?_
  have hj : W p l e ({ frames := 4, cells := 185, slots := 3917, locals := 89 } : Room) s m ([.ref xa, .int mem] : List Value).toArray below meth c H locs 82 1872 (MQ below ((xe_v D vwCl (fun _ : Nat × Nat × Nat × (Nat → Nat → Nat) × (Nat → Nat) => True) (fun u => (([zO 7 xa [.ref u.1, .ref u.2.1, .int 0], zA t 4 u.2.1 7 (fun j => some (u.2.2.2.1 j 0))] ++ [zO 2 u.1 [.ref u.2.2.1, .int 0, .int 0, .int 0, .int 0], zA t 3 u.2.2.1 300 (fun _ => none)]) ++ wNs t u.2.2.2.1 u.1 u.2.2.2.2 mk [(0, (8, false, 0, 0, -1, 0, 0)), (1, (11, false, 0, 0, -1, 0, 0)), (2, (14, false, 0, 0, -1, 0, 0)), (3, (17, false, 0, 0, -1, 0, 0)), (4, (20, false, 0, 0, -1, 0, 0)), (5, (23, false, 0, 0, -1, 0, 0)), (6, (26, false, 0, 0, -1, 0, 0))]))) A) ([.ref xa, .int mem] : List Value).toArray s 185 3917 A) (F0 m 63 ls [.int mk, .int 3, .ref n_3, .ref n_3, .int 3, .ref q_2]) → W p l e ({ frames := 4, cells := 185, slots := 3917, locals := 89 } : Room) s m ([.ref xa, .int mem] : List Value).toArray below meth c H locs 82 1872 (MQ below ((xe_v D vwCl (fun _ : Nat × Nat × Nat × (Nat → Nat → Nat) × (Nat → Nat) => True) (fun u => (([zO 7 xa [.ref u.1, .ref u.2.1, .int 0], zA t 4 u.2.1 7 (fun j => some (u.2.2.2.1 j 0))] ++ [zO 2 u.1 [.ref u.2.2.1, .int 0, .int 0, .int 0, .int 0], zA t 3 u.2.2.1 300 (fun _ => none)]) ++ wNs t u.2.2.2.1 u.1 u.2.2.2.2 mk [(0, (8, false, 0, 0, -1, 0, 0)), (1, (11, false, 0, 0, -1, 0, 0)), (2, (14, false, 0, 0, -1, 0, 0)), (3, (17, false, 0, 0, -1, 0, 0)), (4, (20, false, 0, 0, -1, 0, 0)), (5, (23, false, 0, 0, -1, 0, 0)), (6, (26, false, 0, 0, -1, 0, 0))]))) A) ([.ref xa, .int mem] : List Value).toArray s 185 3917 A) (F0 m 53 ls [.int 3, .ref n_3, .ref n_3, .int 3, .ref q_2]) := by
    intro hk
    refine lv_iload_n hx hb d_Q_init_53 rfl (lv_at hl 2 rfl) ?_
    refine lv_if_ne (tgt := 62) hx hb d_Q_init_54 (by decide) (fun c_11 => ?_) (fun c_11 => ?_)
    · refine lv_iload_n hx hb d_Q_init_62 rfl (lv_at hl 2 rfl) ?_
      exact (show mk = mm from by rw [hmk, ← emm, if_neg c_11]) ▸ hk
    · refine lv_bipush (v := 7) hx hb d_Q_init_57 (by decide) ?_
      refine lv_goto (tgt := 63) hx hb d_Q_init_59 (by decide) ?_
      exact (show mk = 7 from by rw [hmk, ← emm, if_pos c_11]) ▸ hk
  refine hj ?_
  refine lv_aload_n hx hb d_Q_init_63 rfl (lv_at hl 1 rfl) ?_
  have hPc : va_P D vwCl [zO 3 n_3 [.int 0, .null, .int 0, .int 0, .int 0, .null, .null, .null, .int 0, .int 0, .int 0, .int 0, .int 0, .int 0, .null]] H := xd_P hP (fun q h => List.mem_append_right _ h)
  have hDc : va_D A [zO 3 n_3 [.int 0, .null, .int 0, .int 0, .int 0, .null, .null, .null, .int 0, .int 0, .int 0, .int 0, .int 0, .int 0, .null]] := xd_R hD
  refine xe_sfxv (wr := (([zO 7 xa [.ref q_1, .ref q_2, .int 0], zA t 4 q_2 7 (va_up (va_up (va_up (fun _ => none) (0 : Int32).toNatClampNeg (some (qf_0 0))) (1 : Int32).toNatClampNeg (some (qf_1 0))) (2 : Int32).toNatClampNeg (some (qf_2 0)))] ++ [zO 2 q_1 [.ref rw, .int 0, .int 0, .int 0, .int 0], zA t 3 rw 300 (fun _ => none)]) ++ wN t qf_0 q_1 nof_0 0 mk (8, false, 0, 0, -1, 0, 0) ++ wN t qf_1 q_1 nof_1 1 mk (11, false, 0, 0, -1, 0, 0) ++ wN t qf_2 q_1 nof_2 2 mk (14, false, 0, 0, -1, 0, 0))) (wc := [zO 3 n_3 [.int 0, .null, .int 0, .int 0, .int 0, .null, .null, .null, .int 0, .int 0, .int 0, .int 0, .int 0, .int 0, .null]]) (xs_I (As := [.int 3, .int mk, .ref q_1]) (rest := [.ref n_3, .int 3, .ref q_2]) Z (C_D_init l D t n_3 q_1 3 mk H.size) m_D_init k_63 k_64 rfl rfl rfl ⟨Nat.le_of_ble_eq_true rfl, Nat.le_of_ble_eq_true rfl⟩ (xe_pre hK hPc hDc) rfl hl.1 rfl (Nat.le_of_ble_eq_true rfl) d_Q_init_64 ⟨Nat.le_of_ble_eq_true rfl, Nat.le_of_ble_eq_true rfl⟩) hP hD hS hA (fun u_ H locs hw hP2 hD2 hS2 => ?_)
  obtain ⟨qf_3, nof_3⟩ := u_
  dsimp only at hw
  subst hw
  have hS := hS2
  have hP : va_P D vwCl (([zO 7 xa [.ref q_1, .ref q_2, .int 0], zA t 4 q_2 7 (va_up (va_up (va_up (fun _ => none) (0 : Int32).toNatClampNeg (some (qf_0 0))) (1 : Int32).toNatClampNeg (some (qf_1 0))) (2 : Int32).toNatClampNeg (some (qf_2 0)))] ++ [zO 2 q_1 [.ref rw, .int 0, .int 0, .int 0, .int 0], zA t 3 rw 300 (fun _ => none)]) ++ wN t qf_0 q_1 nof_0 0 mk (8, false, 0, 0, -1, 0, 0) ++ wN t qf_1 q_1 nof_1 1 mk (11, false, 0, 0, -1, 0, 0) ++ wN t qf_2 q_1 nof_2 2 mk (14, false, 0, 0, -1, 0, 0) ++ wN t qf_3 q_1 nof_3 3 mk (17, false, 0, 0, -1, 0, 0)) H := hP2
  have hD : va_D A (([zO 7 xa [.ref q_1, .ref q_2, .int 0], zA t 4 q_2 7 (va_up (va_up (va_up (fun _ => none) (0 : Int32).toNatClampNeg (some (qf_0 0))) (1 : Int32).toNatClampNeg (some (qf_1 0))) (2 : Int32).toNatClampNeg (some (qf_2 0)))] ++ [zO 2 q_1 [.ref rw, .int 0, .int 0, .int 0, .int 0], zA t 3 rw 300 (fun _ => none)]) ++ wN t qf_0 q_1 nof_0 0 mk (8, false, 0, 0, -1, 0, 0) ++ wN t qf_1 q_1 nof_1 1 mk (11, false, 0, 0, -1, 0, 0) ++ wN t qf_2 q_1 nof_2 2 mk (14, false, 0, 0, -1, 0, 0) ++ wN t qf_3 q_1 nof_3 3 mk (17, false, 0, 0, -1, 0, 0)) := hD2
  refine va_astq hx hb hK.2 hP hD hS 1 4 79 3 rfl rfl rfl rfl (by unfold vp_in; decide) d_Q_init_67 (fun H locs hP hD hS => ?_)
  have hP : va_P D vwCl (([zO 7 xa [.ref q_1, .ref q_2, .int 0], zA t 4 q_2 7 (va_up (va_up (va_up (va_up (fun _ => none) (0 : Int32).toNatClampNeg (some (qf_0 0))) (1 : Int32).toNatClampNeg (some (qf_1 0))) (2 : Int32).toNatClampNeg (some (qf_2 0))) (3 : Int32).toNatClampNeg (some (qf_3 0)))] ++ [zO 2 q_1 [.ref rw, .int 0, .int 0, .int 0, .int 0], zA t 3 rw 300 (fun _ => none)]) ++ wN t qf_0 q_1 nof_0 0 mk (8, false, 0, 0, -1, 0, 0) ++ wN t qf_1 q_1 nof_1 1 mk (11, false, 0, 0, -1, 0, 0) ++ wN t qf_2 q_1 nof_2 2 mk (14, false, 0, 0, -1, 0, 0) ++ wN t qf_3 q_1 nof_3 3 mk (17, false, 0, 0, -1, 0, 0)) H := hP
  have hD : va_D A (([zO 7 xa [.ref q_1, .ref q_2, .int 0], zA t 4 q_2 7 (va_up (va_up (va_up (va_up (fun _ => none) (0 : Int32).toNatClampNeg (some (qf_0 0))) (1 : Int32).toNatClampNeg (some (qf_1 0))) (2 : Int32).toNatClampNeg (some (qf_2 0))) (3 : Int32).toNatClampNeg (some (qf_3 0)))] ++ [zO 2 q_1 [.ref rw, .int 0, .int 0, .int 0, .int 0], zA t 3 rw 300 (fun _ => none)]) ++ wN t qf_0 q_1 nof_0 0 mk (8, false, 0, 0, -1, 0, 0) ++ wN t qf_1 q_1 nof_1 1 mk (11, false, 0, 0, -1, 0, 0) ++ wN t qf_2 q_1 nof_2 2 mk (14, false, 0, 0, -1, 0, 0) ++ wN t qf_3 q_1 nof_3 3 mk (17, false, 0, 0, -1, 0, 0)) := hD
  refine lv_iinc (v := 4) (lv' := [(4, .int 4), (3, .ref q_1), (2, .int mm), (0, .ref xa), (1, .int mem)]) hx hb d_Q_init_68 hl (k := 0) rfl rfl (by decide) rfl (fun ls hl => ?_)
  refine lv_goto (tgt := 34) hx hb d_Q_init_71 (by decide) ?_
  refine lv_iload hx hb d_Q_init_34 (lv_at hl 0 rfl) ?_
  refine lv_bipush (v := 7) hx hb d_Q_init_36 (by decide) ?_
  refine lv_icmp_ge (tgt := 74) hx hb d_Q_init_38 (by decide) (fun c_12 => absurd c_12 (by decide)) (fun _ => ?_)
  refine lv_aload_n hx hb d_Q_init_41 rfl (lv_at hl 3 rfl) ?_
  refine va_get (ci := 7) (C := "QuorumStore") (T := TX7) (N := 3) hx hb hts inX7 hown hK.2 hP 0 rfl rfl 1 (by decide) (hts _ k_256) (fun _ h9 => h9) rfl d_Q_init_42 ?_
  refine lv_iload hx hb d_Q_init_45 (lv_at hl 0 rfl) ?_
  refine va_new (ci := 3) (fs := [.int 0, .null, .int 0, .int 0, .int 0, .null, .null, .null, .int 0, .int 0, .int 0, .int 0, .int 0, .int 0, .null]) (C := "QuorumStore$Node") (T := TX3) (N := 15) hx hb hts inX3 tyX3 okX3 hown (hts _ k_60) (hts _ k_62) (hts _ k_3) hK.2 hP hD hS hA rfl (by decide) (Nat.le_of_ble_eq_true rfl) (Nat.le_of_ble_eq_true rfl) d_Q_init_47 (fun n_4 H hP hD hS => ?_)
  refine lv_dup hx hb d_Q_init_50 rfl ?_
  refine lv_iload hx hb d_Q_init_51 (lv_at hl 0 rfl) ?_
  have hj : W p l e ({ frames := 4, cells := 185, slots := 3917, locals := 89 } : Room) s m ([.ref xa, .int mem] : List Value).toArray below meth c H locs 108 2387 (MQ below ((xe_v D vwCl (fun _ : Nat × Nat × Nat × (Nat → Nat → Nat) × (Nat → Nat) => True) (fun u => (([zO 7 xa [.ref u.1, .ref u.2.1, .int 0], zA t 4 u.2.1 7 (fun j => some (u.2.2.2.1 j 0))] ++ [zO 2 u.1 [.ref u.2.2.1, .int 0, .int 0, .int 0, .int 0], zA t 3 u.2.2.1 300 (fun _ => none)]) ++ wNs t u.2.2.2.1 u.1 u.2.2.2.2 mk [(0, (8, false, 0, 0, -1, 0, 0)), (1, (11, false, 0, 0, -1, 0, 0)), (2, (14, false, 0, 0, -1, 0, 0)), (3, (17, false, 0, 0, -1, 0, 0)), (4, (20, false, 0, 0, -1, 0, 0)), (5, (23, false, 0, 0, -1, 0, 0)), (6, (26, false, 0, 0, -1, 0, 0))]))) A) ([.ref xa, .int mem] : List Value).toArray s 185 3917 A) (F0 m 63 ls [.int mk, .int 4, .ref n_4, .ref n_4, .int 4, .ref q_2]) → W p l e ({ frames := 4, cells := 185, slots := 3917, locals := 89 } : Room) s m ([.ref xa, .int mem] : List Value).toArray below meth c H locs 108 2387 (MQ below ((xe_v D vwCl (fun _ : Nat × Nat × Nat × (Nat → Nat → Nat) × (Nat → Nat) => True) (fun u => (([zO 7 xa [.ref u.1, .ref u.2.1, .int 0], zA t 4 u.2.1 7 (fun j => some (u.2.2.2.1 j 0))] ++ [zO 2 u.1 [.ref u.2.2.1, .int 0, .int 0, .int 0, .int 0], zA t 3 u.2.2.1 300 (fun _ => none)]) ++ wNs t u.2.2.2.1 u.1 u.2.2.2.2 mk [(0, (8, false, 0, 0, -1, 0, 0)), (1, (11, false, 0, 0, -1, 0, 0)), (2, (14, false, 0, 0, -1, 0, 0)), (3, (17, false, 0, 0, -1, 0, 0)), (4, (20, false, 0, 0, -1, 0, 0)), (5, (23, false, 0, 0, -1, 0, 0)), (6, (26, false, 0, 0, -1, 0, 0))]))) A) ([.ref xa, .int mem] : List Value).toArray s 185 3917 A) (F0 m 53 ls [.int 4, .ref n_4, .ref n_4, .int 4, .ref q_2]) := by
    intro hk
    refine lv_iload_n hx hb d_Q_init_53 rfl (lv_at hl 2 rfl) ?_
    refine lv_if_ne (tgt := 62) hx hb d_Q_init_54 (by decide) (fun c_13 => ?_) (fun c_13 => ?_)
    · refine lv_iload_n hx hb d_Q_init_62 rfl (lv_at hl 2 rfl) ?_
      exact (show mk = mm from by rw [hmk, ← emm, if_neg c_13]) ▸ hk
    · refine lv_bipush (v := 7) hx hb d_Q_init_57 (by decide) ?_
      refine lv_goto (tgt := 63) hx hb d_Q_init_59 (by decide) ?_
      exact (show mk = 7 from by rw [hmk, ← emm, if_pos c_13]) ▸ hk
  refine hj ?_
  refine lv_aload_n hx hb d_Q_init_63 rfl (lv_at hl 1 rfl) ?_
  have hPc : va_P D vwCl [zO 3 n_4 [.int 0, .null, .int 0, .int 0, .int 0, .null, .null, .null, .int 0, .int 0, .int 0, .int 0, .int 0, .int 0, .null]] H := xd_P hP (fun q h => List.mem_append_right _ h)
  have hDc : va_D A [zO 3 n_4 [.int 0, .null, .int 0, .int 0, .int 0, .null, .null, .null, .int 0, .int 0, .int 0, .int 0, .int 0, .int 0, .null]] := xd_R hD
  refine xe_sfxv (wr := (([zO 7 xa [.ref q_1, .ref q_2, .int 0], zA t 4 q_2 7 (va_up (va_up (va_up (va_up (fun _ => none) (0 : Int32).toNatClampNeg (some (qf_0 0))) (1 : Int32).toNatClampNeg (some (qf_1 0))) (2 : Int32).toNatClampNeg (some (qf_2 0))) (3 : Int32).toNatClampNeg (some (qf_3 0)))] ++ [zO 2 q_1 [.ref rw, .int 0, .int 0, .int 0, .int 0], zA t 3 rw 300 (fun _ => none)]) ++ wN t qf_0 q_1 nof_0 0 mk (8, false, 0, 0, -1, 0, 0) ++ wN t qf_1 q_1 nof_1 1 mk (11, false, 0, 0, -1, 0, 0) ++ wN t qf_2 q_1 nof_2 2 mk (14, false, 0, 0, -1, 0, 0) ++ wN t qf_3 q_1 nof_3 3 mk (17, false, 0, 0, -1, 0, 0))) (wc := [zO 3 n_4 [.int 0, .null, .int 0, .int 0, .int 0, .null, .null, .null, .int 0, .int 0, .int 0, .int 0, .int 0, .int 0, .null]]) (xs_I (As := [.int 4, .int mk, .ref q_1]) (rest := [.ref n_4, .int 4, .ref q_2]) Z (C_D_init l D t n_4 q_1 4 mk H.size) m_D_init k_63 k_64 rfl rfl rfl ⟨Nat.le_of_ble_eq_true rfl, Nat.le_of_ble_eq_true rfl⟩ (xe_pre hK hPc hDc) rfl hl.1 rfl (Nat.le_of_ble_eq_true rfl) d_Q_init_64 ⟨Nat.le_of_ble_eq_true rfl, Nat.le_of_ble_eq_true rfl⟩) hP hD hS hA (fun u_ H locs hw hP2 hD2 hS2 => ?_)
  obtain ⟨qf_4, nof_4⟩ := u_
  dsimp only at hw
  subst hw
  have hS := hS2
  have hP : va_P D vwCl (([zO 7 xa [.ref q_1, .ref q_2, .int 0], zA t 4 q_2 7 (va_up (va_up (va_up (va_up (fun _ => none) (0 : Int32).toNatClampNeg (some (qf_0 0))) (1 : Int32).toNatClampNeg (some (qf_1 0))) (2 : Int32).toNatClampNeg (some (qf_2 0))) (3 : Int32).toNatClampNeg (some (qf_3 0)))] ++ [zO 2 q_1 [.ref rw, .int 0, .int 0, .int 0, .int 0], zA t 3 rw 300 (fun _ => none)]) ++ wN t qf_0 q_1 nof_0 0 mk (8, false, 0, 0, -1, 0, 0) ++ wN t qf_1 q_1 nof_1 1 mk (11, false, 0, 0, -1, 0, 0) ++ wN t qf_2 q_1 nof_2 2 mk (14, false, 0, 0, -1, 0, 0) ++ wN t qf_3 q_1 nof_3 3 mk (17, false, 0, 0, -1, 0, 0) ++ wN t qf_4 q_1 nof_4 4 mk (20, false, 0, 0, -1, 0, 0)) H := hP2
  have hD : va_D A (([zO 7 xa [.ref q_1, .ref q_2, .int 0], zA t 4 q_2 7 (va_up (va_up (va_up (va_up (fun _ => none) (0 : Int32).toNatClampNeg (some (qf_0 0))) (1 : Int32).toNatClampNeg (some (qf_1 0))) (2 : Int32).toNatClampNeg (some (qf_2 0))) (3 : Int32).toNatClampNeg (some (qf_3 0)))] ++ [zO 2 q_1 [.ref rw, .int 0, .int 0, .int 0, .int 0], zA t 3 rw 300 (fun _ => none)]) ++ wN t qf_0 q_1 nof_0 0 mk (8, false, 0, 0, -1, 0, 0) ++ wN t qf_1 q_1 nof_1 1 mk (11, false, 0, 0, -1, 0, 0) ++ wN t qf_2 q_1 nof_2 2 mk (14, false, 0, 0, -1, 0, 0) ++ wN t qf_3 q_1 nof_3 3 mk (17, false, 0, 0, -1, 0, 0) ++ wN t qf_4 q_1 nof_4 4 mk (20, false, 0, 0, -1, 0, 0)) := hD2
  refine va_astq hx hb hK.2 hP hD hS 1 4 104 3 rfl rfl rfl rfl (by unfold vp_in; decide) d_Q_init_67 (fun H locs hP hD hS => ?_)
  have hP : va_P D vwCl (([zO 7 xa [.ref q_1, .ref q_2, .int 0], zA t 4 q_2 7 (va_up (va_up (va_up (va_up (va_up (fun _ => none) (0 : Int32).toNatClampNeg (some (qf_0 0))) (1 : Int32).toNatClampNeg (some (qf_1 0))) (2 : Int32).toNatClampNeg (some (qf_2 0))) (3 : Int32).toNatClampNeg (some (qf_3 0))) (4 : Int32).toNatClampNeg (some (qf_4 0)))] ++ [zO 2 q_1 [.ref rw, .int 0, .int 0, .int 0, .int 0], zA t 3 rw 300 (fun _ => none)]) ++ wN t qf_0 q_1 nof_0 0 mk (8, false, 0, 0, -1, 0, 0) ++ wN t qf_1 q_1 nof_1 1 mk (11, false, 0, 0, -1, 0, 0) ++ wN t qf_2 q_1 nof_2 2 mk (14, false, 0, 0, -1, 0, 0) ++ wN t qf_3 q_1 nof_3 3 mk (17, false, 0, 0, -1, 0, 0) ++ wN t qf_4 q_1 nof_4 4 mk (20, false, 0, 0, -1, 0, 0)) H := hP
  have hD : va_D A (([zO 7 xa [.ref q_1, .ref q_2, .int 0], zA t 4 q_2 7 (va_up (va_up (va_up (va_up (va_up (fun _ => none) (0 : Int32).toNatClampNeg (some (qf_0 0))) (1 : Int32).toNatClampNeg (some (qf_1 0))) (2 : Int32).toNatClampNeg (some (qf_2 0))) (3 : Int32).toNatClampNeg (some (qf_3 0))) (4 : Int32).toNatClampNeg (some (qf_4 0)))] ++ [zO 2 q_1 [.ref rw, .int 0, .int 0, .int 0, .int 0], zA t 3 rw 300 (fun _ => none)]) ++ wN t qf_0 q_1 nof_0 0 mk (8, false, 0, 0, -1, 0, 0) ++ wN t qf_1 q_1 nof_1 1 mk (11, false, 0, 0, -1, 0, 0) ++ wN t qf_2 q_1 nof_2 2 mk (14, false, 0, 0, -1, 0, 0) ++ wN t qf_3 q_1 nof_3 3 mk (17, false, 0, 0, -1, 0, 0) ++ wN t qf_4 q_1 nof_4 4 mk (20, false, 0, 0, -1, 0, 0)) := hD
  refine lv_iinc (v := 5) (lv' := [(4, .int 5), (3, .ref q_1), (2, .int mm), (0, .ref xa), (1, .int mem)]) hx hb d_Q_init_68 hl (k := 0) rfl rfl (by decide) rfl (fun ls hl => ?_)
  refine lv_goto (tgt := 34) hx hb d_Q_init_71 (by decide) ?_
  refine lv_iload hx hb d_Q_init_34 (lv_at hl 0 rfl) ?_
  refine lv_bipush (v := 7) hx hb d_Q_init_36 (by decide) ?_
  refine lv_icmp_ge (tgt := 74) hx hb d_Q_init_38 (by decide) (fun c_14 => absurd c_14 (by decide)) (fun _ => ?_)
  refine lv_aload_n hx hb d_Q_init_41 rfl (lv_at hl 3 rfl) ?_
  refine va_get (ci := 7) (C := "QuorumStore") (T := TX7) (N := 3) hx hb hts inX7 hown hK.2 hP 0 rfl rfl 1 (by decide) (hts _ k_256) (fun _ h9 => h9) rfl d_Q_init_42 ?_
  refine lv_iload hx hb d_Q_init_45 (lv_at hl 0 rfl) ?_
  refine va_new (ci := 3) (fs := [.int 0, .null, .int 0, .int 0, .int 0, .null, .null, .null, .int 0, .int 0, .int 0, .int 0, .int 0, .int 0, .null]) (C := "QuorumStore$Node") (T := TX3) (N := 15) hx hb hts inX3 tyX3 okX3 hown (hts _ k_60) (hts _ k_62) (hts _ k_3) hK.2 hP hD hS hA rfl (by decide) (Nat.le_of_ble_eq_true rfl) (Nat.le_of_ble_eq_true rfl) d_Q_init_47 (fun n_5 H hP hD hS => ?_)
  refine lv_dup hx hb d_Q_init_50 rfl ?_
  refine lv_iload hx hb d_Q_init_51 (lv_at hl 0 rfl) ?_
  have hj : W p l e ({ frames := 4, cells := 185, slots := 3917, locals := 89 } : Room) s m ([.ref xa, .int mem] : List Value).toArray below meth c H locs 134 2902 (MQ below ((xe_v D vwCl (fun _ : Nat × Nat × Nat × (Nat → Nat → Nat) × (Nat → Nat) => True) (fun u => (([zO 7 xa [.ref u.1, .ref u.2.1, .int 0], zA t 4 u.2.1 7 (fun j => some (u.2.2.2.1 j 0))] ++ [zO 2 u.1 [.ref u.2.2.1, .int 0, .int 0, .int 0, .int 0], zA t 3 u.2.2.1 300 (fun _ => none)]) ++ wNs t u.2.2.2.1 u.1 u.2.2.2.2 mk [(0, (8, false, 0, 0, -1, 0, 0)), (1, (11, false, 0, 0, -1, 0, 0)), (2, (14, false, 0, 0, -1, 0, 0)), (3, (17, false, 0, 0, -1, 0, 0)), (4, (20, false, 0, 0, -1, 0, 0)), (5, (23, false, 0, 0, -1, 0, 0)), (6, (26, false, 0, 0, -1, 0, 0))]))) A) ([.ref xa, .int mem] : List Value).toArray s 185 3917 A) (F0 m 63 ls [.int mk, .int 5, .ref n_5, .ref n_5, .int 5, .ref q_2]) → W p l e ({ frames := 4, cells := 185, slots := 3917, locals := 89 } : Room) s m ([.ref xa, .int mem] : List Value).toArray below meth c H locs 134 2902 (MQ below ((xe_v D vwCl (fun _ : Nat × Nat × Nat × (Nat → Nat → Nat) × (Nat → Nat) => True) (fun u => (([zO 7 xa [.ref u.1, .ref u.2.1, .int 0], zA t 4 u.2.1 7 (fun j => some (u.2.2.2.1 j 0))] ++ [zO 2 u.1 [.ref u.2.2.1, .int 0, .int 0, .int 0, .int 0], zA t 3 u.2.2.1 300 (fun _ => none)]) ++ wNs t u.2.2.2.1 u.1 u.2.2.2.2 mk [(0, (8, false, 0, 0, -1, 0, 0)), (1, (11, false, 0, 0, -1, 0, 0)), (2, (14, false, 0, 0, -1, 0, 0)), (3, (17, false, 0, 0, -1, 0, 0)), (4, (20, false, 0, 0, -1, 0, 0)), (5, (23, false, 0, 0, -1, 0, 0)), (6, (26, false, 0, 0, -1, 0, 0))]))) A) ([.ref xa, .int mem] : List Value).toArray s 185 3917 A) (F0 m 53 ls [.int 5, .ref n_5, .ref n_5, .int 5, .ref q_2]) := by
    intro hk
    refine lv_iload_n hx hb d_Q_init_53 rfl (lv_at hl 2 rfl) ?_
    refine lv_if_ne (tgt := 62) hx hb d_Q_init_54 (by decide) (fun c_15 => ?_) (fun c_15 => ?_)
    · refine lv_iload_n hx hb d_Q_init_62 rfl (lv_at hl 2 rfl) ?_
      exact (show mk = mm from by rw [hmk, ← emm, if_neg c_15]) ▸ hk
    · refine lv_bipush (v := 7) hx hb d_Q_init_57 (by decide) ?_
      refine lv_goto (tgt := 63) hx hb d_Q_init_59 (by decide) ?_
      exact (show mk = 7 from by rw [hmk, ← emm, if_pos c_15]) ▸ hk
  refine hj ?_
  refine lv_aload_n hx hb d_Q_init_63 rfl (lv_at hl 1 rfl) ?_
  have hPc : va_P D vwCl [zO 3 n_5 [.int 0, .null, .int 0, .int 0, .int 0, .null, .null, .null, .int 0, .int 0, .int 0, .int 0, .int 0, .int 0, .null]] H := xd_P hP (fun q h => List.mem_append_right _ h)
  have hDc : va_D A [zO 3 n_5 [.int 0, .null, .int 0, .int 0, .int 0, .null, .null, .null, .int 0, .int 0, .int 0, .int 0, .int 0, .int 0, .null]] := xd_R hD
  refine xe_sfxv (wr := (([zO 7 xa [.ref q_1, .ref q_2, .int 0], zA t 4 q_2 7 (va_up (va_up (va_up (va_up (va_up (fun _ => none) (0 : Int32).toNatClampNeg (some (qf_0 0))) (1 : Int32).toNatClampNeg (some (qf_1 0))) (2 : Int32).toNatClampNeg (some (qf_2 0))) (3 : Int32).toNatClampNeg (some (qf_3 0))) (4 : Int32).toNatClampNeg (some (qf_4 0)))] ++ [zO 2 q_1 [.ref rw, .int 0, .int 0, .int 0, .int 0], zA t 3 rw 300 (fun _ => none)]) ++ wN t qf_0 q_1 nof_0 0 mk (8, false, 0, 0, -1, 0, 0) ++ wN t qf_1 q_1 nof_1 1 mk (11, false, 0, 0, -1, 0, 0) ++ wN t qf_2 q_1 nof_2 2 mk (14, false, 0, 0, -1, 0, 0) ++ wN t qf_3 q_1 nof_3 3 mk (17, false, 0, 0, -1, 0, 0) ++ wN t qf_4 q_1 nof_4 4 mk (20, false, 0, 0, -1, 0, 0))) (wc := [zO 3 n_5 [.int 0, .null, .int 0, .int 0, .int 0, .null, .null, .null, .int 0, .int 0, .int 0, .int 0, .int 0, .int 0, .null]]) (xs_I (As := [.int 5, .int mk, .ref q_1]) (rest := [.ref n_5, .int 5, .ref q_2]) Z (C_D_init l D t n_5 q_1 5 mk H.size) m_D_init k_63 k_64 rfl rfl rfl ⟨Nat.le_of_ble_eq_true rfl, Nat.le_of_ble_eq_true rfl⟩ (xe_pre hK hPc hDc) rfl hl.1 rfl (Nat.le_of_ble_eq_true rfl) d_Q_init_64 ⟨Nat.le_of_ble_eq_true rfl, Nat.le_of_ble_eq_true rfl⟩) hP hD hS hA (fun u_ H locs hw hP2 hD2 hS2 => ?_)
  obtain ⟨qf_5, nof_5⟩ := u_
  dsimp only at hw
  subst hw
  have hS := hS2
  have hP : va_P D vwCl (([zO 7 xa [.ref q_1, .ref q_2, .int 0], zA t 4 q_2 7 (va_up (va_up (va_up (va_up (va_up (fun _ => none) (0 : Int32).toNatClampNeg (some (qf_0 0))) (1 : Int32).toNatClampNeg (some (qf_1 0))) (2 : Int32).toNatClampNeg (some (qf_2 0))) (3 : Int32).toNatClampNeg (some (qf_3 0))) (4 : Int32).toNatClampNeg (some (qf_4 0)))] ++ [zO 2 q_1 [.ref rw, .int 0, .int 0, .int 0, .int 0], zA t 3 rw 300 (fun _ => none)]) ++ wN t qf_0 q_1 nof_0 0 mk (8, false, 0, 0, -1, 0, 0) ++ wN t qf_1 q_1 nof_1 1 mk (11, false, 0, 0, -1, 0, 0) ++ wN t qf_2 q_1 nof_2 2 mk (14, false, 0, 0, -1, 0, 0) ++ wN t qf_3 q_1 nof_3 3 mk (17, false, 0, 0, -1, 0, 0) ++ wN t qf_4 q_1 nof_4 4 mk (20, false, 0, 0, -1, 0, 0) ++ wN t qf_5 q_1 nof_5 5 mk (23, false, 0, 0, -1, 0, 0)) H := hP2
  have hD : va_D A (([zO 7 xa [.ref q_1, .ref q_2, .int 0], zA t 4 q_2 7 (va_up (va_up (va_up (va_up (va_up (fun _ => none) (0 : Int32).toNatClampNeg (some (qf_0 0))) (1 : Int32).toNatClampNeg (some (qf_1 0))) (2 : Int32).toNatClampNeg (some (qf_2 0))) (3 : Int32).toNatClampNeg (some (qf_3 0))) (4 : Int32).toNatClampNeg (some (qf_4 0)))] ++ [zO 2 q_1 [.ref rw, .int 0, .int 0, .int 0, .int 0], zA t 3 rw 300 (fun _ => none)]) ++ wN t qf_0 q_1 nof_0 0 mk (8, false, 0, 0, -1, 0, 0) ++ wN t qf_1 q_1 nof_1 1 mk (11, false, 0, 0, -1, 0, 0) ++ wN t qf_2 q_1 nof_2 2 mk (14, false, 0, 0, -1, 0, 0) ++ wN t qf_3 q_1 nof_3 3 mk (17, false, 0, 0, -1, 0, 0) ++ wN t qf_4 q_1 nof_4 4 mk (20, false, 0, 0, -1, 0, 0) ++ wN t qf_5 q_1 nof_5 5 mk (23, false, 0, 0, -1, 0, 0)) := hD2
  refine va_astq hx hb hK.2 hP hD hS 1 4 129 3 rfl rfl rfl rfl (by unfold vp_in; decide) d_Q_init_67 (fun H locs hP hD hS => ?_)
  have hP : va_P D vwCl (([zO 7 xa [.ref q_1, .ref q_2, .int 0], zA t 4 q_2 7 (va_up (va_up (va_up (va_up (va_up (va_up (fun _ => none) (0 : Int32).toNatClampNeg (some (qf_0 0))) (1 : Int32).toNatClampNeg (some (qf_1 0))) (2 : Int32).toNatClampNeg (some (qf_2 0))) (3 : Int32).toNatClampNeg (some (qf_3 0))) (4 : Int32).toNatClampNeg (some (qf_4 0))) (5 : Int32).toNatClampNeg (some (qf_5 0)))] ++ [zO 2 q_1 [.ref rw, .int 0, .int 0, .int 0, .int 0], zA t 3 rw 300 (fun _ => none)]) ++ wN t qf_0 q_1 nof_0 0 mk (8, false, 0, 0, -1, 0, 0) ++ wN t qf_1 q_1 nof_1 1 mk (11, false, 0, 0, -1, 0, 0) ++ wN t qf_2 q_1 nof_2 2 mk (14, false, 0, 0, -1, 0, 0) ++ wN t qf_3 q_1 nof_3 3 mk (17, false, 0, 0, -1, 0, 0) ++ wN t qf_4 q_1 nof_4 4 mk (20, false, 0, 0, -1, 0, 0) ++ wN t qf_5 q_1 nof_5 5 mk (23, false, 0, 0, -1, 0, 0)) H := hP
  have hD : va_D A (([zO 7 xa [.ref q_1, .ref q_2, .int 0], zA t 4 q_2 7 (va_up (va_up (va_up (va_up (va_up (va_up (fun _ => none) (0 : Int32).toNatClampNeg (some (qf_0 0))) (1 : Int32).toNatClampNeg (some (qf_1 0))) (2 : Int32).toNatClampNeg (some (qf_2 0))) (3 : Int32).toNatClampNeg (some (qf_3 0))) (4 : Int32).toNatClampNeg (some (qf_4 0))) (5 : Int32).toNatClampNeg (some (qf_5 0)))] ++ [zO 2 q_1 [.ref rw, .int 0, .int 0, .int 0, .int 0], zA t 3 rw 300 (fun _ => none)]) ++ wN t qf_0 q_1 nof_0 0 mk (8, false, 0, 0, -1, 0, 0) ++ wN t qf_1 q_1 nof_1 1 mk (11, false, 0, 0, -1, 0, 0) ++ wN t qf_2 q_1 nof_2 2 mk (14, false, 0, 0, -1, 0, 0) ++ wN t qf_3 q_1 nof_3 3 mk (17, false, 0, 0, -1, 0, 0) ++ wN t qf_4 q_1 nof_4 4 mk (20, false, 0, 0, -1, 0, 0) ++ wN t qf_5 q_1 nof_5 5 mk (23, false, 0, 0, -1, 0, 0)) := hD
  refine lv_iinc (v := 6) (lv' := [(4, .int 6), (3, .ref q_1), (2, .int mm), (0, .ref xa), (1, .int mem)]) hx hb d_Q_init_68 hl (k := 0) rfl rfl (by decide) rfl (fun ls hl => ?_)
  refine lv_goto (tgt := 34) hx hb d_Q_init_71 (by decide) ?_
  refine lv_iload hx hb d_Q_init_34 (lv_at hl 0 rfl) ?_
  refine lv_bipush (v := 7) hx hb d_Q_init_36 (by decide) ?_
  refine lv_icmp_ge (tgt := 74) hx hb d_Q_init_38 (by decide) (fun c_16 => absurd c_16 (by decide)) (fun _ => ?_)
  refine lv_aload_n hx hb d_Q_init_41 rfl (lv_at hl 3 rfl) ?_
  refine va_get (ci := 7) (C := "QuorumStore") (T := TX7) (N := 3) hx hb hts inX7 hown hK.2 hP 0 rfl rfl 1 (by decide) (hts _ k_256) (fun _ h9 => h9) rfl d_Q_init_42 ?_
  refine lv_iload hx hb d_Q_init_45 (lv_at hl 0 rfl) ?_
  refine va_new (ci := 3) (fs := [.int 0, .null, .int 0, .int 0, .int 0, .null, .null, .null, .int 0, .int 0, .int 0, .int 0, .int 0, .int 0, .null]) (C := "QuorumStore$Node") (T := TX3) (N := 15) hx hb hts inX3 tyX3 okX3 hown (hts _ k_60) (hts _ k_62) (hts _ k_3) hK.2 hP hD hS hA rfl (by decide) (Nat.le_of_ble_eq_true rfl) (Nat.le_of_ble_eq_true rfl) d_Q_init_47 (fun n_6 H hP hD hS => ?_)
  refine lv_dup hx hb d_Q_init_50 rfl ?_
  refine lv_iload hx hb d_Q_init_51 (lv_at hl 0 rfl) ?_
  have hj : W p l e ({ frames := 4, cells := 185, slots := 3917, locals := 89 } : Room) s m ([.ref xa, .int mem] : List Value).toArray below meth c H locs 160 3417 (MQ below ((xe_v D vwCl (fun _ : Nat × Nat × Nat × (Nat → Nat → Nat) × (Nat → Nat) => True) (fun u => (([zO 7 xa [.ref u.1, .ref u.2.1, .int 0], zA t 4 u.2.1 7 (fun j => some (u.2.2.2.1 j 0))] ++ [zO 2 u.1 [.ref u.2.2.1, .int 0, .int 0, .int 0, .int 0], zA t 3 u.2.2.1 300 (fun _ => none)]) ++ wNs t u.2.2.2.1 u.1 u.2.2.2.2 mk [(0, (8, false, 0, 0, -1, 0, 0)), (1, (11, false, 0, 0, -1, 0, 0)), (2, (14, false, 0, 0, -1, 0, 0)), (3, (17, false, 0, 0, -1, 0, 0)), (4, (20, false, 0, 0, -1, 0, 0)), (5, (23, false, 0, 0, -1, 0, 0)), (6, (26, false, 0, 0, -1, 0, 0))]))) A) ([.ref xa, .int mem] : List Value).toArray s 185 3917 A) (F0 m 63 ls [.int mk, .int 6, .ref n_6, .ref n_6, .int 6, .ref q_2]) → W p l e ({ frames := 4, cells := 185, slots := 3917, locals := 89 } : Room) s m ([.ref xa, .int mem] : List Value).toArray below meth c H locs 160 3417 (MQ below ((xe_v D vwCl (fun _ : Nat × Nat × Nat × (Nat → Nat → Nat) × (Nat → Nat) => True) (fun u => (([zO 7 xa [.ref u.1, .ref u.2.1, .int 0], zA t 4 u.2.1 7 (fun j => some (u.2.2.2.1 j 0))] ++ [zO 2 u.1 [.ref u.2.2.1, .int 0, .int 0, .int 0, .int 0], zA t 3 u.2.2.1 300 (fun _ => none)]) ++ wNs t u.2.2.2.1 u.1 u.2.2.2.2 mk [(0, (8, false, 0, 0, -1, 0, 0)), (1, (11, false, 0, 0, -1, 0, 0)), (2, (14, false, 0, 0, -1, 0, 0)), (3, (17, false, 0, 0, -1, 0, 0)), (4, (20, false, 0, 0, -1, 0, 0)), (5, (23, false, 0, 0, -1, 0, 0)), (6, (26, false, 0, 0, -1, 0, 0))]))) A) ([.ref xa, .int mem] : List Value).toArray s 185 3917 A) (F0 m 53 ls [.int 6, .ref n_6, .ref n_6, .int 6, .ref q_2]) := by
    intro hk
    refine lv_iload_n hx hb d_Q_init_53 rfl (lv_at hl 2 rfl) ?_
    refine lv_if_ne (tgt := 62) hx hb d_Q_init_54 (by decide) (fun c_17 => ?_) (fun c_17 => ?_)
    · refine lv_iload_n hx hb d_Q_init_62 rfl (lv_at hl 2 rfl) ?_
      exact (show mk = mm from by rw [hmk, ← emm, if_neg c_17]) ▸ hk
    · refine lv_bipush (v := 7) hx hb d_Q_init_57 (by decide) ?_
      refine lv_goto (tgt := 63) hx hb d_Q_init_59 (by decide) ?_
      exact (show mk = 7 from by rw [hmk, ← emm, if_pos c_17]) ▸ hk
  refine hj ?_
  refine lv_aload_n hx hb d_Q_init_63 rfl (lv_at hl 1 rfl) ?_
  have hPc : va_P D vwCl [zO 3 n_6 [.int 0, .null, .int 0, .int 0, .int 0, .null, .null, .null, .int 0, .int 0, .int 0, .int 0, .int 0, .int 0, .null]] H := xd_P hP (fun q h => List.mem_append_right _ h)
  have hDc : va_D A [zO 3 n_6 [.int 0, .null, .int 0, .int 0, .int 0, .null, .null, .null, .int 0, .int 0, .int 0, .int 0, .int 0, .int 0, .null]] := xd_R hD
  refine xe_sfxv (wr := (([zO 7 xa [.ref q_1, .ref q_2, .int 0], zA t 4 q_2 7 (va_up (va_up (va_up (va_up (va_up (va_up (fun _ => none) (0 : Int32).toNatClampNeg (some (qf_0 0))) (1 : Int32).toNatClampNeg (some (qf_1 0))) (2 : Int32).toNatClampNeg (some (qf_2 0))) (3 : Int32).toNatClampNeg (some (qf_3 0))) (4 : Int32).toNatClampNeg (some (qf_4 0))) (5 : Int32).toNatClampNeg (some (qf_5 0)))] ++ [zO 2 q_1 [.ref rw, .int 0, .int 0, .int 0, .int 0], zA t 3 rw 300 (fun _ => none)]) ++ wN t qf_0 q_1 nof_0 0 mk (8, false, 0, 0, -1, 0, 0) ++ wN t qf_1 q_1 nof_1 1 mk (11, false, 0, 0, -1, 0, 0) ++ wN t qf_2 q_1 nof_2 2 mk (14, false, 0, 0, -1, 0, 0) ++ wN t qf_3 q_1 nof_3 3 mk (17, false, 0, 0, -1, 0, 0) ++ wN t qf_4 q_1 nof_4 4 mk (20, false, 0, 0, -1, 0, 0) ++ wN t qf_5 q_1 nof_5 5 mk (23, false, 0, 0, -1, 0, 0))) (wc := [zO 3 n_6 [.int 0, .null, .int 0, .int 0, .int 0, .null, .null, .null, .int 0, .int 0, .int 0, .int 0, .int 0, .int 0, .null]]) (xs_I (As := [.int 6, .int mk, .ref q_1]) (rest := [.ref n_6, .int 6, .ref q_2]) Z (C_D_init l D t n_6 q_1 6 mk H.size) m_D_init k_63 k_64 rfl rfl rfl ⟨Nat.le_of_ble_eq_true rfl, Nat.le_of_ble_eq_true rfl⟩ (xe_pre hK hPc hDc) rfl hl.1 rfl (Nat.le_of_ble_eq_true rfl) d_Q_init_64 ⟨Nat.le_of_ble_eq_true rfl, Nat.le_of_ble_eq_true rfl⟩) hP hD hS hA (fun u_ H locs hw hP2 hD2 hS2 => ?_)
  obtain ⟨qf_6, nof_6⟩ := u_
  dsimp only at hw
  subst hw
  have hS := hS2
  have hP : va_P D vwCl (([zO 7 xa [.ref q_1, .ref q_2, .int 0], zA t 4 q_2 7 (va_up (va_up (va_up (va_up (va_up (va_up (fun _ => none) (0 : Int32).toNatClampNeg (some (qf_0 0))) (1 : Int32).toNatClampNeg (some (qf_1 0))) (2 : Int32).toNatClampNeg (some (qf_2 0))) (3 : Int32).toNatClampNeg (some (qf_3 0))) (4 : Int32).toNatClampNeg (some (qf_4 0))) (5 : Int32).toNatClampNeg (some (qf_5 0)))] ++ [zO 2 q_1 [.ref rw, .int 0, .int 0, .int 0, .int 0], zA t 3 rw 300 (fun _ => none)]) ++ wN t qf_0 q_1 nof_0 0 mk (8, false, 0, 0, -1, 0, 0) ++ wN t qf_1 q_1 nof_1 1 mk (11, false, 0, 0, -1, 0, 0) ++ wN t qf_2 q_1 nof_2 2 mk (14, false, 0, 0, -1, 0, 0) ++ wN t qf_3 q_1 nof_3 3 mk (17, false, 0, 0, -1, 0, 0) ++ wN t qf_4 q_1 nof_4 4 mk (20, false, 0, 0, -1, 0, 0) ++ wN t qf_5 q_1 nof_5 5 mk (23, false, 0, 0, -1, 0, 0) ++ wN t qf_6 q_1 nof_6 6 mk (26, false, 0, 0, -1, 0, 0)) H := hP2
  have hD : va_D A (([zO 7 xa [.ref q_1, .ref q_2, .int 0], zA t 4 q_2 7 (va_up (va_up (va_up (va_up (va_up (va_up (fun _ => none) (0 : Int32).toNatClampNeg (some (qf_0 0))) (1 : Int32).toNatClampNeg (some (qf_1 0))) (2 : Int32).toNatClampNeg (some (qf_2 0))) (3 : Int32).toNatClampNeg (some (qf_3 0))) (4 : Int32).toNatClampNeg (some (qf_4 0))) (5 : Int32).toNatClampNeg (some (qf_5 0)))] ++ [zO 2 q_1 [.ref rw, .int 0, .int 0, .int 0, .int 0], zA t 3 rw 300 (fun _ => none)]) ++ wN t qf_0 q_1 nof_0 0 mk (8, false, 0, 0, -1, 0, 0) ++ wN t qf_1 q_1 nof_1 1 mk (11, false, 0, 0, -1, 0, 0) ++ wN t qf_2 q_1 nof_2 2 mk (14, false, 0, 0, -1, 0, 0) ++ wN t qf_3 q_1 nof_3 3 mk (17, false, 0, 0, -1, 0, 0) ++ wN t qf_4 q_1 nof_4 4 mk (20, false, 0, 0, -1, 0, 0) ++ wN t qf_5 q_1 nof_5 5 mk (23, false, 0, 0, -1, 0, 0) ++ wN t qf_6 q_1 nof_6 6 mk (26, false, 0, 0, -1, 0, 0)) := hD2
  refine va_astq hx hb hK.2 hP hD hS 1 4 154 3 rfl rfl rfl rfl (by unfold vp_in; decide) d_Q_init_67 (fun H locs hP hD hS => ?_)
  have hP : va_P D vwCl (([zO 7 xa [.ref q_1, .ref q_2, .int 0], zA t 4 q_2 7 (va_up (va_up (va_up (va_up (va_up (va_up (va_up (fun _ => none) (0 : Int32).toNatClampNeg (some (qf_0 0))) (1 : Int32).toNatClampNeg (some (qf_1 0))) (2 : Int32).toNatClampNeg (some (qf_2 0))) (3 : Int32).toNatClampNeg (some (qf_3 0))) (4 : Int32).toNatClampNeg (some (qf_4 0))) (5 : Int32).toNatClampNeg (some (qf_5 0))) (6 : Int32).toNatClampNeg (some (qf_6 0)))] ++ [zO 2 q_1 [.ref rw, .int 0, .int 0, .int 0, .int 0], zA t 3 rw 300 (fun _ => none)]) ++ wN t qf_0 q_1 nof_0 0 mk (8, false, 0, 0, -1, 0, 0) ++ wN t qf_1 q_1 nof_1 1 mk (11, false, 0, 0, -1, 0, 0) ++ wN t qf_2 q_1 nof_2 2 mk (14, false, 0, 0, -1, 0, 0) ++ wN t qf_3 q_1 nof_3 3 mk (17, false, 0, 0, -1, 0, 0) ++ wN t qf_4 q_1 nof_4 4 mk (20, false, 0, 0, -1, 0, 0) ++ wN t qf_5 q_1 nof_5 5 mk (23, false, 0, 0, -1, 0, 0) ++ wN t qf_6 q_1 nof_6 6 mk (26, false, 0, 0, -1, 0, 0)) H := hP
  have hD : va_D A (([zO 7 xa [.ref q_1, .ref q_2, .int 0], zA t 4 q_2 7 (va_up (va_up (va_up (va_up (va_up (va_up (va_up (fun _ => none) (0 : Int32).toNatClampNeg (some (qf_0 0))) (1 : Int32).toNatClampNeg (some (qf_1 0))) (2 : Int32).toNatClampNeg (some (qf_2 0))) (3 : Int32).toNatClampNeg (some (qf_3 0))) (4 : Int32).toNatClampNeg (some (qf_4 0))) (5 : Int32).toNatClampNeg (some (qf_5 0))) (6 : Int32).toNatClampNeg (some (qf_6 0)))] ++ [zO 2 q_1 [.ref rw, .int 0, .int 0, .int 0, .int 0], zA t 3 rw 300 (fun _ => none)]) ++ wN t qf_0 q_1 nof_0 0 mk (8, false, 0, 0, -1, 0, 0) ++ wN t qf_1 q_1 nof_1 1 mk (11, false, 0, 0, -1, 0, 0) ++ wN t qf_2 q_1 nof_2 2 mk (14, false, 0, 0, -1, 0, 0) ++ wN t qf_3 q_1 nof_3 3 mk (17, false, 0, 0, -1, 0, 0) ++ wN t qf_4 q_1 nof_4 4 mk (20, false, 0, 0, -1, 0, 0) ++ wN t qf_5 q_1 nof_5 5 mk (23, false, 0, 0, -1, 0, 0) ++ wN t qf_6 q_1 nof_6 6 mk (26, false, 0, 0, -1, 0, 0)) := hD
  refine lv_iinc (v := 7) (lv' := [(4, .int 7), (3, .ref q_1), (2, .int mm), (0, .ref xa), (1, .int mem)]) hx hb d_Q_init_68 hl (k := 0) rfl rfl (by decide) rfl (fun ls hl => ?_)
  refine lv_goto (tgt := 34) hx hb d_Q_init_71 (by decide) ?_
  refine lv_iload hx hb d_Q_init_34 (lv_at hl 0 rfl) ?_
  refine lv_bipush (v := 7) hx hb d_Q_init_36 (by decide) ?_
  refine lv_icmp_ge (tgt := 74) hx hb d_Q_init_38 (by decide) (fun _ => ?_) (fun c_18 => absurd (by decide) c_18)
  have e1 := xa_A (D := D) (cl := vwCl) (t := t) (k := 4) (q := q_2) (n := 7) (g := fun j => some ((fun k => ([qf_0, qf_1, qf_2, qf_3, qf_4, qf_5, qf_6] : List (Nat → Nat)).getD k qf_0) j 0)) (H := H) (fun j hj => by rcases (show j = 0 ∨ j = 1 ∨ j = 2 ∨ j = 3 ∨ j = 4 ∨ j = 5 ∨ j = 6 by omega) with rfl | rfl | rfl | rfl | rfl | rfl | rfl <;> rfl) (hP 1 _ rfl)
  have hP := xd_set hP 1 rfl e1
  have hD := xd_setD (e' := (zA t 4 q_2 7 (fun j => some ((fun k => ([qf_0, qf_1, qf_2, qf_3, qf_4, qf_5, qf_6] : List (Nat → Nat)).getD k qf_0) j 0))).2) hD 1 rfl
  exact W.vret hx hb hr (fun t ht hW => ⟨⟨(q_1, q_2, rw, (fun k => ([qf_0, qf_1, qf_2, qf_3, qf_4, qf_5, qf_6] : List (Nat → Nat)).getD k qf_0), (fun k => ([nof_0, nof_1, nof_2, nof_3, nof_4, nof_5, nof_6] : List Nat).getD k 0)), rfl, trivial, by rw [ht]; exact hP, hD⟩, hS.F ht⟩) hS.2.2 d_Q_init_74
end
section
/-! A new exception with its text, and its throw: for any chain of constructors that passes the text on. -/
def xc_ws (own : String) (ic : Nat) (X : String) : List Cond :=
  [.methodLink own ic (Jvm.Bundle.initS X), .instanceMethod (Jvm.Bundle.initS X), .instantiable X 6, .selects X Jvm.Bundle.tFill0 Jvm.Bundle.tFill0, .selects X Jvm.Bundle.tFill Jvm.Bundle.tFill,
   .lays X Jvm.Bundle.tN "cause" "Ljava/lang/Throwable;", .lays X Jvm.Bundle.tN "stackTrace" Jvm.Bundle.steD, .lays X Jvm.Bundle.tN "suppressedExceptions" Jvm.Bundle.listD, .lays X Jvm.Bundle.tN "detailMessage" "Ljava/lang/String;",
   .fieldLink Jvm.Bundle.tN 198 Jvm.Bundle.tN "backtrace" "Ljava/lang/Object;", .lays Jvm.Bundle.tN Jvm.Bundle.tN "backtrace" "Ljava/lang/Object;", .lays X Jvm.Bundle.tN "backtrace" "Ljava/lang/Object;"]
def xc_zs : List Cond := [.isRef (.static Jvm.Bundle.tN "UNASSIGNED_STACK" Jvm.Bundle.steD), .isRef (.static Jvm.Bundle.tN "SUPPRESSED_SENTINEL" Jvm.Bundle.listD)]
/-- the constructors that lie between X's and Throwable's -/
def xc_ch (pl : Platform) (s : State) (X : String) (k : Nat) : Prop := ∀ top : MethodId, s.methodNamed? (Jvm.Bundle.initS Jvm.Bundle.tN) = some top → ∃ (P1 : PassC) (Ps : List PassC), Ps.length = k ∧ P1.LinksS pl s ∧ (∀ P, P ∈ Ps → P.LinksS pl s) ∧ s.methodNamed? (Jvm.Bundle.initS X) = some P1.m ∧
  P1.sup = firstOf top (Ps.map (·.toPassT)) ∧ PassesOn top (Ps.map (·.toPassT))
section XCt
variable {p : Program} {l : Launch} {e : Env} {R : Room} {s : State} {m : MethodId} {args : Array Value} {below : List Frame} {meth : Method} {c : Code} {T0 : State} {locs : List Loc} {cells slots : Nat}
set_option maxHeartbeats 1000000 in
theorem xc_ctor (X : Stand p l e R s m args below meth c T0 locs cells slots) (hexec : p.tables.exec = Jvm.exec) (htr : e.platform.stackTraces = false) {own cls : String} {k ic : Nat} {bytes : ByteArray}
    (hown : s.vm.findClass own = some m.cls) (hnot : cls ≠ "java/lang/invoke/MethodHandle" ∧ cls ≠ "java/lang/invoke/VarHandle")
    (h1 : ∀ w ∈ Jvm.Bundle.throwableAtoms, w.before args s = true) (h2 : ∀ w ∈ Jvm.Bundle.throwableSAtoms, w.before args s = true) (h3 : ∀ w ∈ xc_ws own ic cls, w.before args s = true) (h4 : ∀ w ∈ xc_zs, w.before args s = true)
    (hcode : (Cond.code (Jvm.Bundle.initS cls) bytes 2 none).before args s = true) (hch : xc_ch e.platform s cls k)
    (hlocs : ∀ x ∈ locs, ∀ cell, s.heap[x.base]? = some cell → cell.vm.isStatics = false)
    {a : Addr} {cX : ClassId} {kX : Class} (hfoundX : s.vm.findClass cls = some cX) (hkX : s.vm.classes[cX]? = some kX) (hcell : T0.heap[a]? = some (freshCell cX kX)) (hnew : s.heap.size ≤ a)
    {msg : Value} (hmsg : msg.isRef = true)
    {g : JFrame} (hg : g.method = m) (hsize : g.locals.size = c.maxLocals) (hlocked : g.locked = none) (hentered : g.entered = []) {rest : List Value} (hstack : g.stack = msg :: .ref a :: .ref a :: rest)
    (hd6 : decode c.code g.pc = .ok (.invokespecial ic, 3)) (hd9 : decode c.code (g.pc + 3) = .ok (.athrow, 1)) (hout : ∀ x ∈ c.exceptionTable.toList, covers x (g.pc + 3) = false)
    (hRframes : k + 3 < R.frames) (hRlocals : 2 * g.monitorRoom + ((Value.ref a :: rest).map fun v => v.category).sum + (13 * (k + 1) + 42) ≤ R.locals) (hlocks : meth.locks = false) :
    ∃ U : State, Steps p.tables e below (T0.setTop g) U ∧ U.status = .running ∧ Ended U below (.threw a) ∧ s.WarmedH U.vm ∧ s.sameButNew ({ U with vm := s.vm } : State) locs cells slots ∧
      ∃ ce, U.heap[a]? = some ce ∧ ce.cls = cX ∧ ce.vm = .none := by
  have howns : e.platform.frameOwnsMonitors = true := by rw [X.admits.platform]
  have hfin : e.platform.finalization = false := by rw [X.admits.platform]
  have hpl : e.platform.magicAccessors = ({} : Platform).magicAccessors := by rw [X.admits.platform]
  have b3 : ∀ w, w ∈ xc_ws own ic cls → w.holds args s none s [] = true := fun w hw => h3 w hw
  have b4 : ∀ w, w ∈ xc_zs → w.holds args s none s [] = true := fun w hw => h4 w hw
  obtain ⟨T, Z0, L, -, Y⟩ := ThrowableC.of_atoms (args := args) howns hfin hpl h1
  obtain ⟨Z, M, LZ, LM, hnZ⟩ := Init0T.ofS_atoms (args := args) hpl L Y h2
  obtain ⟨P1, Ps, hlen, L1, hL, hP1m, hlink1, hlink⟩ := hch _ hnZ
  have hfound : s.vm.findClass cls = some P1.m.cls := findClass_of_methodNamed hP1m
  cases Option.some.inj (hfoundX.symm.trans hfound)
  obtain ⟨c1, kX', hc1, hk, hord, -, -, hn6⟩ := Cond.instantiable_spec (b3 (.instantiable cls 6) (by simp [xc_ws]))
  cases Option.some.inj (hc1.symm.trans hfound)
  cases Option.some.inj (hkX.symm.trans hk)
  have sel : ∀ {y : MethodName} {r : MethodId}, s.methodNamed? y = some r → (y.cls ≠ "java/lang/invoke/MethodHandle" ∧ y.cls ≠ "java/lang/invoke/VarHandle") → (Cond.selects cls y y).holds args s none s [] = true → selectMethod e.platform s.vm P1.m.cls r = .method r := by
    intro y r hr hy hs
    obtain ⟨c2, r2, m2, q1, q2, q3, q4, -⟩ := Cond.selects_spec hs
    cases Option.some.inj (q1.symm.trans hfound)
    cases Option.some.inj (q2.symm.trans (State.methodFound?_of_named hr hy))
    cases Option.some.inj (q3.symm.trans hr)
    rw [Launch.admits_selectMethod X.admits]; exact q4
  have hsel0 := sel Y.fill0 (by decide) (b3 (.selects cls Jvm.Bundle.tFill0 Jvm.Bundle.tFill0) (by simp [xc_ws]))
  have hselF := sel Y.fill (by decide) (b3 (.selects cls Jvm.Bundle.tFill Jvm.Bundle.tFill) (by simp [xc_ws]))
  obtain ⟨cellS0, hcS0, hiss⟩ := Y.statics
  obtain ⟨u0, hu0⟩ := Cond.staticRefV Y.unassigned L.unassignedStatic L.statics hcS0 hiss (b4 (.isRef (.static Jvm.Bundle.tN "UNASSIGNED_STACK" Jvm.Bundle.steD)) (by simp [xc_zs]))
  obtain ⟨sen, hsen⟩ := Cond.staticRefV Y.sentinel L.sentinelStatic L.statics hcS0 hiss (b4 (.isRef (.static Jvm.Bundle.tN "SUPPRESSED_SENTINEL" Jvm.Bundle.listD)) (by simp [xc_zs]))
  obtain ⟨ci198, i198, fB, hk198, hg198, ha198, hsB, -, hnB, htB, hffB⟩ := Cond.ownField (t := .object "java/lang/Object") Y.found L.cls (by decide +kernel) (b3 (.fieldLink Jvm.Bundle.tN 198 Jvm.Bundle.tN "backtrace" "Ljava/lang/Object;") (by simp [xc_ws])) (b3 (.lays Jvm.Bundle.tN Jvm.Bundle.tN "backtrace" "Ljava/lang/Object;") (by simp [xc_ws])) e.platform hpl
  obtain ⟨cellS, hcS', heS, -, hkeep⟩ := X.same.2.2.2.2.2 T.aS cellS0 hcS0
  have hcellS : T0.heap[T.aS]? = some cellS := hcS'
  have hout' : ∀ i, (⟨T.aS, i⟩ : Loc) ∉ locs := fun i hmem => by
    have h9 := hlocs _ hmem cellS0 hcS0
    rw [hiss] at h9; cases h9
  have hknownS : cellS.vm ≠ .unknown := by
    rw [heS]; intro hu
    rw [show cellS0.vm = .unknown from hu] at hiss
    cases hiss
  have hneS : T.aS ≠ a := Nat.ne_of_lt (Nat.lt_of_lt_of_le (Array.getElem?_eq_some_iff.mp hcS0).1 hnew)
  obtain ⟨iM, hffM⟩ := Y.msg
  obtain ⟨tyC, dC, hdC, hdnC⟩ := Cond.laysAt hfound hk Y.cause (b3 (.lays cls Jvm.Bundle.tN "cause" "Ljava/lang/Throwable;") (by simp [xc_ws]))
  obtain ⟨tyS, dS, hdS, hdnS⟩ := Cond.laysAt hfound hk Y.stack (b3 (.lays cls Jvm.Bundle.tN "stackTrace" Jvm.Bundle.steD) (by simp [xc_ws]))
  obtain ⟨tyP, dP, hdP, hdnP⟩ := Cond.laysAt hfound hk Y.supp (b3 (.lays cls Jvm.Bundle.tN "suppressedExceptions" Jvm.Bundle.listD) (by simp [xc_ws]))
  obtain ⟨tyM, dM, hdM, hdnM⟩ := Cond.laysAt hfound hk hffM (b3 (.lays cls Jvm.Bundle.tN "detailMessage" "Ljava/lang/String;") (by simp [xc_ws]))
  obtain ⟨tyB, dB, hdB, hdnB⟩ := Cond.laysAt hfound hk hffB (b3 (.lays cls Jvm.Bundle.tN "backtrace" "Ljava/lang/Object;") (by simp [xc_ws]))
  have bC := Cond.laysApart hdB hdC hdnB hdnC (by rw [hnB, Y.causeName]; decide)
  have bS := Cond.laysApart hdB hdS hdnB hdnS (by rw [hnB, Y.stackName]; decide)
  have bP := Cond.laysApart hdB hdP hdnB hdnP (by rw [hnB, Y.suppName]; decide)
  have hskip : SkipFacts T e.platform s (fun u => u) u0 ((preparedCellV T.toThrowableT (freshCell P1.m.cls kX) a u0 sen).withEntry T0.cur) :=
    ⟨{ ci198 := ci198, i198 := i198, fBack := fB }, ⟨hk198, hg198, ha198, hsB⟩, by
      have h9 := fresh_default (c := P1.m.cls) tyB
      rw [htB] at h9
      simpa [preparedCellV, Cell.setSlot, Cell.withEntry, Array.getElem?_setIfInBounds, bC, bS, bP, bC.symm, bS.symm, bP.symm, defaultValue] using h9, fun _ _ => rfl⟩
  obtain ⟨tm, methC, cdC, kC, vm₁, hnC, -, -, -, -, -, -, -, hW₁, st1⟩ := Steps.initColdS (tb := p.tables) (e := e) (below := below) (s := s) (U := T0) X.here hexec X.warmed hpl hown (t := Jvm.Bundle.initS cls) rfl rfl hnot
    (b3 (.methodLink own ic (Jvm.Bundle.initS cls)) (by simp [xc_ws])) (h3 (.instanceMethod (Jvm.Bundle.initS cls)) (by simp [xc_ws])) (bytes := bytes) (maxL := 2) hcode
    (f := g) hg (a := a) (msg := msg) (rest := .ref a :: rest) hstack hd6
  cases Option.some.inj (hnC.symm.trans hP1m)
  have X₁ := X.noted hW₁
  obtain ⟨vm₂, X₂, st2⟩ := X₁.ctorMessageOffV hexec (g := { g with stack := .ref a :: rest }) hg hsize T L Z LZ M LM (P1 :: Ps)
    (fun P hP => by rcases List.mem_cons.mp hP with rfl | hP; exact L1; exact hL P hP) ⟨hlink1, hlink⟩ (u0 := u0) (sen := sen) (self := a) hmsg (cell := freshCell P1.m.cls kX) (cellS := cellS)
    hcell (fun _ => by simp) (by simp) rfl rfl hsel0 hselF hcellS hneS hknownS (by rw [hkeep _ (hout' _)]; exact hu0) (by rw [hkeep _ (hout' _)]; exact hsen)
    (Takes.of_laid hk hord tyC (by rw [Y.causeType]; rfl)) (Takes.of_laid hk hord tyS (by rw [Y.stackType]; exact fits_refV_array _ u0)) (Takes.of_laid hk hord tyP (by rw [Y.suppType]; exact fits_refV_object _ sen))
    (Takes.of_laid hk hord tyM (by rw [Y.msgType]; exact fits_refV_object _ ⟨msg, hmsg⟩)) Y.objLocals hskip htr [] hd6
    (by simp only [List.length_cons, hlen]; omega) (by simp only [List.length_cons, hlen]; exact hRlocals)
  obtain ⟨hwalk, hrun, hended, hWU, hsame⟩ := X₂.athrowLeaves hexec (g := { g with stack := .ref a :: rest, pc := g.pc + 3 }) hg hlocked hentered hout (a := a) (rest := rest) rfl hd9 hlocks
  have hlt : a < ((T0.setVm vm₁).setVm vm₂).heap.size := (Array.getElem?_eq_some_iff.mp hcell).1
  have hU := heapAt_setCell_self (s := (T0.setVm vm₁).setVm vm₂) (plainBareV T.toThrowableT (freshCell P1.m.cls kX) a u0 sen msg) hlt
  refine ⟨_, st1 _ (fun acts => ?_), hrun, hended, hWU, hsame.weaken (fun y hy hlt' => ?_) (Nat.le_refl _) (Nat.le_refl _), _, hU, rfl, rfl⟩
  · rw [doInvoke_state]
    exact st2 _ hwalk
  · rcases List.mem_append.mp hy with h9 | h9
    · exact h9
    · exfalso
      have hb : y.base = a := by
        simp only [List.mem_cons, List.not_mem_nil, or_false] at h9
        rcases h9 with rfl | rfl | rfl | rfl | rfl <;> rfl
      rw [hb] at hlt'
      exact Nat.not_lt.mpr hnew hlt'
end XCt
end
section
/-! What the throws of the class rest on: the words of Throwable, its two statics, the texts. -/
def xc_isLS : Cond → Bool
  | .laysStatic _ _ _ => true
  | _ => false
theorem xc_T1 : ∀ w ∈ Jvm.Bundle.throwableAtoms.filter (fun w => !xc_isLS w), w ∈ xw_T := xw_all _ [13, 302, 311, 315, 318, 320, 303, 304, 30, 31, 305, 310, 316, 336, 292, 337, 294, 338, 296, 306, 308, 298] (by decide +kernel) (by decide +kernel)
theorem xc_T2 : ∀ w ∈ Jvm.Bundle.throwableSAtoms, w ∈ xw_T := xw_all _ [332, 333, 335, 298] (by decide +kernel) (by decide +kernel)
def xc_LS : List Cond := [.laysStatic Jvm.Bundle.tN "UNASSIGNED_STACK" Jvm.Bundle.steD, .laysStatic Jvm.Bundle.tN "SUPPRESSED_SENTINEL" Jvm.Bundle.listD]
theorem xc_T3 : ∀ w ∈ Jvm.Bundle.throwableAtoms.filter xc_isLS, w ∈ xc_LS := by decide +kernel
theorem xc_W_IAE : ∀ w ∈ xc_ws "QuorumStore" 29 "java/lang/IllegalArgumentException", w ∈ xw_T := xw_all _ [322, 323, 281, 289, 290, 291, 293, 295, 297, 301, 300, 299] (by decide +kernel) (by decide +kernel)
theorem xc_P_IAE : ∀ w ∈ Jvm.Bundle.passSAtoms "java/lang/IllegalArgumentException" "java/lang/RuntimeException" 7 prog_17_method_2_code, w ∈ xw_T := xw_all _ [323, 324, 325, 326, 284] (by decide +kernel) (by decide +kernel)
theorem xc_c_IAE : Cond.code (Jvm.Bundle.initS "java/lang/IllegalArgumentException") prog_17_method_2_code 2 none ∈ xw_T := xw_in 324 (by decide +kernel) (by decide +kernel)
theorem xc_d_IAE_0 : decode prog_17_method_2_code 0 = .ok (.aload_n 0, 1) := by decide +kernel
theorem xc_d_IAE_1 : decode prog_17_method_2_code 1 = .ok (.aload_n 1, 1) := by decide +kernel
theorem xc_d_IAE_2 : decode prog_17_method_2_code 2 = .ok (.invokespecial 7, 3) := by decide +kernel
theorem xc_d_IAE_5 : decode prog_17_method_2_code 5 = .ok (.return_, 1) := by decide +kernel
theorem xc_W_NSE : ∀ w ∈ xc_ws "QuorumStore" 155 "java/util/NoSuchElementException", w ∈ xw_T := xw_all _ [563, 564, 554, 556, 314, 557, 558, 559, 560, 301, 300, 561] (by decide +kernel) (by decide +kernel)
theorem xc_P_NSE : ∀ w ∈ Jvm.Bundle.passSAtoms "java/util/NoSuchElementException" "java/lang/RuntimeException" 13 prog_25_method_4_code, w ∈ xw_T := xw_all _ [564, 565, 566, 326, 284] (by decide +kernel) (by decide +kernel)
theorem xc_c_NSE : Cond.code (Jvm.Bundle.initS "java/util/NoSuchElementException") prog_25_method_4_code 2 none ∈ xw_T := xw_in 565 (by decide +kernel) (by decide +kernel)
theorem xc_d_NSE_0 : decode prog_25_method_4_code 0 = .ok (.aload_n 0, 1) := by decide +kernel
theorem xc_d_NSE_1 : decode prog_25_method_4_code 1 = .ok (.aload_n 1, 1) := by decide +kernel
theorem xc_d_NSE_2 : decode prog_25_method_4_code 2 = .ok (.invokespecial 13, 3) := by decide +kernel
theorem xc_d_NSE_5 : decode prog_25_method_4_code 5 = .ok (.return_, 1) := by decide +kernel
theorem xc_W_ISE : ∀ w ∈ xc_ws "QuorumStore" 71 "java/lang/IllegalStateException", w ∈ xw_T := xw_all _ [681, 682, 672, 674, 313, 675, 676, 677, 678, 301, 300, 679] (by decide +kernel) (by decide +kernel)
theorem xc_P_ISE : ∀ w ∈ Jvm.Bundle.passSAtoms "java/lang/IllegalStateException" "java/lang/RuntimeException" 7 prog_18_method_2_code, w ∈ xw_T := xw_all _ [682, 683, 684, 326, 284] (by decide +kernel) (by decide +kernel)
theorem xc_c_ISE : Cond.code (Jvm.Bundle.initS "java/lang/IllegalStateException") prog_18_method_2_code 2 none ∈ xw_T := xw_in 683 (by decide +kernel) (by decide +kernel)
theorem xc_d_ISE_0 : decode prog_18_method_2_code 0 = .ok (.aload_n 0, 1) := by decide +kernel
theorem xc_d_ISE_1 : decode prog_18_method_2_code 1 = .ok (.aload_n 1, 1) := by decide +kernel
theorem xc_d_ISE_2 : decode prog_18_method_2_code 2 = .ok (.invokespecial 7, 3) := by decide +kernel
theorem xc_d_ISE_5 : decode prog_18_method_2_code 5 = .ok (.return_, 1) := by decide +kernel
theorem xc_P_R : ∀ w ∈ Jvm.Bundle.chainSAtoms "java/lang/RuntimeException" ["java/lang/Exception"], w ∈ xw_T := xw_all _ [326, 327, 328, 329, 286, 329, 330, 331, 332, 288] (by decide +kernel) (by decide +kernel)
theorem xc_chain {s : State} {pl : Platform} (hT : xw_Tb s) (hpl : pl.magicAccessors = ({} : Platform).magicAccessors) {X : String} {index : Nat} {bytes : ByteArray} (hX : plainName X = true) (h0 : decode bytes 0 = .ok (.aload_n 0, 1)) (h1 : decode bytes 1 = .ok (.aload_n 1, 1)) (h2 : decode bytes 2 = .ok (.invokespecial index, 3)) (h5 : decode bytes 5 = .ok (.return_, 1)) (h : ∀ w ∈ Jvm.Bundle.passSAtoms X "java/lang/RuntimeException" index bytes, w ∈ xw_T) : xc_ch pl s X 2 := by
  intro top htop
  obtain ⟨P1, Ps, hlen, L1, hL, hP1, hl1, hl⟩ := Jvm.Bundle.chainS (args := #[]) hpl htop ["java/lang/Exception"] "java/lang/RuntimeException" (by decide) (by decide) (fun w hw => hT w (xc_P_R w hw))
  obtain ⟨P, LP, hm, hs⟩ := PassC.ofS_atoms (args := #[]) (s := s) hpl (X := X) (Y := "java/lang/RuntimeException") hX (by decide) h0 h1 h2 h5 (fun w hw => hT w (h w hw))
  exact ⟨P, P1 :: Ps, by rw [List.length_cons, hlen]; rfl, LP, fun Q hQ => by rcases List.mem_cons.mp hQ with rfl | hQ; exact L1; exact hL Q hQ, hm, Option.some.inj (hs.symm.trans hP1), ⟨hl1, hl⟩⟩
/-- the two statics of Throwable -/
def xc_Z (U : State) : Prop := (∀ w ∈ xc_LS, w.before #[] U = true) ∧ ∀ w ∈ xc_zs, w.before #[] U = true
def xc_strs : List (Nat × String) := [(27, "n is not 1 .. 50"), (238, "no such message"), (69, "300 messages are on their way"), (96, "what is not 0 .. 5"), (236, "no such node"), (102, "the node is not live"), (107, "the node is live"), (112, "key is not 0 .. 31"), (244, "no such client"), (120, "kind is not 1 .. 6, or seq is below 1"), (149, "what is not 0 or 1"), (153, "no such key"), (166, "nothing is known there"), (228, "what is not 0 .. 13")]
def xc_Tc (U : State) : Prop := xc_Z U ∧ ∀ q ∈ xc_strs, ∃ a : Nat, vk_R "QuorumStore" q.1 q.2 a U
theorem xc_ls {s U : State} (hW : s.WarmedH U.vm) (hq : ∀ q : Nat, q < s.heap.size → U.heap[q]? = s.heap[q]?) {C n d : String} {a a' : Array Value} (h : (Cond.laysStatic C n d).before a s = true) : (Cond.laysStatic C n d).before a' U = true := by
  obtain ⟨c, k, i, f, q, cell, hc, hi, hst, ha, hcell, hs, hcls, hlt, hty⟩ := Cond.laysStatic_spec h
  obtain ⟨k', hi', hek⟩ := State.fieldFound?_setVm hW.alike hi
  have hi2 : U.fieldFound? C n d = some (c, k', i, f) := hi'
  exact Cond.laysStatic_of (s := U) (by rw [hW.alike.findClass]; exact hc) hi2 hst (by rw [hek]; exact ha) (by rw [hq q (Array.getElem?_eq_some_iff.mp hcell).1]; exact hcell) hs hcls hlt (by rw [hek]; exact hty)
theorem xc_rs {s U : State} (hW : s.WarmedH U.vm) (hq : ∀ q : Nat, q < s.heap.size → U.heap[q]? = s.heap[q]?) {C n d : String} {a a' : Array Value} (hl : (Cond.laysStatic C n d).before a s = true) (h : (Cond.isRef (.static C n d)).before a s = true) : (Cond.isRef (.static C n d)).before a' U = true := by
  obtain ⟨c, k, i, f, q, cell, hc, hi, hst, ha, hcell, hs, hcls, hlt, hty⟩ := Cond.laysStatic_spec hl
  obtain ⟨k', hi', hek⟩ := State.fieldFound?_setVm hW.alike hi
  have hi2 : U.fieldFound? C n d = some (c, k', i, f) := hi'
  have hcellU : U.heap[q]? = some cell := by rw [hq q (Array.getElem?_eq_some_iff.mp hcell).1]; exact hcell
  have haU : k'.statics = some q := by rw [hek]; exact ha
  obtain ⟨v, hv⟩ := Cond.staticRefV hi hst ha hcell hs (show (Cond.isRef (.static C n d)).holds a s none s [] = true from h)
  have he : (Term.static C n d).eval a' U none [] U = some v.v := by
    simp [Term.eval, State.fieldNamed?, hi2, hst, haU, hcellU, hs, hv]
  obtain ⟨v, hr⟩ := v
  simp only [Cond.before, Cond.holds, Cond.value, he]
  cases v with
  | null => rfl
  | ref x => rfl
  | _ => exact absurd hr (by simp [Value.isRef])
theorem xc_Tc.move {s U : State} (h : xc_Tc s) (hW : s.WarmedH U.vm) (hq : ∀ q : Nat, q < s.heap.size → U.heap[q]? = s.heap[q]?) : xc_Tc U := by
  obtain ⟨⟨h1, h2⟩, h3⟩ := h
  refine ⟨⟨fun w hw => ?_, fun w hw => ?_⟩, fun q hq2 => ?_⟩
  · rcases List.mem_cons.mp hw with rfl | hw2
    · exact xc_ls hW hq (h1 _ List.mem_cons_self)
    · obtain rfl := List.mem_singleton.mp hw2
      exact xc_ls hW hq (h1 _ (List.mem_cons_of_mem _ List.mem_cons_self))
  · rcases List.mem_cons.mp hw with rfl | hw2
    · exact xc_rs hW hq (h1 _ List.mem_cons_self) (h2 _ List.mem_cons_self)
    · obtain rfl := List.mem_singleton.mp hw2
      exact xc_rs hW hq (h1 _ (List.mem_cons_of_mem _ List.mem_cons_self)) (h2 _ (List.mem_cons_of_mem _ List.mem_cons_self))
  · obtain ⟨a, ha⟩ := h3 q hq2
    exact ⟨a, ha.warm hW⟩
theorem xc_h1 {s : State} {args : Array Value} (hT : xw_Tb s) (h : xc_Tc s) : ∀ w ∈ Jvm.Bundle.throwableAtoms, w.before args s = true := by
  intro w hw
  cases hb : xc_isLS w with
  | false => exact hT.at w (xc_T1 w (List.mem_filter.mpr ⟨hw, by rw [hb]; rfl⟩))
  | true =>
    have h9 := xc_T3 w (List.mem_filter.mpr ⟨hw, hb⟩)
    rcases List.mem_cons.mp h9 with rfl | h8
    · exact xc_ls (State.WarmedH.refl s) (fun _ _ => rfl) (h.1.1 _ List.mem_cons_self)
    · obtain rfl := List.mem_singleton.mp h8
      exact xc_ls (State.WarmedH.refl s) (fun _ _ => rfl) (h.1.1 _ (List.mem_cons_of_mem _ List.mem_cons_self))
theorem xc_h4 {s : State} {args : Array Value} (h : xc_Tc s) : ∀ w ∈ xc_zs, w.before args s = true := by
  intro w hw
  rcases List.mem_cons.mp hw with rfl | h8
  · exact xc_rs (State.WarmedH.refl s) (fun _ _ => rfl) (h.1.1 _ List.mem_cons_self) (h.1.2 _ List.mem_cons_self)
  · obtain rfl := List.mem_singleton.mp h8
    exact xc_rs (State.WarmedH.refl s) (fun _ _ => rfl) (h.1.1 _ (List.mem_cons_of_mem _ List.mem_cons_self)) (h.1.2 _ (List.mem_cons_of_mem _ List.mem_cons_self))
/-- a contract that ends in a throw -/
def xt_C (l : Launch) (D : va_G) (cl : List vw_C) (tys : List (ClassId × FieldType)) (y : MethodName) (bytes : ByteArray) (maxL : Nat) (ret : Option FieldType) (rm : Room) (av : List Value) (wc : va_W) (E : String) : Prop :=
  xt_Met l y [.code y bytes maxL ret] rm (va_Pc av (fun U => xK D cl tys U ∧ va_P D cl wc U.heap ∧ xc_Tc U)) E 1 6
section XTo
variable {l : Launch} {D : va_G} {cl : List vw_C} {tys : List (ClassId × FieldType)} {y : MethodName} {bytes : ByteArray} {maxL : Nat} {ret : Option FieldType} {rm : Room} {av : List Value} {wc : va_W} {E : String}
theorem xt_of (hy : plainName y.cls = true) (hn : (lg_sl av).length ≤ maxL)
    (body : ∀ (p : Program) (e : Env) (s : State) (m : MethodId) (below : List Frame) (meth : Method) (c : Code) (ls : Array Slot), xF p m c bytes maxL s y.cls D cl tys → meth.locks = false → c.exceptionTable.toList = [] → va_P D cl wc s.heap → xc_Tc s → lv_has ls maxL (lv_args 0 av) →
      W p l e rm s m av.toArray below meth c s.heap [] 0 0 (xt_MQ below E s 1 6) (F0 m 0 ls [])) : xt_C l D cl tys y bytes maxL ret rm av wc E := by
  refine xt_ofW (cc := bytes) (maxL := maxL) (ret := ret) hy rfl ?_
  intro p e s m args below meth c s₁ B hml hno hv
  obtain ⟨rfl, hK, hP, hTc⟩ := hv
  have hl := lv_entry av (n := maxL) hn
  rw [lg_entry_eq]
  generalize (lg_sl av ++ List.replicate (maxL - (lg_sl av).length) Slot.unset).toArray = ls at hl ⊢
  exact body p e s m below meth c ls ⟨B.exec, B.bytes, hml, findClass_of_methodNamed B.named, hK⟩ B.notSynchronized hno hP hTc hl
end XTo
section XTn
variable {p : Program} {l : Launch} {e : Env} {R : Room} {s : State} {m : MethodId} {args : Array Value} {below : List Frame} {meth : Method} {c : Code} {cc : ByteArray} {nL : Nat} {D : va_G} {cl : List vw_C} {tys : List (ClassId × FieldType)}
/-- new X("..") and its throw, where nothing has been written -/
theorem xt_new (Z : xF p m c cc nL s "QuorumStore" D cl tys) (hTc : xc_Tc s) (hl : l.flags = pinnedFlags ++ [noTraceFlag]) {X tx : String} {ia ib ic pc : Nat} {bytes : ByteArray} {ls : Array Slot} (hnot : X ≠ "java/lang/invoke/MethodHandle" ∧ X ≠ "java/lang/invoke/VarHandle")
    (hcl : Cond.classLink "QuorumStore" ia X ∈ xw_T) (hini : Cond.initialized X ∈ xw_T) (hws : ∀ w ∈ xc_ws "QuorumStore" ic X, w ∈ xw_T) (hcode : Cond.code (Jvm.Bundle.initS X) bytes 2 none ∈ xw_T) (hch : ∀ pl : Platform, pl.magicAccessors = ({} : Platform).magicAccessors → xc_ch pl s X 2)
    (hst : (ib, tx) ∈ xc_strs) (hsz : ls.size = nL)
    (hd0 : decode cc pc = .ok (.new ia, 3)) (hd3 : decode cc (pc + 3) = .ok (.dup, 1)) (hd4 : decode cc (pc + 4) = .ok (.ldc ib, 2)) (hd6 : decode cc (pc + 6) = .ok (.invokespecial ic, 3)) (hd9 : decode cc (pc + 9) = .ok (.athrow, 1))
    (hno : c.exceptionTable.toList = []) (hlocks : meth.locks = false) (hRc : 1 ≤ R.cells) (hRs : 6 ≤ R.slots) (hRf : 5 < R.frames) (hRl : 82 ≤ R.locals) :
    W p l e R s m args below meth c s.heap [] 0 0 (xt_MQ below X s 1 6) (F0 m pc ls []) := by
  obtain ⟨hexec, hb, hml, hown, hK⟩ := Z
  have hts := hK.1.at (args := args)
  obtain ⟨q, hq⟩ := hTc.2 _ hst
  refine W.newc (n := 6) hexec hb hown (hts _ hcl) (hts (.instantiable X 6) (hws _ (by simp [xc_ws]))) (hts _ hini) rfl hd0 (by omega) (by omega) (fun cC kC h1 h2 h3 h4 => ?_)
  refine W.eq (g2 := F0 m (pc + 3) ls [.ref s.heap.size]) rfl ?_
  refine lv_dup hexec hb hd3 rfl ?_
  refine va_ldcS hexec hb hown hq hd4 ?_
  intro T hT X1
  have hpl : e.platform.magicAccessors = ({} : Platform).magicAccessors := by rw [X1.admits.platform]
  obtain ⟨U, hstp, hrun, hend, hW, hsame, ce, hce, hc1, hc2⟩ := xc_ctor X1 hexec (Launch.traces_off hl X1.admits) hown hnot (xc_h1 hK.1 hTc) (fun w hw => hts w (xc_T2 w hw)) (fun w hw => hts w (hws w hw)) (xc_h4 hTc) (hts _ hcode) (hch _ hpl) (fun x hx => by cases hx) h1 h2 (a := s.heap.size) (by rw [hT]; simp [freshCell]) (Nat.le_refl _) (msg := .ref q) rfl
    (g := F0 m (pc + 6) ls [.ref q, .ref s.heap.size, .ref s.heap.size]) rfl (hsz.trans hml.symm) rfl rfl (rest := []) rfl (by rw [hb]; exact hd6) (by rw [hb]; exact hd9) (by rw [hno]; intro x hx; cases hx) hRf (by simp [Value.category]; omega) hlocks
  exact ⟨U, hstp, .threw _, hrun, hend, ⟨_, rfl, ⟨ce, hce, by rw [hc2]; rfl, by rw [hc1]; exact h1⟩, xt_old hsame⟩, ⟨_, rfl⟩, hW, hsame⟩
/-- a virtual call that throws -/
theorem xt_V {y : MethodName} {bytes : ByteArray} {maxL n index : Nat} {ret : Option FieldType} {rm : Room} {wc : va_W} {E own : String} {H : Heap} {locs : List Loc} {cells slots : Nat} {b : Addr} {As rest st0 : List Value} {pc : Nat} {ls : Array Slot} (Z : xF p m c cc nL s own D cl tys) (hM : xt_C l D cl tys y bytes maxL ret rm (.ref b :: As) wc E) (hm : xm_ok y bytes maxL ret n) (kl : Cond.methodLink own index y ∈ xw_T) (ki : Cond.instanceMethod y ∈ xw_T) (ks : Cond.selects y.cls y y ∈ xw_T) (hrc : rm.cells = 1) (hrs : rm.slots = 6) (hR : rm.frames + 1 ≤ R.frames ∧ 8 + (maxL + 11) + rm.locals ≤ R.locals)
    (hv : ∃ cellB : Cell, H[b]? = some cellB ∧ cellB.vm.isStatics = false ∧ s.vm.findClass y.cls = some cellB.cls) (hP : va_P D cl wc H) (hTc : xc_Tc s) (hH : ∀ q : Nat, q < s.heap.size → H[q]? = s.heap[q]?) (hn : As.length = n) (hsize : ls.size = nL) (hstack : st0 = As.reverse ++ .ref b :: rest) (hW : (rest.map fun v => v.category).sum ≤ 8) (hdg : decode cc pc = .ok (.invokevirtual index, 3)) (hf : cells + 1 ≤ R.cells ∧ slots + 6 ≤ R.slots) :
    xt_Run p l e R s m args below meth c H locs cells slots 1 6 (F0 m pc ls st0) rest E :=
  xt_runV (xs_F Z) hM ⟨xm_B Z.2.2.2.2.1 hm hrc hrs kl hR, Z.2.2.2.2.1.at _ ki, Z.2.2.2.2.1.at _ ks⟩
    ⟨fun a U g mk h => ⟨h.1, h.2.1.blind g mk a, h.2.2.1, h.2.2.2.move (State.WarmedH.refl U) (fun _ _ => rfl)⟩, hv, fun U hU hW9 => ⟨rfl, Z.2.2.2.2.warm hW9, by rw [hU]; exact hP, hTc.move hW9 (by rw [hU]; exact hH)⟩⟩ rfl hn hsize hstack (lv_room hW) hdg hf
end XTn
end
