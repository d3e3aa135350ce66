section
-- ===== PART A: goes FIRST, ahead of the names: the tables' words, and 'selects' of the private methods out of them =====
/-- a private method of a class that the tables say can be made, by its rows of tables_1 -/
def lw_okq (q : MethodName × Nat) : Prop := (q.1.cls ≠ "java/lang/invoke/MethodHandle" ∧ q.1.cls ≠ "java/lang/invoke/VarHandle") ∧ Cond.instantiable q.1.cls q.2 ∈ tables_1 ∧ Cond.privateMethod q.1 ∈ tables_1 ∧ Cond.instanceMethod q.1 ∈ tables_1
theorem lw_p0 : lw_okq (⟨"TaleMachine$Teller", "goOn", "(LTaleMachine$Frame;)Z"⟩, 9) := ⟨⟨by decide +kernel, by decide +kernel⟩, List.mem_of_getElem? (i := 124) (by decide +kernel), List.mem_of_getElem? (i := 270) (by decide +kernel), List.mem_of_getElem? (i := 271) (by decide +kernel)⟩
theorem lw_p1 : lw_okq (⟨"TaleMachine$Teller", "put", "(LTaleMachine$Frame;II)Z"⟩, 9) := ⟨⟨by decide +kernel, by decide +kernel⟩, List.mem_of_getElem? (i := 124) (by decide +kernel), List.mem_of_getElem? (i := 274) (by decide +kernel), List.mem_of_getElem? (i := 275) (by decide +kernel)⟩
theorem lw_p2 : lw_okq (⟨"TaleMachine$Teller", "isLocal", "(LTaleMachine$Frame;I)Z"⟩, 9) := ⟨⟨by decide +kernel, by decide +kernel⟩, List.mem_of_getElem? (i := 124) (by decide +kernel), List.mem_of_getElem? (i := 299) (by decide +kernel), List.mem_of_getElem? (i := 300) (by decide +kernel)⟩
theorem lw_p3 : lw_okq (⟨"TaleMachine$Teller", "putCopy", "(LTaleMachine$Frame;I)Z"⟩, 9) := ⟨⟨by decide +kernel, by decide +kernel⟩, List.mem_of_getElem? (i := 124) (by decide +kernel), List.mem_of_getElem? (i := 303) (by decide +kernel), List.mem_of_getElem? (i := 304) (by decide +kernel)⟩
theorem lw_p4 : lw_okq (⟨"TaleMachine$Teller", "takeIntoLocal", "(LTaleMachine$Frame;I)Z"⟩, 9) := ⟨⟨by decide +kernel, by decide +kernel⟩, List.mem_of_getElem? (i := 124) (by decide +kernel), List.mem_of_getElem? (i := 307) (by decide +kernel), List.mem_of_getElem? (i := 308) (by decide +kernel)⟩
theorem lw_p5 : lw_okq (⟨"TaleMachine$Teller", "canTake", "(LTaleMachine$Frame;I)Z"⟩, 9) := ⟨⟨by decide +kernel, by decide +kernel⟩, List.mem_of_getElem? (i := 124) (by decide +kernel), List.mem_of_getElem? (i := 311) (by decide +kernel), List.mem_of_getElem? (i := 312) (by decide +kernel)⟩
theorem lw_p6 : lw_okq (⟨"TaleMachine$Teller", "topKind", "()I"⟩, 9) := ⟨⟨by decide +kernel, by decide +kernel⟩, List.mem_of_getElem? (i := 124) (by decide +kernel), List.mem_of_getElem? (i := 315) (by decide +kernel), List.mem_of_getElem? (i := 316) (by decide +kernel)⟩
theorem lw_p7 : lw_okq (⟨"TaleMachine$Teller", "topInt", "()I"⟩, 9) := ⟨⟨by decide +kernel, by decide +kernel⟩, List.mem_of_getElem? (i := 124) (by decide +kernel), List.mem_of_getElem? (i := 319) (by decide +kernel), List.mem_of_getElem? (i := 320) (by decide +kernel)⟩
theorem lw_p8 : lw_okq (⟨"TaleMachine$Teller", "take", "(LTaleMachine$Frame;I)Z"⟩, 9) := ⟨⟨by decide +kernel, by decide +kernel⟩, List.mem_of_getElem? (i := 124) (by decide +kernel), List.mem_of_getElem? (i := 323) (by decide +kernel), List.mem_of_getElem? (i := 324) (by decide +kernel)⟩
theorem lw_p9 : lw_okq (⟨"TaleMachine$Teller", "calculate", "(LTaleMachine$Frame;I)Z"⟩, 9) := ⟨⟨by decide +kernel, by decide +kernel⟩, List.mem_of_getElem? (i := 124) (by decide +kernel), List.mem_of_getElem? (i := 327) (by decide +kernel), List.mem_of_getElem? (i := 328) (by decide +kernel)⟩
theorem lw_p10 : lw_okq (⟨"TaleMachine$Teller", "raise", "(I)Z"⟩, 9) := ⟨⟨by decide +kernel, by decide +kernel⟩, List.mem_of_getElem? (i := 124) (by decide +kernel), List.mem_of_getElem? (i := 331) (by decide +kernel), List.mem_of_getElem? (i := 332) (by decide +kernel)⟩
theorem lw_p11 : lw_okq (⟨"TaleMachine$Teller", "goal", "(LTaleMachine$Frame;)I"⟩, 9) := ⟨⟨by decide +kernel, by decide +kernel⟩, List.mem_of_getElem? (i := 124) (by decide +kernel), List.mem_of_getElem? (i := 342) (by decide +kernel), List.mem_of_getElem? (i := 343) (by decide +kernel)⟩
theorem lw_p12 : lw_okq (⟨"TaleMachine$Teller", "finish", "(III)Z"⟩, 9) := ⟨⟨by decide +kernel, by decide +kernel⟩, List.mem_of_getElem? (i := 124) (by decide +kernel), List.mem_of_getElem? (i := 350) (by decide +kernel), List.mem_of_getElem? (i := 351) (by decide +kernel)⟩
theorem lw_p13 : lw_okq (⟨"TaleMachine$Teller", "putTruthFor", "(LTaleMachine$Frame;IZ)Z"⟩, 9) := ⟨⟨by decide +kernel, by decide +kernel⟩, List.mem_of_getElem? (i := 124) (by decide +kernel), List.mem_of_getElem? (i := 362) (by decide +kernel), List.mem_of_getElem? (i := 363) (by decide +kernel)⟩
theorem lw_p14 : lw_okq (⟨"TaleMachine$Teller", "like", "(LTaleMachine$Frame;)Z"⟩, 9) := ⟨⟨by decide +kernel, by decide +kernel⟩, List.mem_of_getElem? (i := 124) (by decide +kernel), List.mem_of_getElem? (i := 369) (by decide +kernel), List.mem_of_getElem? (i := 370) (by decide +kernel)⟩
theorem lw_p15 : lw_okq (⟨"TaleMachine$Teller", "isFalse", "(I)Z"⟩, 9) := ⟨⟨by decide +kernel, by decide +kernel⟩, List.mem_of_getElem? (i := 124) (by decide +kernel), List.mem_of_getElem? (i := 373) (by decide +kernel), List.mem_of_getElem? (i := 374) (by decide +kernel)⟩
def lw_privs_1 : List (MethodName × Nat) := [(⟨"TaleMachine$Teller", "goOn", "(LTaleMachine$Frame;)Z"⟩, 9), (⟨"TaleMachine$Teller", "put", "(LTaleMachine$Frame;II)Z"⟩, 9), (⟨"TaleMachine$Teller", "isLocal", "(LTaleMachine$Frame;I)Z"⟩, 9), (⟨"TaleMachine$Teller", "putCopy", "(LTaleMachine$Frame;I)Z"⟩, 9), (⟨"TaleMachine$Teller", "takeIntoLocal", "(LTaleMachine$Frame;I)Z"⟩, 9), (⟨"TaleMachine$Teller", "canTake", "(LTaleMachine$Frame;I)Z"⟩, 9), (⟨"TaleMachine$Teller", "topKind", "()I"⟩, 9), (⟨"TaleMachine$Teller", "topInt", "()I"⟩, 9), (⟨"TaleMachine$Teller", "take", "(LTaleMachine$Frame;I)Z"⟩, 9), (⟨"TaleMachine$Teller", "calculate", "(LTaleMachine$Frame;I)Z"⟩, 9), (⟨"TaleMachine$Teller", "raise", "(I)Z"⟩, 9), (⟨"TaleMachine$Teller", "goal", "(LTaleMachine$Frame;)I"⟩, 9), (⟨"TaleMachine$Teller", "finish", "(III)Z"⟩, 9), (⟨"TaleMachine$Teller", "putTruthFor", "(LTaleMachine$Frame;IZ)Z"⟩, 9), (⟨"TaleMachine$Teller", "like", "(LTaleMachine$Frame;)Z"⟩, 9), (⟨"TaleMachine$Teller", "isFalse", "(I)Z"⟩, 9)]
theorem lw_r1 : ∀ q ∈ lw_privs_1, lw_okq q := List.forall_mem_cons.mpr ⟨lw_p0, List.forall_mem_cons.mpr ⟨lw_p1, List.forall_mem_cons.mpr ⟨lw_p2, List.forall_mem_cons.mpr ⟨lw_p3, List.forall_mem_cons.mpr ⟨lw_p4, List.forall_mem_cons.mpr ⟨lw_p5, List.forall_mem_cons.mpr ⟨lw_p6, List.forall_mem_cons.mpr ⟨lw_p7, List.forall_mem_cons.mpr ⟨lw_p8, List.forall_mem_cons.mpr ⟨lw_p9, List.forall_mem_cons.mpr ⟨lw_p10, List.forall_mem_cons.mpr ⟨lw_p11, List.forall_mem_cons.mpr ⟨lw_p12, List.forall_mem_cons.mpr ⟨lw_p13, List.forall_mem_cons.mpr ⟨lw_p14, List.forall_mem_cons.mpr ⟨lw_p15, fun _ h => absurd h List.not_mem_nil⟩⟩⟩⟩⟩⟩⟩⟩⟩⟩⟩⟩⟩⟩⟩⟩
theorem lw_p16 : lw_okq (⟨"TaleMachine$Teller", "jump", "(LTaleMachine$Frame;I)Z"⟩, 9) := ⟨⟨by decide +kernel, by decide +kernel⟩, List.mem_of_getElem? (i := 124) (by decide +kernel), List.mem_of_getElem? (i := 377) (by decide +kernel), List.mem_of_getElem? (i := 378) (by decide +kernel)⟩
theorem lw_p17 : lw_okq (⟨"TaleMachine$Teller", "jumpIfFalse", "(LTaleMachine$Frame;I)Z"⟩, 9) := ⟨⟨by decide +kernel, by decide +kernel⟩, List.mem_of_getElem? (i := 124) (by decide +kernel), List.mem_of_getElem? (i := 381) (by decide +kernel), List.mem_of_getElem? (i := 382) (by decide +kernel)⟩
theorem lw_p18 : lw_okq (⟨"TaleMachine$Teller", "ask", "(LTaleMachine$Frame;II)Z"⟩, 9) := ⟨⟨by decide +kernel, by decide +kernel⟩, List.mem_of_getElem? (i := 124) (by decide +kernel), List.mem_of_getElem? (i := 385) (by decide +kernel), List.mem_of_getElem? (i := 386) (by decide +kernel)⟩
theorem lw_p19 : lw_okq (⟨"TaleMachine$Teller", "isObjectOnTop", "(LTaleMachine$Frame;)Z"⟩, 9) := ⟨⟨by decide +kernel, by decide +kernel⟩, List.mem_of_getElem? (i := 124) (by decide +kernel), List.mem_of_getElem? (i := 392) (by decide +kernel), List.mem_of_getElem? (i := 393) (by decide +kernel)⟩
theorem lw_p20 : lw_okq (⟨"TaleMachine$World", "holderFrom", "(II)I"⟩, 9) := ⟨⟨by decide +kernel, by decide +kernel⟩, List.mem_of_getElem? (i := 42) (by decide +kernel), List.mem_of_getElem? (i := 401) (by decide +kernel), List.mem_of_getElem? (i := 402) (by decide +kernel)⟩
theorem lw_p21 : lw_okq (⟨"TaleMachine$Teller", "answer", "(LTaleMachine$Frame;IIIII)Z"⟩, 9) := ⟨⟨by decide +kernel, by decide +kernel⟩, List.mem_of_getElem? (i := 124) (by decide +kernel), List.mem_of_getElem? (i := 409) (by decide +kernel), List.mem_of_getElem? (i := 410) (by decide +kernel)⟩
theorem lw_p22 : lw_okq (⟨"TaleMachine$Teller", "enter", "(IIIII)Z"⟩, 9) := ⟨⟨by decide +kernel, by decide +kernel⟩, List.mem_of_getElem? (i := 124) (by decide +kernel), List.mem_of_getElem? (i := 418) (by decide +kernel), List.mem_of_getElem? (i := 419) (by decide +kernel)⟩
theorem lw_p23 : lw_okq (⟨"TaleMachine$Teller", "setOwn", "(LTaleMachine$Frame;I)Z"⟩, 9) := ⟨⟨by decide +kernel, by decide +kernel⟩, List.mem_of_getElem? (i := 124) (by decide +kernel), List.mem_of_getElem? (i := 434) (by decide +kernel), List.mem_of_getElem? (i := 435) (by decide +kernel)⟩
theorem lw_p24 : lw_okq (⟨"TaleMachine$Teller", "inherited", "(LTaleMachine$Frame;II)Z"⟩, 9) := ⟨⟨by decide +kernel, by decide +kernel⟩, List.mem_of_getElem? (i := 124) (by decide +kernel), List.mem_of_getElem? (i := 442) (by decide +kernel), List.mem_of_getElem? (i := 443) (by decide +kernel)⟩
theorem lw_p25 : lw_okq (⟨"TaleMachine$Teller", "end", "(LTaleMachine$Frame;II)Z"⟩, 9) := ⟨⟨by decide +kernel, by decide +kernel⟩, List.mem_of_getElem? (i := 124) (by decide +kernel), List.mem_of_getElem? (i := 451) (by decide +kernel), List.mem_of_getElem? (i := 452) (by decide +kernel)⟩
theorem lw_p26 : lw_okq (⟨"TaleMachine$Teller", "make", "(LTaleMachine$Frame;I)Z"⟩, 9) := ⟨⟨by decide +kernel, by decide +kernel⟩, List.mem_of_getElem? (i := 124) (by decide +kernel), List.mem_of_getElem? (i := 455) (by decide +kernel), List.mem_of_getElem? (i := 456) (by decide +kernel)⟩
theorem lw_p27 : lw_okq (⟨"TaleMachine$World", "clearOwn", "(I)V"⟩, 9) := ⟨⟨by decide +kernel, by decide +kernel⟩, List.mem_of_getElem? (i := 42) (by decide +kernel), List.mem_of_getElem? (i := 467) (by decide +kernel), List.mem_of_getElem? (i := 468) (by decide +kernel)⟩
theorem lw_p28 : lw_okq (⟨"TaleMachine$Teller", "testOf", "(LTaleMachine$Frame;I)Z"⟩, 9) := ⟨⟨by decide +kernel, by decide +kernel⟩, List.mem_of_getElem? (i := 124) (by decide +kernel), List.mem_of_getElem? (i := 472) (by decide +kernel), List.mem_of_getElem? (i := 473) (by decide +kernel)⟩
theorem lw_p29 : lw_okq (⟨"TaleMachine$Teller", "setPoint", "(LTaleMachine$Frame;)Z"⟩, 9) := ⟨⟨by decide +kernel, by decide +kernel⟩, List.mem_of_getElem? (i := 124) (by decide +kernel), List.mem_of_getElem? (i := 481) (by decide +kernel), List.mem_of_getElem? (i := 482) (by decide +kernel)⟩
theorem lw_p30 : lw_okq (⟨"TaleMachine$History", "dropOldest", "()V"⟩, 4) := ⟨⟨by decide +kernel, by decide +kernel⟩, List.mem_of_getElem? (i := 100) (by decide +kernel), List.mem_of_getElem? (i := 489) (by decide +kernel), List.mem_of_getElem? (i := 490) (by decide +kernel)⟩
theorem lw_p31 : lw_okq (⟨"TaleMachine$Teller", "save", "(LTaleMachine$Frame;I)Z"⟩, 9) := ⟨⟨by decide +kernel, by decide +kernel⟩, List.mem_of_getElem? (i := 124) (by decide +kernel), List.mem_of_getElem? (i := 502) (by decide +kernel), List.mem_of_getElem? (i := 503) (by decide +kernel)⟩
def lw_privs_2 : List (MethodName × Nat) := [(⟨"TaleMachine$Teller", "jump", "(LTaleMachine$Frame;I)Z"⟩, 9), (⟨"TaleMachine$Teller", "jumpIfFalse", "(LTaleMachine$Frame;I)Z"⟩, 9), (⟨"TaleMachine$Teller", "ask", "(LTaleMachine$Frame;II)Z"⟩, 9), (⟨"TaleMachine$Teller", "isObjectOnTop", "(LTaleMachine$Frame;)Z"⟩, 9), (⟨"TaleMachine$World", "holderFrom", "(II)I"⟩, 9), (⟨"TaleMachine$Teller", "answer", "(LTaleMachine$Frame;IIIII)Z"⟩, 9), (⟨"TaleMachine$Teller", "enter", "(IIIII)Z"⟩, 9), (⟨"TaleMachine$Teller", "setOwn", "(LTaleMachine$Frame;I)Z"⟩, 9), (⟨"TaleMachine$Teller", "inherited", "(LTaleMachine$Frame;II)Z"⟩, 9), (⟨"TaleMachine$Teller", "end", "(LTaleMachine$Frame;II)Z"⟩, 9), (⟨"TaleMachine$Teller", "make", "(LTaleMachine$Frame;I)Z"⟩, 9), (⟨"TaleMachine$World", "clearOwn", "(I)V"⟩, 9), (⟨"TaleMachine$Teller", "testOf", "(LTaleMachine$Frame;I)Z"⟩, 9), (⟨"TaleMachine$Teller", "setPoint", "(LTaleMachine$Frame;)Z"⟩, 9), (⟨"TaleMachine$History", "dropOldest", "()V"⟩, 4), (⟨"TaleMachine$Teller", "save", "(LTaleMachine$Frame;I)Z"⟩, 9)]
theorem lw_r2 : ∀ q ∈ lw_privs_2, lw_okq q := List.forall_mem_cons.mpr ⟨lw_p16, List.forall_mem_cons.mpr ⟨lw_p17, List.forall_mem_cons.mpr ⟨lw_p18, List.forall_mem_cons.mpr ⟨lw_p19, List.forall_mem_cons.mpr ⟨lw_p20, List.forall_mem_cons.mpr ⟨lw_p21, List.forall_mem_cons.mpr ⟨lw_p22, List.forall_mem_cons.mpr ⟨lw_p23, List.forall_mem_cons.mpr ⟨lw_p24, List.forall_mem_cons.mpr ⟨lw_p25, List.forall_mem_cons.mpr ⟨lw_p26, List.forall_mem_cons.mpr ⟨lw_p27, List.forall_mem_cons.mpr ⟨lw_p28, List.forall_mem_cons.mpr ⟨lw_p29, List.forall_mem_cons.mpr ⟨lw_p30, List.forall_mem_cons.mpr ⟨lw_p31, fun _ h => absurd h List.not_mem_nil⟩⟩⟩⟩⟩⟩⟩⟩⟩⟩⟩⟩⟩⟩⟩⟩
theorem lw_p32 : lw_okq (⟨"TaleMachine$Teller", "bringBack", "(LTaleMachine$Frame;I)Z"⟩, 9) := ⟨⟨by decide +kernel, by decide +kernel⟩, List.mem_of_getElem? (i := 124) (by decide +kernel), List.mem_of_getElem? (i := 510) (by decide +kernel), List.mem_of_getElem? (i := 511) (by decide +kernel)⟩
theorem lw_p33 : lw_okq (⟨"TaleMachine$World", "reachFrom", "(I)V"⟩, 9) := ⟨⟨by decide +kernel, by decide +kernel⟩, List.mem_of_getElem? (i := 42) (by decide +kernel), List.mem_of_getElem? (i := 548) (by decide +kernel), List.mem_of_getElem? (i := 549) (by decide +kernel)⟩
theorem lw_p34 : lw_okq (⟨"java/lang/Throwable", "fillInStackTrace", "(I)Ljava/lang/Throwable;"⟩, 6) := ⟨⟨by decide +kernel, by decide +kernel⟩, List.mem_of_getElem? (i := 607) (by decide +kernel), List.mem_of_getElem? (i := 605) (by decide +kernel), List.mem_of_getElem? (i := 606) (by decide +kernel)⟩
theorem lw_p35 : lw_okq (⟨"TaleMachine$World", "gather", "(II)I"⟩, 9) := ⟨⟨by decide +kernel, by decide +kernel⟩, List.mem_of_getElem? (i := 42) (by decide +kernel), List.mem_of_getElem? (i := 661) (by decide +kernel), List.mem_of_getElem? (i := 662) (by decide +kernel)⟩
theorem lw_p36 : lw_okq (⟨"TaleMachineModel", "isParent", "(I)Z"⟩, 31) := ⟨⟨by decide +kernel, by decide +kernel⟩, List.mem_of_getElem? (i := 750) (by decide +kernel), List.mem_of_getElem? (i := 865) (by decide +kernel), List.mem_of_getElem? (i := 866) (by decide +kernel)⟩
theorem lw_p37 : lw_okq (⟨"TaleMachineModel", "isThere", "(I)Z"⟩, 31) := ⟨⟨by decide +kernel, by decide +kernel⟩, List.mem_of_getElem? (i := 750) (by decide +kernel), List.mem_of_getElem? (i := 869) (by decide +kernel), List.mem_of_getElem? (i := 870) (by decide +kernel)⟩
theorem lw_p38 : lw_okq (⟨"TaleMachineModel", "empty", "(I)V"⟩, 31) := ⟨⟨by decide +kernel, by decide +kernel⟩, List.mem_of_getElem? (i := 750) (by decide +kernel), List.mem_of_getElem? (i := 873) (by decide +kernel), List.mem_of_getElem? (i := 874) (by decide +kernel)⟩
theorem lw_p39 : lw_okq (⟨"TaleMachineModel", "placeOf", "(II)I"⟩, 31) := ⟨⟨by decide +kernel, by decide +kernel⟩, List.mem_of_getElem? (i := 750) (by decide +kernel), List.mem_of_getElem? (i := 877) (by decide +kernel), List.mem_of_getElem? (i := 878) (by decide +kernel)⟩
theorem lw_p40 : lw_okq (⟨"TaleMachineModel", "give", "(IIII)V"⟩, 31) := ⟨⟨by decide +kernel, by decide +kernel⟩, List.mem_of_getElem? (i := 750) (by decide +kernel), List.mem_of_getElem? (i := 885) (by decide +kernel), List.mem_of_getElem? (i := 886) (by decide +kernel)⟩
theorem lw_p41 : lw_okq (⟨"TaleMachineModel", "owner", "(III)I"⟩, 31) := ⟨⟨by decide +kernel, by decide +kernel⟩, List.mem_of_getElem? (i := 750) (by decide +kernel), List.mem_of_getElem? (i := 893) (by decide +kernel), List.mem_of_getElem? (i := 894) (by decide +kernel)⟩
theorem lw_p42 : lw_okq (⟨"TaleMachineModel", "findLine", "(I)V"⟩, 31) := ⟨⟨by decide +kernel, by decide +kernel⟩, List.mem_of_getElem? (i := 750) (by decide +kernel), List.mem_of_getElem? (i := 897) (by decide +kernel), List.mem_of_getElem? (i := 898) (by decide +kernel)⟩
theorem lw_p43 : lw_okq (⟨"TaleMachineModel", "parents", "(I)I"⟩, 31) := ⟨⟨by decide +kernel, by decide +kernel⟩, List.mem_of_getElem? (i := 750) (by decide +kernel), List.mem_of_getElem? (i := 901) (by decide +kernel), List.mem_of_getElem? (i := 902) (by decide +kernel)⟩
theorem lw_p44 : lw_okq (⟨"TaleMachineModel", "parent", "(II)I"⟩, 31) := ⟨⟨by decide +kernel, by decide +kernel⟩, List.mem_of_getElem? (i := 750) (by decide +kernel), List.mem_of_getElem? (i := 905) (by decide +kernel), List.mem_of_getElem? (i := 906) (by decide +kernel)⟩
theorem lw_p45 : lw_okq (⟨"TaleMachineModel", "hasOwn", "(II)Z"⟩, 31) := ⟨⟨by decide +kernel, by decide +kernel⟩, List.mem_of_getElem? (i := 750) (by decide +kernel), List.mem_of_getElem? (i := 909) (by decide +kernel), List.mem_of_getElem? (i := 910) (by decide +kernel)⟩
theorem lw_p46 : lw_okq (⟨"TaleMachineModel", "sound", "(II)Z"⟩, 31) := ⟨⟨by decide +kernel, by decide +kernel⟩, List.mem_of_getElem? (i := 750) (by decide +kernel), List.mem_of_getElem? (i := 913) (by decide +kernel), List.mem_of_getElem? (i := 914) (by decide +kernel)⟩
theorem lw_p47 : lw_okq (⟨"TaleMachineModel", "at", "(I)I"⟩, 31) := ⟨⟨by decide +kernel, by decide +kernel⟩, List.mem_of_getElem? (i := 750) (by decide +kernel), List.mem_of_getElem? (i := 917) (by decide +kernel), List.mem_of_getElem? (i := 918) (by decide +kernel)⟩
def lw_privs_3 : List (MethodName × Nat) := [(⟨"TaleMachine$Teller", "bringBack", "(LTaleMachine$Frame;I)Z"⟩, 9), (⟨"TaleMachine$World", "reachFrom", "(I)V"⟩, 9), (⟨"java/lang/Throwable", "fillInStackTrace", "(I)Ljava/lang/Throwable;"⟩, 6), (⟨"TaleMachine$World", "gather", "(II)I"⟩, 9), (⟨"TaleMachineModel", "isParent", "(I)Z"⟩, 31), (⟨"TaleMachineModel", "isThere", "(I)Z"⟩, 31), (⟨"TaleMachineModel", "empty", "(I)V"⟩, 31), (⟨"TaleMachineModel", "placeOf", "(II)I"⟩, 31), (⟨"TaleMachineModel", "give", "(IIII)V"⟩, 31), (⟨"TaleMachineModel", "owner", "(III)I"⟩, 31), (⟨"TaleMachineModel", "findLine", "(I)V"⟩, 31), (⟨"TaleMachineModel", "parents", "(I)I"⟩, 31), (⟨"TaleMachineModel", "parent", "(II)I"⟩, 31), (⟨"TaleMachineModel", "hasOwn", "(II)Z"⟩, 31), (⟨"TaleMachineModel", "sound", "(II)Z"⟩, 31), (⟨"TaleMachineModel", "at", "(I)I"⟩, 31)]
theorem lw_r3 : ∀ q ∈ lw_privs_3, lw_okq q := List.forall_mem_cons.mpr ⟨lw_p32, List.forall_mem_cons.mpr ⟨lw_p33, List.forall_mem_cons.mpr ⟨lw_p34, List.forall_mem_cons.mpr ⟨lw_p35, List.forall_mem_cons.mpr ⟨lw_p36, List.forall_mem_cons.mpr ⟨lw_p37, List.forall_mem_cons.mpr ⟨lw_p38, List.forall_mem_cons.mpr ⟨lw_p39, List.forall_mem_cons.mpr ⟨lw_p40, List.forall_mem_cons.mpr ⟨lw_p41, List.forall_mem_cons.mpr ⟨lw_p42, List.forall_mem_cons.mpr ⟨lw_p43, List.forall_mem_cons.mpr ⟨lw_p44, List.forall_mem_cons.mpr ⟨lw_p45, List.forall_mem_cons.mpr ⟨lw_p46, List.forall_mem_cons.mpr ⟨lw_p47, fun _ h => absurd h List.not_mem_nil⟩⟩⟩⟩⟩⟩⟩⟩⟩⟩⟩⟩⟩⟩⟩⟩
theorem lw_p48 : lw_okq (⟨"TaleMachineModel", "enter", "(IIII)V"⟩, 31) := ⟨⟨by decide +kernel, by decide +kernel⟩, List.mem_of_getElem? (i := 750) (by decide +kernel), List.mem_of_getElem? (i := 921) (by decide +kernel), List.mem_of_getElem? (i := 922) (by decide +kernel)⟩
theorem lw_p49 : lw_okq (⟨"TaleMachineModel", "push", "(II)V"⟩, 31) := ⟨⟨by decide +kernel, by decide +kernel⟩, List.mem_of_getElem? (i := 750) (by decide +kernel), List.mem_of_getElem? (i := 925) (by decide +kernel), List.mem_of_getElem? (i := 926) (by decide +kernel)⟩
theorem lw_p50 : lw_okq (⟨"TaleMachineModel", "one", "()Z"⟩, 31) := ⟨⟨by decide +kernel, by decide +kernel⟩, List.mem_of_getElem? (i := 750) (by decide +kernel), List.mem_of_getElem? (i := 933) (by decide +kernel), List.mem_of_getElem? (i := 934) (by decide +kernel)⟩
theorem lw_p51 : lw_okq (⟨"TaleMachineModel", "putting", "(III)Z"⟩, 31) := ⟨⟨by decide +kernel, by decide +kernel⟩, List.mem_of_getElem? (i := 750) (by decide +kernel), List.mem_of_getElem? (i := 940) (by decide +kernel), List.mem_of_getElem? (i := 941) (by decide +kernel)⟩
theorem lw_p52 : lw_okq (⟨"TaleMachineModel", "taken", "()I"⟩, 31) := ⟨⟨by decide +kernel, by decide +kernel⟩, List.mem_of_getElem? (i := 750) (by decide +kernel), List.mem_of_getElem? (i := 944) (by decide +kernel), List.mem_of_getElem? (i := 945) (by decide +kernel)⟩
theorem lw_p53 : lw_okq (⟨"TaleMachineModel", "signed", "(I)I"⟩, 31) := ⟨⟨by decide +kernel, by decide +kernel⟩, List.mem_of_getElem? (i := 750) (by decide +kernel), List.mem_of_getElem? (i := 948) (by decide +kernel), List.mem_of_getElem? (i := 949) (by decide +kernel)⟩
theorem lw_p54 : lw_okq (⟨"TaleMachineModel", "two", "(I)I"⟩, 31) := ⟨⟨by decide +kernel, by decide +kernel⟩, List.mem_of_getElem? (i := 750) (by decide +kernel), List.mem_of_getElem? (i := 952) (by decide +kernel), List.mem_of_getElem? (i := 953) (by decide +kernel)⟩
theorem lw_p55 : lw_okq (⟨"TaleMachineModel", "reckoning", "(I)Z"⟩, 31) := ⟨⟨by decide +kernel, by decide +kernel⟩, List.mem_of_getElem? (i := 750) (by decide +kernel), List.mem_of_getElem? (i := 956) (by decide +kernel), List.mem_of_getElem? (i := 957) (by decide +kernel)⟩
theorem lw_p56 : lw_okq (⟨"TaleMachineModel", "isFalse", "(I)Z"⟩, 31) := ⟨⟨by decide +kernel, by decide +kernel⟩, List.mem_of_getElem? (i := 750) (by decide +kernel), List.mem_of_getElem? (i := 960) (by decide +kernel), List.mem_of_getElem? (i := 961) (by decide +kernel)⟩
theorem lw_p57 : lw_okq (⟨"TaleMachineModel", "truth", "(Z)Z"⟩, 31) := ⟨⟨by decide +kernel, by decide +kernel⟩, List.mem_of_getElem? (i := 750) (by decide +kernel), List.mem_of_getElem? (i := 964) (by decide +kernel), List.mem_of_getElem? (i := 965) (by decide +kernel)⟩
theorem lw_p58 : lw_okq (⟨"TaleMachineModel", "toss", "(I)Z"⟩, 31) := ⟨⟨by decide +kernel, by decide +kernel⟩, List.mem_of_getElem? (i := 750) (by decide +kernel), List.mem_of_getElem? (i := 968) (by decide +kernel), List.mem_of_getElem? (i := 969) (by decide +kernel)⟩
theorem lw_p59 : lw_okq (⟨"TaleMachineModel", "handler", "(II)I"⟩, 31) := ⟨⟨by decide +kernel, by decide +kernel⟩, List.mem_of_getElem? (i := 750) (by decide +kernel), List.mem_of_getElem? (i := 972) (by decide +kernel), List.mem_of_getElem? (i := 973) (by decide +kernel)⟩
theorem lw_p60 : lw_okq (⟨"TaleMachineModel", "belongs", "(II)Z"⟩, 31) := ⟨⟨by decide +kernel, by decide +kernel⟩, List.mem_of_getElem? (i := 750) (by decide +kernel), List.mem_of_getElem? (i := 976) (by decide +kernel), List.mem_of_getElem? (i := 977) (by decide +kernel)⟩
theorem lw_p61 : lw_okq (⟨"TaleMachineModel", "over", "(I)I"⟩, 31) := ⟨⟨by decide +kernel, by decide +kernel⟩, List.mem_of_getElem? (i := 750) (by decide +kernel), List.mem_of_getElem? (i := 980) (by decide +kernel), List.mem_of_getElem? (i := 981) (by decide +kernel)⟩
theorem lw_p62 : lw_okq (⟨"TaleMachineModel", "going", "(III)Z"⟩, 31) := ⟨⟨by decide +kernel, by decide +kernel⟩, List.mem_of_getElem? (i := 750) (by decide +kernel), List.mem_of_getElem? (i := 984) (by decide +kernel), List.mem_of_getElem? (i := 985) (by decide +kernel)⟩
theorem lw_p63 : lw_okq (⟨"TaleMachineModel", "isObject", "(I)Z"⟩, 31) := ⟨⟨by decide +kernel, by decide +kernel⟩, List.mem_of_getElem? (i := 750) (by decide +kernel), List.mem_of_getElem? (i := 988) (by decide +kernel), List.mem_of_getElem? (i := 989) (by decide +kernel)⟩
def lw_privs_4 : List (MethodName × Nat) := [(⟨"TaleMachineModel", "enter", "(IIII)V"⟩, 31), (⟨"TaleMachineModel", "push", "(II)V"⟩, 31), (⟨"TaleMachineModel", "one", "()Z"⟩, 31), (⟨"TaleMachineModel", "putting", "(III)Z"⟩, 31), (⟨"TaleMachineModel", "taken", "()I"⟩, 31), (⟨"TaleMachineModel", "signed", "(I)I"⟩, 31), (⟨"TaleMachineModel", "two", "(I)I"⟩, 31), (⟨"TaleMachineModel", "reckoning", "(I)Z"⟩, 31), (⟨"TaleMachineModel", "isFalse", "(I)Z"⟩, 31), (⟨"TaleMachineModel", "truth", "(Z)Z"⟩, 31), (⟨"TaleMachineModel", "toss", "(I)Z"⟩, 31), (⟨"TaleMachineModel", "handler", "(II)I"⟩, 31), (⟨"TaleMachineModel", "belongs", "(II)Z"⟩, 31), (⟨"TaleMachineModel", "over", "(I)I"⟩, 31), (⟨"TaleMachineModel", "going", "(III)Z"⟩, 31), (⟨"TaleMachineModel", "isObject", "(I)Z"⟩, 31)]
theorem lw_r4 : ∀ q ∈ lw_privs_4, lw_okq q := List.forall_mem_cons.mpr ⟨lw_p48, List.forall_mem_cons.mpr ⟨lw_p49, List.forall_mem_cons.mpr ⟨lw_p50, List.forall_mem_cons.mpr ⟨lw_p51, List.forall_mem_cons.mpr ⟨lw_p52, List.forall_mem_cons.mpr ⟨lw_p53, List.forall_mem_cons.mpr ⟨lw_p54, List.forall_mem_cons.mpr ⟨lw_p55, List.forall_mem_cons.mpr ⟨lw_p56, List.forall_mem_cons.mpr ⟨lw_p57, List.forall_mem_cons.mpr ⟨lw_p58, List.forall_mem_cons.mpr ⟨lw_p59, List.forall_mem_cons.mpr ⟨lw_p60, List.forall_mem_cons.mpr ⟨lw_p61, List.forall_mem_cons.mpr ⟨lw_p62, List.forall_mem_cons.mpr ⟨lw_p63, fun _ h => absurd h List.not_mem_nil⟩⟩⟩⟩⟩⟩⟩⟩⟩⟩⟩⟩⟩⟩⟩⟩
theorem lw_p64 : lw_okq (⟨"TaleMachineModel", "ask", "(IIIII)Z"⟩, 31) := ⟨⟨by decide +kernel, by decide +kernel⟩, List.mem_of_getElem? (i := 750) (by decide +kernel), List.mem_of_getElem? (i := 992) (by decide +kernel), List.mem_of_getElem? (i := 993) (by decide +kernel)⟩
theorem lw_p65 : lw_okq (⟨"TaleMachineModel", "call", "(IIIII)Z"⟩, 31) := ⟨⟨by decide +kernel, by decide +kernel⟩, List.mem_of_getElem? (i := 750) (by decide +kernel), List.mem_of_getElem? (i := 996) (by decide +kernel), List.mem_of_getElem? (i := 997) (by decide +kernel)⟩
theorem lw_p66 : lw_okq (⟨"TaleMachineModel", "assign", "(I)Z"⟩, 31) := ⟨⟨by decide +kernel, by decide +kernel⟩, List.mem_of_getElem? (i := 750) (by decide +kernel), List.mem_of_getElem? (i := 1000) (by decide +kernel), List.mem_of_getElem? (i := 1001) (by decide +kernel)⟩
theorem lw_p67 : lw_okq (⟨"TaleMachineModel", "end", "(II)Z"⟩, 31) := ⟨⟨by decide +kernel, by decide +kernel⟩, List.mem_of_getElem? (i := 750) (by decide +kernel), List.mem_of_getElem? (i := 1004) (by decide +kernel), List.mem_of_getElem? (i := 1005) (by decide +kernel)⟩
theorem lw_p68 : lw_okq (⟨"TaleMachineModel", "world", "(II)Z"⟩, 31) := ⟨⟨by decide +kernel, by decide +kernel⟩, List.mem_of_getElem? (i := 750) (by decide +kernel), List.mem_of_getElem? (i := 1008) (by decide +kernel), List.mem_of_getElem? (i := 1009) (by decide +kernel)⟩
theorem lw_p69 : lw_okq (⟨"TaleMachineModel", "make", "(I)Z"⟩, 31) := ⟨⟨by decide +kernel, by decide +kernel⟩, List.mem_of_getElem? (i := 750) (by decide +kernel), List.mem_of_getElem? (i := 1012) (by decide +kernel), List.mem_of_getElem? (i := 1013) (by decide +kernel)⟩
theorem lw_p70 : lw_okq (⟨"TaleMachineModel", "point", "()Z"⟩, 31) := ⟨⟨by decide +kernel, by decide +kernel⟩, List.mem_of_getElem? (i := 750) (by decide +kernel), List.mem_of_getElem? (i := 1016) (by decide +kernel), List.mem_of_getElem? (i := 1017) (by decide +kernel)⟩
theorem lw_p71 : lw_okq (⟨"TaleMachineModel", "copy", "(II)V"⟩, 31) := ⟨⟨by decide +kernel, by decide +kernel⟩, List.mem_of_getElem? (i := 750) (by decide +kernel), List.mem_of_getElem? (i := 1020) (by decide +kernel), List.mem_of_getElem? (i := 1021) (by decide +kernel)⟩
theorem lw_p72 : lw_okq (⟨"TaleMachineModel", "mark", "(III)I"⟩, 31) := ⟨⟨by decide +kernel, by decide +kernel⟩, List.mem_of_getElem? (i := 750) (by decide +kernel), List.mem_of_getElem? (i := 1032) (by decide +kernel), List.mem_of_getElem? (i := 1033) (by decide +kernel)⟩
theorem lw_p73 : lw_okq (⟨"TaleMachineModel", "spread", "(I)I"⟩, 31) := ⟨⟨by decide +kernel, by decide +kernel⟩, List.mem_of_getElem? (i := 750) (by decide +kernel), List.mem_of_getElem? (i := 1036) (by decide +kernel), List.mem_of_getElem? (i := 1037) (by decide +kernel)⟩
theorem lw_p74 : lw_okq (⟨"TaleMachineModel", "refuse", "(I)I"⟩, 31) := ⟨⟨by decide +kernel, by decide +kernel⟩, List.mem_of_getElem? (i := 750) (by decide +kernel), List.mem_of_getElem? (i := 1044) (by decide +kernel), List.mem_of_getElem? (i := 1045) (by decide +kernel)⟩
def lw_privs_5 : List (MethodName × Nat) := [(⟨"TaleMachineModel", "ask", "(IIIII)Z"⟩, 31), (⟨"TaleMachineModel", "call", "(IIIII)Z"⟩, 31), (⟨"TaleMachineModel", "assign", "(I)Z"⟩, 31), (⟨"TaleMachineModel", "end", "(II)Z"⟩, 31), (⟨"TaleMachineModel", "world", "(II)Z"⟩, 31), (⟨"TaleMachineModel", "make", "(I)Z"⟩, 31), (⟨"TaleMachineModel", "point", "()Z"⟩, 31), (⟨"TaleMachineModel", "copy", "(II)V"⟩, 31), (⟨"TaleMachineModel", "mark", "(III)I"⟩, 31), (⟨"TaleMachineModel", "spread", "(I)I"⟩, 31), (⟨"TaleMachineModel", "refuse", "(I)I"⟩, 31)]
theorem lw_r5 : ∀ q ∈ lw_privs_5, lw_okq q := List.forall_mem_cons.mpr ⟨lw_p64, List.forall_mem_cons.mpr ⟨lw_p65, List.forall_mem_cons.mpr ⟨lw_p66, List.forall_mem_cons.mpr ⟨lw_p67, List.forall_mem_cons.mpr ⟨lw_p68, List.forall_mem_cons.mpr ⟨lw_p69, List.forall_mem_cons.mpr ⟨lw_p70, List.forall_mem_cons.mpr ⟨lw_p71, List.forall_mem_cons.mpr ⟨lw_p72, List.forall_mem_cons.mpr ⟨lw_p73, List.forall_mem_cons.mpr ⟨lw_p74, fun _ h => absurd h List.not_mem_nil⟩⟩⟩⟩⟩⟩⟩⟩⟩⟩⟩
def lw_privs : List (MethodName × Nat) := lw_privs_1 ++ (lw_privs_2 ++ (lw_privs_3 ++ (lw_privs_4 ++ (lw_privs_5))))
def lw_tbl : List Cond := k2_sels lw_privs ++ tables_1
theorem lw_privs_ok : ∀ q ∈ lw_privs, lw_okq q := by
  show ∀ q ∈ lw_privs_1 ++ (lw_privs_2 ++ (lw_privs_3 ++ (lw_privs_4 ++ (lw_privs_5)))), lw_okq q
  exact List.forall_mem_append.mpr ⟨lw_r1, List.forall_mem_append.mpr ⟨lw_r2, List.forall_mem_append.mpr ⟨lw_r3, List.forall_mem_append.mpr ⟨lw_r4, lw_r5⟩⟩⟩⟩
end
section
/-! Methods that throw: a contract's end that is a throw (vt_Met), the call of such a method, its way out of a caller without handlers, its way into a caller's handler, and the making and throwing of an exception with a String constant. -/
def vt_Met (l : Launch) (y : MethodName) (ws : List Cond) (rm : Room) (Pc : Array Value → State → Prop) (Qx : Array Value → State → Addr → State → Prop) (mc ms : Nat) (free : Addr → Prop) : Prop :=
  MetFree l y (headSpec ws rm) Pc (fun _ _ _ _ _ => True) (fun a st o t => ∃ x, o = .threw x ∧ Qx a st x t ∧ st.WarmedH t.vm ∧ ∃ L, st.sameButNew ({ t with vm := st.vm } : State) L mc ms ∧ ∀ q ∈ L, free q.base)
def vt_MQ (below : List Frame) (Qx : Array Value → State → Addr → State → Prop) (a : Array Value) (s : State) (mc ms : Nat) (free : Addr → Prop) : State → Prop := fun t =>
  ∃ x, t.status = .running ∧ Ended t below (.threw x) ∧ Qx a s x t ∧ s.WarmedH t.vm ∧ ∃ L, s.sameButNew ({ t with vm := s.vm } : State) L mc ms ∧ ∀ q ∈ L, free q.base
/-- what a thrower's end says: the thrown cell's class; what isn't the method's own stays -/
def vt_Q (cls : String) (A : Nat → Prop) : Array Value → State → Addr → State → Prop := fun _ st x t => (∃ cell : Cell, t.heap[x]? = some cell ∧ cell.vm = .none ∧ st.vm.findClass cls = some cell.cls) ∧ va_F A st t
def vt_PostOf (Qx : Array Value → State → Addr → State → Prop) (mc ms : Nat) (free : Addr → Prop) : Pt → Array Value → Addr → Pt → Prop := fun A a x B =>
  ∃ (g : JFrame) (mk : MethodId) (t : State) (L : List Loc), B.U.heap = t.heap ∧ B.U.vm = t.vm ∧ Qx a (A.U.calling g mk a) x t ∧ B.locs = A.locs ++ L ∧ (∀ q ∈ L, free q.base) ∧ B.cells = A.cells + mc ∧ B.slots = A.slots + ms
def vt_Back (l : Launch) (R : Room) (p : Program) (e : Env) (below : List Frame) (s : State) (sargs : Array Value) (y : MethodName) (len W : Nat) (Pre : Pt → Array Value → Prop) (Post : Pt → Array Value → Addr → Pt → Prop) : Prop :=
  ∀ (m : MethodId) (meth : Method) (c : Code) (A : Pt) (g : JFrame) (ig : Instr) (mk : MethodId) (a : Array Value),
    Stand p l e R s m sargs below meth c A.U A.locs A.cells A.slots → g.method = m → g.locals.size = c.maxLocals → decode c.code g.pc = .ok (ig, len) →
    2 * g.monitorRoom + (g.stack.map fun v => v.category).sum ≤ W → A.U.methodNamed? y = some mk → Pre A a →
    ∃ (x : Addr) (B : Pt), Stand p l e R s m sargs below meth c B.U B.locs B.cells B.slots ∧ Post A a x B ∧
      Steps p.tables e below (doInvoke e (A.U.setTop g) [] mk a).1 ((B.U.setTop g).pushFrame (.throwing x))
theorem vt_same {s t : State} {locs : List Loc} {k n : Nat} {A : Nat → Prop} (h : s.sameButNew t locs k n) (hA : ∀ q ∈ locs, A q.base) : ∀ q : Nat, q < s.heap.size → ¬ A q → t.heap[q]? = s.heap[q]? := by
  intro q hq hn
  have hc : s.heap[q]? = some s.heap[q] := Array.getElem?_eq_getElem hq
  obtain ⟨c', h1, h2, -, h4⟩ := h.2.2.2.2.2 q _ hc
  have h5 : c'.slots = (s.heap[q]).slots := Array.ext_getElem? (fun i => h4 i (fun hm => hn (hA _ hm)))
  rw [h1, hc, h2, h5]
section VT1
variable {l : Launch}
theorem vt_ofW {y : MethodName} {ws ws' : List Cond} {rm : Room} {Pc : Array Value → State → Prop} {Qx : Array Value → State → Addr → State → Prop} {mc ms : Nat} {free : Addr → Prop} {cc : ByteArray} {maxL : Nat} {ret : Option FieldType}
    (hy : plainName y.cls = true) (hw : ws = Cond.code y cc maxL ret :: ws')
    (body : ∀ p e s m args below meth c s₁, BodyLoose p l y (headSpec ws rm) cc maxL ret e s m args below meth c s₁ → c.maxLocals = maxL → c.exceptionTable.isEmpty = true → Pc args s →
      W p l e (headSpec ws rm).room s m args below meth c s.heap [] 0 0 (vt_MQ below Qx args s mc ms free) (entryFrame m args maxL)) : vt_Met l y ws rm Pc Qx mc ms free := by
  refine MetFree.of_bodyS (code := cc) (maxLocals := maxL) (ret := ret) hy ?_ ?_
  · intro args s m h hn
    obtain ⟨meth, c, h1, h2, h3, h4, h5, h6, -, -⟩ := Cond.code_spec hn (atoms_spec (ws := ws) h _ (by rw [hw]; exact List.mem_cons_self))
    exact ⟨meth, c, h1, h2, h3, h4, h5, h6⟩
  · intro p e s m args below meth c s₁ B hml hP _
    have hh0 : s₁.heap = s.heap := by rw [B.state]; rfl
    have hne := B.noHandlers (atoms_spec (ws := ws) B.pre _ (by rw [hw]; exact List.mem_cons_self))
    obtain ⟨t, a1, x, b1, b2, b3⟩ := body p e s m args below meth c s₁ B hml hne hP s₁ hh0 (Stand.of_body B)
    exact ⟨t, .threw x, a1, b1, b2, x, rfl, b3⟩
end VT1
section VT2
variable {l : Launch} {R : Room} {p : Program} {e : Env} {below : List Frame} {s : State} {sargs : Array Value} {y : MethodName} {len W : Nat}
theorem vt_back {ws : List Cond} {rm : Room} {Pc : Array Value → State → Prop} {Qx : Array Value → State → Addr → State → Prop} {mc ms : Nat} {free : Addr → Prop} {bytes : ByteArray} {maxL : Nat} {ret : Option FieldType}
    (hM : vt_Met l y ws rm Pc Qx mc ms free) (hblind : FrameBlind Pc) (hrc : rm.cells = mc) (hrs : rm.slots = ms)
    (hframes : rm.frames + 1 ≤ R.frames) (hlocals : W + (maxL + 11) + rm.locals ≤ R.locals)
    (hws : ∀ w ∈ ws, ∀ (a' : Array Value) (U : State), s.WarmedH U.vm → w.before a' U = true) (hcode : Cond.code y bytes maxL ret ∈ ws) (hinit : ∀ (a' : Array Value) (U : State), s.WarmedH U.vm → (Cond.initialized y.cls).before a' U = true) :
    vt_Back l R p e below s sargs y len W (PreOf R mc ms Pc) (vt_PostOf Qx mc ms free) := by
  intro m meth c A g ig mk a X hg hsize hdg hW hn hp
  obtain ⟨U, Ls, c0, s0⟩ := A
  obtain ⟨hp1, hp2, hp3⟩ := hp
  dsimp only [Pt.U, Pt.locs, Pt.cells, Pt.slots] at X hn hp1 hp2 hp3 ⊢
  subst hrc; subst hrs
  obtain ⟨methY, cY, hmY, hcY, -, hlY, -, -, -, -⟩ := Cond.code_spec hn (hws _ hcode a U X.warmed)
  obtain ⟨kY, hkY, -⟩ := className_of_methodNamed hn
  have hinitY : kY.init = .initialized := Cond.initialized_spec (findClass_of_methodNamed hn) hkY (hinit a U X.warmed)
  have h : At U g.method c below := by rw [hg]; exact X.here
  have happ : (headSpec ws rm).appliesLoose y e.platform (U.calling g mk a) = true :=
    Spec.appliesLoose_calling (g := g) h hdg hn hkY hinitY
      (X.room_calling (g := g) (R' := rm) hsize hmY hcY hframes (by rw [hlY]; omega) hp1 hp2) (atoms_intro fun w hw => hws w hw _ _ X.warmed)
  obtain ⟨mid, hmid⟩ := h.above
  have hfr : (U.setTop g).frames = (.java g :: mid) ++ below := by rw [State.frames_setTop' g h.top, hmid]; rfl
  obtain ⟨o, s₂, hsteps, -, hend, hq⟩ := Steps.callFree hM p X.admits X.cas X.clock (acts := []) hfr happ (hblind _ _ _ _ hp3) trivial
  obtain ⟨x, rfl, hq, hWs, L, hsame, hL⟩ := hq
  rw [State.frames_setTop' g h.top, X.tail] at hend
  obtain ⟨T', X', -, -, ht⟩ := X.outOfThrown (g := g) (mk := mk) (a := a) hg hend hWs hsame
  refine ⟨x, ⟨T', Ls ++ L, c0 + rm.cells, s0 + rm.slots⟩, X', ⟨g, mk, s₂, L, ?_, ?_, hq, rfl, hL, rfl, rfl⟩, ?_⟩
  · rw [ht]; exact (Stand.throwing_heap T' g x).symm
  · rw [ht]; exact (Stand.throwing_vm T' g x).symm
  · show Steps p.tables e below _ ((T'.setTop g).pushFrame (.throwing x))
    rw [← ht]
    exact hsteps
end VT2
section VT3
variable {p : Program} {l : Launch} {e : Env} {R : Room} {s : State} {m : MethodId} {args : Array Value} {below : List Frame} {meth : Method} {c : Code} {H : Heap} {locs : List Loc} {cells slots : Nat} {Q : State → Prop}
variable {y : MethodName} {bytes cc : ByteArray} {maxL nL mc ms n index : Nat} {ret : Option FieldType} {ws : List Cond} {rm : Room} {Pc : Array Value → State → Prop} {Qx : Array Value → State → Addr → State → Prop} {free : Addr → Prop} {Ts : List Cond} {own C : String} {b : Addr} {As rest : List Value} {g : JFrame}
def vt_Run (p : Program) (l : Launch) (e : Env) (R : Room) (s : State) (m : MethodId) (args : Array Value) (below : List Frame) (meth : Method) (c : Code) (H : Heap) (locs : List Loc) (cells slots mc ms : Nat) (g : JFrame) (rest : List Value) (Qa : State → Addr → State → Prop) (free : Addr → Prop) : Prop :=
  ∀ T : State, T.heap = H → Stand p l e R s m args below meth c T locs cells slots → ∃ (x : Addr) (st₀ t T' : State) (L : List Loc), st₀.heap = H ∧ s.vm.Alike st₀.vm ∧ Stand p l e R s m args below meth c T' (locs ++ L) (cells + mc) (slots + ms) ∧ (∀ q ∈ L, free q.base) ∧ T'.heap = t.heap ∧ T'.vm = t.vm ∧ Qa st₀ x t ∧
    ∀ target, Steps p.tables e below ((T'.setTop { g with stack := rest }).pushFrame (.throwing x)) target → Steps p.tables e below (T.setTop g) target
theorem vt_callBack (cb : CallB R s args own index y bytes maxL ret ws rm mc ms n) (hM : vt_Met l y ws rm Pc Qx mc ms free) (hbl : FrameBlind Pc) : vt_Back l R p e below s args y 3 8 (PreOf R mc ms Pc) (vt_PostOf Qx mc ms free) := by
  obtain ⟨hrc, hrs, hfr, hlo, hws, hcw, -, hini, -⟩ := cb
  exact vt_back (bytes := bytes) (maxL := maxL) (ret := ret) hM hbl hrc hrs hfr hlo hws hcw (fun a' U hW => word_at hW (Or.inl (by first | rfl | simp [Cond.onTables, Cond.keeps, Cond.steady])) hini)
theorem vt_runV (S : CallFix p m c cc nL s args Ts own) (hM : vt_Met l y ws rm Pc Qx mc ms free) (cw : CallW R s args own C index y bytes maxL ret ws rm mc ms n) (hp : PreV s H C b Pc As)
    (hg : g.method = m) (hn : As.length = n) (hsize : g.locals.size = nL) (hstack : g.stack = As.reverse ++ .ref b :: rest) (hW : 2 * g.monitorRoom + (rest.map fun v => v.category).sum ≤ 8) (hdg : decode cc g.pc = .ok (.invokevirtual index, 3)) (hf : cells + mc ≤ R.cells ∧ slots + ms ≤ R.slots) :
    vt_Run p l e R s m args below meth c H locs cells slots mc ms g rest (Qx (Value.ref b :: As).toArray) free := by
  have hK : vt_Back l R p e below s args y 3 8 (PreOf R mc ms Pc) (vt_PostOf Qx mc ms free) := vt_callBack cw.1 hM hp.1
  obtain ⟨⟨-, -, -, -, -, -, hcode, -, hy, hlen, hlink⟩, hinst, hsel⟩ := cw
  obtain ⟨hexec, hb, hml, hown, -⟩ := S
  obtain ⟨-, ⟨cellB, hcB, hobj, hcls⟩, hPc⟩ := hp
  intro T hT X
  obtain ⟨mk, methM, hnamed, hmethM, hstM, habM⟩ := Cond.instanceMethod_spec hinst
  obtain ⟨methM', cM, hmethM', -, -, -, -, -, -, hsigM⟩ := Cond.code_spec hnamed hcode
  cases hmethM.symm.trans hmethM'
  obtain ⟨c2, r2, m2, q1, q2, q3, q4, kP, hkP, hkPi⟩ := Cond.selects_spec hsel
  cases hcls.symm.trans q1
  cases (State.methodFound?_of_named hnamed hy).symm.trans q2
  cases hnamed.symm.trans q3
  have hselP : selectMethod e.platform s.vm cellB.cls mk = .method mk := by rw [Launch.admits_selectMethod X.admits]; exact q4
  obtain ⟨vm₁, X₁, hstep₁⟩ := X.invokevirtual hexec hown hlink hnamed hmethM hstM hkP hkPi hy (a := b) (cell := cellB) (by rw [hT]; exact hcB)
    (fun z h => by rw [h] at hobj; cases hobj) hselP hmethM habM hkP hkPi (g := g) hg (argsL := As) (rest := rest) (hn.trans (hlen _ hsigM)) hstack (by rw [hb]; exact hdg)
  obtain ⟨x, ⟨U', l2, c2, s2⟩, X', ⟨g', mk', t, L, e1, e2, hq, h1, hL, h2, h3⟩, hsteps⟩ := hK m meth c ⟨T.setVm vm₁, locs, cells, slots⟩ { g with stack := rest } (.invokevirtual index) mk (Value.ref b :: As).toArray X₁ hg (hsize.trans hml.symm) (by rw [hb]; exact hdg) hW (X₁.named hnamed) ⟨hf.1, hf.2, hPc (T.setVm vm₁) hT X₁.warmed⟩
  dsimp only [Pt.U, Pt.locs, Pt.cells, Pt.slots] at X' e1 e2 h1 h2 h3 hsteps
  subst h1; subst h2; subst h3
  exact ⟨x, (T.setVm vm₁).calling g' mk' (Value.ref b :: As).toArray, t, U', L, hT, X₁.warmed.alike, X', hL, e1, e2, hq, fun target h => hstep₁ _ fun acts => by rw [doInvoke_state]; exact hsteps.trans h⟩
theorem vt_runS (S : CallFix p m c cc nL s args Ts own) (hM : vt_Met l y ws rm Pc Qx mc ms free) (cw : CallB R s args own index y bytes maxL ret ws rm mc ms n ∧ (Cond.static y).before args s = true) (hp : PreS s H Pc As)
    (hg : g.method = m) (hn : As.length = n) (hsize : g.locals.size = nL) (hstack : g.stack = As.reverse ++ rest) (hW : 2 * g.monitorRoom + (rest.map fun v => v.category).sum ≤ 8) (hdg : decode cc g.pc = .ok (.invokestatic index, 3)) (hf : cells + mc ≤ R.cells ∧ slots + ms ≤ R.slots) :
    vt_Run p l e R s m args below meth c H locs cells slots mc ms g rest (Qx As.toArray) free := by
  have hK : vt_Back l R p e below s args y 3 8 (PreOf R mc ms Pc) (vt_PostOf Qx mc ms free) := vt_callBack cw.1 hM hp.1
  obtain ⟨⟨-, -, -, -, -, -, hcode, hinit, hy, hlen, hlink⟩, hstat⟩ := cw
  obtain ⟨hexec, hb, hml, hown, -⟩ := S
  intro T hT X
  obtain ⟨mk, hnamed⟩ := Cond.code_named hcode
  obtain ⟨methM, cM, hmethM, -, -, -, -, -, -, hsigM⟩ := Cond.code_spec hnamed hcode
  have hstatic : methM.isStatic = true := Cond.static_spec hnamed hmethM hstat
  obtain ⟨kP, hkP, -⟩ := className_of_methodNamed hnamed
  have hinitP : kP.init = .initialized := Cond.initialized_spec (findClass_of_methodNamed hnamed) hkP hinit
  obtain ⟨vm₁, X₁, hstep₁⟩ := X.invokestatic hexec hown hlink hnamed hmethM hstatic hkP hinitP hy (g := g) hg (argsL := As) (rest := rest) (hn.trans (hlen _ hsigM)) hstack (by rw [hb]; exact hdg)
  obtain ⟨x, ⟨U', l2, c2, s2⟩, X', ⟨g', mk', t, L, e1, e2, hq, h1, hL, h2, h3⟩, hsteps⟩ := hK m meth c ⟨T.setVm vm₁, locs, cells, slots⟩ { g with stack := rest } (.invokestatic index) mk As.toArray X₁ hg (hsize.trans hml.symm) (by rw [hb]; exact hdg) hW (X₁.named hnamed) ⟨hf.1, hf.2, hp.2 (T.setVm vm₁) hT X₁.warmed⟩
  dsimp only [Pt.U, Pt.locs, Pt.cells, Pt.slots] at X' e1 e2 h1 h2 h3 hsteps
  subst h1; subst h2; subst h3
  exact ⟨x, (T.setVm vm₁).calling g' mk' As.toArray, t, U', L, hT, X₁.warmed.alike, X', hL, e1, e2, hq, fun target h => hstep₁ _ fun acts => by rw [doInvoke_state]; exact hsteps.trans h⟩
end VT3
section VT4
variable {p : Program} {l : Launch} {e : Env} {R : Room} {s : State} {m : MethodId} {args : Array Value} {below : List Frame} {meth : Method} {c : Code} {H : Heap} {locs : List Loc} {cells slots : Nat} {Q : State → Prop}
variable {pc : Nat} {ls : Array Slot} {rest st0 : List Value} {a : Array Value} {A0 A1 : Nat → Prop} {H0 : Heap} {mc ms : Nat} {free : Addr → Prop} {cls : String}
theorem vt_grow {A0 A1 : Nat → Prop} {H0 H H1 : Heap} {locs L : List Loc} {free : Addr → Prop} (hS : va_S A0 H0 H locs) (hA : ∀ q, q < H.size → A1 q → A0 q) (hf : ∀ q, free q → A0 q) (hL : ∀ q ∈ L, free q.base) (hz : H.size ≤ H1.size) (hk : ∀ q : Nat, q < H.size → ¬ A1 q → H1[q]? = H[q]?) : va_S A0 H0 H1 (locs ++ L) := by
  refine ⟨Nat.le_trans hS.1 hz, fun q h1 h2 => ?_, fun q hq => ?_⟩
  · rw [hk q (Nat.lt_of_lt_of_le h1 hS.1) (fun z => h2 (hA q (Nat.lt_of_lt_of_le h1 hS.1) z))]
    exact hS.2.1 q h1 h2
  · rcases List.mem_append.mp hq with h | h
    · exact hS.2.2 q h
    · exact hf _ (hL q h)
/-- a callee's throw goes out of a method without handlers -/
theorem vt_out (hr : vt_Run p l e R s m args below meth c H locs cells slots mc ms (F0 m pc ls st0) rest (vt_Q cls A1 a) free) (hS : va_S A0 s.heap H locs) (hA : ∀ q, q < H.size → A1 q → A0 q) (hf : ∀ q, free q → A0 q) (hne : c.exceptionTable.isEmpty = true) (hlocks : meth.locks = false) :
    W p l e R s m args below meth c H locs cells slots (vt_MQ below (vt_Q cls A0) args s (cells + mc) (slots + ms) A0) (F0 m pc ls st0) := by
  intro T hT X
  obtain ⟨x, st₀, t, T', L, h0, hal, X', hL, e1, e2, ⟨⟨cell, k1, k2, k3⟩, hz, hk⟩, st⟩ := hr T hT X
  rw [h0] at hz hk
  have hS1 : va_S A0 s.heap T'.heap (locs ++ L) := vt_grow hS hA hf hL (by rw [e1]; exact hz) (fun q h1 h2 => by rw [e1]; exact hk q h1 h2)
  obtain ⟨hw, hrun, hend, hW, hsame⟩ := X'.leaveThrown x (g := { F0 m pc ls st0 with stack := rest }) rfl rfl rfl (covers_of_empty hne _) hlocks
  refine ⟨_, st _ hw, x, hrun, hend, ⟨⟨cell, ?_, k2, ?_⟩, ?_⟩, hW, locs ++ L, hsame, hS1.2.2⟩
  · show T'.heap[x]? = some cell
    rw [e1]; exact k1
  · rw [← hal.findClass]; exact k3
  · exact ⟨hS1.1, hS1.2.1⟩
/-- a callee's throw comes into the first row of the method's own table -/
theorem vt_catch (hr : vt_Run p l e R s m args below meth c H locs cells slots mc ms (F0 m pc ls st0) rest (vt_Q cls A1 a) free) (hS : va_S A0 H0 H locs) (hA : ∀ q, q < H.size → A1 q → A0 q) (hf : ∀ q, free q → A0 q)
    {own name : String} (hown : s.vm.findClass own = some m.cls) {x0 x1 hpc ct : Nat} {hs : List (Nat × Nat × Nat × Nat)} (htab : c.exceptionTable.toList.map (fun h => (h.startPc, h.endPc, h.handlerPc, h.catchType)) = (x0, x1, hpc, ct) :: hs)
    (hcov : (decide (x0 ≤ pc) && decide (pc < x1)) = true) (hct : ct ≠ 0) (hlink : (Cond.classLink own ct name).before args s = true) (hcast : (Cond.castable cls name).before args s = true)
    (kk : ∀ (q : Nat) (H1 : Heap) (locs1 : List Loc), H.size ≤ H1.size → (∀ z : Nat, z < H.size → ¬ A1 z → H1[z]? = H[z]?) → va_S A0 H0 H1 locs1 → W p l e R s m args below meth c H1 locs1 (cells + mc) (slots + ms) Q (F0 m hpc ls [.ref q])) :
    W p l e R s m args below meth c H locs cells slots Q (F0 m pc ls st0) := by
  intro T hT X
  obtain ⟨x, st₀, t, T', L, h0, hal, X', hL, e1, e2, ⟨⟨cell, k1, k2, k3⟩, hz, hk⟩, st⟩ := hr T hT X
  rw [h0] at hz hk
  have hz' : H.size ≤ T'.heap.size := by rw [e1]; exact hz
  have hk' : ∀ q : Nat, q < H.size → ¬ A1 q → T'.heap[q]? = H[q]? := fun q h1 h2 => by rw [e1]; exact hk q h1 h2
  have hS1 : va_S A0 H0 T'.heap (locs ++ L) := vt_grow hS hA hf hL hz' hk'
  -- the row of the table
  obtain ⟨row, rows, hsplit, hr0⟩ : ∃ row rows, c.exceptionTable.toList = row :: rows ∧ (row.startPc, row.endPc, row.handlerPc, row.catchType) = (x0, x1, hpc, ct) := by
    cases hE : c.exceptionTable.toList with
    | nil => rw [hE] at htab; cases htab
    | cons row rows => rw [hE] at htab; exact ⟨row, rows, rfl, (List.cons.inj htab).1⟩
  have r1 : row.startPc = x0 := congrArg Prod.fst hr0
  have r2 : row.endPc = x1 := congrArg (fun z => z.2.1) hr0
  have r3 : row.handlerPc = hpc := congrArg (fun z => z.2.2.1) hr0
  have r4 : row.catchType = ct := congrArg (fun z => z.2.2.2) hr0
  -- its class, by the word
  have hpl : e.platform.magicAccessors = ({} : Platform).magicAccessors := by rw [X'.admits.platform]
  obtain ⟨cT, hcT, hcl⟩ := Cond.classLink_spec hown hlink e.platform hpl
  obtain ⟨c3, c4, hc3, hc4, hasg⟩ := Cond.castable_spec hcast
  cases hcT.symm.trans hc4
  have hcx : s.vm.findClass cls = some cell.cls := by rw [← hal.findClass]; exact k3
  cases hcx.symm.trans hc3
  obtain ⟨dk, _, _, kt, hd, _, _, _, _, hkt, _, hopen⟩ := hcl.here
  have hcl' := X'.warmed.classLinks hcl
  have hW' : s.WarmedH (T'.vm.noted m.cls ct (.cls cT)) := X'.warmed.noted hd hopen (State.rightAt_cls hcl)
  have halT := X'.warmed.alike
  obtain ⟨kt', hkt', -⟩ := halT.2.2 _ _ hkt
  have hfit : T'.vm.assignable cell.cls cT = true := by rw [halT.assignable]; exact hasg
  obtain ⟨kx', hkx'⟩ := Vm.classAt_of_assignable hfit ⟨kt', hkt'⟩
  have hcellx : T'.heap[x]? = some cell := by rw [e1]; exact k1
  -- what the search leaves
  have halN : T'.vm.Alike (T'.vm.noted m.cls ct (.cls cT)) := (Vm.Alike.refl T'.vm).noted _ _ _
  obtain ⟨k1', hk1', -⟩ := halN.2.2 _ _ hkx'
  obtain ⟨k2', hk2', -⟩ := halN.2.2 _ _ hkt'
  have hfitN : (T'.vm.noted m.cls ct (.cls cT)).assignable cell.cls cT = true := by rw [halN.assignable]; exact hfit
  have hgo : ∀ (Q' : Handler → Pre) (E : CtlPost) (d : Bool) (acts : List Action), wp (findHandler { F0 m pc ls st0 with stack := rest } x) Q' E e d acts ((T'.setTop { F0 m pc ls st0 with stack := rest }).pushFrame (.throwing x)) ↔ Q' (.found hpc) d acts (((T'.setTop { F0 m pc ls st0 with stack := rest }).pushFrame (.throwing x)).setVm (T'.vm.noted m.cls ct (.cls cT))) := by
    intro Q' E d acts
    rw [W.findHandler_eq (s := (T'.setTop { F0 m pc ls st0 with stack := rest }).pushFrame (.throwing x)) (f := { F0 m pc ls st0 with stack := rest }) (meth := meth) (code := c) X'.method' X'.code, hsplit]
    have hcv : (decide (row.startPc ≤ pc) && decide (pc < row.endPc)) = true := by rw [r1, r2]; exact hcov
    have hob : ∀ k, cell.vm ≠ .statics k := fun k h => by rw [k2] at h; cases h
    have hvS : ((T'.setTop { F0 m pc ls st0 with stack := rest }).pushFrame (.throwing x)).vm = T'.vm := Stand.throwing_vm _ _ _
    have hhS : ((T'.setTop { F0 m pc ls st0 with stack := rest }).pushFrame (.throwing x)).heap = T'.heap := Stand.throwing_heap _ _ _
    generalize (T'.setTop { F0 m pc ls st0 with stack := rest }).pushFrame (.throwing x) = S at hvS hhS ⊢
    rw [← hvS] at hcl' hfitN hk1' hk2' ⊢
    rw [← hhS] at hcellx
    obtain ⟨ha, ht⟩ := (resolveClass_links e.toSetting hcl').op (op := VmOp.resolveClass m.cls ct) rfl
    simp [findHandler.go, hcv, r3, r4, hct, ha, ht, hcellx, hob, hk1', hk2', hfitN, VmOp.dirties, VmOp.acts]
  obtain ⟨t2, a1, b1⟩ := kk x T'.heap (locs ++ L) hz' hk' hS1 (T'.setVm (T'.vm.noted m.cls ct (.cls cT))) rfl (X'.noted hW')
  refine ⟨t2, st t2 ?_, b1⟩
  have hAt : At T' m c below := X'.here
  obtain ⟨hgoes, hwi⟩ := At.throwing (g := { F0 m pc ls st0 with stack := rest }) hAt x
  refine Steps.head hgoes hwi ?_
  rw [stepThread_throwing (frames_entered hAt.top _)]
  have hstep : (stepThrowing e ((T'.setTop { F0 m pc ls st0 with stack := rest }).pushFrame (.throwing x)) x (.java { F0 m pc ls st0 with stack := rest } :: T'.frames.tail)).1 = (T'.setVm (T'.vm.noted m.cls ct (.cls cT))).setTop (F0 m hpc ls [.ref x]) := by
    simp only [stepThrowing, searchFrame, vmDo]
    generalize hres : Sem.go _ e false [] _ = res
    obtain ⟨as, rfl, -⟩ := Sem.eq_ok_of hres (a := Handler.found hpc) (s' := ((T'.setTop { F0 m pc ls st0 with stack := rest }).pushFrame (.throwing x)).setVm (T'.vm.noted m.cls ct (.cls cT))) (acts' := []) (by simp [hgo _ _ _ _])
    obtain ⟨g₀, hg⟩ := Option.isSome_iff_exists.mp hAt.top
    obtain ⟨r, hr⟩ := State.topJava?_eq_some.mp hg
    have hr2 : (T'.setVm (T'.vm.noted m.cls ct (.cls cT))).frames = .java g₀ :: r := hr
    rw [State.setTop_of_frames _ hr2, hr, State.pushFrame, State.setTop_of_frames _ hr]
    show ((((T'.setFrames _).setFrames _).setVm _).setFrames _) = _
    rw [State.setFrames_setFrames]
    show (((T'.setVm _).setFrames _).setFrames _) = _
    rw [State.setFrames_setFrames]
    rfl
  rw [hstep]
  exact a1
end VT4
/-- a static of Throwable, as the making of an exception reads it -/
def vt_Z1 (n d : String) (A : Nat → Prop) (U : State) (H : Heap) : Prop := ∃ (cf : ClassId) (kf : Class) (fi : Nat) (f : Field) (a : Nat) (cell : Cell) (v : Value), U.vm.findClass Bundle.tN = some cf ∧ U.fieldFound? Bundle.tN n d = some (cf, kf, fi, f) ∧ f.isStatic = true ∧ kf.statics = some a ∧ cell.vm.isStatics = true ∧ cell.cls = cf ∧ f.slot < cell.slots.size ∧ kf.staticTypes[f.slot]? = some f.type ∧ cell.slots[f.slot]? = some v ∧ v.isRef = true ∧ H[a]? = some cell ∧ ¬ A a
theorem vt_Z1.moved {n d : String} {A : Nat → Prop} {u U : State} {H : Heap} (hvm : u.vm.Alike U.vm) (h : vt_Z1 n d A u H) : vt_Z1 n d A U H := by
  obtain ⟨cf, kf, fi, f, a, cell, v, h1, h2, h3, h4, h5, h6, h7, h8, h9⟩ := h
  obtain ⟨k', hi', he⟩ := State.fieldFound?_setVm hvm h2
  exact ⟨cf, k', fi, f, a, cell, v, by rw [hvm.findClass]; exact h1, hi', h3, by rw [he]; exact h4, h5, h6, h7, by rw [he]; exact h8, h9⟩
theorem vt_Z1.kept {n d : String} {A : Nat → Prop} {U : State} {H H1 : Heap} (h : vt_Z1 n d A U H) (hq : ∀ a : Nat, a < H.size → ¬ A a → H1[a]? = H[a]?) : vt_Z1 n d A U H1 := by
  obtain ⟨cf, kf, fi, f, a, cell, v, h1, h2, h3, h4, h5, h6, h7, h8, h9, h10, h11, h12⟩ := h
  exact ⟨cf, kf, fi, f, a, cell, v, h1, h2, h3, h4, h5, h6, h7, h8, h9, h10, by rw [hq a (Array.getElem?_eq_some_iff.mp h11).1 h12]; exact h11, h12⟩
theorem vt_Z1.narrow {n d : String} {A B : Nat → Prop} {U : State} {H : Heap} (h : vt_Z1 n d A U H) (hAB : ∀ q, q < H.size → B q → A q) : vt_Z1 n d B U H := by
  obtain ⟨cf, kf, fi, f, a, cell, v, h1, h2, h3, h4, h5, h6, h7, h8, h9, h10, h11, h12⟩ := h
  exact ⟨cf, kf, fi, f, a, cell, v, h1, h2, h3, h4, h5, h6, h7, h8, h9, h10, h11, fun z => h12 (hAB a (Array.getElem?_eq_some_iff.mp h11).1 z)⟩
theorem vt_Z1.of {args : Array Value} {s : State} {n d : String} {A : Nat → Prop} (hl : (Cond.laysStatic Bundle.tN n d).before args s = true) (hr : (Cond.isRef (.static Bundle.tN n d)).before args s = true) (hA : ∀ a : Nat, a < s.heap.size → ¬ A a) : vt_Z1 n d A s s.heap := by
  obtain ⟨c, k, i, f, a, cell, hc, hi, hst, ha, hcell, hs, hcls, hlt, hty⟩ := Cond.laysStatic_spec hl
  have hsl : cell.slots[f.slot]? = some cell.slots[f.slot] := Array.getElem?_eq_getElem hlt
  generalize cell.slots[f.slot] = w at hsl
  refine ⟨c, k, i, f, a, cell, w, hc, hi, hst, ha, hs, hcls, hlt, hty, hsl, ?_, hcell, hA a (Array.getElem?_eq_some_iff.mp hcell).1⟩
  have hv : (Term.static Bundle.tN n d).eval args s none [] s = some w := by simp [Term.eval, State.fieldNamed?, hi, hst, ha, hcell, hs, hsl]
  simp only [Cond.before, Cond.holds, Cond.value, hv] at hr
  cases w <;> simp_all [Value.isRef]
theorem vt_Z1.lays {args : Array Value} {U : State} {n d : String} {A : Nat → Prop} (h : vt_Z1 n d A U U.heap) : (Cond.laysStatic Bundle.tN n d).before args U = true := by
  obtain ⟨cf, kf, fi, f, a, cell, v, h1, h2, h3, h4, h5, h6, h7, h8, h9, h10, h11, h12⟩ := h
  simp [Cond.before, Cond.holds, Cond.value, h1, h2, h3, h4, h5, h6, h7, h8, h11]
theorem vt_Z1.isRef {args : Array Value} {U : State} {n d : String} {A : Nat → Prop} (h : vt_Z1 n d A U U.heap) : (Cond.isRef (.static Bundle.tN n d)).before args U = true := by
  obtain ⟨cf, kf, fi, f, a, cell, v, h1, h2, h3, h4, h5, h6, h7, h8, h9, h10, h11, h12⟩ := h
  have hv : (Term.static Bundle.tN n d).eval args U none [] U = some v := by simp [Term.eval, State.fieldNamed?, h2, h3, h4, h11, h5, h9]
  simp only [Cond.before, Cond.holds, Cond.value, hv]
  cases v <;> simp_all [Value.isRef]
/-- words of the tables alone, as they hold in a state -/
def vt_J (L : List Cond) (U : State) : Prop := ∀ w ∈ L, w.before #[] U = true
theorem vt_word {w : Cond} (ho : w.onTables = true) (hf : w.keepsFace = true) {a a' : Array Value} {s U : State} (hW : s.WarmedH U.vm) (h : w.before a s = true) : w.before a' U = true := by
  have h1 : w.before a (s.setVm U.vm) = true := Cond.before_shiftedFace (State.Shifted.of_warmed hW) _ hf h
  have h2 := Cond.onTables_vm (A := a) (A' := a') (U := s) (U' := U) U.vm w ho
  rw [h2, State.setVm_self] at h1
  exact h1
theorem vt_J.warm {L : List Cond} (hL : L.all (fun w => w.onTables && w.keepsFace) = true) {s U : State} (hW : s.WarmedH U.vm) (h : vt_J L s) : vt_J L U := fun w hw => by
  have h1 := List.all_eq_true.mp hL w hw
  rw [Bool.and_eq_true] at h1
  exact vt_word h1.1 h1.2 hW (h w hw)
theorem vt_J.same {L : List Cond} (hL : L.all (fun w => w.onTables && w.keepsFace) = true) {s U : State} (hv : U.vm = s.vm) (h : vt_J L s) : vt_J L U := fun w hw => by
  have h1 := List.all_eq_true.mp hL w hw
  rw [Bool.and_eq_true] at h1
  have h2 := Cond.onTables_vm (A := #[]) (A' := #[]) (U := s) (U' := U) s.vm w h1.1
  rw [State.setVm_self, ← hv, State.setVm_self] at h2
  rw [← h2]
  exact h w hw
/-- what an exception's making asks: the words of the tables; the two statics -/
def vt_four : List Cond := [.laysStatic Bundle.tN "UNASSIGNED_STACK" Bundle.steD, .laysStatic Bundle.tN "SUPPRESSED_SENTINEL" Bundle.listD, .isRef (.static Bundle.tN "UNASSIGNED_STACK" Bundle.steD), .isRef (.static Bundle.tN "SUPPRESSED_SENTINEL" Bundle.listD)]
def vt_own (own : String) (ic : Nat) (cls : String) (names : List String) : List Cond := (Bundle.ownAtoms own ic cls names).filter (fun w => w.onTables)
def vt_ZZ (A : Nat → Prop) (U : State) (H : Heap) : Prop := vt_Z1 "UNASSIGNED_STACK" Bundle.steD A U H ∧ vt_Z1 "SUPPRESSED_SENTINEL" Bundle.listD A U H
theorem vt_ZZ.moved {A : Nat → Prop} {u U : State} {H : Heap} (hvm : u.vm.Alike U.vm) (h : vt_ZZ A u H) : vt_ZZ A U H := ⟨h.1.moved hvm, h.2.moved hvm⟩
theorem vt_ZZ.kept {A : Nat → Prop} {U : State} {H H1 : Heap} (h : vt_ZZ A U H) (hq : ∀ a : Nat, a < H.size → ¬ A a → H1[a]? = H[a]?) : vt_ZZ A U H1 := ⟨h.1.kept hq, h.2.kept hq⟩
theorem vt_ZZ.narrow {A B : Nat → Prop} {U : State} {H : Heap} (h : vt_ZZ A U H) (hAB : ∀ q, q < H.size → B q → A q) : vt_ZZ B U H := ⟨h.1.narrow hAB, h.2.narrow hAB⟩
theorem vt_atoms {own cls : String} {ic : Nat} {names : List String} (hd : (Bundle.ownAtoms own ic cls names).all (fun w => w.onTables || decide (w ∈ vt_four)) = true) {A : Nat → Prop} {args : Array Value} {U : State} (hJ : vt_J (vt_own own ic cls names) U) (hZ : vt_ZZ A U U.heap) : ∀ w ∈ Bundle.ownAtoms own ic cls names, w.before args U = true := by
  intro w hw
  by_cases ho : w.onTables = true
  · have h1 := hJ w (List.mem_filter.mpr ⟨hw, ho⟩)
    have h2 := Cond.onTables_vm (A := #[]) (A' := args) (U := U) (U' := U) U.vm w ho
    rw [State.setVm_self] at h2
    rw [← h2]
    exact h1
  · have h1 := List.all_eq_true.mp hd w hw
    simp only [Bool.not_eq_true] at ho
    rw [ho, Bool.false_or, decide_eq_true_eq] at h1
    simp only [vt_four, List.mem_cons, List.not_mem_nil, or_false] at h1
    rcases h1 with rfl | rfl | rfl | rfl
    · exact hZ.1.lays
    · exact hZ.2.lays
    · exact hZ.1.isRef
    · exact hZ.2.isRef
/-- cells of a world are no cells of statics -/
theorem vt_plain {D : va_G} {cl : List vw_C} {ws : va_W} {H : Heap} (hP : va_P D cl ws H) : ∀ q, va_A ws H.size q → ∀ cell : Cell, H[q]? = some cell → cell.vm.isStatics = false := by
  intro q hq cell hc
  rcases hq with ⟨k, e, hk⟩ | hq
  · have h := hP k _ hk
    cases e with
    | inl x =>
      have h1 : H[q]? = some (vp_cell x.1 x.2) := h
      rw [hc] at h1
      rw [Option.some.inj h1]
      obtain ⟨i, n, f⟩ := x
      rcases f with f | f | f | f | f <;> rfl
    | inr o =>
      obtain ⟨r, h1, cell', q1, q2, q3, q4⟩ := h
      have h2 : cell = cell' := Option.some.inj (hc.symm.trans q1)
      rw [h2, q3]; rfl
  · exact absurd (Array.getElem?_eq_some_iff.mp hc).1 (Nat.not_lt.mpr hq)
section VT5
variable {p : Program} {l : Launch} {e : Env} {R : Room} {s : State} {m : MethodId} {args : Array Value} {below : List Frame} {meth : Method} {c : Code} {H : Heap} {locs : List Loc} {cells slots : Nat} {Q : State → Prop}
variable {cc : ByteArray} {pc : Nat} {ls : Array Slot} {rest : List Value} {A : Nat → Prop}
/-- from the call of the exception's constructor to the throw's end -/
theorem vt_throwS (hexec : p.tables.exec = Jvm.exec) (hb : c.code = cc) (hl : l.stackTraces = false) {own cls : String} {names : List String} {ic : Nat} (hown : s.vm.findClass own = some m.cls) (hcls : Bundle.fit cls = true) (hnames : ∀ n ∈ names, Bundle.fit n = true)
    (h : ∀ w ∈ Bundle.ownAtoms own ic cls names, w.before args s = true) (hS : va_S A s.heap H locs) (hns : ∀ q, A q → ∀ cell : Cell, s.heap[q]? = some cell → cell.vm.isStatics = false)
    {q qm : Nat} {cX : ClassId} {kX : Class} (hfX : s.vm.findClass cls = some cX) (hkX : s.vm.classes[cX]? = some kX) (hcell : H[q]? = some (freshCell cX kX)) (hnew : s.heap.size ≤ q)
    (hne : c.exceptionTable.isEmpty = true) (hsz : ls.size = c.maxLocals) (hlocks : meth.locks = false) (hd6 : decode cc pc = .ok (.invokespecial ic, 3)) (hd9 : decode cc (pc + 3) = .ok (.athrow, 1))
    (hRf : names.length + 3 < R.frames) (hRl : 2 * (F0 m pc ls rest).monitorRoom + ((Value.ref q :: rest).map fun v => v.category).sum + (13 * (names.length + 1) + 42) ≤ R.locals) :
    W p l e R s m args below meth c H locs cells slots (vt_MQ below (vt_Q cls A) args s cells slots A) (F0 m pc ls (.ref qm :: .ref q :: .ref q :: rest)) := by
  intro T hT X
  have htr : e.platform.stackTraces = false := by rw [X.admits.platform]; exact hl
  obtain ⟨U, hst, hrun, hend, hW, hsame, ce, hce, K⟩ := X.ctorThrowS hexec htr (own := own) (cls := cls) (names := names) (ic := ic) hown hcls hnames h
    (fun x hx cell hc => hns _ (hS.2.2 x hx) cell hc) hfX hkX (by rw [hT]; exact hcell) hnew (msg := .ref qm) rfl (g := F0 m pc ls (.ref qm :: .ref q :: .ref q :: rest)) rfl hsz rfl rfl (rest := rest) rfl
    (by rw [hb]; exact hd6) (by rw [hb]; exact hd9) (covers_of_empty hne _) hRf hRl hlocks
  exact ⟨U, hst, q, hrun, hend, ⟨⟨ce, hce, K.vm, K.cls⟩, hsame.2.1, fun z h1 h2 => vt_same (t := ({ U with vm := s.vm } : State)) hsame hS.2.2 z h1 h2⟩, hW, locs, hsame, hS.2.2⟩
end VT5
end
section
abbrev y_TM_init : MethodName := ⟨"TaleMachine", "<init>", "()V"⟩
abbrev y_TM_begin : MethodName := ⟨"TaleMachine", "begin", "(II)V"⟩
abbrev y_TM_code : MethodName := ⟨"TaleMachine", "code", "(II)Z"⟩
abbrev y_TM_collect : MethodName := ⟨"TaleMachine", "collect", "()I"⟩
abbrev y_TM_has : MethodName := ⟨"TaleMachine", "has", "(III)I"⟩
abbrev y_TM_isOf : MethodName := ⟨"TaleMachine", "isOf", "(II)Z"⟩
abbrev y_TM_isProperty : MethodName := ⟨"TaleMachine", "isProperty", "(I)Z"⟩
abbrev y_TM_object : MethodName := ⟨"TaleMachine", "object", "(III)I"⟩
abbrev y_TM_part : MethodName := ⟨"TaleMachine", "part", "(LTaleMachine$Values;II)I"⟩
abbrev y_TM_property : MethodName := ⟨"TaleMachine", "property", "(IIII)V"⟩
abbrev y_TM_run : MethodName := ⟨"TaleMachine", "run", "(I)I"⟩
abbrev y_TM_said : MethodName := ⟨"TaleMachine", "said", "(II)I"⟩
abbrev y_TM_show : MethodName := ⟨"TaleMachine", "show", "(I)I"⟩
abbrev y_TM_stack : MethodName := ⟨"TaleMachine", "stack", "(II)I"⟩
abbrev y_TM_stop : MethodName := ⟨"TaleMachine", "stop", "()Z"⟩
abbrev y_Frame_init : MethodName := ⟨"TaleMachine$Frame", "<init>", "()V"⟩
abbrev y_History_init : MethodName := ⟨"TaleMachine$History", "<init>", "()V"⟩
abbrev y_History_bringBack : MethodName := ⟨"TaleMachine$History", "bringBack", "(ILTaleMachine$State;)Z"⟩
abbrev y_History_dropOldest : MethodName := ⟨"TaleMachine$History", "dropOldest", "()V"⟩
abbrev y_History_dropPoints : MethodName := ⟨"TaleMachine$History", "dropPoints", "()V"⟩
abbrev y_History_dropSaved : MethodName := ⟨"TaleMachine$History", "dropSaved", "()V"⟩
abbrev y_History_save : MethodName := ⟨"TaleMachine$History", "save", "(ILTaleMachine$State;)V"⟩
abbrev y_History_setPoint : MethodName := ⟨"TaleMachine$History", "setPoint", "(LTaleMachine$State;)V"⟩
abbrev y_History_undo : MethodName := ⟨"TaleMachine$History", "undo", "(LTaleMachine$State;)Z"⟩
abbrev y_Script_init : MethodName := ⟨"TaleMachine$Script", "<init>", "()V"⟩
abbrev y_Script_address : MethodName := ⟨"TaleMachine$Script", "address", "(I)I"⟩
abbrev y_Script_append : MethodName := ⟨"TaleMachine$Script", "append", "(II)Z"⟩
abbrev y_Script_at : MethodName := ⟨"TaleMachine$Script", "at", "(I)I"⟩
abbrev y_Script_beginning : MethodName := ⟨"TaleMachine$Script", "beginning", "(I)I"⟩
abbrev y_Script_behind : MethodName := ⟨"TaleMachine$Script", "behind", "(II)I"⟩
abbrev y_Script_instruction : MethodName := ⟨"TaleMachine$Script", "instruction", "(I)I"⟩
abbrev y_Script_isMethod : MethodName := ⟨"TaleMachine$Script", "isMethod", "(II)Z"⟩
abbrev y_Script_locals : MethodName := ⟨"TaleMachine$Script", "locals", "(I)I"⟩
abbrev y_Script_number : MethodName := ⟨"TaleMachine$Script", "number", "(I)I"⟩
abbrev y_State_init : MethodName := ⟨"TaleMachine$State", "<init>", "()V"⟩
abbrev y_State_copy : MethodName := ⟨"TaleMachine$State", "copy", "(LTaleMachine$State;)V"⟩
abbrev y_Teller_init : MethodName := ⟨"TaleMachine$Teller", "<init>", "(LTaleMachine$Script;LTaleMachine$World;LTaleMachine$History;)V"⟩
abbrev y_Teller_answer : MethodName := ⟨"TaleMachine$Teller", "answer", "(LTaleMachine$Frame;IIIII)Z"⟩
abbrev y_Teller_ask : MethodName := ⟨"TaleMachine$Teller", "ask", "(LTaleMachine$Frame;II)Z"⟩
abbrev y_Teller_bringBack : MethodName := ⟨"TaleMachine$Teller", "bringBack", "(LTaleMachine$Frame;I)Z"⟩
abbrev y_Teller_calculate : MethodName := ⟨"TaleMachine$Teller", "calculate", "(LTaleMachine$Frame;I)Z"⟩
abbrev y_Teller_canTake : MethodName := ⟨"TaleMachine$Teller", "canTake", "(LTaleMachine$Frame;I)Z"⟩
abbrev y_Teller_end : MethodName := ⟨"TaleMachine$Teller", "end", "(LTaleMachine$Frame;II)Z"⟩
abbrev y_Teller_enter : MethodName := ⟨"TaleMachine$Teller", "enter", "(IIIII)Z"⟩
abbrev y_Teller_finish : MethodName := ⟨"TaleMachine$Teller", "finish", "(III)Z"⟩
abbrev y_Teller_goOn : MethodName := ⟨"TaleMachine$Teller", "goOn", "(LTaleMachine$Frame;)Z"⟩
abbrev y_Teller_goal : MethodName := ⟨"TaleMachine$Teller", "goal", "(LTaleMachine$Frame;)I"⟩
abbrev y_Teller_halt : MethodName := ⟨"TaleMachine$Teller", "halt", "(I)V"⟩
abbrev y_Teller_inherited : MethodName := ⟨"TaleMachine$Teller", "inherited", "(LTaleMachine$Frame;II)Z"⟩
abbrev y_Teller_isFalse : MethodName := ⟨"TaleMachine$Teller", "isFalse", "(I)Z"⟩
abbrev y_Teller_isLocal : MethodName := ⟨"TaleMachine$Teller", "isLocal", "(LTaleMachine$Frame;I)Z"⟩
abbrev y_Teller_isObjectOnTop : MethodName := ⟨"TaleMachine$Teller", "isObjectOnTop", "(LTaleMachine$Frame;)Z"⟩
abbrev y_Teller_jump : MethodName := ⟨"TaleMachine$Teller", "jump", "(LTaleMachine$Frame;I)Z"⟩
abbrev y_Teller_jumpIfFalse : MethodName := ⟨"TaleMachine$Teller", "jumpIfFalse", "(LTaleMachine$Frame;I)Z"⟩
abbrev y_Teller_like : MethodName := ⟨"TaleMachine$Teller", "like", "(LTaleMachine$Frame;)Z"⟩
abbrev y_Teller_make : MethodName := ⟨"TaleMachine$Teller", "make", "(LTaleMachine$Frame;I)Z"⟩
abbrev y_Teller_number : MethodName := ⟨"TaleMachine$Teller", "number", "(III)I"⟩
abbrev y_Teller_perform : MethodName := ⟨"TaleMachine$Teller", "perform", "()Z"⟩
abbrev y_Teller_put : MethodName := ⟨"TaleMachine$Teller", "put", "(LTaleMachine$Frame;II)Z"⟩
abbrev y_Teller_putCopy : MethodName := ⟨"TaleMachine$Teller", "putCopy", "(LTaleMachine$Frame;I)Z"⟩
abbrev y_Teller_putTruthFor : MethodName := ⟨"TaleMachine$Teller", "putTruthFor", "(LTaleMachine$Frame;IZ)Z"⟩
abbrev y_Teller_raise : MethodName := ⟨"TaleMachine$Teller", "raise", "(I)Z"⟩
abbrev y_Teller_reachRoots : MethodName := ⟨"TaleMachine$Teller", "reachRoots", "()V"⟩
abbrev y_Teller_save : MethodName := ⟨"TaleMachine$Teller", "save", "(LTaleMachine$Frame;I)Z"⟩
abbrev y_Teller_setOwn : MethodName := ⟨"TaleMachine$Teller", "setOwn", "(LTaleMachine$Frame;I)Z"⟩
abbrev y_Teller_setPoint : MethodName := ⟨"TaleMachine$Teller", "setPoint", "(LTaleMachine$Frame;)Z"⟩
abbrev y_Teller_start : MethodName := ⟨"TaleMachine$Teller", "start", "(III)V"⟩
abbrev y_Teller_take : MethodName := ⟨"TaleMachine$Teller", "take", "(LTaleMachine$Frame;I)Z"⟩
abbrev y_Teller_takeIntoLocal : MethodName := ⟨"TaleMachine$Teller", "takeIntoLocal", "(LTaleMachine$Frame;I)Z"⟩
abbrev y_Teller_testOf : MethodName := ⟨"TaleMachine$Teller", "testOf", "(LTaleMachine$Frame;I)Z"⟩
abbrev y_Teller_top : MethodName := ⟨"TaleMachine$Teller", "top", "()LTaleMachine$Frame;"⟩
abbrev y_Teller_topInt : MethodName := ⟨"TaleMachine$Teller", "topInt", "()I"⟩
abbrev y_Teller_topKind : MethodName := ⟨"TaleMachine$Teller", "topKind", "()I"⟩
abbrev y_Values_init : MethodName := ⟨"TaleMachine$Values", "<init>", "(I)V"⟩
abbrev y_Values_add : MethodName := ⟨"TaleMachine$Values", "add", "(II)Z"⟩
abbrev y_Values_isFull : MethodName := ⟨"TaleMachine$Values", "isFull", "()Z"⟩
abbrev y_World_init : MethodName := ⟨"TaleMachine$World", "<init>", "()V"⟩
abbrev y_World_clearOwn : MethodName := ⟨"TaleMachine$World", "clearOwn", "(I)V"⟩
abbrev y_World_count : MethodName := ⟨"TaleMachine$World", "count", "()I"⟩
abbrev y_World_descends : MethodName := ⟨"TaleMachine$World", "descends", "(II)Z"⟩
abbrev y_World_fix : MethodName := ⟨"TaleMachine$World", "fix", "(IIII)I"⟩
abbrev y_World_forgetReached : MethodName := ⟨"TaleMachine$World", "forgetReached", "()V"⟩
abbrev y_World_gather : MethodName := ⟨"TaleMachine$World", "gather", "(II)I"⟩
abbrev y_World_holder : MethodName := ⟨"TaleMachine$World", "holder", "(II)I"⟩
abbrev y_World_holderBehind : MethodName := ⟨"TaleMachine$World", "holderBehind", "(III)I"⟩
abbrev y_World_holderFrom : MethodName := ⟨"TaleMachine$World", "holderFrom", "(II)I"⟩
abbrev y_World_inLine : MethodName := ⟨"TaleMachine$World", "inLine", "(I)I"⟩
abbrev y_World_isFixed : MethodName := ⟨"TaleMachine$World", "isFixed", "(I)Z"⟩
abbrev y_World_isThere : MethodName := ⟨"TaleMachine$World", "isThere", "(I)Z"⟩
abbrev y_World_lay : MethodName := ⟨"TaleMachine$World", "lay", "(I)V"⟩
abbrev y_World_make : MethodName := ⟨"TaleMachine$World", "make", "(I)I"⟩
abbrev y_World_ownInt : MethodName := ⟨"TaleMachine$World", "ownInt", "(II)I"⟩
abbrev y_World_ownKind : MethodName := ⟨"TaleMachine$World", "ownKind", "(II)I"⟩
abbrev y_World_reach : MethodName := ⟨"TaleMachine$World", "reach", "(I)V"⟩
abbrev y_World_reachFrom : MethodName := ⟨"TaleMachine$World", "reachFrom", "(I)V"⟩
abbrev y_World_reachValue : MethodName := ⟨"TaleMachine$World", "reachValue", "(II)V"⟩
abbrev y_World_setOwn : MethodName := ⟨"TaleMachine$World", "setOwn", "(IIII)V"⟩
abbrev y_World_sweep : MethodName := ⟨"TaleMachine$World", "sweep", "()I"⟩
abbrev y_Law_begin : MethodName := ⟨"TaleMachineLaw", "begin", "(LTaleMachine;II)I"⟩
abbrev y_Law_has : MethodName := ⟨"TaleMachineLaw", "has", "(LTaleMachine;III[J)I"⟩
abbrev y_Law_object : MethodName := ⟨"TaleMachineLaw", "object", "(LTaleMachine;III[J)I"⟩
abbrev y_Law_property : MethodName := ⟨"TaleMachineLaw", "property", "(LTaleMachine;IIII)I"⟩
abbrev y_Law_said : MethodName := ⟨"TaleMachineLaw", "said", "(LTaleMachine;II[J)I"⟩
abbrev y_Law_show : MethodName := ⟨"TaleMachineLaw", "show", "(LTaleMachine;I[J)I"⟩
abbrev y_Law_stack : MethodName := ⟨"TaleMachineLaw", "stack", "(LTaleMachine;II[J)I"⟩
abbrev y_Model_init : MethodName := ⟨"TaleMachineModel", "<init>", "()V"⟩
abbrev y_Model_ask : MethodName := ⟨"TaleMachineModel", "ask", "(IIIII)Z"⟩
abbrev y_Model_assign : MethodName := ⟨"TaleMachineModel", "assign", "(I)Z"⟩
abbrev y_Model_at : MethodName := ⟨"TaleMachineModel", "at", "(I)I"⟩
abbrev y_Model_begin : MethodName := ⟨"TaleMachineModel", "begin", "(II)V"⟩
abbrev y_Model_belongs : MethodName := ⟨"TaleMachineModel", "belongs", "(II)Z"⟩
abbrev y_Model_call : MethodName := ⟨"TaleMachineModel", "call", "(IIIII)Z"⟩
abbrev y_Model_code : MethodName := ⟨"TaleMachineModel", "code", "(II)Z"⟩
abbrev y_Model_collect : MethodName := ⟨"TaleMachineModel", "collect", "()I"⟩
abbrev y_Model_copy : MethodName := ⟨"TaleMachineModel", "copy", "(II)V"⟩
abbrev y_Model_empty : MethodName := ⟨"TaleMachineModel", "empty", "(I)V"⟩
abbrev y_Model_end : MethodName := ⟨"TaleMachineModel", "end", "(II)Z"⟩
abbrev y_Model_enter : MethodName := ⟨"TaleMachineModel", "enter", "(IIII)V"⟩
abbrev y_Model_findLine : MethodName := ⟨"TaleMachineModel", "findLine", "(I)V"⟩
abbrev y_Model_give : MethodName := ⟨"TaleMachineModel", "give", "(IIII)V"⟩
abbrev y_Model_going : MethodName := ⟨"TaleMachineModel", "going", "(III)Z"⟩
abbrev y_Model_handler : MethodName := ⟨"TaleMachineModel", "handler", "(II)I"⟩
abbrev y_Model_has : MethodName := ⟨"TaleMachineModel", "has", "(III)I"⟩
abbrev y_Model_hasOwn : MethodName := ⟨"TaleMachineModel", "hasOwn", "(II)Z"⟩
abbrev y_Model_isFalse : MethodName := ⟨"TaleMachineModel", "isFalse", "(I)Z"⟩
abbrev y_Model_isObject : MethodName := ⟨"TaleMachineModel", "isObject", "(I)Z"⟩
abbrev y_Model_isOf : MethodName := ⟨"TaleMachineModel", "isOf", "(II)Z"⟩
abbrev y_Model_isParent : MethodName := ⟨"TaleMachineModel", "isParent", "(I)Z"⟩
abbrev y_Model_isThere : MethodName := ⟨"TaleMachineModel", "isThere", "(I)Z"⟩
abbrev y_Model_lengthOf : MethodName := ⟨"TaleMachineModel", "lengthOf", "(I)I"⟩
abbrev y_Model_make : MethodName := ⟨"TaleMachineModel", "make", "(I)Z"⟩
abbrev y_Model_mark : MethodName := ⟨"TaleMachineModel", "mark", "(III)I"⟩
abbrev y_Model_object : MethodName := ⟨"TaleMachineModel", "object", "(III)I"⟩
abbrev y_Model_one : MethodName := ⟨"TaleMachineModel", "one", "()Z"⟩
abbrev y_Model_outside : MethodName := ⟨"TaleMachineModel", "outside", "(III)Z"⟩
abbrev y_Model_over : MethodName := ⟨"TaleMachineModel", "over", "(I)I"⟩
abbrev y_Model_owner : MethodName := ⟨"TaleMachineModel", "owner", "(III)I"⟩
abbrev y_Model_parent : MethodName := ⟨"TaleMachineModel", "parent", "(II)I"⟩
abbrev y_Model_parents : MethodName := ⟨"TaleMachineModel", "parents", "(I)I"⟩
abbrev y_Model_placeOf : MethodName := ⟨"TaleMachineModel", "placeOf", "(II)I"⟩
abbrev y_Model_point : MethodName := ⟨"TaleMachineModel", "point", "()Z"⟩
abbrev y_Model_property : MethodName := ⟨"TaleMachineModel", "property", "(IIII)V"⟩
abbrev y_Model_push : MethodName := ⟨"TaleMachineModel", "push", "(II)V"⟩
abbrev y_Model_putting : MethodName := ⟨"TaleMachineModel", "putting", "(III)Z"⟩
abbrev y_Model_reckoning : MethodName := ⟨"TaleMachineModel", "reckoning", "(I)Z"⟩
abbrev y_Model_refuse : MethodName := ⟨"TaleMachineModel", "refuse", "(I)I"⟩
abbrev y_Model_run : MethodName := ⟨"TaleMachineModel", "run", "(I)I"⟩
abbrev y_Model_said : MethodName := ⟨"TaleMachineModel", "said", "(II)I"⟩
abbrev y_Model_show : MethodName := ⟨"TaleMachineModel", "show", "(I)I"⟩
abbrev y_Model_signed : MethodName := ⟨"TaleMachineModel", "signed", "(I)I"⟩
abbrev y_Model_sound : MethodName := ⟨"TaleMachineModel", "sound", "(II)Z"⟩
abbrev y_Model_spread : MethodName := ⟨"TaleMachineModel", "spread", "(I)I"⟩
abbrev y_Model_stack : MethodName := ⟨"TaleMachineModel", "stack", "(II)I"⟩
abbrev y_Model_stop : MethodName := ⟨"TaleMachineModel", "stop", "()Z"⟩
abbrev y_Model_taken : MethodName := ⟨"TaleMachineModel", "taken", "()I"⟩
abbrev y_Model_thrown : MethodName := ⟨"TaleMachineModel", "thrown", "()I"⟩
abbrev y_Model_toss : MethodName := ⟨"TaleMachineModel", "toss", "(I)Z"⟩
abbrev y_Model_truth : MethodName := ⟨"TaleMachineModel", "truth", "(Z)Z"⟩
abbrev y_Model_two : MethodName := ⟨"TaleMachineModel", "two", "(I)I"⟩
abbrev y_Model_world : MethodName := ⟨"TaleMachineModel", "world", "(II)Z"⟩
abbrev y_Arrays_fill : MethodName := ⟨"java/util/Arrays", "fill", "([II)V"⟩
def F_Frame : u_T := fun k => match k with
  | 0 => ("TaleMachine$Frame", "method", "I", false)
  | 1 => ("TaleMachine$Frame", "beginning", "I", false)
  | 2 => ("TaleMachine$Frame", "self", "I", false)
  | 3 => ("TaleMachine$Frame", "found", "I", false)
  | 4 => ("TaleMachine$Frame", "place", "I", false)
  | 5 => ("TaleMachine$Frame", "behind", "I", false)
  | 6 => ("TaleMachine$Frame", "base", "I", false)
  | _ => ("TaleMachine$Frame", "floor", "I", false)
def t_Frame : Nat → FieldType := fun k => match k with
  | 0 => .int
  | 1 => .int
  | 2 => .int
  | 3 => .int
  | 4 => .int
  | 5 => .int
  | 6 => .int
  | _ => .int
theorem n_Frame : ∀ a, a < 8 → ∀ b, b < 8 → a ≠ b → (F_Frame a).2.1 ≠ (F_Frame b).2.1 := by decide +kernel
theorem t_Frame_ok : ∀ k, k < 8 → parseFieldDescriptor (F_Frame k).2.2.1 = some (t_Frame k) := by decide +kernel
theorem dv_Frame : ∀ j, j < 8 → defaultValue (t_Frame j) = vp_V [.int 0, .int 0, .int 0, .int 0, .int 0, .int 0, .int 0, .int 0] j := by decide +kernel
def F_History : u_T := fun k => match k with
  | 0 => ("TaleMachine$History", "pointed", "[LTaleMachine$State;", true)
  | 1 => ("TaleMachine$History", "saved", "[LTaleMachine$State;", true)
  | 2 => ("TaleMachine$History", "isSaved", "[Z", true)
  | _ => ("TaleMachine$History", "points", "I", false)
def t_History : Nat → FieldType := fun k => match k with
  | 0 => .array (.object "TaleMachine$State")
  | 1 => .array (.object "TaleMachine$State")
  | 2 => .array .boolean
  | _ => .int
theorem n_History : ∀ a, a < 4 → ∀ b, b < 4 → a ≠ b → (F_History a).2.1 ≠ (F_History b).2.1 := by decide +kernel
theorem t_History_ok : ∀ k, k < 4 → parseFieldDescriptor (F_History k).2.2.1 = some (t_History k) := by decide +kernel
theorem dv_History : ∀ j, j < 4 → defaultValue (t_History j) = vp_V [.null, .null, .null, .int 0] j := by decide +kernel
def F_Script : u_T := fun k => match k with
  | 0 => ("TaleMachine$Script", "bytes", "[I", true)
  | _ => ("TaleMachine$Script", "length", "I", false)
def t_Script : Nat → FieldType := fun k => match k with
  | 0 => .array .int
  | _ => .int
theorem n_Script : ∀ a, a < 2 → ∀ b, b < 2 → a ≠ b → (F_Script a).2.1 ≠ (F_Script b).2.1 := by decide +kernel
theorem t_Script_ok : ∀ k, k < 2 → parseFieldDescriptor (F_Script k).2.2.1 = some (t_Script k) := by decide +kernel
theorem dv_Script : ∀ j, j < 2 → defaultValue (t_Script j) = vp_V [.null, .int 0] j := by decide +kernel
def F_State : u_T := fun k => match k with
  | 0 => ("TaleMachine$State", "kinds", "[I", true)
  | 1 => ("TaleMachine$State", "ints", "[I", true)
  | _ => ("TaleMachine$State", "parents", "[I", true)
def t_State : Nat → FieldType := fun k => match k with
  | 0 => .array .int
  | 1 => .array .int
  | _ => .array .int
theorem n_State : ∀ a, a < 3 → ∀ b, b < 3 → a ≠ b → (F_State a).2.1 ≠ (F_State b).2.1 := by decide +kernel
theorem t_State_ok : ∀ k, k < 3 → parseFieldDescriptor (F_State k).2.2.1 = some (t_State k) := by decide +kernel
theorem dv_State : ∀ j, j < 3 → defaultValue (t_State j) = vp_V [.null, .null, .null] j := by decide +kernel
def F_Teller : u_T := fun k => match k with
  | 0 => ("TaleMachine$Teller", "script", "LTaleMachine$Script;", true)
  | 1 => ("TaleMachine$Teller", "world", "LTaleMachine$World;", true)
  | 2 => ("TaleMachine$Teller", "history", "LTaleMachine$History;", true)
  | 3 => ("TaleMachine$Teller", "frames", "[LTaleMachine$Frame;", true)
  | 4 => ("TaleMachine$Teller", "values", "LTaleMachine$Values;", true)
  | 5 => ("TaleMachine$Teller", "sayings", "LTaleMachine$Values;", true)
  | 6 => ("TaleMachine$Teller", "result", "LTaleMachine$Values;", true)
  | 7 => ("TaleMachine$Teller", "depth", "I", false)
  | _ => ("TaleMachine$Teller", "outcome", "I", false)
def t_Teller : Nat → FieldType := fun k => match k with
  | 0 => .object "TaleMachine$Script"
  | 1 => .object "TaleMachine$World"
  | 2 => .object "TaleMachine$History"
  | 3 => .array (.object "TaleMachine$Frame")
  | 4 => .object "TaleMachine$Values"
  | 5 => .object "TaleMachine$Values"
  | 6 => .object "TaleMachine$Values"
  | 7 => .int
  | _ => .int
theorem n_Teller : ∀ a, a < 9 → ∀ b, b < 9 → a ≠ b → (F_Teller a).2.1 ≠ (F_Teller b).2.1 := by decide +kernel
theorem t_Teller_ok : ∀ k, k < 9 → parseFieldDescriptor (F_Teller k).2.2.1 = some (t_Teller k) := by decide +kernel
theorem dv_Teller : ∀ j, j < 9 → defaultValue (t_Teller j) = vp_V [.null, .null, .null, .null, .null, .null, .null, .int 0, .int 0] j := by decide +kernel
def F_Values : u_T := fun k => match k with
  | 0 => ("TaleMachine$Values", "kinds", "[I", true)
  | 1 => ("TaleMachine$Values", "ints", "[I", true)
  | _ => ("TaleMachine$Values", "count", "I", false)
def t_Values : Nat → FieldType := fun k => match k with
  | 0 => .array .int
  | 1 => .array .int
  | _ => .int
theorem n_Values : ∀ a, a < 3 → ∀ b, b < 3 → a ≠ b → (F_Values a).2.1 ≠ (F_Values b).2.1 := by decide +kernel
theorem t_Values_ok : ∀ k, k < 3 → parseFieldDescriptor (F_Values k).2.2.1 = some (t_Values k) := by decide +kernel
theorem dv_Values : ∀ j, j < 3 → defaultValue (t_Values j) = vp_V [.null, .null, .int 0] j := by decide +kernel
def F_World : u_T := fun k => match k with
  | 0 => ("TaleMachine$World", "now", "LTaleMachine$State;", true)
  | 1 => ("TaleMachine$World", "fixed", "I", false)
  | 2 => ("TaleMachine$World", "fixedLines", "[I", true)
  | 3 => ("TaleMachine$World", "fixedLengths", "[I", true)
  | 4 => ("TaleMachine$World", "line", "[I", true)
  | 5 => ("TaleMachine$World", "length", "I", false)
  | 6 => ("TaleMachine$World", "reached", "[I", true)
  | 7 => ("TaleMachine$World", "reachedCount", "I", false)
  | _ => ("TaleMachine$World", "reachedBits", "I", false)
def t_World : Nat → FieldType := fun k => match k with
  | 0 => .object "TaleMachine$State"
  | 1 => .int
  | 2 => .array .int
  | 3 => .array .int
  | 4 => .array .int
  | 5 => .int
  | 6 => .array .int
  | 7 => .int
  | _ => .int
theorem n_World : ∀ a, a < 9 → ∀ b, b < 9 → a ≠ b → (F_World a).2.1 ≠ (F_World b).2.1 := by decide +kernel
theorem t_World_ok : ∀ k, k < 9 → parseFieldDescriptor (F_World k).2.2.1 = some (t_World k) := by decide +kernel
theorem dv_World : ∀ j, j < 9 → defaultValue (t_World j) = vp_V [.null, .int 0, .null, .null, .null, .int 0, .null, .int 0, .int 0] j := by decide +kernel
def F_TM : u_T := fun k => match k with
  | 0 => ("TaleMachine", "script", "LTaleMachine$Script;", true)
  | 1 => ("TaleMachine", "world", "LTaleMachine$World;", true)
  | 2 => ("TaleMachine", "history", "LTaleMachine$History;", true)
  | _ => ("TaleMachine", "teller", "LTaleMachine$Teller;", true)
def t_TM : Nat → FieldType := fun k => match k with
  | 0 => .object "TaleMachine$Script"
  | 1 => .object "TaleMachine$World"
  | 2 => .object "TaleMachine$History"
  | _ => .object "TaleMachine$Teller"
theorem n_TM : ∀ a, a < 4 → ∀ b, b < 4 → a ≠ b → (F_TM a).2.1 ≠ (F_TM b).2.1 := by decide +kernel
theorem t_TM_ok : ∀ k, k < 4 → parseFieldDescriptor (F_TM k).2.2.1 = some (t_TM k) := by decide +kernel
theorem dv_TM : ∀ j, j < 4 → defaultValue (t_TM j) = vp_V [.null, .null, .null, .null] j := by decide +kernel
def F_Model : u_T := fun k => match k with
  | 0 => ("TaleMachineModel", "code", "I", false)
  | 1 => ("TaleMachineModel", "bytes", "[I", true)
  | 2 => ("TaleMachineModel", "size", "I", false)
  | 3 => ("TaleMachineModel", "w", "[I", true)
  | 4 => ("TaleMachineModel", "fixed", "I", false)
  | 5 => ("TaleMachineModel", "points", "I", false)
  | 6 => ("TaleMachineModel", "saved", "[Z", true)
  | 7 => ("TaleMachineModel", "length", "I", false)
  | 8 => ("TaleMachineModel", "line", "[I", true)
  | 9 => ("TaleMachineModel", "met", "[Z", true)
  | 10 => ("TaleMachineModel", "waiting", "[I", true)
  | 11 => ("TaleMachineModel", "nextParent", "[I", true)
  | 12 => ("TaleMachineModel", "height", "I", false)
  | 13 => ("TaleMachineModel", "kind", "[I", true)
  | 14 => ("TaleMachineModel", "number", "[I", true)
  | 15 => ("TaleMachineModel", "depth", "I", false)
  | 16 => ("TaleMachineModel", "begin", "[I", true)
  | 17 => ("TaleMachineModel", "table", "[I", true)
  | 18 => ("TaleMachineModel", "handlers", "[I", true)
  | 19 => ("TaleMachineModel", "base", "[I", true)
  | 20 => ("TaleMachineModel", "locals", "[I", true)
  | 21 => ("TaleMachineModel", "self", "[I", true)
  | 22 => ("TaleMachineModel", "found", "[I", true)
  | 23 => ("TaleMachineModel", "place", "[I", true)
  | 24 => ("TaleMachineModel", "next", "[I", true)
  | 25 => ("TaleMachineModel", "said", "I", false)
  | 26 => ("TaleMachineModel", "saidKind", "[I", true)
  | 27 => ("TaleMachineModel", "saidNumber", "[I", true)
  | 28 => ("TaleMachineModel", "resultKind", "I", false)
  | 29 => ("TaleMachineModel", "resultNumber", "I", false)
  | _ => ("TaleMachineModel", "ended", "I", false)
def t_Model : Nat → FieldType := fun k => match k with
  | 0 => .int
  | 1 => .array .int
  | 2 => .int
  | 3 => .array .int
  | 4 => .int
  | 5 => .int
  | 6 => .array .boolean
  | 7 => .int
  | 8 => .array .int
  | 9 => .array .boolean
  | 10 => .array .int
  | 11 => .array .int
  | 12 => .int
  | 13 => .array .int
  | 14 => .array .int
  | 15 => .int
  | 16 => .array .int
  | 17 => .array .int
  | 18 => .array .int
  | 19 => .array .int
  | 20 => .array .int
  | 21 => .array .int
  | 22 => .array .int
  | 23 => .array .int
  | 24 => .array .int
  | 25 => .int
  | 26 => .array .int
  | 27 => .array .int
  | 28 => .int
  | 29 => .int
  | _ => .int
theorem n_Model : ∀ a, a < 31 → ∀ b, b < 31 → a ≠ b → (F_Model a).2.1 ≠ (F_Model b).2.1 := by decide +kernel
theorem t_Model_ok : ∀ k, k < 31 → parseFieldDescriptor (F_Model k).2.2.1 = some (t_Model k) := by decide +kernel
theorem dv_Model : ∀ j, j < 31 → defaultValue (t_Model j) = vp_V [.int 0, .null, .int 0, .null, .int 0, .int 0, .null, .int 0, .null, .null, .null, .null, .int 0, .null, .null, .int 0, .null, .null, .null, .null, .null, .null, .null, .null, .null, .int 0, .null, .null, .int 0, .int 0, .int 0] j := by decide +kernel
abbrev cL : List vw_C := [("TaleMachine$Frame", F_Frame, 8), ("TaleMachine$History", F_History, 4), ("TaleMachine$Script", F_Script, 2), ("TaleMachine$State", F_State, 3), ("TaleMachine$Teller", F_Teller, 9), ("TaleMachine$Values", F_Values, 3), ("TaleMachine$World", F_World, 9), ("TaleMachine", F_TM, 4), ("TaleMachineModel", F_Model, 31)]
end
section
def AW_0 : List Cond := [.fieldLink "TaleMachineModel" 75 "TaleMachineModel" "code" "I",
  .code y_Model_outside prog_10_method_4_code 3 (some .boolean),
  .methodLink "TaleMachineModel" 78 y_Model_outside,
  .static y_Model_outside,
  .initialized "TaleMachineModel",
  .fieldLink "TaleMachineModel" 13 "TaleMachineModel" "w" "[I",
  .code y_Model_isThere prog_10_method_5_code 2 (some .boolean),
  .methodLink "TaleMachineModel" 107 y_Model_isThere,
  .instanceMethod y_Model_isThere,
  .selects "TaleMachineModel" y_Model_isThere y_Model_isThere,
  .code y_Model_placeOf prog_10_method_8_code 3 (some .int),
  .methodLink "TaleMachineModel" 82 y_Model_placeOf,
  .instanceMethod y_Model_placeOf,
  .selects "TaleMachineModel" y_Model_placeOf y_Model_placeOf,
  .fieldLink "TaleMachineModel" 104 "TaleMachineModel" "size" "I",
  .fieldLink "TaleMachineModel" 7 "TaleMachineModel" "bytes" "[I",
  .code y_Model_isParent prog_10_method_17_code 2 (some .boolean),
  .methodLink "TaleMachineModel" 111 y_Model_isParent,
  .instanceMethod y_Model_isParent,
  .selects "TaleMachineModel" y_Model_isParent y_Model_isParent,
  .fieldLink "TaleMachineModel" 71 "TaleMachineModel" "ended" "I",
  .fieldLink "TaleMachineModel" 114 "TaleMachineModel" "fixed" "I",
  .code y_Model_empty prog_10_method_11_code 3 none,
  .methodLink "TaleMachineModel" 117 y_Model_empty,
  .instanceMethod y_Model_empty,
  .selects "TaleMachineModel" y_Model_empty y_Model_empty,
  .fieldLink "TaleMachineModel" 16 "TaleMachineModel" "saved" "[Z",
  .fieldLink "TaleMachineModel" 147 "TaleMachineModel" "resultKind" "I",
  .fieldLink "TaleMachineModel" 150 "TaleMachineModel" "resultNumber" "I",
  .code y_Model_mark prog_10_method_48_code 4 (some .int),
  .methodLink "TaleMachineModel" 232 y_Model_mark,
  .instanceMethod y_Model_mark,
  .selects "TaleMachineModel" y_Model_mark y_Model_mark,
  .fieldLink "TaleMachineModel" 130 "TaleMachineModel" "height" "I",
  .fieldLink "TaleMachineModel" 127 "TaleMachineModel" "depth" "I",
  .code y_Model_refuse prog_10_method_3_code 2 (some .int),
  .methodLink "TaleMachineModel" 238 y_Model_refuse,
  .instanceMethod y_Model_refuse,
  .selects "TaleMachineModel" y_Model_refuse y_Model_refuse,
  .fieldLink "TaleMachineModel" 144 "TaleMachineModel" "said" "I",
  .fieldLink "TaleMachineModel" 153 "TaleMachineModel" "points" "I",
  .methodLink "TaleMachine$Script" 3 objectInit,
  .instanceMethod objectInit,
  .code objectInit object_method_1_code 1 none,
  .arrayClass .int,
  .fieldLink "TaleMachine$Script" 9 "TaleMachine$Script" "bytes" "[I",
  .methodLink "TaleMachine$Frame" 1 objectInit,
  .methodLink "TaleMachine$Values" 1 objectInit,
  .fieldLink "TaleMachine$Values" 7 "TaleMachine$Values" "kinds" "[I",
  .fieldLink "TaleMachine$Values" 13 "TaleMachine$Values" "ints" "[I",
  .methodLink "TaleMachine$State" 3 objectInit,
  .fieldLink "TaleMachine$State" 9 "TaleMachine$State" "kinds" "[I",
  .fieldLink "TaleMachine$State" 15 "TaleMachine$State" "ints" "[I",
  .fieldLink "TaleMachine$State" 18 "TaleMachine$State" "parents" "[I",
  .code y_Arrays_fill prog_19_method_103_code 4 none,
  .methodLink "TaleMachine$State" 21 y_Arrays_fill,
  .static y_Arrays_fill,
  .initialized "java/util/Arrays",
  .methodLink "TaleMachine$World" 3 objectInit,
  .classLink "TaleMachine$World" 9 "TaleMachine$State"]
def AW_1 : List Cond := [.instantiable "TaleMachine$State" 3,
  .initialized "TaleMachine$State",
  .code y_State_init prog_5_method_1_code 1 none,
  .methodLink "TaleMachine$World" 11 y_State_init,
  .instanceMethod y_State_init,
  .fieldLink "TaleMachine$World" 12 "TaleMachine$World" "now" "LTaleMachine$State;",
  .fieldLink "TaleMachine$World" 18 "TaleMachine$World" "fixedLines" "[I",
  .fieldLink "TaleMachine$World" 22 "TaleMachine$World" "fixedLengths" "[I",
  .fieldLink "TaleMachine$World" 25 "TaleMachine$World" "line" "[I",
  .fieldLink "TaleMachine$World" 28 "TaleMachine$World" "reached" "[I",
  .methodLink "TaleMachine$History" 3 objectInit,
  .classLink "TaleMachine$History" 9 "TaleMachine$State",
  .fieldLink "TaleMachine$History" 11 "TaleMachine$History" "pointed" "[LTaleMachine$State;",
  .fieldLink "TaleMachine$History" 17 "TaleMachine$History" "saved" "[LTaleMachine$State;",
  .arrayClass .boolean,
  .fieldLink "TaleMachine$History" 20 "TaleMachine$History" "isSaved" "[Z",
  .methodLink "TaleMachine$History" 24 y_State_init,
  .methodLink "TaleMachine$Teller" 3 objectInit,
  .classLink "TaleMachine$Teller" 9 "TaleMachine$Frame",
  .fieldLink "TaleMachine$Teller" 11 "TaleMachine$Teller" "frames" "[LTaleMachine$Frame;",
  .classLink "TaleMachine$Teller" 17 "TaleMachine$Values",
  .instantiable "TaleMachine$Values" 3,
  .initialized "TaleMachine$Values",
  .code y_Values_init prog_7_method_1_code 2 none,
  .methodLink "TaleMachine$Teller" 19 y_Values_init,
  .instanceMethod y_Values_init,
  .fieldLink "TaleMachine$Teller" 22 "TaleMachine$Teller" "values" "LTaleMachine$Values;",
  .fieldLink "TaleMachine$Teller" 26 "TaleMachine$Teller" "sayings" "LTaleMachine$Values;",
  .fieldLink "TaleMachine$Teller" 29 "TaleMachine$Teller" "result" "LTaleMachine$Values;",
  .fieldLink "TaleMachine$Teller" 32 "TaleMachine$Teller" "outcome" "I",
  .fieldLink "TaleMachine$Teller" 36 "TaleMachine$Teller" "script" "LTaleMachine$Script;",
  .fieldLink "TaleMachine$Teller" 40 "TaleMachine$Teller" "world" "LTaleMachine$World;",
  .fieldLink "TaleMachine$Teller" 44 "TaleMachine$Teller" "history" "LTaleMachine$History;",
  .instantiable "TaleMachine$Frame" 8,
  .initialized "TaleMachine$Frame",
  .code y_Frame_init prog_2_method_1_code 1 none,
  .instanceMethod y_Frame_init,
  .lays "TaleMachine$Frame" "TaleMachine$Frame" "method" "I",
  .lays "TaleMachine$Frame" "TaleMachine$Frame" "beginning" "I",
  .lays "TaleMachine$Frame" "TaleMachine$Frame" "self" "I",
  .lays "TaleMachine$Frame" "TaleMachine$Frame" "found" "I",
  .lays "TaleMachine$Frame" "TaleMachine$Frame" "place" "I",
  .lays "TaleMachine$Frame" "TaleMachine$Frame" "behind" "I",
  .lays "TaleMachine$Frame" "TaleMachine$Frame" "base" "I",
  .lays "TaleMachine$Frame" "TaleMachine$Frame" "floor" "I",
  .laysFinal "TaleMachine$History" "TaleMachine$History" "pointed" "[LTaleMachine$State;",
  .laysFinal "TaleMachine$History" "TaleMachine$History" "saved" "[LTaleMachine$State;",
  .laysFinal "TaleMachine$History" "TaleMachine$History" "isSaved" "[Z",
  .lays "TaleMachine$History" "TaleMachine$History" "points" "I",
  .laysFinal "TaleMachine$Script" "TaleMachine$Script" "bytes" "[I",
  .lays "TaleMachine$Script" "TaleMachine$Script" "length" "I",
  .laysFinal "TaleMachine$State" "TaleMachine$State" "kinds" "[I",
  .laysFinal "TaleMachine$State" "TaleMachine$State" "ints" "[I",
  .laysFinal "TaleMachine$State" "TaleMachine$State" "parents" "[I",
  .laysFinal "TaleMachine$Teller" "TaleMachine$Teller" "script" "LTaleMachine$Script;",
  .laysFinal "TaleMachine$Teller" "TaleMachine$Teller" "world" "LTaleMachine$World;",
  .laysFinal "TaleMachine$Teller" "TaleMachine$Teller" "history" "LTaleMachine$History;",
  .laysFinal "TaleMachine$Teller" "TaleMachine$Teller" "frames" "[LTaleMachine$Frame;",
  .laysFinal "TaleMachine$Teller" "TaleMachine$Teller" "values" "LTaleMachine$Values;",
  .laysFinal "TaleMachine$Teller" "TaleMachine$Teller" "sayings" "LTaleMachine$Values;"]
def AW_2 : List Cond := [.laysFinal "TaleMachine$Teller" "TaleMachine$Teller" "result" "LTaleMachine$Values;",
  .lays "TaleMachine$Teller" "TaleMachine$Teller" "depth" "I",
  .lays "TaleMachine$Teller" "TaleMachine$Teller" "outcome" "I",
  .laysFinal "TaleMachine$Values" "TaleMachine$Values" "kinds" "[I",
  .laysFinal "TaleMachine$Values" "TaleMachine$Values" "ints" "[I",
  .lays "TaleMachine$Values" "TaleMachine$Values" "count" "I",
  .laysFinal "TaleMachine$World" "TaleMachine$World" "now" "LTaleMachine$State;",
  .lays "TaleMachine$World" "TaleMachine$World" "fixed" "I",
  .laysFinal "TaleMachine$World" "TaleMachine$World" "fixedLines" "[I",
  .laysFinal "TaleMachine$World" "TaleMachine$World" "fixedLengths" "[I",
  .laysFinal "TaleMachine$World" "TaleMachine$World" "line" "[I",
  .lays "TaleMachine$World" "TaleMachine$World" "length" "I",
  .laysFinal "TaleMachine$World" "TaleMachine$World" "reached" "[I",
  .lays "TaleMachine$World" "TaleMachine$World" "reachedCount" "I",
  .lays "TaleMachine$World" "TaleMachine$World" "reachedBits" "I",
  .laysFinal "TaleMachine" "TaleMachine" "script" "LTaleMachine$Script;",
  .laysFinal "TaleMachine" "TaleMachine" "world" "LTaleMachine$World;",
  .laysFinal "TaleMachine" "TaleMachine" "history" "LTaleMachine$History;",
  .laysFinal "TaleMachine" "TaleMachine" "teller" "LTaleMachine$Teller;",
  .lays "TaleMachineModel" "TaleMachineModel" "code" "I",
  .laysFinal "TaleMachineModel" "TaleMachineModel" "bytes" "[I",
  .lays "TaleMachineModel" "TaleMachineModel" "size" "I",
  .laysFinal "TaleMachineModel" "TaleMachineModel" "w" "[I",
  .lays "TaleMachineModel" "TaleMachineModel" "fixed" "I",
  .lays "TaleMachineModel" "TaleMachineModel" "points" "I",
  .laysFinal "TaleMachineModel" "TaleMachineModel" "saved" "[Z",
  .lays "TaleMachineModel" "TaleMachineModel" "length" "I",
  .laysFinal "TaleMachineModel" "TaleMachineModel" "line" "[I",
  .laysFinal "TaleMachineModel" "TaleMachineModel" "met" "[Z",
  .laysFinal "TaleMachineModel" "TaleMachineModel" "waiting" "[I",
  .laysFinal "TaleMachineModel" "TaleMachineModel" "nextParent" "[I",
  .lays "TaleMachineModel" "TaleMachineModel" "height" "I",
  .laysFinal "TaleMachineModel" "TaleMachineModel" "kind" "[I",
  .laysFinal "TaleMachineModel" "TaleMachineModel" "number" "[I",
  .lays "TaleMachineModel" "TaleMachineModel" "depth" "I",
  .laysFinal "TaleMachineModel" "TaleMachineModel" "begin" "[I",
  .laysFinal "TaleMachineModel" "TaleMachineModel" "table" "[I",
  .laysFinal "TaleMachineModel" "TaleMachineModel" "handlers" "[I",
  .laysFinal "TaleMachineModel" "TaleMachineModel" "base" "[I",
  .laysFinal "TaleMachineModel" "TaleMachineModel" "locals" "[I",
  .laysFinal "TaleMachineModel" "TaleMachineModel" "self" "[I",
  .laysFinal "TaleMachineModel" "TaleMachineModel" "found" "[I",
  .laysFinal "TaleMachineModel" "TaleMachineModel" "place" "[I",
  .laysFinal "TaleMachineModel" "TaleMachineModel" "next" "[I",
  .lays "TaleMachineModel" "TaleMachineModel" "said" "I",
  .laysFinal "TaleMachineModel" "TaleMachineModel" "saidKind" "[I",
  .laysFinal "TaleMachineModel" "TaleMachineModel" "saidNumber" "[I",
  .lays "TaleMachineModel" "TaleMachineModel" "resultKind" "I",
  .lays "TaleMachineModel" "TaleMachineModel" "resultNumber" "I",
  .lays "TaleMachineModel" "TaleMachineModel" "ended" "I"]
def AW : List Cond := AW_0 ++ (AW_1 ++ (AW_2))
theorem k_0 : (.fieldLink "TaleMachineModel" 75 "TaleMachineModel" "code" "I" : Cond) ∈ AW := List.mem_of_getElem? (i := 0) rfl
theorem k_1 : (.code y_Model_outside prog_10_method_4_code 3 (some .boolean) : Cond) ∈ AW := List.mem_of_getElem? (i := 1) rfl
theorem k_2 : (.methodLink "TaleMachineModel" 78 y_Model_outside : Cond) ∈ AW := List.mem_of_getElem? (i := 2) rfl
theorem k_3 : (.static y_Model_outside : Cond) ∈ AW := List.mem_of_getElem? (i := 3) rfl
theorem k_4 : (.initialized "TaleMachineModel" : Cond) ∈ AW := List.mem_of_getElem? (i := 4) rfl
theorem k_5 : (.fieldLink "TaleMachineModel" 13 "TaleMachineModel" "w" "[I" : Cond) ∈ AW := List.mem_of_getElem? (i := 5) rfl
theorem k_6 : (.code y_Model_isThere prog_10_method_5_code 2 (some .boolean) : Cond) ∈ AW := List.mem_of_getElem? (i := 6) rfl
theorem k_7 : (.methodLink "TaleMachineModel" 107 y_Model_isThere : Cond) ∈ AW := List.mem_of_getElem? (i := 7) rfl
theorem k_8 : (.instanceMethod y_Model_isThere : Cond) ∈ AW := List.mem_of_getElem? (i := 8) rfl
theorem k_9 : (.selects "TaleMachineModel" y_Model_isThere y_Model_isThere : Cond) ∈ AW := List.mem_of_getElem? (i := 9) rfl
theorem k_10 : (.code y_Model_placeOf prog_10_method_8_code 3 (some .int) : Cond) ∈ AW := List.mem_of_getElem? (i := 10) rfl
theorem k_11 : (.methodLink "TaleMachineModel" 82 y_Model_placeOf : Cond) ∈ AW := List.mem_of_getElem? (i := 11) rfl
theorem k_12 : (.instanceMethod y_Model_placeOf : Cond) ∈ AW := List.mem_of_getElem? (i := 12) rfl
theorem k_13 : (.selects "TaleMachineModel" y_Model_placeOf y_Model_placeOf : Cond) ∈ AW := List.mem_of_getElem? (i := 13) rfl
theorem k_14 : (.fieldLink "TaleMachineModel" 104 "TaleMachineModel" "size" "I" : Cond) ∈ AW := List.mem_of_getElem? (i := 14) rfl
theorem k_15 : (.fieldLink "TaleMachineModel" 7 "TaleMachineModel" "bytes" "[I" : Cond) ∈ AW := List.mem_of_getElem? (i := 15) rfl
theorem k_16 : (.code y_Model_isParent prog_10_method_17_code 2 (some .boolean) : Cond) ∈ AW := List.mem_of_getElem? (i := 16) rfl
theorem k_17 : (.methodLink "TaleMachineModel" 111 y_Model_isParent : Cond) ∈ AW := List.mem_of_getElem? (i := 17) rfl
theorem k_18 : (.instanceMethod y_Model_isParent : Cond) ∈ AW := List.mem_of_getElem? (i := 18) rfl
theorem k_19 : (.selects "TaleMachineModel" y_Model_isParent y_Model_isParent : Cond) ∈ AW := List.mem_of_getElem? (i := 19) rfl
theorem k_20 : (.fieldLink "TaleMachineModel" 71 "TaleMachineModel" "ended" "I" : Cond) ∈ AW := List.mem_of_getElem? (i := 20) rfl
theorem k_21 : (.fieldLink "TaleMachineModel" 114 "TaleMachineModel" "fixed" "I" : Cond) ∈ AW := List.mem_of_getElem? (i := 21) rfl
theorem k_22 : (.code y_Model_empty prog_10_method_11_code 3 none : Cond) ∈ AW := List.mem_of_getElem? (i := 22) rfl
theorem k_23 : (.methodLink "TaleMachineModel" 117 y_Model_empty : Cond) ∈ AW := List.mem_of_getElem? (i := 23) rfl
theorem k_24 : (.instanceMethod y_Model_empty : Cond) ∈ AW := List.mem_of_getElem? (i := 24) rfl
theorem k_25 : (.selects "TaleMachineModel" y_Model_empty y_Model_empty : Cond) ∈ AW := List.mem_of_getElem? (i := 25) rfl
theorem k_26 : (.fieldLink "TaleMachineModel" 16 "TaleMachineModel" "saved" "[Z" : Cond) ∈ AW := List.mem_of_getElem? (i := 26) rfl
theorem k_27 : (.fieldLink "TaleMachineModel" 147 "TaleMachineModel" "resultKind" "I" : Cond) ∈ AW := List.mem_of_getElem? (i := 27) rfl
theorem k_28 : (.fieldLink "TaleMachineModel" 150 "TaleMachineModel" "resultNumber" "I" : Cond) ∈ AW := List.mem_of_getElem? (i := 28) rfl
theorem k_29 : (.code y_Model_mark prog_10_method_48_code 4 (some .int) : Cond) ∈ AW := List.mem_of_getElem? (i := 29) rfl
theorem k_30 : (.methodLink "TaleMachineModel" 232 y_Model_mark : Cond) ∈ AW := List.mem_of_getElem? (i := 30) rfl
theorem k_31 : (.instanceMethod y_Model_mark : Cond) ∈ AW := List.mem_of_getElem? (i := 31) rfl
theorem k_32 : (.selects "TaleMachineModel" y_Model_mark y_Model_mark : Cond) ∈ AW := List.mem_of_getElem? (i := 32) rfl
theorem k_33 : (.fieldLink "TaleMachineModel" 130 "TaleMachineModel" "height" "I" : Cond) ∈ AW := List.mem_of_getElem? (i := 33) rfl
theorem k_34 : (.fieldLink "TaleMachineModel" 127 "TaleMachineModel" "depth" "I" : Cond) ∈ AW := List.mem_of_getElem? (i := 34) rfl
theorem k_35 : (.code y_Model_refuse prog_10_method_3_code 2 (some .int) : Cond) ∈ AW := List.mem_of_getElem? (i := 35) rfl
theorem k_36 : (.methodLink "TaleMachineModel" 238 y_Model_refuse : Cond) ∈ AW := List.mem_of_getElem? (i := 36) rfl
theorem k_37 : (.instanceMethod y_Model_refuse : Cond) ∈ AW := List.mem_of_getElem? (i := 37) rfl
theorem k_38 : (.selects "TaleMachineModel" y_Model_refuse y_Model_refuse : Cond) ∈ AW := List.mem_of_getElem? (i := 38) rfl
theorem k_39 : (.fieldLink "TaleMachineModel" 144 "TaleMachineModel" "said" "I" : Cond) ∈ AW := List.mem_of_getElem? (i := 39) rfl
theorem k_40 : (.fieldLink "TaleMachineModel" 153 "TaleMachineModel" "points" "I" : Cond) ∈ AW := List.mem_of_getElem? (i := 40) rfl
theorem k_41 : (.methodLink "TaleMachine$Script" 3 objectInit : Cond) ∈ AW := List.mem_of_getElem? (i := 41) rfl
theorem k_42 : (.instanceMethod objectInit : Cond) ∈ AW := List.mem_of_getElem? (i := 42) rfl
theorem k_43 : (.code objectInit object_method_1_code 1 none : Cond) ∈ AW := List.mem_of_getElem? (i := 43) rfl
theorem k_44 : (.arrayClass .int : Cond) ∈ AW := List.mem_of_getElem? (i := 44) rfl
theorem k_45 : (.fieldLink "TaleMachine$Script" 9 "TaleMachine$Script" "bytes" "[I" : Cond) ∈ AW := List.mem_of_getElem? (i := 45) rfl
theorem k_46 : (.methodLink "TaleMachine$Frame" 1 objectInit : Cond) ∈ AW := List.mem_of_getElem? (i := 46) rfl
theorem k_47 : (.methodLink "TaleMachine$Values" 1 objectInit : Cond) ∈ AW := List.mem_of_getElem? (i := 47) rfl
theorem k_48 : (.fieldLink "TaleMachine$Values" 7 "TaleMachine$Values" "kinds" "[I" : Cond) ∈ AW := List.mem_of_getElem? (i := 48) rfl
theorem k_49 : (.fieldLink "TaleMachine$Values" 13 "TaleMachine$Values" "ints" "[I" : Cond) ∈ AW := List.mem_of_getElem? (i := 49) rfl
theorem k_50 : (.methodLink "TaleMachine$State" 3 objectInit : Cond) ∈ AW := List.mem_of_getElem? (i := 50) rfl
theorem k_51 : (.fieldLink "TaleMachine$State" 9 "TaleMachine$State" "kinds" "[I" : Cond) ∈ AW := List.mem_of_getElem? (i := 51) rfl
theorem k_52 : (.fieldLink "TaleMachine$State" 15 "TaleMachine$State" "ints" "[I" : Cond) ∈ AW := List.mem_of_getElem? (i := 52) rfl
theorem k_53 : (.fieldLink "TaleMachine$State" 18 "TaleMachine$State" "parents" "[I" : Cond) ∈ AW := List.mem_of_getElem? (i := 53) rfl
theorem k_54 : (.code y_Arrays_fill prog_19_method_103_code 4 none : Cond) ∈ AW := List.mem_of_getElem? (i := 54) rfl
theorem k_55 : (.methodLink "TaleMachine$State" 21 y_Arrays_fill : Cond) ∈ AW := List.mem_of_getElem? (i := 55) rfl
theorem k_56 : (.static y_Arrays_fill : Cond) ∈ AW := List.mem_of_getElem? (i := 56) rfl
theorem k_57 : (.initialized "java/util/Arrays" : Cond) ∈ AW := List.mem_of_getElem? (i := 57) rfl
theorem k_58 : (.methodLink "TaleMachine$World" 3 objectInit : Cond) ∈ AW := List.mem_of_getElem? (i := 58) rfl
theorem k_59 : (.classLink "TaleMachine$World" 9 "TaleMachine$State" : Cond) ∈ AW := List.mem_of_getElem? (i := 59) rfl
theorem k_60 : (.instantiable "TaleMachine$State" 3 : Cond) ∈ AW := List.mem_of_getElem? (i := 60) rfl
theorem k_61 : (.initialized "TaleMachine$State" : Cond) ∈ AW := List.mem_of_getElem? (i := 61) rfl
theorem k_62 : (.code y_State_init prog_5_method_1_code 1 none : Cond) ∈ AW := List.mem_of_getElem? (i := 62) rfl
theorem k_63 : (.methodLink "TaleMachine$World" 11 y_State_init : Cond) ∈ AW := List.mem_of_getElem? (i := 63) rfl
theorem k_64 : (.instanceMethod y_State_init : Cond) ∈ AW := List.mem_of_getElem? (i := 64) rfl
theorem k_65 : (.fieldLink "TaleMachine$World" 12 "TaleMachine$World" "now" "LTaleMachine$State;" : Cond) ∈ AW := List.mem_of_getElem? (i := 65) rfl
theorem k_66 : (.fieldLink "TaleMachine$World" 18 "TaleMachine$World" "fixedLines" "[I" : Cond) ∈ AW := List.mem_of_getElem? (i := 66) rfl
theorem k_67 : (.fieldLink "TaleMachine$World" 22 "TaleMachine$World" "fixedLengths" "[I" : Cond) ∈ AW := List.mem_of_getElem? (i := 67) rfl
theorem k_68 : (.fieldLink "TaleMachine$World" 25 "TaleMachine$World" "line" "[I" : Cond) ∈ AW := List.mem_of_getElem? (i := 68) rfl
theorem k_69 : (.fieldLink "TaleMachine$World" 28 "TaleMachine$World" "reached" "[I" : Cond) ∈ AW := List.mem_of_getElem? (i := 69) rfl
theorem k_70 : (.methodLink "TaleMachine$History" 3 objectInit : Cond) ∈ AW := List.mem_of_getElem? (i := 70) rfl
theorem k_71 : (.classLink "TaleMachine$History" 9 "TaleMachine$State" : Cond) ∈ AW := List.mem_of_getElem? (i := 71) rfl
theorem k_72 : (.fieldLink "TaleMachine$History" 11 "TaleMachine$History" "pointed" "[LTaleMachine$State;" : Cond) ∈ AW := List.mem_of_getElem? (i := 72) rfl
theorem k_73 : (.fieldLink "TaleMachine$History" 17 "TaleMachine$History" "saved" "[LTaleMachine$State;" : Cond) ∈ AW := List.mem_of_getElem? (i := 73) rfl
theorem k_74 : (.arrayClass .boolean : Cond) ∈ AW := List.mem_of_getElem? (i := 74) rfl
theorem k_75 : (.fieldLink "TaleMachine$History" 20 "TaleMachine$History" "isSaved" "[Z" : Cond) ∈ AW := List.mem_of_getElem? (i := 75) rfl
theorem k_76 : (.methodLink "TaleMachine$History" 24 y_State_init : Cond) ∈ AW := List.mem_of_getElem? (i := 76) rfl
theorem k_77 : (.methodLink "TaleMachine$Teller" 3 objectInit : Cond) ∈ AW := List.mem_of_getElem? (i := 77) rfl
theorem k_78 : (.classLink "TaleMachine$Teller" 9 "TaleMachine$Frame" : Cond) ∈ AW := List.mem_of_getElem? (i := 78) rfl
theorem k_79 : (.fieldLink "TaleMachine$Teller" 11 "TaleMachine$Teller" "frames" "[LTaleMachine$Frame;" : Cond) ∈ AW := List.mem_of_getElem? (i := 79) rfl
theorem k_80 : (.classLink "TaleMachine$Teller" 17 "TaleMachine$Values" : Cond) ∈ AW := List.mem_of_getElem? (i := 80) rfl
theorem k_81 : (.instantiable "TaleMachine$Values" 3 : Cond) ∈ AW := List.mem_of_getElem? (i := 81) rfl
theorem k_82 : (.initialized "TaleMachine$Values" : Cond) ∈ AW := List.mem_of_getElem? (i := 82) rfl
theorem k_83 : (.code y_Values_init prog_7_method_1_code 2 none : Cond) ∈ AW := List.mem_of_getElem? (i := 83) rfl
theorem k_84 : (.methodLink "TaleMachine$Teller" 19 y_Values_init : Cond) ∈ AW := List.mem_of_getElem? (i := 84) rfl
theorem k_85 : (.instanceMethod y_Values_init : Cond) ∈ AW := List.mem_of_getElem? (i := 85) rfl
theorem k_86 : (.fieldLink "TaleMachine$Teller" 22 "TaleMachine$Teller" "values" "LTaleMachine$Values;" : Cond) ∈ AW := List.mem_of_getElem? (i := 86) rfl
theorem k_87 : (.fieldLink "TaleMachine$Teller" 26 "TaleMachine$Teller" "sayings" "LTaleMachine$Values;" : Cond) ∈ AW := List.mem_of_getElem? (i := 87) rfl
theorem k_88 : (.fieldLink "TaleMachine$Teller" 29 "TaleMachine$Teller" "result" "LTaleMachine$Values;" : Cond) ∈ AW := List.mem_of_getElem? (i := 88) rfl
theorem k_89 : (.fieldLink "TaleMachine$Teller" 32 "TaleMachine$Teller" "outcome" "I" : Cond) ∈ AW := List.mem_of_getElem? (i := 89) rfl
theorem k_90 : (.fieldLink "TaleMachine$Teller" 36 "TaleMachine$Teller" "script" "LTaleMachine$Script;" : Cond) ∈ AW := List.mem_of_getElem? (i := 90) rfl
theorem k_91 : (.fieldLink "TaleMachine$Teller" 40 "TaleMachine$Teller" "world" "LTaleMachine$World;" : Cond) ∈ AW := List.mem_of_getElem? (i := 91) rfl
theorem k_92 : (.fieldLink "TaleMachine$Teller" 44 "TaleMachine$Teller" "history" "LTaleMachine$History;" : Cond) ∈ AW := List.mem_of_getElem? (i := 92) rfl
theorem k_93 : (.instantiable "TaleMachine$Frame" 8 : Cond) ∈ AW := List.mem_of_getElem? (i := 93) rfl
theorem k_94 : (.initialized "TaleMachine$Frame" : Cond) ∈ AW := List.mem_of_getElem? (i := 94) rfl
theorem k_95 : (.code y_Frame_init prog_2_method_1_code 1 none : Cond) ∈ AW := List.mem_of_getElem? (i := 95) rfl
theorem k_96 : (.instanceMethod y_Frame_init : Cond) ∈ AW := List.mem_of_getElem? (i := 96) rfl
theorem k_97 : (.lays "TaleMachine$Frame" "TaleMachine$Frame" "method" "I" : Cond) ∈ AW := List.mem_of_getElem? (i := 97) rfl
theorem k_98 : (.lays "TaleMachine$Frame" "TaleMachine$Frame" "beginning" "I" : Cond) ∈ AW := List.mem_of_getElem? (i := 98) rfl
theorem k_99 : (.lays "TaleMachine$Frame" "TaleMachine$Frame" "self" "I" : Cond) ∈ AW := List.mem_of_getElem? (i := 99) rfl
theorem k_100 : (.lays "TaleMachine$Frame" "TaleMachine$Frame" "found" "I" : Cond) ∈ AW := List.mem_of_getElem? (i := 100) rfl
theorem k_101 : (.lays "TaleMachine$Frame" "TaleMachine$Frame" "place" "I" : Cond) ∈ AW := List.mem_of_getElem? (i := 101) rfl
theorem k_102 : (.lays "TaleMachine$Frame" "TaleMachine$Frame" "behind" "I" : Cond) ∈ AW := List.mem_of_getElem? (i := 102) rfl
theorem k_103 : (.lays "TaleMachine$Frame" "TaleMachine$Frame" "base" "I" : Cond) ∈ AW := List.mem_of_getElem? (i := 103) rfl
theorem k_104 : (.lays "TaleMachine$Frame" "TaleMachine$Frame" "floor" "I" : Cond) ∈ AW := List.mem_of_getElem? (i := 104) rfl
theorem k_105 : (.laysFinal "TaleMachine$History" "TaleMachine$History" "pointed" "[LTaleMachine$State;" : Cond) ∈ AW := List.mem_of_getElem? (i := 105) rfl
theorem k_106 : (.laysFinal "TaleMachine$History" "TaleMachine$History" "saved" "[LTaleMachine$State;" : Cond) ∈ AW := List.mem_of_getElem? (i := 106) rfl
theorem k_107 : (.laysFinal "TaleMachine$History" "TaleMachine$History" "isSaved" "[Z" : Cond) ∈ AW := List.mem_of_getElem? (i := 107) rfl
theorem k_108 : (.lays "TaleMachine$History" "TaleMachine$History" "points" "I" : Cond) ∈ AW := List.mem_of_getElem? (i := 108) rfl
theorem k_109 : (.laysFinal "TaleMachine$Script" "TaleMachine$Script" "bytes" "[I" : Cond) ∈ AW := List.mem_of_getElem? (i := 109) rfl
theorem k_110 : (.lays "TaleMachine$Script" "TaleMachine$Script" "length" "I" : Cond) ∈ AW := List.mem_of_getElem? (i := 110) rfl
theorem k_111 : (.laysFinal "TaleMachine$State" "TaleMachine$State" "kinds" "[I" : Cond) ∈ AW := List.mem_of_getElem? (i := 111) rfl
theorem k_112 : (.laysFinal "TaleMachine$State" "TaleMachine$State" "ints" "[I" : Cond) ∈ AW := List.mem_of_getElem? (i := 112) rfl
theorem k_113 : (.laysFinal "TaleMachine$State" "TaleMachine$State" "parents" "[I" : Cond) ∈ AW := List.mem_of_getElem? (i := 113) rfl
theorem k_114 : (.laysFinal "TaleMachine$Teller" "TaleMachine$Teller" "script" "LTaleMachine$Script;" : Cond) ∈ AW := List.mem_of_getElem? (i := 114) rfl
theorem k_115 : (.laysFinal "TaleMachine$Teller" "TaleMachine$Teller" "world" "LTaleMachine$World;" : Cond) ∈ AW := List.mem_of_getElem? (i := 115) rfl
theorem k_116 : (.laysFinal "TaleMachine$Teller" "TaleMachine$Teller" "history" "LTaleMachine$History;" : Cond) ∈ AW := List.mem_of_getElem? (i := 116) rfl
theorem k_117 : (.laysFinal "TaleMachine$Teller" "TaleMachine$Teller" "frames" "[LTaleMachine$Frame;" : Cond) ∈ AW := List.mem_of_getElem? (i := 117) rfl
theorem k_118 : (.laysFinal "TaleMachine$Teller" "TaleMachine$Teller" "values" "LTaleMachine$Values;" : Cond) ∈ AW := List.mem_of_getElem? (i := 118) rfl
theorem k_119 : (.laysFinal "TaleMachine$Teller" "TaleMachine$Teller" "sayings" "LTaleMachine$Values;" : Cond) ∈ AW := List.mem_of_getElem? (i := 119) rfl
theorem k_120 : (.laysFinal "TaleMachine$Teller" "TaleMachine$Teller" "result" "LTaleMachine$Values;" : Cond) ∈ AW := List.mem_of_getElem? (i := 120) rfl
theorem k_121 : (.lays "TaleMachine$Teller" "TaleMachine$Teller" "depth" "I" : Cond) ∈ AW := List.mem_of_getElem? (i := 121) rfl
theorem k_122 : (.lays "TaleMachine$Teller" "TaleMachine$Teller" "outcome" "I" : Cond) ∈ AW := List.mem_of_getElem? (i := 122) rfl
theorem k_123 : (.laysFinal "TaleMachine$Values" "TaleMachine$Values" "kinds" "[I" : Cond) ∈ AW := List.mem_of_getElem? (i := 123) rfl
theorem k_124 : (.laysFinal "TaleMachine$Values" "TaleMachine$Values" "ints" "[I" : Cond) ∈ AW := List.mem_of_getElem? (i := 124) rfl
theorem k_125 : (.lays "TaleMachine$Values" "TaleMachine$Values" "count" "I" : Cond) ∈ AW := List.mem_of_getElem? (i := 125) rfl
theorem k_126 : (.laysFinal "TaleMachine$World" "TaleMachine$World" "now" "LTaleMachine$State;" : Cond) ∈ AW := List.mem_of_getElem? (i := 126) rfl
theorem k_127 : (.lays "TaleMachine$World" "TaleMachine$World" "fixed" "I" : Cond) ∈ AW := List.mem_of_getElem? (i := 127) rfl
theorem k_128 : (.laysFinal "TaleMachine$World" "TaleMachine$World" "fixedLines" "[I" : Cond) ∈ AW := List.mem_of_getElem? (i := 128) rfl
theorem k_129 : (.laysFinal "TaleMachine$World" "TaleMachine$World" "fixedLengths" "[I" : Cond) ∈ AW := List.mem_of_getElem? (i := 129) rfl
theorem k_130 : (.laysFinal "TaleMachine$World" "TaleMachine$World" "line" "[I" : Cond) ∈ AW := List.mem_of_getElem? (i := 130) rfl
theorem k_131 : (.lays "TaleMachine$World" "TaleMachine$World" "length" "I" : Cond) ∈ AW := List.mem_of_getElem? (i := 131) rfl
theorem k_132 : (.laysFinal "TaleMachine$World" "TaleMachine$World" "reached" "[I" : Cond) ∈ AW := List.mem_of_getElem? (i := 132) rfl
theorem k_133 : (.lays "TaleMachine$World" "TaleMachine$World" "reachedCount" "I" : Cond) ∈ AW := List.mem_of_getElem? (i := 133) rfl
theorem k_134 : (.lays "TaleMachine$World" "TaleMachine$World" "reachedBits" "I" : Cond) ∈ AW := List.mem_of_getElem? (i := 134) rfl
theorem k_135 : (.laysFinal "TaleMachine" "TaleMachine" "script" "LTaleMachine$Script;" : Cond) ∈ AW := List.mem_of_getElem? (i := 135) rfl
theorem k_136 : (.laysFinal "TaleMachine" "TaleMachine" "world" "LTaleMachine$World;" : Cond) ∈ AW := List.mem_of_getElem? (i := 136) rfl
theorem k_137 : (.laysFinal "TaleMachine" "TaleMachine" "history" "LTaleMachine$History;" : Cond) ∈ AW := List.mem_of_getElem? (i := 137) rfl
theorem k_138 : (.laysFinal "TaleMachine" "TaleMachine" "teller" "LTaleMachine$Teller;" : Cond) ∈ AW := List.mem_of_getElem? (i := 138) rfl
theorem k_139 : (.lays "TaleMachineModel" "TaleMachineModel" "code" "I" : Cond) ∈ AW := List.mem_of_getElem? (i := 139) rfl
theorem k_140 : (.laysFinal "TaleMachineModel" "TaleMachineModel" "bytes" "[I" : Cond) ∈ AW := List.mem_of_getElem? (i := 140) rfl
theorem k_141 : (.lays "TaleMachineModel" "TaleMachineModel" "size" "I" : Cond) ∈ AW := List.mem_of_getElem? (i := 141) rfl
theorem k_142 : (.laysFinal "TaleMachineModel" "TaleMachineModel" "w" "[I" : Cond) ∈ AW := List.mem_of_getElem? (i := 142) rfl
theorem k_143 : (.lays "TaleMachineModel" "TaleMachineModel" "fixed" "I" : Cond) ∈ AW := List.mem_of_getElem? (i := 143) rfl
theorem k_144 : (.lays "TaleMachineModel" "TaleMachineModel" "points" "I" : Cond) ∈ AW := List.mem_of_getElem? (i := 144) rfl
theorem k_145 : (.laysFinal "TaleMachineModel" "TaleMachineModel" "saved" "[Z" : Cond) ∈ AW := List.mem_of_getElem? (i := 145) rfl
theorem k_146 : (.lays "TaleMachineModel" "TaleMachineModel" "length" "I" : Cond) ∈ AW := List.mem_of_getElem? (i := 146) rfl
theorem k_147 : (.laysFinal "TaleMachineModel" "TaleMachineModel" "line" "[I" : Cond) ∈ AW := List.mem_of_getElem? (i := 147) rfl
theorem k_148 : (.laysFinal "TaleMachineModel" "TaleMachineModel" "met" "[Z" : Cond) ∈ AW := List.mem_of_getElem? (i := 148) rfl
theorem k_149 : (.laysFinal "TaleMachineModel" "TaleMachineModel" "waiting" "[I" : Cond) ∈ AW := List.mem_of_getElem? (i := 149) rfl
theorem k_150 : (.laysFinal "TaleMachineModel" "TaleMachineModel" "nextParent" "[I" : Cond) ∈ AW := List.mem_of_getElem? (i := 150) rfl
theorem k_151 : (.lays "TaleMachineModel" "TaleMachineModel" "height" "I" : Cond) ∈ AW := List.mem_of_getElem? (i := 151) rfl
theorem k_152 : (.laysFinal "TaleMachineModel" "TaleMachineModel" "kind" "[I" : Cond) ∈ AW := List.mem_of_getElem? (i := 152) rfl
theorem k_153 : (.laysFinal "TaleMachineModel" "TaleMachineModel" "number" "[I" : Cond) ∈ AW := List.mem_of_getElem? (i := 153) rfl
theorem k_154 : (.lays "TaleMachineModel" "TaleMachineModel" "depth" "I" : Cond) ∈ AW := List.mem_of_getElem? (i := 154) rfl
theorem k_155 : (.laysFinal "TaleMachineModel" "TaleMachineModel" "begin" "[I" : Cond) ∈ AW := List.mem_of_getElem? (i := 155) rfl
theorem k_156 : (.laysFinal "TaleMachineModel" "TaleMachineModel" "table" "[I" : Cond) ∈ AW := List.mem_of_getElem? (i := 156) rfl
theorem k_157 : (.laysFinal "TaleMachineModel" "TaleMachineModel" "handlers" "[I" : Cond) ∈ AW := List.mem_of_getElem? (i := 157) rfl
theorem k_158 : (.laysFinal "TaleMachineModel" "TaleMachineModel" "base" "[I" : Cond) ∈ AW := List.mem_of_getElem? (i := 158) rfl
theorem k_159 : (.laysFinal "TaleMachineModel" "TaleMachineModel" "locals" "[I" : Cond) ∈ AW := List.mem_of_getElem? (i := 159) rfl
theorem k_160 : (.laysFinal "TaleMachineModel" "TaleMachineModel" "self" "[I" : Cond) ∈ AW := List.mem_of_getElem? (i := 160) rfl
theorem k_161 : (.laysFinal "TaleMachineModel" "TaleMachineModel" "found" "[I" : Cond) ∈ AW := List.mem_of_getElem? (i := 161) rfl
theorem k_162 : (.laysFinal "TaleMachineModel" "TaleMachineModel" "place" "[I" : Cond) ∈ AW := List.mem_of_getElem? (i := 162) rfl
theorem k_163 : (.laysFinal "TaleMachineModel" "TaleMachineModel" "next" "[I" : Cond) ∈ AW := List.mem_of_getElem? (i := 163) rfl
theorem k_164 : (.lays "TaleMachineModel" "TaleMachineModel" "said" "I" : Cond) ∈ AW := List.mem_of_getElem? (i := 164) rfl
theorem k_165 : (.laysFinal "TaleMachineModel" "TaleMachineModel" "saidKind" "[I" : Cond) ∈ AW := List.mem_of_getElem? (i := 165) rfl
theorem k_166 : (.laysFinal "TaleMachineModel" "TaleMachineModel" "saidNumber" "[I" : Cond) ∈ AW := List.mem_of_getElem? (i := 166) rfl
theorem k_167 : (.lays "TaleMachineModel" "TaleMachineModel" "resultKind" "I" : Cond) ∈ AW := List.mem_of_getElem? (i := 167) rfl
theorem k_168 : (.lays "TaleMachineModel" "TaleMachineModel" "resultNumber" "I" : Cond) ∈ AW := List.mem_of_getElem? (i := 168) rfl
theorem k_169 : (.lays "TaleMachineModel" "TaleMachineModel" "ended" "I" : Cond) ∈ AW := List.mem_of_getElem? (i := 169) rfl
theorem AW_all : AW.all goodWord = true := by decide +kernel
theorem in_Frame : ∀ w ∈ u_ws "TaleMachine$Frame" F_Frame 8, w ∈ AW := by
  show ∀ w ∈ ([.lays "TaleMachine$Frame" "TaleMachine$Frame" "method" "I", .lays "TaleMachine$Frame" "TaleMachine$Frame" "beginning" "I", .lays "TaleMachine$Frame" "TaleMachine$Frame" "self" "I", .lays "TaleMachine$Frame" "TaleMachine$Frame" "found" "I", .lays "TaleMachine$Frame" "TaleMachine$Frame" "place" "I", .lays "TaleMachine$Frame" "TaleMachine$Frame" "behind" "I", .lays "TaleMachine$Frame" "TaleMachine$Frame" "base" "I", .lays "TaleMachine$Frame" "TaleMachine$Frame" "floor" "I"] : List Cond), w ∈ AW
  exact List.forall_mem_cons.mpr ⟨k_97, List.forall_mem_cons.mpr ⟨k_98, List.forall_mem_cons.mpr ⟨k_99, List.forall_mem_cons.mpr ⟨k_100, List.forall_mem_cons.mpr ⟨k_101, List.forall_mem_cons.mpr ⟨k_102, List.forall_mem_cons.mpr ⟨k_103, List.forall_mem_cons.mpr ⟨k_104, fun _ h => absurd h List.not_mem_nil⟩⟩⟩⟩⟩⟩⟩⟩
theorem in_History : ∀ w ∈ u_ws "TaleMachine$History" F_History 4, w ∈ AW := by
  show ∀ w ∈ ([.laysFinal "TaleMachine$History" "TaleMachine$History" "pointed" "[LTaleMachine$State;", .laysFinal "TaleMachine$History" "TaleMachine$History" "saved" "[LTaleMachine$State;", .laysFinal "TaleMachine$History" "TaleMachine$History" "isSaved" "[Z", .lays "TaleMachine$History" "TaleMachine$History" "points" "I"] : List Cond), w ∈ AW
  exact List.forall_mem_cons.mpr ⟨k_105, List.forall_mem_cons.mpr ⟨k_106, List.forall_mem_cons.mpr ⟨k_107, List.forall_mem_cons.mpr ⟨k_108, fun _ h => absurd h List.not_mem_nil⟩⟩⟩⟩
theorem in_Script : ∀ w ∈ u_ws "TaleMachine$Script" F_Script 2, w ∈ AW := by
  show ∀ w ∈ ([.laysFinal "TaleMachine$Script" "TaleMachine$Script" "bytes" "[I", .lays "TaleMachine$Script" "TaleMachine$Script" "length" "I"] : List Cond), w ∈ AW
  exact List.forall_mem_cons.mpr ⟨k_109, List.forall_mem_cons.mpr ⟨k_110, fun _ h => absurd h List.not_mem_nil⟩⟩
theorem in_State : ∀ w ∈ u_ws "TaleMachine$State" F_State 3, w ∈ AW := by
  show ∀ w ∈ ([.laysFinal "TaleMachine$State" "TaleMachine$State" "kinds" "[I", .laysFinal "TaleMachine$State" "TaleMachine$State" "ints" "[I", .laysFinal "TaleMachine$State" "TaleMachine$State" "parents" "[I"] : List Cond), w ∈ AW
  exact List.forall_mem_cons.mpr ⟨k_111, List.forall_mem_cons.mpr ⟨k_112, List.forall_mem_cons.mpr ⟨k_113, fun _ h => absurd h List.not_mem_nil⟩⟩⟩
theorem in_Teller : ∀ w ∈ u_ws "TaleMachine$Teller" F_Teller 9, w ∈ AW := by
  show ∀ w ∈ ([.laysFinal "TaleMachine$Teller" "TaleMachine$Teller" "script" "LTaleMachine$Script;", .laysFinal "TaleMachine$Teller" "TaleMachine$Teller" "world" "LTaleMachine$World;", .laysFinal "TaleMachine$Teller" "TaleMachine$Teller" "history" "LTaleMachine$History;", .laysFinal "TaleMachine$Teller" "TaleMachine$Teller" "frames" "[LTaleMachine$Frame;", .laysFinal "TaleMachine$Teller" "TaleMachine$Teller" "values" "LTaleMachine$Values;", .laysFinal "TaleMachine$Teller" "TaleMachine$Teller" "sayings" "LTaleMachine$Values;", .laysFinal "TaleMachine$Teller" "TaleMachine$Teller" "result" "LTaleMachine$Values;", .lays "TaleMachine$Teller" "TaleMachine$Teller" "depth" "I", .lays "TaleMachine$Teller" "TaleMachine$Teller" "outcome" "I"] : List Cond), w ∈ AW
  exact List.forall_mem_cons.mpr ⟨k_114, List.forall_mem_cons.mpr ⟨k_115, List.forall_mem_cons.mpr ⟨k_116, List.forall_mem_cons.mpr ⟨k_117, List.forall_mem_cons.mpr ⟨k_118, List.forall_mem_cons.mpr ⟨k_119, List.forall_mem_cons.mpr ⟨k_120, List.forall_mem_cons.mpr ⟨k_121, List.forall_mem_cons.mpr ⟨k_122, fun _ h => absurd h List.not_mem_nil⟩⟩⟩⟩⟩⟩⟩⟩⟩
theorem in_Values : ∀ w ∈ u_ws "TaleMachine$Values" F_Values 3, w ∈ AW := by
  show ∀ w ∈ ([.laysFinal "TaleMachine$Values" "TaleMachine$Values" "kinds" "[I", .laysFinal "TaleMachine$Values" "TaleMachine$Values" "ints" "[I", .lays "TaleMachine$Values" "TaleMachine$Values" "count" "I"] : List Cond), w ∈ AW
  exact List.forall_mem_cons.mpr ⟨k_123, List.forall_mem_cons.mpr ⟨k_124, List.forall_mem_cons.mpr ⟨k_125, fun _ h => absurd h List.not_mem_nil⟩⟩⟩
theorem in_World : ∀ w ∈ u_ws "TaleMachine$World" F_World 9, w ∈ AW := by
  show ∀ w ∈ ([.laysFinal "TaleMachine$World" "TaleMachine$World" "now" "LTaleMachine$State;", .lays "TaleMachine$World" "TaleMachine$World" "fixed" "I", .laysFinal "TaleMachine$World" "TaleMachine$World" "fixedLines" "[I", .laysFinal "TaleMachine$World" "TaleMachine$World" "fixedLengths" "[I", .laysFinal "TaleMachine$World" "TaleMachine$World" "line" "[I", .lays "TaleMachine$World" "TaleMachine$World" "length" "I", .laysFinal "TaleMachine$World" "TaleMachine$World" "reached" "[I", .lays "TaleMachine$World" "TaleMachine$World" "reachedCount" "I", .lays "TaleMachine$World" "TaleMachine$World" "reachedBits" "I"] : List Cond), w ∈ AW
  exact List.forall_mem_cons.mpr ⟨k_126, List.forall_mem_cons.mpr ⟨k_127, List.forall_mem_cons.mpr ⟨k_128, List.forall_mem_cons.mpr ⟨k_129, List.forall_mem_cons.mpr ⟨k_130, List.forall_mem_cons.mpr ⟨k_131, List.forall_mem_cons.mpr ⟨k_132, List.forall_mem_cons.mpr ⟨k_133, List.forall_mem_cons.mpr ⟨k_134, fun _ h => absurd h List.not_mem_nil⟩⟩⟩⟩⟩⟩⟩⟩⟩
theorem in_TM : ∀ w ∈ u_ws "TaleMachine" F_TM 4, w ∈ AW := by
  show ∀ w ∈ ([.laysFinal "TaleMachine" "TaleMachine" "script" "LTaleMachine$Script;", .laysFinal "TaleMachine" "TaleMachine" "world" "LTaleMachine$World;", .laysFinal "TaleMachine" "TaleMachine" "history" "LTaleMachine$History;", .laysFinal "TaleMachine" "TaleMachine" "teller" "LTaleMachine$Teller;"] : List Cond), w ∈ AW
  exact List.forall_mem_cons.mpr ⟨k_135, List.forall_mem_cons.mpr ⟨k_136, List.forall_mem_cons.mpr ⟨k_137, List.forall_mem_cons.mpr ⟨k_138, fun _ h => absurd h List.not_mem_nil⟩⟩⟩⟩
theorem in_Model : ∀ w ∈ u_ws "TaleMachineModel" F_Model 31, w ∈ AW := by
  show ∀ w ∈ ([.lays "TaleMachineModel" "TaleMachineModel" "code" "I", .laysFinal "TaleMachineModel" "TaleMachineModel" "bytes" "[I", .lays "TaleMachineModel" "TaleMachineModel" "size" "I", .laysFinal "TaleMachineModel" "TaleMachineModel" "w" "[I", .lays "TaleMachineModel" "TaleMachineModel" "fixed" "I", .lays "TaleMachineModel" "TaleMachineModel" "points" "I", .laysFinal "TaleMachineModel" "TaleMachineModel" "saved" "[Z", .lays "TaleMachineModel" "TaleMachineModel" "length" "I", .laysFinal "TaleMachineModel" "TaleMachineModel" "line" "[I", .laysFinal "TaleMachineModel" "TaleMachineModel" "met" "[Z", .laysFinal "TaleMachineModel" "TaleMachineModel" "waiting" "[I", .laysFinal "TaleMachineModel" "TaleMachineModel" "nextParent" "[I", .lays "TaleMachineModel" "TaleMachineModel" "height" "I", .laysFinal "TaleMachineModel" "TaleMachineModel" "kind" "[I", .laysFinal "TaleMachineModel" "TaleMachineModel" "number" "[I", .lays "TaleMachineModel" "TaleMachineModel" "depth" "I", .laysFinal "TaleMachineModel" "TaleMachineModel" "begin" "[I", .laysFinal "TaleMachineModel" "TaleMachineModel" "table" "[I", .laysFinal "TaleMachineModel" "TaleMachineModel" "handlers" "[I", .laysFinal "TaleMachineModel" "TaleMachineModel" "base" "[I", .laysFinal "TaleMachineModel" "TaleMachineModel" "locals" "[I", .laysFinal "TaleMachineModel" "TaleMachineModel" "self" "[I", .laysFinal "TaleMachineModel" "TaleMachineModel" "found" "[I", .laysFinal "TaleMachineModel" "TaleMachineModel" "place" "[I", .laysFinal "TaleMachineModel" "TaleMachineModel" "next" "[I", .lays "TaleMachineModel" "TaleMachineModel" "said" "I", .laysFinal "TaleMachineModel" "TaleMachineModel" "saidKind" "[I", .laysFinal "TaleMachineModel" "TaleMachineModel" "saidNumber" "[I", .lays "TaleMachineModel" "TaleMachineModel" "resultKind" "I", .lays "TaleMachineModel" "TaleMachineModel" "resultNumber" "I", .lays "TaleMachineModel" "TaleMachineModel" "ended" "I"] : List Cond), w ∈ AW
  exact List.forall_mem_cons.mpr ⟨k_139, List.forall_mem_cons.mpr ⟨k_140, List.forall_mem_cons.mpr ⟨k_141, List.forall_mem_cons.mpr ⟨k_142, List.forall_mem_cons.mpr ⟨k_143, List.forall_mem_cons.mpr ⟨k_144, List.forall_mem_cons.mpr ⟨k_145, List.forall_mem_cons.mpr ⟨k_146, List.forall_mem_cons.mpr ⟨k_147, List.forall_mem_cons.mpr ⟨k_148, List.forall_mem_cons.mpr ⟨k_149, List.forall_mem_cons.mpr ⟨k_150, List.forall_mem_cons.mpr ⟨k_151, List.forall_mem_cons.mpr ⟨k_152, List.forall_mem_cons.mpr ⟨k_153, List.forall_mem_cons.mpr ⟨k_154, List.forall_mem_cons.mpr ⟨k_155, List.forall_mem_cons.mpr ⟨k_156, List.forall_mem_cons.mpr ⟨k_157, List.forall_mem_cons.mpr ⟨k_158, List.forall_mem_cons.mpr ⟨k_159, List.forall_mem_cons.mpr ⟨k_160, List.forall_mem_cons.mpr ⟨k_161, List.forall_mem_cons.mpr ⟨k_162, List.forall_mem_cons.mpr ⟨k_163, List.forall_mem_cons.mpr ⟨k_164, List.forall_mem_cons.mpr ⟨k_165, List.forall_mem_cons.mpr ⟨k_166, List.forall_mem_cons.mpr ⟨k_167, List.forall_mem_cons.mpr ⟨k_168, List.forall_mem_cons.mpr ⟨k_169, fun _ h => absurd h List.not_mem_nil⟩⟩⟩⟩⟩⟩⟩⟩⟩⟩⟩⟩⟩⟩⟩⟩⟩⟩⟩⟩⟩⟩⟩⟩⟩⟩⟩⟩⟩⟩⟩
set_option maxRecDepth 100000 in
set_option maxHeartbeats 4000000 in
theorem AW_tbl {args : Array Value} {s : State} (hts : ∀ w ∈ lw_tbl, w.before args s = true) : ∀ w ∈ AW, w.before args s = true := by
  have h0 : ∀ w ∈ AW_0, w.before args s = true := by
    refine List.forall_mem_cons.mpr ⟨hts _ (List.mem_append_right _ (List.mem_of_getElem? (i := 755) rfl)), List.forall_mem_cons.mpr ⟨hts _ (List.mem_append_right _ (List.mem_of_getElem? (i := 859) rfl)), List.forall_mem_cons.mpr ⟨hts _ (List.mem_append_right _ (List.mem_of_getElem? (i := 857) rfl)), List.forall_mem_cons.mpr ⟨hts _ (List.mem_append_right _ (List.mem_of_getElem? (i := 858) rfl)), List.forall_mem_cons.mpr ⟨hts _ (List.mem_append_right _ (List.mem_of_getElem? (i := 10) rfl)), List.forall_mem_cons.mpr ⟨hts _ (List.mem_append_right _ (List.mem_of_getElem? (i := 758) rfl)), List.forall_mem_cons.mpr ⟨hts _ (List.mem_append_right _ (List.mem_of_getElem? (i := 871) rfl)), List.forall_mem_cons.mpr ⟨hts _ (List.mem_append_right _ (List.mem_of_getElem? (i := 868) rfl)), List.forall_mem_cons.mpr ⟨hts _ (List.mem_append_right _ (List.mem_of_getElem? (i := 870) rfl)), List.forall_mem_cons.mpr ⟨hts _ (List.mem_append_left _ (List.mem_of_getElem? (i := 37) rfl)), List.forall_mem_cons.mpr ⟨hts _ (List.mem_append_right _ (List.mem_of_getElem? (i := 879) rfl)), List.forall_mem_cons.mpr ⟨hts _ (List.mem_append_right _ (List.mem_of_getElem? (i := 876) rfl)), List.forall_mem_cons.mpr ⟨hts _ (List.mem_append_right _ (List.mem_of_getElem? (i := 878) rfl)), List.forall_mem_cons.mpr ⟨hts _ (List.mem_append_left _ (List.mem_of_getElem? (i := 39) rfl)), List.forall_mem_cons.mpr ⟨hts _ (List.mem_append_right _ (List.mem_of_getElem? (i := 757) rfl)), List.forall_mem_cons.mpr ⟨hts _ (List.mem_append_right _ (List.mem_of_getElem? (i := 756) rfl)), List.forall_mem_cons.mpr ⟨hts _ (List.mem_append_right _ (List.mem_of_getElem? (i := 867) rfl)), List.forall_mem_cons.mpr ⟨hts _ (List.mem_append_right _ (List.mem_of_getElem? (i := 864) rfl)), List.forall_mem_cons.mpr ⟨hts _ (List.mem_append_right _ (List.mem_of_getElem? (i := 866) rfl)), List.forall_mem_cons.mpr ⟨hts _ (List.mem_append_left _ (List.mem_of_getElem? (i := 36) rfl)), List.forall_mem_cons.mpr ⟨hts _ (List.mem_append_right _ (List.mem_of_getElem? (i := 785) rfl)), List.forall_mem_cons.mpr ⟨hts _ (List.mem_append_right _ (List.mem_of_getElem? (i := 759) rfl)), List.forall_mem_cons.mpr ⟨hts _ (List.mem_append_right _ (List.mem_of_getElem? (i := 875) rfl)), List.forall_mem_cons.mpr ⟨hts _ (List.mem_append_right _ (List.mem_of_getElem? (i := 872) rfl)), List.forall_mem_cons.mpr ⟨hts _ (List.mem_append_right _ (List.mem_of_getElem? (i := 874) rfl)), List.forall_mem_cons.mpr ⟨hts _ (List.mem_append_left _ (List.mem_of_getElem? (i := 38) rfl)), List.forall_mem_cons.mpr ⟨hts _ (List.mem_append_right _ (List.mem_of_getElem? (i := 761) rfl)), List.forall_mem_cons.mpr ⟨hts _ (List.mem_append_right _ (List.mem_of_getElem? (i := 783) rfl)), List.forall_mem_cons.mpr ⟨hts _ (List.mem_append_right _ (List.mem_of_getElem? (i := 784) rfl)), List.forall_mem_cons.mpr ⟨hts _ (List.mem_append_right _ (List.mem_of_getElem? (i := 1034) rfl)), List.forall_mem_cons.mpr ⟨hts _ (List.mem_append_right _ (List.mem_of_getElem? (i := 1031) rfl)), List.forall_mem_cons.mpr ⟨hts _ (List.mem_append_right _ (List.mem_of_getElem? (i := 1033) rfl)), List.forall_mem_cons.mpr ⟨hts _ (List.mem_append_left _ (List.mem_of_getElem? (i := 72) rfl)), List.forall_mem_cons.mpr ⟨hts _ (List.mem_append_right _ (List.mem_of_getElem? (i := 767) rfl)), List.forall_mem_cons.mpr ⟨hts _ (List.mem_append_right _ (List.mem_of_getElem? (i := 770) rfl)), List.forall_mem_cons.mpr ⟨hts _ (List.mem_append_right _ (List.mem_of_getElem? (i := 1046) rfl)), List.forall_mem_cons.mpr ⟨hts _ (List.mem_append_right _ (List.mem_of_getElem? (i := 1043) rfl)), List.forall_mem_cons.mpr ⟨hts _ (List.mem_append_right _ (List.mem_of_getElem? (i := 1045) rfl)), List.forall_mem_cons.mpr ⟨hts _ (List.mem_append_left _ (List.mem_of_getElem? (i := 74) rfl)), List.forall_mem_cons.mpr ⟨hts _ (List.mem_append_right _ (List.mem_of_getElem? (i := 780) rfl)), List.forall_mem_cons.mpr ⟨hts _ (List.mem_append_right _ (List.mem_of_getElem? (i := 760) rfl)), List.forall_mem_cons.mpr ⟨hts _ (List.mem_append_right _ (List.mem_of_getElem? (i := 32) rfl)), List.forall_mem_cons.mpr ⟨hts _ (List.mem_append_right _ (List.mem_of_getElem? (i := 25) rfl)), List.forall_mem_cons.mpr ⟨hts _ (List.mem_append_right _ (List.mem_of_getElem? (i := 26) rfl)), List.forall_mem_cons.mpr ⟨hts _ (List.mem_append_right _ (List.mem_of_getElem? (i := 40) rfl)), List.forall_mem_cons.mpr ⟨hts _ (List.mem_append_right _ (List.mem_of_getElem? (i := 33) rfl)), List.forall_mem_cons.mpr ⟨hts _ (List.mem_append_right _ (List.mem_of_getElem? (i := 157) rfl)), List.forall_mem_cons.mpr ⟨hts _ (List.mem_append_right _ (List.mem_of_getElem? (i := 136) rfl)), List.forall_mem_cons.mpr ⟨hts _ (List.mem_append_right _ (List.mem_of_getElem? (i := 137) rfl)), List.forall_mem_cons.mpr ⟨hts _ (List.mem_append_right _ (List.mem_of_getElem? (i := 140) rfl)), List.forall_mem_cons.mpr ⟨hts _ (List.mem_append_right _ (List.mem_of_getElem? (i := 52) rfl)), List.forall_mem_cons.mpr ⟨hts _ (List.mem_append_right _ (List.mem_of_getElem? (i := 56) rfl)), List.forall_mem_cons.mpr ⟨hts _ (List.mem_append_right _ (List.mem_of_getElem? (i := 58) rfl)), List.forall_mem_cons.mpr ⟨hts _ (List.mem_append_right _ (List.mem_of_getElem? (i := 60) rfl)), List.forall_mem_cons.mpr ⟨hts _ (List.mem_append_right _ (List.mem_of_getElem? (i := 55) rfl)), List.forall_mem_cons.mpr ⟨hts _ (List.mem_append_right _ (List.mem_of_getElem? (i := 53) rfl)), List.forall_mem_cons.mpr ⟨hts _ (List.mem_append_right _ (List.mem_of_getElem? (i := 54) rfl)), List.forall_mem_cons.mpr ⟨hts _ (List.mem_append_right _ (List.mem_of_getElem? (i := 5) rfl)), List.forall_mem_cons.mpr ⟨hts _ (List.mem_append_right _ (List.mem_of_getElem? (i := 46) rfl)), List.forall_mem_cons.mpr ⟨hts _ (List.mem_append_right _ (List.mem_of_getElem? (i := 47) rfl)), fun _ h => absurd h List.not_mem_nil⟩⟩⟩⟩⟩⟩⟩⟩⟩⟩⟩⟩⟩⟩⟩⟩⟩⟩⟩⟩⟩⟩⟩⟩⟩⟩⟩⟩⟩⟩⟩⟩⟩⟩⟩⟩⟩⟩⟩⟩⟩⟩⟩⟩⟩⟩⟩⟩⟩⟩⟩⟩⟩⟩⟩⟩⟩⟩⟩⟩
  have h1 : ∀ w ∈ AW_1, w.before args s = true := by
    refine List.forall_mem_cons.mpr ⟨hts _ (List.mem_append_right _ (List.mem_of_getElem? (i := 48) rfl)), List.forall_mem_cons.mpr ⟨hts _ (List.mem_append_right _ (List.mem_of_getElem? (i := 4) rfl)), List.forall_mem_cons.mpr ⟨hts _ (List.mem_append_right _ (List.mem_of_getElem? (i := 51) rfl)), List.forall_mem_cons.mpr ⟨hts _ (List.mem_append_right _ (List.mem_of_getElem? (i := 49) rfl)), List.forall_mem_cons.mpr ⟨hts _ (List.mem_append_right _ (List.mem_of_getElem? (i := 50) rfl)), List.forall_mem_cons.mpr ⟨hts _ (List.mem_append_right _ (List.mem_of_getElem? (i := 69) rfl)), List.forall_mem_cons.mpr ⟨hts _ (List.mem_append_right _ (List.mem_of_getElem? (i := 73) rfl)), List.forall_mem_cons.mpr ⟨hts _ (List.mem_append_right _ (List.mem_of_getElem? (i := 74) rfl)), List.forall_mem_cons.mpr ⟨hts _ (List.mem_append_right _ (List.mem_of_getElem? (i := 75) rfl)), List.forall_mem_cons.mpr ⟨hts _ (List.mem_append_right _ (List.mem_of_getElem? (i := 77) rfl)), List.forall_mem_cons.mpr ⟨hts _ (List.mem_append_right _ (List.mem_of_getElem? (i := 104) rfl)), List.forall_mem_cons.mpr ⟨hts _ (List.mem_append_right _ (List.mem_of_getElem? (i := 105) rfl)), List.forall_mem_cons.mpr ⟨hts _ (List.mem_append_right _ (List.mem_of_getElem? (i := 108) rfl)), List.forall_mem_cons.mpr ⟨hts _ (List.mem_append_right _ (List.mem_of_getElem? (i := 109) rfl)), List.forall_mem_cons.mpr ⟨hts _ (List.mem_append_right _ (List.mem_of_getElem? (i := 122) rfl)), List.forall_mem_cons.mpr ⟨hts _ (List.mem_append_right _ (List.mem_of_getElem? (i := 110) rfl)), List.forall_mem_cons.mpr ⟨hts _ (List.mem_append_right _ (List.mem_of_getElem? (i := 107) rfl)), List.forall_mem_cons.mpr ⟨hts _ (List.mem_append_right _ (List.mem_of_getElem? (i := 128) rfl)), List.forall_mem_cons.mpr ⟨hts _ (List.mem_append_right _ (List.mem_of_getElem? (i := 129) rfl)), List.forall_mem_cons.mpr ⟨hts _ (List.mem_append_right _ (List.mem_of_getElem? (i := 188) rfl)), List.forall_mem_cons.mpr ⟨hts _ (List.mem_append_right _ (List.mem_of_getElem? (i := 131) rfl)), List.forall_mem_cons.mpr ⟨hts _ (List.mem_append_right _ (List.mem_of_getElem? (i := 132) rfl)), List.forall_mem_cons.mpr ⟨hts _ (List.mem_append_right _ (List.mem_of_getElem? (i := 8) rfl)), List.forall_mem_cons.mpr ⟨hts _ (List.mem_append_right _ (List.mem_of_getElem? (i := 135) rfl)), List.forall_mem_cons.mpr ⟨hts _ (List.mem_append_right _ (List.mem_of_getElem? (i := 133) rfl)), List.forall_mem_cons.mpr ⟨hts _ (List.mem_append_right _ (List.mem_of_getElem? (i := 134) rfl)), List.forall_mem_cons.mpr ⟨hts _ (List.mem_append_right _ (List.mem_of_getElem? (i := 189) rfl)), List.forall_mem_cons.mpr ⟨hts _ (List.mem_append_right _ (List.mem_of_getElem? (i := 191) rfl)), List.forall_mem_cons.mpr ⟨hts _ (List.mem_append_right _ (List.mem_of_getElem? (i := 193) rfl)), List.forall_mem_cons.mpr ⟨hts _ (List.mem_append_right _ (List.mem_of_getElem? (i := 197) rfl)), List.forall_mem_cons.mpr ⟨hts _ (List.mem_append_right _ (List.mem_of_getElem? (i := 185) rfl)), List.forall_mem_cons.mpr ⟨hts _ (List.mem_append_right _ (List.mem_of_getElem? (i := 186) rfl)), List.forall_mem_cons.mpr ⟨hts _ (List.mem_append_right _ (List.mem_of_getElem? (i := 187) rfl)), List.forall_mem_cons.mpr ⟨hts _ (List.mem_append_right _ (List.mem_of_getElem? (i := 153) rfl)), List.forall_mem_cons.mpr ⟨hts _ (List.mem_append_right _ (List.mem_of_getElem? (i := 9) rfl)), List.forall_mem_cons.mpr ⟨hts _ (List.mem_append_right _ (List.mem_of_getElem? (i := 156) rfl)), List.forall_mem_cons.mpr ⟨hts _ (List.mem_append_right _ (List.mem_of_getElem? (i := 155) rfl)), List.forall_mem_cons.mpr ⟨hts _ (List.mem_append_right _ (List.mem_of_getElem? (i := 168) rfl)), List.forall_mem_cons.mpr ⟨hts _ (List.mem_append_right _ (List.mem_of_getElem? (i := 170) rfl)), List.forall_mem_cons.mpr ⟨hts _ (List.mem_append_right _ (List.mem_of_getElem? (i := 172) rfl)), List.forall_mem_cons.mpr ⟨hts _ (List.mem_append_right _ (List.mem_of_getElem? (i := 174) rfl)), List.forall_mem_cons.mpr ⟨hts _ (List.mem_append_right _ (List.mem_of_getElem? (i := 176) rfl)), List.forall_mem_cons.mpr ⟨hts _ (List.mem_append_right _ (List.mem_of_getElem? (i := 178) rfl)), List.forall_mem_cons.mpr ⟨hts _ (List.mem_append_right _ (List.mem_of_getElem? (i := 180) rfl)), List.forall_mem_cons.mpr ⟨hts _ (List.mem_append_right _ (List.mem_of_getElem? (i := 182) rfl)), List.forall_mem_cons.mpr ⟨hts _ (List.mem_append_right _ (List.mem_of_getElem? (i := 113) rfl)), List.forall_mem_cons.mpr ⟨hts _ (List.mem_append_right _ (List.mem_of_getElem? (i := 115) rfl)), List.forall_mem_cons.mpr ⟨hts _ (List.mem_append_right _ (List.mem_of_getElem? (i := 117) rfl)), List.forall_mem_cons.mpr ⟨hts _ (List.mem_append_right _ (List.mem_of_getElem? (i := 119) rfl)), List.forall_mem_cons.mpr ⟨hts _ (List.mem_append_right _ (List.mem_of_getElem? (i := 35) rfl)), List.forall_mem_cons.mpr ⟨hts _ (List.mem_append_right _ (List.mem_of_getElem? (i := 37) rfl)), List.forall_mem_cons.mpr ⟨hts _ (List.mem_append_right _ (List.mem_of_getElem? (i := 62) rfl)), List.forall_mem_cons.mpr ⟨hts _ (List.mem_append_right _ (List.mem_of_getElem? (i := 64) rfl)), List.forall_mem_cons.mpr ⟨hts _ (List.mem_append_right _ (List.mem_of_getElem? (i := 66) rfl)), List.forall_mem_cons.mpr ⟨hts _ (List.mem_append_right _ (List.mem_of_getElem? (i := 199) rfl)), List.forall_mem_cons.mpr ⟨hts _ (List.mem_append_right _ (List.mem_of_getElem? (i := 201) rfl)), List.forall_mem_cons.mpr ⟨hts _ (List.mem_append_right _ (List.mem_of_getElem? (i := 203) rfl)), List.forall_mem_cons.mpr ⟨hts _ (List.mem_append_right _ (List.mem_of_getElem? (i := 205) rfl)), List.forall_mem_cons.mpr ⟨hts _ (List.mem_append_right _ (List.mem_of_getElem? (i := 207) rfl)), List.forall_mem_cons.mpr ⟨hts _ (List.mem_append_right _ (List.mem_of_getElem? (i := 209) rfl)), fun _ h => absurd h List.not_mem_nil⟩⟩⟩⟩⟩⟩⟩⟩⟩⟩⟩⟩⟩⟩⟩⟩⟩⟩⟩⟩⟩⟩⟩⟩⟩⟩⟩⟩⟩⟩⟩⟩⟩⟩⟩⟩⟩⟩⟩⟩⟩⟩⟩⟩⟩⟩⟩⟩⟩⟩⟩⟩⟩⟩⟩⟩⟩⟩⟩⟩
  have h2 : ∀ w ∈ AW_2, w.before args s = true := by
    refine List.forall_mem_cons.mpr ⟨hts _ (List.mem_append_right _ (List.mem_of_getElem? (i := 211) rfl)), List.forall_mem_cons.mpr ⟨hts _ (List.mem_append_right _ (List.mem_of_getElem? (i := 213) rfl)), List.forall_mem_cons.mpr ⟨hts _ (List.mem_append_right _ (List.mem_of_getElem? (i := 215) rfl)), List.forall_mem_cons.mpr ⟨hts _ (List.mem_append_right _ (List.mem_of_getElem? (i := 146) rfl)), List.forall_mem_cons.mpr ⟨hts _ (List.mem_append_right _ (List.mem_of_getElem? (i := 148) rfl)), List.forall_mem_cons.mpr ⟨hts _ (List.mem_append_right _ (List.mem_of_getElem? (i := 150) rfl)), List.forall_mem_cons.mpr ⟨hts _ (List.mem_append_right _ (List.mem_of_getElem? (i := 80) rfl)), List.forall_mem_cons.mpr ⟨hts _ (List.mem_append_right _ (List.mem_of_getElem? (i := 82) rfl)), List.forall_mem_cons.mpr ⟨hts _ (List.mem_append_right _ (List.mem_of_getElem? (i := 84) rfl)), List.forall_mem_cons.mpr ⟨hts _ (List.mem_append_right _ (List.mem_of_getElem? (i := 86) rfl)), List.forall_mem_cons.mpr ⟨hts _ (List.mem_append_right _ (List.mem_of_getElem? (i := 88) rfl)), List.forall_mem_cons.mpr ⟨hts _ (List.mem_append_right _ (List.mem_of_getElem? (i := 90) rfl)), List.forall_mem_cons.mpr ⟨hts _ (List.mem_append_right _ (List.mem_of_getElem? (i := 92) rfl)), List.forall_mem_cons.mpr ⟨hts _ (List.mem_append_right _ (List.mem_of_getElem? (i := 94) rfl)), List.forall_mem_cons.mpr ⟨hts _ (List.mem_append_right _ (List.mem_of_getElem? (i := 96) rfl)), List.forall_mem_cons.mpr ⟨hts _ (List.mem_append_right _ (List.mem_of_getElem? (i := 222) rfl)), List.forall_mem_cons.mpr ⟨hts _ (List.mem_append_right _ (List.mem_of_getElem? (i := 224) rfl)), List.forall_mem_cons.mpr ⟨hts _ (List.mem_append_right _ (List.mem_of_getElem? (i := 226) rfl)), List.forall_mem_cons.mpr ⟨hts _ (List.mem_append_right _ (List.mem_of_getElem? (i := 228) rfl)), List.forall_mem_cons.mpr ⟨hts _ (List.mem_append_right _ (List.mem_of_getElem? (i := 786) rfl)), List.forall_mem_cons.mpr ⟨hts _ (List.mem_append_right _ (List.mem_of_getElem? (i := 788) rfl)), List.forall_mem_cons.mpr ⟨hts _ (List.mem_append_right _ (List.mem_of_getElem? (i := 790) rfl)), List.forall_mem_cons.mpr ⟨hts _ (List.mem_append_right _ (List.mem_of_getElem? (i := 792) rfl)), List.forall_mem_cons.mpr ⟨hts _ (List.mem_append_right _ (List.mem_of_getElem? (i := 794) rfl)), List.forall_mem_cons.mpr ⟨hts _ (List.mem_append_right _ (List.mem_of_getElem? (i := 796) rfl)), List.forall_mem_cons.mpr ⟨hts _ (List.mem_append_right _ (List.mem_of_getElem? (i := 798) rfl)), List.forall_mem_cons.mpr ⟨hts _ (List.mem_append_right _ (List.mem_of_getElem? (i := 800) rfl)), List.forall_mem_cons.mpr ⟨hts _ (List.mem_append_right _ (List.mem_of_getElem? (i := 802) rfl)), List.forall_mem_cons.mpr ⟨hts _ (List.mem_append_right _ (List.mem_of_getElem? (i := 804) rfl)), List.forall_mem_cons.mpr ⟨hts _ (List.mem_append_right _ (List.mem_of_getElem? (i := 806) rfl)), List.forall_mem_cons.mpr ⟨hts _ (List.mem_append_right _ (List.mem_of_getElem? (i := 808) rfl)), List.forall_mem_cons.mpr ⟨hts _ (List.mem_append_right _ (List.mem_of_getElem? (i := 810) rfl)), List.forall_mem_cons.mpr ⟨hts _ (List.mem_append_right _ (List.mem_of_getElem? (i := 812) rfl)), List.forall_mem_cons.mpr ⟨hts _ (List.mem_append_right _ (List.mem_of_getElem? (i := 814) rfl)), List.forall_mem_cons.mpr ⟨hts _ (List.mem_append_right _ (List.mem_of_getElem? (i := 816) rfl)), List.forall_mem_cons.mpr ⟨hts _ (List.mem_append_right _ (List.mem_of_getElem? (i := 818) rfl)), List.forall_mem_cons.mpr ⟨hts _ (List.mem_append_right _ (List.mem_of_getElem? (i := 820) rfl)), List.forall_mem_cons.mpr ⟨hts _ (List.mem_append_right _ (List.mem_of_getElem? (i := 822) rfl)), List.forall_mem_cons.mpr ⟨hts _ (List.mem_append_right _ (List.mem_of_getElem? (i := 824) rfl)), List.forall_mem_cons.mpr ⟨hts _ (List.mem_append_right _ (List.mem_of_getElem? (i := 826) rfl)), List.forall_mem_cons.mpr ⟨hts _ (List.mem_append_right _ (List.mem_of_getElem? (i := 828) rfl)), List.forall_mem_cons.mpr ⟨hts _ (List.mem_append_right _ (List.mem_of_getElem? (i := 830) rfl)), List.forall_mem_cons.mpr ⟨hts _ (List.mem_append_right _ (List.mem_of_getElem? (i := 832) rfl)), List.forall_mem_cons.mpr ⟨hts _ (List.mem_append_right _ (List.mem_of_getElem? (i := 834) rfl)), List.forall_mem_cons.mpr ⟨hts _ (List.mem_append_right _ (List.mem_of_getElem? (i := 836) rfl)), List.forall_mem_cons.mpr ⟨hts _ (List.mem_append_right _ (List.mem_of_getElem? (i := 838) rfl)), List.forall_mem_cons.mpr ⟨hts _ (List.mem_append_right _ (List.mem_of_getElem? (i := 840) rfl)), List.forall_mem_cons.mpr ⟨hts _ (List.mem_append_right _ (List.mem_of_getElem? (i := 842) rfl)), List.forall_mem_cons.mpr ⟨hts _ (List.mem_append_right _ (List.mem_of_getElem? (i := 844) rfl)), List.forall_mem_cons.mpr ⟨hts _ (List.mem_append_right _ (List.mem_of_getElem? (i := 846) rfl)), fun _ h => absurd h List.not_mem_nil⟩⟩⟩⟩⟩⟩⟩⟩⟩⟩⟩⟩⟩⟩⟩⟩⟩⟩⟩⟩⟩⟩⟩⟩⟩⟩⟩⟩⟩⟩⟩⟩⟩⟩⟩⟩⟩⟩⟩⟩⟩⟩⟩⟩⟩⟩⟩⟩⟩⟩
  exact List.forall_mem_append.mpr ⟨h0, List.forall_mem_append.mpr ⟨h1, h2⟩⟩
end
section
/-! What all contracts of this claim use: the words, a contract's start and end, a call as one row. -/
def NSE : String := "java/util/NoSuchElementException"
def vs_up : List String := ["java/lang/RuntimeException", "java/lang/Exception"]
/-- the words of the tables that an exception's making asks, at each of the places where one is thrown -/
def NJ : List Cond := vt_own "TaleMachine" 51 "java/lang/IllegalArgumentException" vs_up ++ vt_own "TaleMachine" 80 "java/util/NoSuchElementException" vs_up ++ [.castable "java/util/NoSuchElementException" "java/util/NoSuchElementException", .castable "java/lang/IllegalArgumentException" "java/lang/IllegalArgumentException"]
theorem NJ_ok : NJ.all (fun w => w.onTables && w.keepsFace) = true := by decide +kernel
theorem NJ_A : (Bundle.ownAtoms "TaleMachine" 51 "java/lang/IllegalArgumentException" vs_up).all (fun w => w.onTables || decide (w ∈ vt_four)) = true := by decide +kernel
theorem NJ_N : (Bundle.ownAtoms "TaleMachine" 80 "java/util/NoSuchElementException" vs_up).all (fun w => w.onTables || decide (w ∈ vt_four)) = true := by decide +kernel
def vs_texts : List (Nat × String) := [(49, "a parent is no fixed object that is there"), (78, "no such object"), (182, "no such value"), (145, "no frame"), (172, "nothing of that kind to show"), (177, "nothing that it has")]
def vs_str (U : State) : Prop := ∀ z ∈ vs_texts, ∃ a : Nat, vk_R "TaleMachine" z.1 z.2 a U
abbrev vs_n1 : Cond := .methodLinkNest "TaleMachine" 11 y_Script_init "TaleMachine"
abbrev vs_n2 : Cond := .methodLinkNest "TaleMachine" 18 y_World_init "TaleMachine"
abbrev vs_n3 : Cond := .methodLinkNest "TaleMachine$Teller" 48 y_Frame_init "TaleMachine"
def Tb (U : State) : Prop := vt_J NJ U ∧ (va_Nw vs_n1 U ∧ va_Nw vs_n2 U ∧ va_Nw vs_n3 U) ∧ (va_AO "TaleMachine$State" U ∧ va_AO "TaleMachine$Frame" U) ∧ vs_str U
theorem Tb.warm {s U : State} (hW : s.WarmedH U.vm) (h : Tb s) : Tb U :=
  ⟨vt_J.warm NJ_ok hW h.1, ⟨va_Nw.warmM hW h.2.1.1, va_Nw.warmM hW h.2.1.2.1, va_Nw.warmM hW h.2.1.2.2⟩, ⟨h.2.2.1.1.moved hW.alike, h.2.2.1.2.moved hW.alike⟩, fun z hz => by
    obtain ⟨a, ha⟩ := h.2.2.2 z hz
    exact ⟨a, vk_R.warm hW ha⟩⟩
theorem Tb_nest_Script {U : State} (h : Tb U) : va_Nw vs_n1 U := h.2.1.1
theorem Tb_nest_World {U : State} (h : Tb U) : va_Nw vs_n2 U := h.2.1.2.1
theorem Tb_nest_Frame {U : State} (h : Tb U) : va_Nw vs_n3 U := h.2.1.2.2
theorem Tb_ao_State {U : State} (h : Tb U) : va_AO "TaleMachine$State" U := h.2.2.1.1
theorem Tb_ao_Frame {U : State} (h : Tb U) : va_AO "TaleMachine$Frame" U := h.2.2.1.2
theorem Tb_cast_N {U : State} {a : Array Value} (h : Tb U) : (Cond.castable "java/util/NoSuchElementException" "java/util/NoSuchElementException").before a U = true := va_Nw.use rfl (h.1 _ (List.mem_append_right _ (List.mem_of_getElem? (i := 0) rfl)))
theorem Tb_cast_A {U : State} {a : Array Value} (h : Tb U) : (Cond.castable "java/lang/IllegalArgumentException" "java/lang/IllegalArgumentException").before a U = true := va_Nw.use rfl (h.1 _ (List.mem_append_right _ (List.mem_of_getElem? (i := 1) rfl)))
theorem Tb_A {A : Nat → Prop} {U : State} {args : Array Value} (h : Tb U) (hZ : vt_ZZ A U U.heap) : ∀ w ∈ Bundle.ownAtoms "TaleMachine" 51 "java/lang/IllegalArgumentException" vs_up, w.before args U = true := vt_atoms NJ_A (fun w hw => h.1 w (List.mem_append_left _ (List.mem_append_left _ hw))) hZ
theorem Tb_N {A : Nat → Prop} {U : State} {args : Array Value} (h : Tb U) (hZ : vt_ZZ A U U.heap) : ∀ w ∈ Bundle.ownAtoms "TaleMachine" 80 "java/util/NoSuchElementException" vs_up, w.before args U = true := vt_atoms NJ_N (fun w hw => h.1 w (List.mem_append_left _ (List.mem_append_right _ hw))) hZ
/-- a contract's start and end -/
def pre_ (D : va_G) (wc : va_W) (tc : List (ClassId × FieldType)) (sz : Nat) (U : State) : Prop := U.heap.size = sz ∧ va_P D cL wc U.heap ∧ va_K D cL tc U ∧ va_D (fun _ => True) wc ∧ Tb U
def preT_ (D : va_G) (wc : va_W) (tc : List (ClassId × FieldType)) (sz : Nat) (U : State) : Prop := pre_ D wc tc sz U ∧ vt_ZZ (va_A wc sz) U U.heap
def post_ (D : va_G) (A : Nat → Prop) (wn : va_W) (t : State) : Prop := va_P D cL wn t.heap ∧ va_D A wn
theorem pre_call {D : va_G} {wc : va_W} {tc : List (ClassId × FieldType)} {sz : Nat} {U : State} (g : JFrame) (mk : MethodId) (a : Array Value) (h : pre_ D wc tc sz U) : pre_ D wc tc sz (U.calling g mk a) :=
  ⟨h.1, h.2.1, va_K.moved (u := U) (U := U.calling g mk a) (Vm.Alike.refl U.vm) h.2.2.1, h.2.2.2.1, Tb.warm (s := U) (U := U.calling g mk a) (State.WarmedH.refl U) h.2.2.2.2⟩
theorem pre_at {D : va_G} {wc : va_W} {tc : List (ClassId × FieldType)} {s U : State} {H : Heap} {A : Nat → Prop} (hP : va_P D cL wc H) (hK : va_K D cL tc s) (hD : va_D A wc) (hT : Tb s) (hU : U.heap = H) (hW : s.WarmedH U.vm) : pre_ D wc tc H.size U :=
  ⟨by rw [hU], by rw [hU]; exact hP, va_K.moved hW.alike hK, hD.weaken (fun _ _ _ _ => trivial), Tb.warm hW hT⟩
theorem pre_S {av : List Value} {D : va_G} {wc : va_W} {tc : List (ClassId × FieldType)} {s : State} {H : Heap} {A : Nat → Prop} (hP : va_P D cL wc H) (hK : va_K D cL tc s) (hD : va_D A wc) (hT : Tb s) : PreS s H (va_Pc av (pre_ D wc tc H.size)) av :=
  ⟨fun a U g mk q => ⟨q.1, pre_call g mk a q.2⟩, fun U hU hW => ⟨rfl, pre_at hP hK hD hT hU hW⟩⟩
theorem pre_V {av : List Value} {D : va_G} {wc : va_W} {tc : List (ClassId × FieldType)} {s : State} {H : Heap} {A : Nat → Prop} {C : String} {b : Nat} (hv : ∃ cell : Cell, H[b]? = some cell ∧ cell.vm.isStatics = false ∧ s.vm.findClass C = some cell.cls) (hP : va_P D cL wc H) (hK : va_K D cL tc s) (hD : va_D A wc) (hT : Tb s) : PreV s H C b (va_Pc (.ref b :: av) (pre_ D wc tc H.size)) av :=
  ⟨fun a U g mk q => ⟨q.1, pre_call g mk a q.2⟩, hv, fun U hU hW => ⟨rfl, pre_at hP hK hD hT hU hW⟩⟩
theorem vt_ZZ.at {A : Nat → Prop} {s : State} {H : Heap} {locs : List Loc} {wc : va_W} (h : vt_ZZ A s s.heap) (hS : va_S A s.heap H locs) (hF : ∀ q, va_A wc H.size q → A q) : vt_ZZ (va_A wc H.size) s H := (h.kept hS.2.1).narrow (fun q _ hq => hF q hq)
theorem preT_call {D : va_G} {wc : va_W} {tc : List (ClassId × FieldType)} {sz : Nat} {U : State} (g : JFrame) (mk : MethodId) (a : Array Value) (h : preT_ D wc tc sz U) : preT_ D wc tc sz (U.calling g mk a) :=
  ⟨pre_call g mk a h.1, vt_ZZ.moved (u := U) (U := U.calling g mk a) (Vm.Alike.refl U.vm) h.2⟩
theorem preT_S {av : List Value} {D : va_G} {wc : va_W} {tc : List (ClassId × FieldType)} {s : State} {H : Heap} {A : Nat → Prop} (hP : va_P D cL wc H) (hK : va_K D cL tc s) (hD : va_D A wc) (hT : Tb s) (hZ : vt_ZZ (va_A wc H.size) s H) : PreS s H (va_Pc av (preT_ D wc tc H.size)) av :=
  ⟨fun a U g mk q => ⟨q.1, preT_call g mk a q.2⟩, fun U hU hW => ⟨rfl, pre_at hP hK hD hT hU hW, by rw [hU]; exact hZ.moved hW.alike⟩⟩
theorem preT_V {av : List Value} {D : va_G} {wc : va_W} {tc : List (ClassId × FieldType)} {s : State} {H : Heap} {A : Nat → Prop} {C : String} {b : Nat} (hv : ∃ cell : Cell, H[b]? = some cell ∧ cell.vm.isStatics = false ∧ s.vm.findClass C = some cell.cls) (hP : va_P D cL wc H) (hK : va_K D cL tc s) (hD : va_D A wc) (hT : Tb s) (hZ : vt_ZZ (va_A wc H.size) s H) : PreV s H C b (va_Pc (.ref b :: av) (preT_ D wc tc H.size)) av :=
  ⟨fun a U g mk q => ⟨q.1, preT_call g mk a q.2⟩, hv, fun U hU hW => ⟨rfl, pre_at hP hK hD hT hU hW, by rw [hU]; exact hZ.moved hW.alike⟩⟩
/-- words of calls -/
theorem gw {w : Cond} (h : w ∈ AW) : (w.onTables && w.keeps) = true ∨ ∃ ty, w = .arrayClass ty := good_of_word (List.all_eq_true.mp AW_all w h)
theorem gIn {w0 : Cond} (h : w0 ∈ AW) : GoodIn AW (w0 :: AW) := fun w hw => by
  rcases List.mem_cons.mp hw with rfl | hw
  · exact ⟨h, gw h⟩
  · exact ⟨hw, gw hw⟩
theorem gInV {own C : String} {i : Nat} {y : MethodName} {w0 : Cond} (h1 : Cond.methodLink own i y ∈ AW) (h2 : Cond.instanceMethod y ∈ AW) (h3 : Cond.selects C y y ∈ AW) (h4 : Cond.initialized C ∈ AW) (h5 : w0 ∈ AW) : GoodIn AW (wsV own i C y (w0 :: AW)) := fun w hw => by
  unfold wsV at hw
  rcases List.mem_append.mp hw with hw | hw
  · simp only [List.mem_cons, List.not_mem_nil, or_false] at hw
    rcases hw with rfl | rfl | rfl | rfl
    · exact ⟨h1, gw h1⟩
    · exact ⟨h2, gw h2⟩
    · exact ⟨h3, gw h3⟩
    · exact ⟨h4, gw h4⟩
  · exact gIn h5 w hw
theorem gInS {own : String} {i : Nat} {y : MethodName} {w0 : Cond} (h1 : Cond.methodLink own i y ∈ AW) (h2 : Cond.static y ∈ AW) (h4 : Cond.initialized y.cls ∈ AW) (h5 : w0 ∈ AW) : GoodIn AW (va_wsS own i y (w0 :: AW)) := fun w hw => by
  unfold va_wsS at hw
  rcases List.mem_append.mp hw with hw | hw
  · simp only [List.mem_cons, List.not_mem_nil, or_false] at hw
    rcases hw with rfl | rfl | rfl
    · exact ⟨h1, gw h1⟩
    · exact ⟨h2, gw h2⟩
    · exact ⟨h4, gw h4⟩
  · exact gIn h5 w hw
section VS
variable {p : Program} {l : Launch} {e : Env} {R : Room} {s : State} {m : MethodId} {args : Array Value} {below : List Frame} {meth : Method} {c : Code} {H : Heap} {locs : List Loc} {cells slots : Nat} {Q : State → Prop}
variable {pc : Nat} {ls : Array Slot} {rest st0 : List Value} {a : Array Value} {A : Nat → Prop} {H0 : Heap} {mc ms : Nat} {D : va_G} {ws wc wr : va_W} {cc : ByteArray}
theorem mv_v {S : Type} {post : S → Prop} {B : S → State → Prop} (hr : va_Run p l e R s m args below meth c H locs cells slots mc ms (F0 m pc ls st0) rest (va_Qv post B (va_A wc H.size) a) (va_A wc H.size))
    (hP : va_P D cL ws H) (hD : va_D A ws) (hS : va_S A H0 H locs) (hA : ∀ q, H0.size ≤ q → A q) (isC isR : List Nat) (hC : isC.map (fun i => ws[i]?) = wc.map some) (hR : isR.map (fun i => ws[i]?) = wr.map some) (hn : va_nd isR = true) (hdis : ∀ i ∈ isR, i ∉ isC)
    {wn : S → va_W} (hB : ∀ u t, B u t → post_ D (va_A wc H.size) (wn u) t)
    (kk : ∀ (u : S) (H1 : Heap) (locs1 : List Loc), post u → va_P D cL (wr ++ wn u) H1 → va_D A (wr ++ wn u) → va_S A H0 H1 locs1 → W p l e R s m args below meth c H1 locs1 (cells + mc) (slots + ms) Q (F0 m (pc + 3) ls rest)) : W p l e R s m args below meth c H locs cells slots Q (F0 m pc ls st0) := by
  have hFc := va_free (wc := wc) hD hS hA isC hC
  refine va_callv hr hS (fun q _ h => hFc q h) hFc (fun u t H1 locs1 ht hvm hp hb hz hk hS1 => ?_)
  obtain ⟨hP1, hD1⟩ := hB u t hb
  rw [ht] at hP1
  obtain ⟨hP', hD'⟩ := va_join (wr := wr) (w1 := wn u) hP hD isC isR hC hR hn hdis hk hFc hP1 hD1
  exact kk u H1 locs1 hp hP' hD' hS1
theorem mv_i {S : Type} {post : Int32 → S → Prop} {B : S → State → Prop} (hr : va_Run p l e R s m args below meth c H locs cells slots mc ms (F0 m pc ls st0) rest (va_Qi post B (va_A wc H.size) a) (va_A wc H.size))
    (hP : va_P D cL ws H) (hD : va_D A ws) (hS : va_S A H0 H locs) (hA : ∀ q, H0.size ≤ q → A q) (isC isR : List Nat) (hC : isC.map (fun i => ws[i]?) = wc.map some) (hR : isR.map (fun i => ws[i]?) = wr.map some) (hn : va_nd isR = true) (hdis : ∀ i ∈ isR, i ∉ isC)
    {wn : S → va_W} (hB : ∀ u t, B u t → post_ D (va_A wc H.size) (wn u) t)
    (kk : ∀ (r : Int32) (u : S) (H1 : Heap) (locs1 : List Loc), post r u → va_P D cL (wr ++ wn u) H1 → va_D A (wr ++ wn u) → va_S A H0 H1 locs1 → W p l e R s m args below meth c H1 locs1 (cells + mc) (slots + ms) Q (F0 m (pc + 3) ls (.int r :: rest))) : W p l e R s m args below meth c H locs cells slots Q (F0 m pc ls st0) := by
  have hFc := va_free (wc := wc) hD hS hA isC hC
  refine va_calli hr hS (fun q _ h => hFc q h) hFc (fun r u t H1 locs1 ht hvm hp hb hz hk hS1 => ?_)
  obtain ⟨hP1, hD1⟩ := hB u t hb
  rw [ht] at hP1
  obtain ⟨hP', hD'⟩ := va_join (wr := wr) (w1 := wn u) hP hD isC isR hC hR hn hdis hk hFc hP1 hD1
  exact kk r u H1 locs1 hp hP' hD' hS1
theorem end_i {S : Type} {post : Int32 → S → Prop} {B : S → State → Prop} (hx : p.tables.exec = Jvm.exec) (hb : c.code = cc) (hr : meth.sig.returnType = some .int) (hlocks : meth.locks = false) (hS : va_S A s.heap H locs) {u : S} {r : Int32} (hB : ∀ t : State, t.heap = H → B u t) (hp : post r u) (h1 : cells ≤ mc) (h2 : slots ≤ ms) (hdg : decode cc pc = .ok (.ireturn, 1)) :
    W p l e R s m args below meth c H locs cells slots (MQ below (va_Qi post B A) args s mc ms A) (F0 m pc ls [.int r]) :=
  W.widen (k := mc) (n := ms) h1 h2 (W.iret hx hb hr (fun t ht _ => ⟨⟨r, u, rfl, hp, hB t ht⟩, hS.F ht⟩) hS.2.2 hdg hlocks)
theorem end_z {S : Type} {post : Int32 → S → Prop} {B : S → State → Prop} (hx : p.tables.exec = Jvm.exec) (hb : c.code = cc) (hr : meth.sig.returnType = some .boolean) (hlocks : meth.locks = false) (hS : va_S A s.heap H locs) {u : S} {r : Int32} (hB : ∀ t : State, t.heap = H → B u t) (hp : post r u) (hz : r = 0 ∨ r = 1) (h1 : cells ≤ mc) (h2 : slots ≤ ms) (hdg : decode cc pc = .ok (.ireturn, 1)) :
    W p l e R s m args below meth c H locs cells slots (MQ below (va_Qi post B A) args s mc ms A) (F0 m pc ls [.int r]) :=
  W.widen (k := mc) (n := ms) h1 h2 (W.zret hx hb hr (by rcases hz with rfl | rfl <;> decide) (fun t ht _ => ⟨⟨r, u, rfl, hp, hB t ht⟩, hS.F ht⟩) hS.2.2 hdg hlocks)
theorem end_v {S : Type} {post : S → Prop} {B : S → State → Prop} (hx : p.tables.exec = Jvm.exec) (hb : c.code = cc) (hr : meth.sig.returnType = none) (hlocks : meth.locks = false) (hS : va_S A s.heap H locs) {u : S} (hB : ∀ t : State, t.heap = H → B u t) (hp : post u) (h1 : cells ≤ mc) (h2 : slots ≤ ms) (hdg : decode cc pc = .ok (.return_, 1)) :
    W p l e R s m args below meth c H locs cells slots (MQ below (va_Qv post B A) args s mc ms A) (F0 m pc ls []) :=
  W.widen (k := mc) (n := ms) h1 h2 (W.vret hx hb hr (fun t ht _ => ⟨⟨u, rfl, hp, hB t ht⟩, hS.F ht⟩) hS.2.2 hdg hlocks)
theorem at_end {wn : va_W} (hP : va_P D cL wn H) (hD : va_D A wn) : ∀ t : State, t.heap = H → post_ D A wn t := fun t ht => ⟨by rw [ht]; exact hP, hD⟩
/-- a new array of a kind whose class is known already -/
theorem nw_i (hexec : p.tables.exec = Jvm.exec) (hb : c.code = cc) (harr : (Cond.arrayClass .int).before args s = true) {tys : List (ClassId × FieldType)} (hK : va_K D cL tys s) (t0 : Nat) {cI : ClassId} (ht0 : tys[t0]? = some (cI, .int)) (hP : va_P D cL ws H) (hD : va_D A ws) (hS : va_S A H0 H locs) (hA : ∀ q, H0.size ≤ q → A q)
    {n : Int32} {N' : Nat} (hn : ¬ n < 0) (hN : n.toNatClampNeg = N') (hbytes : N' * 4 ≤ 536870912) (hcells : cells + 1 ≤ R.cells) (hslots : slots + N' ≤ R.slots) (hdg : decode cc pc = .ok (.newarray .int, 2))
    (kk : ∀ (q : Nat) (H1 : Heap), va_P D cL (ws ++ [(q, .inl (cI, N', .inl (fun _ => 0)))]) H1 → va_D A (ws ++ [(q, .inl (cI, N', .inl (fun _ => 0)))]) → va_S A H0 H1 locs → W p l e R s m args below meth c H1 locs (cells + 1) (slots + N') Q (F0 m (pc + 2) ls (.ref q :: rest))) : W p l e R s m args below meth c H locs cells slots Q (F0 m pc ls (.int n :: rest)) := by
  refine va_newa hexec hb (atype := .int) harr (ty := .int) rfl hK hP hD hS hA (a0 := (N', .inl (fun _ => 0))) (fun _ => rfl) hn hN hbytes hcells hslots hdg (fun q cA H1 hK1 hP1 hD1 hS1 => ?_)
  have e1 : s.vm.findClass ("[" ++ FieldType.int.toString) = some cI := (hK.2 t0 _ ht0).2
  have e2 : s.vm.findClass ("[" ++ FieldType.int.toString) = some cA := (hK1.2 tys.length (cA, .int) (by rw [List.getElem?_append_right (Nat.le_refl _), Nat.sub_self]; rfl)).2
  obtain rfl : cI = cA := Option.some.inj (e1.symm.trans e2)
  exact kk q H1 hP1 hD1 hS1
theorem nw_z (hexec : p.tables.exec = Jvm.exec) (hb : c.code = cc) (harr : (Cond.arrayClass .boolean).before args s = true) {tys : List (ClassId × FieldType)} (hK : va_K D cL tys s) (t0 : Nat) {cI : ClassId} (ht0 : tys[t0]? = some (cI, .boolean)) (hP : va_P D cL ws H) (hD : va_D A ws) (hS : va_S A H0 H locs) (hA : ∀ q, H0.size ≤ q → A q)
    {n : Int32} {N' : Nat} (hn : ¬ n < 0) (hN : n.toNatClampNeg = N') (hbytes : N' * 4 ≤ 536870912) (hcells : cells + 1 ≤ R.cells) (hslots : slots + N' ≤ R.slots) (hdg : decode cc pc = .ok (.newarray .boolean, 2))
    (kk : ∀ (q : Nat) (H1 : Heap), va_P D cL (ws ++ [(q, .inl (cI, N', .inl (fun _ => 0)))]) H1 → va_D A (ws ++ [(q, .inl (cI, N', .inl (fun _ => 0)))]) → va_S A H0 H1 locs → W p l e R s m args below meth c H1 locs (cells + 1) (slots + N') Q (F0 m (pc + 2) ls (.ref q :: rest))) : W p l e R s m args below meth c H locs cells slots Q (F0 m pc ls (.int n :: rest)) := by
  refine va_newa hexec hb (atype := .boolean) harr (ty := .boolean) rfl hK hP hD hS hA (a0 := (N', .inl (fun _ => 0))) (fun _ => rfl) hn hN (Nat.le_trans (Nat.mul_le_mul_left _ (by decide)) hbytes) hcells hslots hdg (fun q cA H1 hK1 hP1 hD1 hS1 => ?_)
  have e1 : s.vm.findClass ("[" ++ FieldType.boolean.toString) = some cI := (hK.2 t0 _ ht0).2
  have e2 : s.vm.findClass ("[" ++ FieldType.boolean.toString) = some cA := (hK1.2 tys.length (cA, .boolean) (by rw [List.getElem?_append_right (Nat.le_refl _), Nat.sub_self]; rfl)).2
  obtain rfl : cI = cA := Option.some.inj (e1.symm.trans e2)
  exact kk q H1 hP1 hD1 hS1
theorem nw_l (hexec : p.tables.exec = Jvm.exec) (hb : c.code = cc) (harr : (Cond.arrayClass .long).before args s = true) {tys : List (ClassId × FieldType)} (hK : va_K D cL tys s) (t0 : Nat) {cI : ClassId} (ht0 : tys[t0]? = some (cI, .long)) (hP : va_P D cL ws H) (hD : va_D A ws) (hS : va_S A H0 H locs) (hA : ∀ q, H0.size ≤ q → A q)
    {n : Int32} {N' : Nat} (hn : ¬ n < 0) (hN : n.toNatClampNeg = N') (hbytes : N' * 8 ≤ 536870912) (hcells : cells + 1 ≤ R.cells) (hslots : slots + N' ≤ R.slots) (hdg : decode cc pc = .ok (.newarray .long, 2))
    (kk : ∀ (q : Nat) (H1 : Heap), va_P D cL (ws ++ [(q, .inl (cI, N', .inr (.inl (fun _ => 0))))]) H1 → va_D A (ws ++ [(q, .inl (cI, N', .inr (.inl (fun _ => 0))))]) → va_S A H0 H1 locs → W p l e R s m args below meth c H1 locs (cells + 1) (slots + N') Q (F0 m (pc + 2) ls (.ref q :: rest))) : W p l e R s m args below meth c H locs cells slots Q (F0 m pc ls (.int n :: rest)) := by
  refine va_newa hexec hb (atype := .long) harr (ty := .long) rfl hK hP hD hS hA (a0 := (N', .inr (.inl (fun _ => 0)))) (fun _ => rfl) hn hN hbytes hcells hslots hdg (fun q cA H1 hK1 hP1 hD1 hS1 => ?_)
  have e1 : s.vm.findClass ("[" ++ FieldType.long.toString) = some cI := (hK.2 t0 _ ht0).2
  have e2 : s.vm.findClass ("[" ++ FieldType.long.toString) = some cA := (hK1.2 tys.length (cA, .long) (by rw [List.getElem?_append_right (Nat.le_refl _), Nat.sub_self]; rfl)).2
  obtain rfl : cI = cA := Option.some.inj (e1.symm.trans e2)
  exact kk q H1 hP1 hD1 hS1
/-- a loop with a counter: the same cells and slots made at each turn -/
theorem lp_W {I : Nat → Heap → List Loc → Array Slot → Prop} {a b : Nat} (hab : a ≤ b)
    (body : ∀ (k : Nat) (H : Heap) (locs : List Loc) (ls : Array Slot), a ≤ k → k ≤ b → I k H locs ls → (k < b → ∀ (H1 : Heap) (locs1 : List Loc) (ls1 : Array Slot), I (k + 1) H1 locs1 ls1 → W p l e R s m args below meth c H1 locs1 cells slots Q (F0 m pc ls1 [])) → W p l e R s m args below meth c H locs cells slots Q (F0 m pc ls [])) :
    ∀ (H : Heap) (locs : List Loc) (ls : Array Slot), I a H locs ls → W p l e R s m args below meth c H locs cells slots Q (F0 m pc ls []) := by
  have key : ∀ (n k : Nat), a ≤ k → n + k = b → ∀ (H : Heap) (locs : List Loc) (ls : Array Slot), I k H locs ls → W p l e R s m args below meth c H locs cells slots Q (F0 m pc ls []) := by
    intro n
    induction n with
    | zero => intro k h1 h2 H locs ls hI; exact body k H locs ls h1 (by omega) hI (fun h => absurd h (by omega))
    | succ n ih => intro k h1 h2 H locs ls hI; exact body k H locs ls h1 (by omega) hI (fun _ H1 l1 s1 hI1 => ih (k + 1) (by omega) (by omega) H1 l1 s1 hI1)
  exact fun H locs ls hI => key (b - a) a (Nat.le_refl _) (by omega) H locs ls hI
/-- new X; dup; ldc; X.<init>(String); athrow -/
theorem th_go (hexec : p.tables.exec = Jvm.exec) (hb : c.code = cc) (hl : l.stackTraces = false) {cls : String} {ic ix it : Nat} {tx : String} (hown : s.vm.findClass "TaleMachine" = some m.cls) (hcls : Bundle.fit cls = true)
    (h : ∀ w ∈ Bundle.ownAtoms "TaleMachine" ic cls vs_up, w.before args s = true) (hcl : (Cond.classLink "TaleMachine" ix cls).before args s = true) (hini : (Cond.initialized cls).before args s = true) (hT : Tb s) (htx : (it, tx) ∈ vs_texts)
    (hS : va_S A s.heap H locs) (hns : ∀ q, A q → ∀ cell : Cell, s.heap[q]? = some cell → cell.vm.isStatics = false)
    (hne : c.exceptionTable.isEmpty = true) (hsz : ls.size = c.maxLocals) (hlocks : meth.locks = false) (d0 : decode cc pc = .ok (.new ix, 3)) (d3 : decode cc (pc + 3) = .ok (.dup, 1)) (d4 : decode cc (pc + 4) = .ok (.ldc it, 2)) (d6 : decode cc (pc + 6) = .ok (.invokespecial ic, 3)) (d9 : decode cc (pc + 9) = .ok (.athrow, 1))
    (hRf : 5 < R.frames) (hRl : 100 ≤ R.locals) (hRc : cells + 1 ≤ R.cells) (hRs : slots + 6 ≤ R.slots) (h1 : cells + 1 ≤ mc) (h2 : slots + 6 ≤ ms) :
    W p l e R s m args below meth c H locs cells slots (vt_MQ below (vt_Q cls A) args s mc ms A) (F0 m pc ls []) := by
  refine W.newc hexec hb hown hcl (n := 6) (h _ (by simp [Bundle.ownAtoms])) hini (g := F0 m pc ls []) rfl d0 hRc hRs (fun cC kC e1 e2 e3 e4 => ?_)
  refine W.eq (g2 := F0 m (pc + 3) ls [.ref H.size]) rfl ?_
  refine lv_dup hexec hb d3 rfl ?_
  obtain ⟨qm, hqm⟩ := hT.2.2.2 _ htx
  refine va_ldcS hexec hb hown hqm d4 ?_
  refine W.widen (k := mc) (n := ms) h1 h2 ?_
  refine vt_throwS (q := H.size) (qm := qm) (cX := cC) (kX := kC) hexec hb hl hown hcls (names := vs_up) (by decide) h (H := H.push { cls := cC, slots := kC.instanceTypes.map defaultValue, vm := .none }) (locs := locs) ⟨by rw [Array.size_push]; exact Nat.le_trans hS.1 (Nat.le_succ _), fun z hz hzA => ?_, hS.2.2⟩ hns e1 e2 (by simp) hS.1 hne hsz hlocks d6 d9 hRf ?_
  · rw [Array.getElem?_push, if_neg (by have := hS.1; omega)]
    exact hS.2.1 z hz hzA
  · show 2 * 0 + (1 + 0) + (13 * (2 + 1) + 42) ≤ R.locals
    omega
end VS
/-- the table of a method with handlers, by its word -/
theorem vt_table {y : MethodName} {bytes : ByteArray} {maxL : Nat} {ret : Option FieldType} {hh : List (Nat × Nat × Nat × Nat)} {args : Array Value} {s : State} {m : MethodId} {meth : Method} {c : Code} (hn : s.methodNamed? y = some m) (hm : s.vm.method? m = some meth) (hc : meth.code = some c) (h : (Cond.codeWith y bytes maxL ret hh).before args s = true) :
    c.exceptionTable.toList.map (fun h => (h.startPc, h.endPc, h.handlerPc, h.catchType)) = hh := by
  obtain ⟨m', meth', c', h1, h2, h3, -, -, h6, -⟩ := Cond.codeWith_spec h
  cases hn.symm.trans h1
  cases hm.symm.trans h2
  cases hc.symm.trans h3
  exact h6
theorem md_ix (o : Int32) (h : ¬ (o < 0 ∨ 31 < o)) : vp_in (29 * o) 5568 := by
  obtain ⟨j, hj, rfl⟩ := nI_of2 (M := 31) (n := 31) (by decide) (fun z => h (Or.inl z)) (Int32.not_lt.mp (fun z => h (Or.inr z)))
  rw [show (29 : Int32) = nI 29 from rfl, pk_mul]
  exact vp_in_nI (by omega) (by decide)
theorem md_ixk {k : Nat} (h : k < 32) : vp_in (29 * nI k) 5568 := by
  rw [show (29 : Int32) = nI 29 from rfl, pk_mul]
  exact vp_in_nI (by omega) (by decide)
theorem md_all (k : Int32) : k < 0 ∨ -1 < k := by
  simp only [Int32.lt_iff_toInt_lt]
  have h1 : (0 : Int32).toInt = 0 := by decide
  have h2 : (-1 : Int32).toInt = -1 := by decide
  omega
theorem md_eq {k : Int32} (h : ¬ (k < -1 ∨ -1 < k)) : k = -1 := by
  simp only [Int32.lt_iff_toInt_lt] at h
  exact Int32.toInt_inj.mp (by omega)
theorem vs_ext {D : va_G} {cI : ClassId} {a n : Nat} {f g : Nat → Int32} {H : Heap} (h : ∀ j, j < n → f j = g j) (hP : va_P D cL [(a, .inl (cI, n, .inl f))] H) : va_P D cL [(a, .inl (cI, n, .inl g))] H := by
  have e : vp_cell cI (n, .inl f) = vp_cell cI (n, .inl g) := by
    have e2 : (Array.ofFn (n := n) fun j => Value.int (f j.val)) = (Array.ofFn (n := n) fun j => Value.int (g j.val)) := by
      congr 1
      funext j
      rw [h j.val j.isLt]
    show ({ cls := cI, slots := Array.ofFn (n := n) fun j => Value.int (f j.val), vm := .none } : Cell) = { cls := cI, slots := Array.ofFn (n := n) fun j => Value.int (g j.val), vm := .none }
    rw [e2]
  have h0 : H[a]? = some (vp_cell cI (n, .inl f)) := hP 0 _ rfl
  intro k q hk
  cases k with
  | zero =>
    cases hk
    show H[a]? = some (vp_cell cI (n, .inl g))
    rw [← e]
    exact h0
  | succ k => simp at hk
theorem ws_ix {x : Int32} (h1 : ¬ x < 16) (h2 : ¬ 32 ≤ x) : vp_in (x - 16) 16 := by
  have a0 : (0 : Int32).toInt = 0 := by decide
  have a1 : (16 : Int32).toInt = 16 := by decide
  have a2 : (32 : Int32).toInt = 32 := by decide
  have a3 : (31 : Int32).toInt = 31 := by decide
  have b1 : ¬ x < 0 := by
    simp only [Int32.lt_iff_toInt_lt] at h1 ⊢
    omega
  have b2 : x ≤ 31 := by
    simp only [Int32.le_iff_toInt_le] at h2 ⊢
    omega
  obtain ⟨j, hj, rfl⟩ := nI_of2 (M := 31) (n := 31) (by decide) b1 b2
  have h16 : 16 ≤ j := Nat.le_of_not_lt (fun z => h1 (by rw [show (16 : Int32) = nI 16 from rfl]; exact nI_lt z (by decide)))
  rw [show (16 : Int32) = nI 16 from rfl, pk_sub h16]
  exact vp_in_nI (by omega) (by decide)
theorem in_c {i : Int32} {n : Nat} (h : ¬ (i < 0 ∨ n ≤ i.toNatClampNeg)) : vp_in i n := h
end
section
theorem d_Model_outside_0 : decode prog_10_method_4_code 0 = .ok (.iload_n 0, 1) := by decide +kernel
theorem d_Model_outside_1 : decode prog_10_method_4_code 1 = .ok (.iload_n 1, 1) := by decide +kernel
theorem d_Model_outside_2 : decode prog_10_method_4_code 2 = .ok (.if_icmp .lt 8, 3) := by decide +kernel
theorem d_Model_outside_10 : decode prog_10_method_4_code 10 = .ok (.iconst 1, 1) := by decide +kernel
theorem d_Model_outside_11 : decode prog_10_method_4_code 11 = .ok (.goto 4, 3) := by decide +kernel
theorem d_Model_outside_15 : decode prog_10_method_4_code 15 = .ok (.ireturn, 1) := by decide +kernel
theorem d_Model_outside_5 : decode prog_10_method_4_code 5 = .ok (.iload_n 0, 1) := by decide +kernel
theorem d_Model_outside_6 : decode prog_10_method_4_code 6 = .ok (.iload_n 2, 1) := by decide +kernel
theorem d_Model_outside_7 : decode prog_10_method_4_code 7 = .ok (.if_icmp .le 7, 3) := by decide +kernel
theorem d_Model_outside_14 : decode prog_10_method_4_code 14 = .ok (.iconst 0, 1) := by decide +kernel
theorem d_Model_thrown_0 : decode prog_10_method_2_code 0 = .ok (.aload_n 0, 1) := by decide +kernel
theorem d_Model_thrown_1 : decode prog_10_method_2_code 1 = .ok (.getfield 75, 3) := by decide +kernel
theorem d_Model_thrown_4 : decode prog_10_method_2_code 4 = .ok (.ireturn, 1) := by decide +kernel
theorem d_Model_refuse_0 : decode prog_10_method_3_code 0 = .ok (.aload_n 0, 1) := by decide +kernel
theorem d_Model_refuse_1 : decode prog_10_method_3_code 1 = .ok (.iload_n 1, 1) := by decide +kernel
theorem d_Model_refuse_2 : decode prog_10_method_3_code 2 = .ok (.putfield 75, 3) := by decide +kernel
theorem d_Model_refuse_5 : decode prog_10_method_3_code 5 = .ok (.iconst 0, 1) := by decide +kernel
theorem d_Model_refuse_6 : decode prog_10_method_3_code 6 = .ok (.ireturn, 1) := by decide +kernel
theorem d_Model_isThere_0 : decode prog_10_method_5_code 0 = .ok (.iload_n 1, 1) := by decide +kernel
theorem d_Model_isThere_1 : decode prog_10_method_5_code 1 = .ok (.iconst 0, 1) := by decide +kernel
theorem d_Model_isThere_2 : decode prog_10_method_5_code 2 = .ok (.bipush 31, 2) := by decide +kernel
theorem d_Model_isThere_4 : decode prog_10_method_5_code 4 = .ok (.invokestatic 78, 3) := by decide +kernel
theorem d_Model_isThere_7 : decode prog_10_method_5_code 7 = .ok (.ifCond .ne 20, 3) := by decide +kernel
theorem d_Model_isThere_27 : decode prog_10_method_5_code 27 = .ok (.iconst 0, 1) := by decide +kernel
theorem d_Model_isThere_28 : decode prog_10_method_5_code 28 = .ok (.ireturn, 1) := by decide +kernel
theorem d_Model_isThere_10 : decode prog_10_method_5_code 10 = .ok (.aload_n 0, 1) := by decide +kernel
theorem d_Model_isThere_11 : decode prog_10_method_5_code 11 = .ok (.getfield 13, 3) := by decide +kernel
theorem d_Model_isThere_14 : decode prog_10_method_5_code 14 = .ok (.bipush 29, 2) := by decide +kernel
theorem d_Model_isThere_16 : decode prog_10_method_5_code 16 = .ok (.iload_n 1, 1) := by decide +kernel
theorem d_Model_isThere_17 : decode prog_10_method_5_code 17 = .ok (.imul, 1) := by decide +kernel
theorem d_Model_isThere_18 : decode prog_10_method_5_code 18 = .ok (.iaload, 1) := by decide +kernel
theorem d_Model_isThere_19 : decode prog_10_method_5_code 19 = .ok (.iconst 1, 1) := by decide +kernel
theorem d_Model_isThere_20 : decode prog_10_method_5_code 20 = .ok (.if_icmp .ne 7, 3) := by decide +kernel
theorem d_Model_isParent_0 : decode prog_10_method_17_code 0 = .ok (.iload_n 1, 1) := by decide +kernel
theorem d_Model_isParent_1 : decode prog_10_method_17_code 1 = .ok (.iconst (-1), 1) := by decide +kernel
theorem d_Model_isParent_2 : decode prog_10_method_17_code 2 = .ok (.if_icmp .eq 21, 3) := by decide +kernel
theorem d_Model_isParent_23 : decode prog_10_method_17_code 23 = .ok (.iconst 1, 1) := by decide +kernel
theorem d_Model_isParent_24 : decode prog_10_method_17_code 24 = .ok (.goto 4, 3) := by decide +kernel
theorem d_Model_isParent_28 : decode prog_10_method_17_code 28 = .ok (.ireturn, 1) := by decide +kernel
theorem d_Model_isParent_5 : decode prog_10_method_17_code 5 = .ok (.iload_n 1, 1) := by decide +kernel
theorem d_Model_isParent_6 : decode prog_10_method_17_code 6 = .ok (.iconst 0, 1) := by decide +kernel
theorem d_Model_isParent_7 : decode prog_10_method_17_code 7 = .ok (.bipush 15, 2) := by decide +kernel
theorem d_Model_isParent_9 : decode prog_10_method_17_code 9 = .ok (.invokestatic 78, 3) := by decide +kernel
theorem d_Model_isParent_12 : decode prog_10_method_17_code 12 = .ok (.ifCond .ne 15, 3) := by decide +kernel
theorem d_Model_isParent_27 : decode prog_10_method_17_code 27 = .ok (.iconst 0, 1) := by decide +kernel
theorem d_Model_isParent_15 : decode prog_10_method_17_code 15 = .ok (.aload_n 0, 1) := by decide +kernel
theorem d_Model_isParent_16 : decode prog_10_method_17_code 16 = .ok (.iload_n 1, 1) := by decide +kernel
theorem d_Model_isParent_17 : decode prog_10_method_17_code 17 = .ok (.invokevirtual 107, 3) := by decide +kernel
theorem d_Model_isParent_20 : decode prog_10_method_17_code 20 = .ok (.ifCond .eq 7, 3) := by decide +kernel
theorem d_Model_placeOf_0 : decode prog_10_method_8_code 0 = .ok (.bipush 29, 2) := by decide +kernel
theorem d_Model_placeOf_2 : decode prog_10_method_8_code 2 = .ok (.iload_n 1, 1) := by decide +kernel
theorem d_Model_placeOf_3 : decode prog_10_method_8_code 3 = .ok (.imul, 1) := by decide +kernel
theorem d_Model_placeOf_4 : decode prog_10_method_8_code 4 = .ok (.iconst 5, 1) := by decide +kernel
theorem d_Model_placeOf_5 : decode prog_10_method_8_code 5 = .ok (.iadd, 1) := by decide +kernel
theorem d_Model_placeOf_6 : decode prog_10_method_8_code 6 = .ok (.iconst 3, 1) := by decide +kernel
theorem d_Model_placeOf_7 : decode prog_10_method_8_code 7 = .ok (.iload_n 2, 1) := by decide +kernel
theorem d_Model_placeOf_8 : decode prog_10_method_8_code 8 = .ok (.imul, 1) := by decide +kernel
theorem d_Model_placeOf_9 : decode prog_10_method_8_code 9 = .ok (.iadd, 1) := by decide +kernel
theorem d_Model_placeOf_10 : decode prog_10_method_8_code 10 = .ok (.ireturn, 1) := by decide +kernel
theorem d_Model_empty_0 : decode prog_10_method_11_code 0 = .ok (.aload_n 0, 1) := by decide +kernel
theorem d_Model_empty_1 : decode prog_10_method_11_code 1 = .ok (.getfield 13, 3) := by decide +kernel
theorem d_Model_empty_4 : decode prog_10_method_11_code 4 = .ok (.bipush 29, 2) := by decide +kernel
theorem d_Model_empty_6 : decode prog_10_method_11_code 6 = .ok (.iload_n 1, 1) := by decide +kernel
theorem d_Model_empty_7 : decode prog_10_method_11_code 7 = .ok (.imul, 1) := by decide +kernel
theorem d_Model_empty_8 : decode prog_10_method_11_code 8 = .ok (.iconst 1, 1) := by decide +kernel
theorem d_Model_empty_9 : decode prog_10_method_11_code 9 = .ok (.iastore, 1) := by decide +kernel
theorem d_Model_empty_10 : decode prog_10_method_11_code 10 = .ok (.aload_n 0, 1) := by decide +kernel
theorem d_Model_empty_11 : decode prog_10_method_11_code 11 = .ok (.getfield 13, 3) := by decide +kernel
theorem d_Model_empty_14 : decode prog_10_method_11_code 14 = .ok (.bipush 29, 2) := by decide +kernel
theorem d_Model_empty_16 : decode prog_10_method_11_code 16 = .ok (.iload_n 1, 1) := by decide +kernel
theorem d_Model_empty_17 : decode prog_10_method_11_code 17 = .ok (.imul, 1) := by decide +kernel
theorem d_Model_empty_18 : decode prog_10_method_11_code 18 = .ok (.iconst 1, 1) := by decide +kernel
theorem d_Model_empty_19 : decode prog_10_method_11_code 19 = .ok (.iadd, 1) := by decide +kernel
theorem d_Model_empty_20 : decode prog_10_method_11_code 20 = .ok (.iconst 0, 1) := by decide +kernel
theorem d_Model_empty_21 : decode prog_10_method_11_code 21 = .ok (.iastore, 1) := by decide +kernel
theorem d_Model_empty_22 : decode prog_10_method_11_code 22 = .ok (.iconst 0, 1) := by decide +kernel
theorem d_Model_empty_23 : decode prog_10_method_11_code 23 = .ok (.istore_n 2, 1) := by decide +kernel
theorem d_Model_empty_24 : decode prog_10_method_11_code 24 = .ok (.iload_n 2, 1) := by decide +kernel
theorem d_Model_empty_25 : decode prog_10_method_11_code 25 = .ok (.bipush 8, 2) := by decide +kernel
theorem d_Model_empty_27 : decode prog_10_method_11_code 27 = .ok (.if_icmp .ge 21, 3) := by decide +kernel
theorem d_Model_empty_30 : decode prog_10_method_11_code 30 = .ok (.aload_n 0, 1) := by decide +kernel
theorem d_Model_empty_31 : decode prog_10_method_11_code 31 = .ok (.getfield 13, 3) := by decide +kernel
theorem d_Model_empty_34 : decode prog_10_method_11_code 34 = .ok (.aload_n 0, 1) := by decide +kernel
theorem d_Model_empty_35 : decode prog_10_method_11_code 35 = .ok (.iload_n 1, 1) := by decide +kernel
theorem d_Model_empty_36 : decode prog_10_method_11_code 36 = .ok (.iload_n 2, 1) := by decide +kernel
theorem d_Model_empty_37 : decode prog_10_method_11_code 37 = .ok (.invokevirtual 82, 3) := by decide +kernel
theorem d_Model_empty_40 : decode prog_10_method_11_code 40 = .ok (.iconst 0, 1) := by decide +kernel
theorem d_Model_empty_41 : decode prog_10_method_11_code 41 = .ok (.iastore, 1) := by decide +kernel
theorem d_Model_empty_42 : decode prog_10_method_11_code 42 = .ok (.iinc 2 1, 3) := by decide +kernel
theorem d_Model_empty_45 : decode prog_10_method_11_code 45 = .ok (.goto (-21), 3) := by decide +kernel
theorem d_Model_empty_48 : decode prog_10_method_11_code 48 = .ok (.return_, 1) := by decide +kernel
theorem d_Model_code_0 : decode prog_10_method_16_code 0 = .ok (.aload_n 0, 1) := by decide +kernel
theorem d_Model_code_1 : decode prog_10_method_16_code 1 = .ok (.iconst 0, 1) := by decide +kernel
theorem d_Model_code_2 : decode prog_10_method_16_code 2 = .ok (.putfield 75, 3) := by decide +kernel
theorem d_Model_code_5 : decode prog_10_method_16_code 5 = .ok (.iload_n 2, 1) := by decide +kernel
theorem d_Model_code_6 : decode prog_10_method_16_code 6 = .ok (.iconst 1, 1) := by decide +kernel
theorem d_Model_code_7 : decode prog_10_method_16_code 7 = .ok (.iconst 4, 1) := by decide +kernel
theorem d_Model_code_8 : decode prog_10_method_16_code 8 = .ok (.invokestatic 78, 3) := by decide +kernel
theorem d_Model_code_11 : decode prog_10_method_16_code 11 = .ok (.ifCond .ne 15, 3) := by decide +kernel
theorem d_Model_code_14 : decode prog_10_method_16_code 14 = .ok (.aload_n 0, 1) := by decide +kernel
theorem d_Model_code_15 : decode prog_10_method_16_code 15 = .ok (.getfield 104, 3) := by decide +kernel
theorem d_Model_code_18 : decode prog_10_method_16_code 18 = .ok (.iload_n 2, 1) := by decide +kernel
theorem d_Model_code_19 : decode prog_10_method_16_code 19 = .ok (.iadd, 1) := by decide +kernel
theorem d_Model_code_20 : decode prog_10_method_16_code 20 = .ok (.sipush 300, 3) := by decide +kernel
theorem d_Model_code_23 : decode prog_10_method_16_code 23 = .ok (.if_icmp .le 5, 3) := by decide +kernel
theorem d_Model_code_28 : decode prog_10_method_16_code 28 = .ok (.iload_n 2, 1) := by decide +kernel
theorem d_Model_code_29 : decode prog_10_method_16_code 29 = .ok (.iconst 1, 1) := by decide +kernel
theorem d_Model_code_30 : decode prog_10_method_16_code 30 = .ok (.isub, 1) := by decide +kernel
theorem d_Model_code_31 : decode prog_10_method_16_code 31 = .ok (.istore_n 3, 1) := by decide +kernel
theorem d_Model_code_32 : decode prog_10_method_16_code 32 = .ok (.iload_n 3, 1) := by decide +kernel
theorem d_Model_code_33 : decode prog_10_method_16_code 33 = .ok (.ifCond .lt 38, 3) := by decide +kernel
theorem d_Model_code_36 : decode prog_10_method_16_code 36 = .ok (.aload_n 0, 1) := by decide +kernel
theorem d_Model_code_37 : decode prog_10_method_16_code 37 = .ok (.getfield 7, 3) := by decide +kernel
theorem d_Model_code_40 : decode prog_10_method_16_code 40 = .ok (.aload_n 0, 1) := by decide +kernel
theorem d_Model_code_41 : decode prog_10_method_16_code 41 = .ok (.getfield 104, 3) := by decide +kernel
theorem d_Model_code_44 : decode prog_10_method_16_code 44 = .ok (.iload_n 1, 1) := by decide +kernel
theorem d_Model_code_45 : decode prog_10_method_16_code 45 = .ok (.bipush 8, 2) := by decide +kernel
theorem d_Model_code_47 : decode prog_10_method_16_code 47 = .ok (.iload_n 3, 1) := by decide +kernel
theorem d_Model_code_48 : decode prog_10_method_16_code 48 = .ok (.imul, 1) := by decide +kernel
theorem d_Model_code_49 : decode prog_10_method_16_code 49 = .ok (.ishr, 1) := by decide +kernel
theorem d_Model_code_50 : decode prog_10_method_16_code 50 = .ok (.sipush 255, 3) := by decide +kernel
theorem d_Model_code_53 : decode prog_10_method_16_code 53 = .ok (.iand, 1) := by decide +kernel
theorem d_Model_code_54 : decode prog_10_method_16_code 54 = .ok (.iastore, 1) := by decide +kernel
theorem d_Model_code_55 : decode prog_10_method_16_code 55 = .ok (.aload_n 0, 1) := by decide +kernel
theorem d_Model_code_56 : decode prog_10_method_16_code 56 = .ok (.dup, 1) := by decide +kernel
theorem d_Model_code_57 : decode prog_10_method_16_code 57 = .ok (.getfield 104, 3) := by decide +kernel
theorem d_Model_code_60 : decode prog_10_method_16_code 60 = .ok (.iconst 1, 1) := by decide +kernel
theorem d_Model_code_61 : decode prog_10_method_16_code 61 = .ok (.iadd, 1) := by decide +kernel
theorem d_Model_code_62 : decode prog_10_method_16_code 62 = .ok (.putfield 104, 3) := by decide +kernel
theorem d_Model_code_65 : decode prog_10_method_16_code 65 = .ok (.iinc 3 (-1), 3) := by decide +kernel
theorem d_Model_code_68 : decode prog_10_method_16_code 68 = .ok (.goto (-36), 3) := by decide +kernel
theorem d_Model_code_71 : decode prog_10_method_16_code 71 = .ok (.iconst 1, 1) := by decide +kernel
theorem d_Model_code_72 : decode prog_10_method_16_code 72 = .ok (.ireturn, 1) := by decide +kernel
theorem d_Model_code_26 : decode prog_10_method_16_code 26 = .ok (.iconst 0, 1) := by decide +kernel
theorem d_Model_code_27 : decode prog_10_method_16_code 27 = .ok (.ireturn, 1) := by decide +kernel
theorem d_Model_object_0 : decode prog_10_method_18_code 0 = .ok (.iload_n 1, 1) := by decide +kernel
theorem d_Model_object_1 : decode prog_10_method_18_code 1 = .ok (.iconst (-1), 1) := by decide +kernel
theorem d_Model_object_2 : decode prog_10_method_18_code 2 = .ok (.if_icmp .ne 7, 3) := by decide +kernel
theorem d_Model_object_5 : decode prog_10_method_18_code 5 = .ok (.iconst 0, 1) := by decide +kernel
theorem d_Model_object_6 : decode prog_10_method_18_code 6 = .ok (.goto 22, 3) := by decide +kernel
theorem d_Model_object_28 : decode prog_10_method_18_code 28 = .ok (.istore 4, 2) := by decide +kernel
theorem d_Model_object_30 : decode prog_10_method_18_code 30 = .ok (.aload_n 0, 1) := by decide +kernel
theorem d_Model_object_31 : decode prog_10_method_18_code 31 = .ok (.iload_n 1, 1) := by decide +kernel
theorem d_Model_object_32 : decode prog_10_method_18_code 32 = .ok (.invokevirtual 111, 3) := by decide +kernel
theorem d_Model_object_35 : decode prog_10_method_18_code 35 = .ok (.ifCond .eq 35, 3) := by decide +kernel
theorem d_Model_object_38 : decode prog_10_method_18_code 38 = .ok (.iload 4, 2) := by decide +kernel
theorem d_Model_object_40 : decode prog_10_method_18_code 40 = .ok (.iconst 1, 1) := by decide +kernel
theorem d_Model_object_41 : decode prog_10_method_18_code 41 = .ok (.if_icmp .lt 11, 3) := by decide +kernel
theorem d_Model_object_52 : decode prog_10_method_18_code 52 = .ok (.iload 4, 2) := by decide +kernel
theorem d_Model_object_54 : decode prog_10_method_18_code 54 = .ok (.iconst 2, 1) := by decide +kernel
theorem d_Model_object_55 : decode prog_10_method_18_code 55 = .ok (.if_icmp .lt 11, 3) := by decide +kernel
theorem d_Model_object_66 : decode prog_10_method_18_code 66 = .ok (.iconst 1, 1) := by decide +kernel
theorem d_Model_object_67 : decode prog_10_method_18_code 67 = .ok (.goto 4, 3) := by decide +kernel
theorem d_Model_object_71 : decode prog_10_method_18_code 71 = .ok (.istore 5, 2) := by decide +kernel
theorem d_Model_object_73 : decode prog_10_method_18_code 73 = .ok (.aload_n 0, 1) := by decide +kernel
theorem d_Model_object_74 : decode prog_10_method_18_code 74 = .ok (.iload 5, 2) := by decide +kernel
theorem d_Model_object_76 : decode prog_10_method_18_code 76 = .ok (.ifCond .ne 7, 3) := by decide +kernel
theorem d_Model_object_83 : decode prog_10_method_18_code 83 = .ok (.aload_n 0, 1) := by decide +kernel
theorem d_Model_object_84 : decode prog_10_method_18_code 84 = .ok (.getfield 71, 3) := by decide +kernel
theorem d_Model_object_87 : decode prog_10_method_18_code 87 = .ok (.ifCond .eq 12, 3) := by decide +kernel
theorem d_Model_object_90 : decode prog_10_method_18_code 90 = .ok (.aload_n 0, 1) := by decide +kernel
theorem d_Model_object_91 : decode prog_10_method_18_code 91 = .ok (.getfield 114, 3) := by decide +kernel
theorem d_Model_object_94 : decode prog_10_method_18_code 94 = .ok (.bipush 16, 2) := by decide +kernel
theorem d_Model_object_96 : decode prog_10_method_18_code 96 = .ok (.if_icmp .ne 7, 3) := by decide +kernel
theorem d_Model_object_103 : decode prog_10_method_18_code 103 = .ok (.iconst 0, 1) := by decide +kernel
theorem d_Model_object_104 : decode prog_10_method_18_code 104 = .ok (.putfield 75, 3) := by decide +kernel
theorem d_Model_object_107 : decode prog_10_method_18_code 107 = .ok (.aload_n 0, 1) := by decide +kernel
theorem d_Model_object_108 : decode prog_10_method_18_code 108 = .ok (.getfield 75, 3) := by decide +kernel
theorem d_Model_object_111 : decode prog_10_method_18_code 111 = .ok (.ifCond .le 5, 3) := by decide +kernel
theorem d_Model_object_116 : decode prog_10_method_18_code 116 = .ok (.aload_n 0, 1) := by decide +kernel
theorem d_Model_object_117 : decode prog_10_method_18_code 117 = .ok (.aload_n 0, 1) := by decide +kernel
theorem d_Model_object_118 : decode prog_10_method_18_code 118 = .ok (.getfield 114, 3) := by decide +kernel
theorem d_Model_object_121 : decode prog_10_method_18_code 121 = .ok (.invokevirtual 117, 3) := by decide +kernel
theorem d_Model_object_124 : decode prog_10_method_18_code 124 = .ok (.aload_n 0, 1) := by decide +kernel
theorem d_Model_object_125 : decode prog_10_method_18_code 125 = .ok (.getfield 13, 3) := by decide +kernel
theorem d_Model_object_128 : decode prog_10_method_18_code 128 = .ok (.bipush 29, 2) := by decide +kernel
theorem d_Model_object_130 : decode prog_10_method_18_code 130 = .ok (.aload_n 0, 1) := by decide +kernel
theorem d_Model_object_131 : decode prog_10_method_18_code 131 = .ok (.getfield 114, 3) := by decide +kernel
theorem d_Model_object_134 : decode prog_10_method_18_code 134 = .ok (.imul, 1) := by decide +kernel
theorem d_Model_object_135 : decode prog_10_method_18_code 135 = .ok (.iconst 1, 1) := by decide +kernel
theorem d_Model_object_136 : decode prog_10_method_18_code 136 = .ok (.iadd, 1) := by decide +kernel
theorem d_Model_object_137 : decode prog_10_method_18_code 137 = .ok (.iload 4, 2) := by decide +kernel
theorem d_Model_object_139 : decode prog_10_method_18_code 139 = .ok (.iastore, 1) := by decide +kernel
theorem d_Model_object_140 : decode prog_10_method_18_code 140 = .ok (.aload_n 0, 1) := by decide +kernel
theorem d_Model_object_141 : decode prog_10_method_18_code 141 = .ok (.getfield 13, 3) := by decide +kernel
theorem d_Model_object_144 : decode prog_10_method_18_code 144 = .ok (.bipush 29, 2) := by decide +kernel
theorem d_Model_object_146 : decode prog_10_method_18_code 146 = .ok (.aload_n 0, 1) := by decide +kernel
theorem d_Model_object_147 : decode prog_10_method_18_code 147 = .ok (.getfield 114, 3) := by decide +kernel
theorem d_Model_object_150 : decode prog_10_method_18_code 150 = .ok (.imul, 1) := by decide +kernel
theorem d_Model_object_151 : decode prog_10_method_18_code 151 = .ok (.iconst 2, 1) := by decide +kernel
theorem d_Model_object_152 : decode prog_10_method_18_code 152 = .ok (.iadd, 1) := by decide +kernel
theorem d_Model_object_153 : decode prog_10_method_18_code 153 = .ok (.iload_n 1, 1) := by decide +kernel
theorem d_Model_object_154 : decode prog_10_method_18_code 154 = .ok (.iastore, 1) := by decide +kernel
theorem d_Model_object_155 : decode prog_10_method_18_code 155 = .ok (.aload_n 0, 1) := by decide +kernel
theorem d_Model_object_156 : decode prog_10_method_18_code 156 = .ok (.getfield 13, 3) := by decide +kernel
theorem d_Model_object_159 : decode prog_10_method_18_code 159 = .ok (.bipush 29, 2) := by decide +kernel
theorem d_Model_object_161 : decode prog_10_method_18_code 161 = .ok (.aload_n 0, 1) := by decide +kernel
theorem d_Model_object_162 : decode prog_10_method_18_code 162 = .ok (.getfield 114, 3) := by decide +kernel
theorem d_Model_object_165 : decode prog_10_method_18_code 165 = .ok (.imul, 1) := by decide +kernel
theorem d_Model_object_166 : decode prog_10_method_18_code 166 = .ok (.iconst 3, 1) := by decide +kernel
theorem d_Model_object_167 : decode prog_10_method_18_code 167 = .ok (.iadd, 1) := by decide +kernel
theorem d_Model_object_168 : decode prog_10_method_18_code 168 = .ok (.iload_n 2, 1) := by decide +kernel
theorem d_Model_object_169 : decode prog_10_method_18_code 169 = .ok (.iastore, 1) := by decide +kernel
theorem d_Model_object_170 : decode prog_10_method_18_code 170 = .ok (.aload_n 0, 1) := by decide +kernel
theorem d_Model_object_171 : decode prog_10_method_18_code 171 = .ok (.getfield 13, 3) := by decide +kernel
theorem d_Model_object_174 : decode prog_10_method_18_code 174 = .ok (.bipush 29, 2) := by decide +kernel
theorem d_Model_object_176 : decode prog_10_method_18_code 176 = .ok (.aload_n 0, 1) := by decide +kernel
theorem d_Model_object_177 : decode prog_10_method_18_code 177 = .ok (.getfield 114, 3) := by decide +kernel
theorem d_Model_object_180 : decode prog_10_method_18_code 180 = .ok (.imul, 1) := by decide +kernel
theorem d_Model_object_181 : decode prog_10_method_18_code 181 = .ok (.iconst 4, 1) := by decide +kernel
theorem d_Model_object_182 : decode prog_10_method_18_code 182 = .ok (.iadd, 1) := by decide +kernel
theorem d_Model_object_183 : decode prog_10_method_18_code 183 = .ok (.iload_n 3, 1) := by decide +kernel
theorem d_Model_object_184 : decode prog_10_method_18_code 184 = .ok (.iastore, 1) := by decide +kernel
theorem d_Model_object_185 : decode prog_10_method_18_code 185 = .ok (.aload_n 0, 1) := by decide +kernel
theorem d_Model_object_186 : decode prog_10_method_18_code 186 = .ok (.dup, 1) := by decide +kernel
theorem d_Model_object_187 : decode prog_10_method_18_code 187 = .ok (.getfield 114, 3) := by decide +kernel
theorem d_Model_object_190 : decode prog_10_method_18_code 190 = .ok (.iconst 1, 1) := by decide +kernel
theorem d_Model_object_191 : decode prog_10_method_18_code 191 = .ok (.iadd, 1) := by decide +kernel
theorem d_Model_object_192 : decode prog_10_method_18_code 192 = .ok (.putfield 114, 3) := by decide +kernel
theorem d_Model_object_195 : decode prog_10_method_18_code 195 = .ok (.aload_n 0, 1) := by decide +kernel
theorem d_Model_object_196 : decode prog_10_method_18_code 196 = .ok (.getfield 16, 3) := by decide +kernel
theorem d_Model_object_199 : decode prog_10_method_18_code 199 = .ok (.iconst 0, 1) := by decide +kernel
theorem d_Model_object_200 : decode prog_10_method_18_code 200 = .ok (.iconst 0, 1) := by decide +kernel
theorem d_Model_object_201 : decode prog_10_method_18_code 201 = .ok (.bastore, 1) := by decide +kernel
theorem d_Model_object_202 : decode prog_10_method_18_code 202 = .ok (.aload_n 0, 1) := by decide +kernel
theorem d_Model_object_203 : decode prog_10_method_18_code 203 = .ok (.getfield 16, 3) := by decide +kernel
theorem d_Model_object_206 : decode prog_10_method_18_code 206 = .ok (.iconst 1, 1) := by decide +kernel
theorem d_Model_object_207 : decode prog_10_method_18_code 207 = .ok (.iconst 0, 1) := by decide +kernel
theorem d_Model_object_208 : decode prog_10_method_18_code 208 = .ok (.bastore, 1) := by decide +kernel
theorem d_Model_object_209 : decode prog_10_method_18_code 209 = .ok (.aload_n 0, 1) := by decide +kernel
theorem d_Model_object_210 : decode prog_10_method_18_code 210 = .ok (.getfield 114, 3) := by decide +kernel
theorem d_Model_object_213 : decode prog_10_method_18_code 213 = .ok (.iconst 1, 1) := by decide +kernel
theorem d_Model_object_214 : decode prog_10_method_18_code 214 = .ok (.isub, 1) := by decide +kernel
theorem d_Model_object_215 : decode prog_10_method_18_code 215 = .ok (.ireturn, 1) := by decide +kernel
theorem d_Model_object_9 : decode prog_10_method_18_code 9 = .ok (.iload_n 2, 1) := by decide +kernel
theorem d_Model_object_10 : decode prog_10_method_18_code 10 = .ok (.iconst (-1), 1) := by decide +kernel
theorem d_Model_object_11 : decode prog_10_method_18_code 11 = .ok (.if_icmp .ne 7, 3) := by decide +kernel
theorem d_Model_object_18 : decode prog_10_method_18_code 18 = .ok (.iload_n 3, 1) := by decide +kernel
theorem d_Model_object_19 : decode prog_10_method_18_code 19 = .ok (.iconst (-1), 1) := by decide +kernel
theorem d_Model_object_20 : decode prog_10_method_18_code 20 = .ok (.if_icmp .ne 7, 3) := by decide +kernel
theorem d_Model_object_27 : decode prog_10_method_18_code 27 = .ok (.iconst 3, 1) := by decide +kernel
theorem d_Model_object_70 : decode prog_10_method_18_code 70 = .ok (.iconst 0, 1) := by decide +kernel
theorem d_Model_object_79 : decode prog_10_method_18_code 79 = .ok (.iconst 1, 1) := by decide +kernel
theorem d_Model_object_80 : decode prog_10_method_18_code 80 = .ok (.goto 24, 3) := by decide +kernel
theorem d_Model_object_114 : decode prog_10_method_18_code 114 = .ok (.iconst 0, 1) := by decide +kernel
theorem d_Model_object_115 : decode prog_10_method_18_code 115 = .ok (.ireturn, 1) := by decide +kernel
theorem d_Model_object_23 : decode prog_10_method_18_code 23 = .ok (.iconst 2, 1) := by decide +kernel
theorem d_Model_object_24 : decode prog_10_method_18_code 24 = .ok (.goto 4, 3) := by decide +kernel
theorem d_Model_object_14 : decode prog_10_method_18_code 14 = .ok (.iconst 1, 1) := by decide +kernel
theorem d_Model_object_15 : decode prog_10_method_18_code 15 = .ok (.goto 13, 3) := by decide +kernel
theorem d_Model_property_0 : decode prog_10_method_19_code 0 = .ok (.iload_n 2, 1) := by decide +kernel
theorem d_Model_property_1 : decode prog_10_method_19_code 1 = .ok (.iconst 0, 1) := by decide +kernel
theorem d_Model_property_2 : decode prog_10_method_19_code 2 = .ok (.bipush 7, 2) := by decide +kernel
theorem d_Model_property_4 : decode prog_10_method_19_code 4 = .ok (.invokestatic 78, 3) := by decide +kernel
theorem d_Model_property_7 : decode prog_10_method_19_code 7 = .ok (.ifCond .ne 47, 3) := by decide +kernel
theorem d_Model_property_54 : decode prog_10_method_19_code 54 = .ok (.iconst 0, 1) := by decide +kernel
theorem d_Model_property_55 : decode prog_10_method_19_code 55 = .ok (.istore 5, 2) := by decide +kernel
theorem d_Model_property_57 : decode prog_10_method_19_code 57 = .ok (.aload_n 0, 1) := by decide +kernel
theorem d_Model_property_58 : decode prog_10_method_19_code 58 = .ok (.aload_n 0, 1) := by decide +kernel
theorem d_Model_property_59 : decode prog_10_method_19_code 59 = .ok (.iload_n 1, 1) := by decide +kernel
theorem d_Model_property_60 : decode prog_10_method_19_code 60 = .ok (.invokevirtual 107, 3) := by decide +kernel
theorem d_Model_property_63 : decode prog_10_method_19_code 63 = .ok (.ifCond .ne 7, 3) := by decide +kernel
theorem d_Model_property_66 : decode prog_10_method_19_code 66 = .ok (.iconst 1, 1) := by decide +kernel
theorem d_Model_property_67 : decode prog_10_method_19_code 67 = .ok (.goto 24, 3) := by decide +kernel
theorem d_Model_property_91 : decode prog_10_method_19_code 91 = .ok (.putfield 75, 3) := by decide +kernel
theorem d_Model_property_94 : decode prog_10_method_19_code 94 = .ok (.aload_n 0, 1) := by decide +kernel
theorem d_Model_property_95 : decode prog_10_method_19_code 95 = .ok (.getfield 75, 3) := by decide +kernel
theorem d_Model_property_98 : decode prog_10_method_19_code 98 = .ok (.ifCond .le 4, 3) := by decide +kernel
theorem d_Model_property_101 : decode prog_10_method_19_code 101 = .ok (.return_, 1) := by decide +kernel
theorem d_Model_property_10 : decode prog_10_method_19_code 10 = .ok (.iload_n 3, 1) := by decide +kernel
theorem d_Model_property_11 : decode prog_10_method_19_code 11 = .ok (.iconst (-1), 1) := by decide +kernel
theorem d_Model_property_12 : decode prog_10_method_19_code 12 = .ok (.iconst 4, 1) := by decide +kernel
theorem d_Model_property_13 : decode prog_10_method_19_code 13 = .ok (.invokestatic 78, 3) := by decide +kernel
theorem d_Model_property_16 : decode prog_10_method_19_code 16 = .ok (.ifCond .ne 38, 3) := by decide +kernel
theorem d_Model_property_19 : decode prog_10_method_19_code 19 = .ok (.iload_n 3, 1) := by decide +kernel
theorem d_Model_property_20 : decode prog_10_method_19_code 20 = .ok (.iconst 3, 1) := by decide +kernel
theorem d_Model_property_21 : decode prog_10_method_19_code 21 = .ok (.if_icmp .ne 12, 3) := by decide +kernel
theorem d_Model_property_33 : decode prog_10_method_19_code 33 = .ok (.iload_n 3, 1) := by decide +kernel
theorem d_Model_property_34 : decode prog_10_method_19_code 34 = .ok (.iconst 4, 1) := by decide +kernel
theorem d_Model_property_35 : decode prog_10_method_19_code 35 = .ok (.if_icmp .ne 15, 3) := by decide +kernel
theorem d_Model_property_50 : decode prog_10_method_19_code 50 = .ok (.iconst 1, 1) := by decide +kernel
theorem d_Model_property_51 : decode prog_10_method_19_code 51 = .ok (.goto 4, 3) := by decide +kernel
theorem d_Model_property_38 : decode prog_10_method_19_code 38 = .ok (.iload 4, 2) := by decide +kernel
theorem d_Model_property_40 : decode prog_10_method_19_code 40 = .ok (.iconst 0, 1) := by decide +kernel
theorem d_Model_property_41 : decode prog_10_method_19_code 41 = .ok (.sipush 299, 3) := by decide +kernel
theorem d_Model_property_44 : decode prog_10_method_19_code 44 = .ok (.invokestatic 78, 3) := by decide +kernel
theorem d_Model_property_47 : decode prog_10_method_19_code 47 = .ok (.ifCond .ne 7, 3) := by decide +kernel
theorem d_Model_property_24 : decode prog_10_method_19_code 24 = .ok (.aload_n 0, 1) := by decide +kernel
theorem d_Model_property_25 : decode prog_10_method_19_code 25 = .ok (.iload 4, 2) := by decide +kernel
theorem d_Model_property_27 : decode prog_10_method_19_code 27 = .ok (.invokevirtual 107, 3) := by decide +kernel
theorem d_Model_property_30 : decode prog_10_method_19_code 30 = .ok (.ifCond .eq 24, 3) := by decide +kernel
theorem d_Model_begin_0 : decode prog_10_method_24_code 0 = .ok (.aload_n 0, 1) := by decide +kernel
theorem d_Model_begin_1 : decode prog_10_method_24_code 1 = .ok (.iconst 0, 1) := by decide +kernel
theorem d_Model_begin_2 : decode prog_10_method_24_code 2 = .ok (.putfield 75, 3) := by decide +kernel
theorem d_Model_begin_5 : decode prog_10_method_24_code 5 = .ok (.aload_n 0, 1) := by decide +kernel
theorem d_Model_begin_6 : decode prog_10_method_24_code 6 = .ok (.iload_n 1, 1) := by decide +kernel
theorem d_Model_begin_7 : decode prog_10_method_24_code 7 = .ok (.invokevirtual 107, 3) := by decide +kernel
theorem d_Model_begin_10 : decode prog_10_method_24_code 10 = .ok (.ifCond .ne 11, 3) := by decide +kernel
theorem d_Model_begin_13 : decode prog_10_method_24_code 13 = .ok (.aload_n 0, 1) := by decide +kernel
theorem d_Model_begin_14 : decode prog_10_method_24_code 14 = .ok (.iconst 1, 1) := by decide +kernel
theorem d_Model_begin_15 : decode prog_10_method_24_code 15 = .ok (.putfield 75, 3) := by decide +kernel
theorem d_Model_begin_18 : decode prog_10_method_24_code 18 = .ok (.goto 18, 3) := by decide +kernel
theorem d_Model_begin_36 : decode prog_10_method_24_code 36 = .ok (.aload_n 0, 1) := by decide +kernel
theorem d_Model_begin_37 : decode prog_10_method_24_code 37 = .ok (.getfield 75, 3) := by decide +kernel
theorem d_Model_begin_40 : decode prog_10_method_24_code 40 = .ok (.ifCond .le 4, 3) := by decide +kernel
theorem d_Model_begin_43 : decode prog_10_method_24_code 43 = .ok (.return_, 1) := by decide +kernel
theorem d_Model_run_0 : decode prog_10_method_26_code 0 = .ok (.aload_n 0, 1) := by decide +kernel
theorem d_Model_run_1 : decode prog_10_method_26_code 1 = .ok (.iconst 0, 1) := by decide +kernel
theorem d_Model_run_2 : decode prog_10_method_26_code 2 = .ok (.putfield 75, 3) := by decide +kernel
theorem d_Model_run_5 : decode prog_10_method_26_code 5 = .ok (.iconst 0, 1) := by decide +kernel
theorem d_Model_run_6 : decode prog_10_method_26_code 6 = .ok (.istore_n 2, 1) := by decide +kernel
theorem d_Model_run_7 : decode prog_10_method_26_code 7 = .ok (.iload_n 2, 1) := by decide +kernel
theorem d_Model_run_8 : decode prog_10_method_26_code 8 = .ok (.iload_n 1, 1) := by decide +kernel
theorem d_Model_run_9 : decode prog_10_method_26_code 9 = .ok (.if_icmp .ge 36, 3) := by decide +kernel
theorem d_Model_run_45 : decode prog_10_method_26_code 45 = .ok (.aload_n 0, 1) := by decide +kernel
theorem d_Model_run_46 : decode prog_10_method_26_code 46 = .ok (.getfield 71, 3) := by decide +kernel
theorem d_Model_run_49 : decode prog_10_method_26_code 49 = .ok (.ireturn, 1) := by decide +kernel
theorem d_Model_run_12 : decode prog_10_method_26_code 12 = .ok (.iload_n 2, 1) := by decide +kernel
theorem d_Model_run_13 : decode prog_10_method_26_code 13 = .ok (.sipush 3000, 3) := by decide +kernel
theorem d_Model_run_16 : decode prog_10_method_26_code 16 = .ok (.if_icmp .ge 29, 3) := by decide +kernel
theorem d_Model_run_19 : decode prog_10_method_26_code 19 = .ok (.aload_n 0, 1) := by decide +kernel
theorem d_Model_run_20 : decode prog_10_method_26_code 20 = .ok (.getfield 71, 3) := by decide +kernel
theorem d_Model_run_23 : decode prog_10_method_26_code 23 = .ok (.ifCond .ne 22, 3) := by decide +kernel
theorem d_Model_stop_0 : decode prog_10_method_27_code 0 = .ok (.aload_n 0, 1) := by decide +kernel
theorem d_Model_stop_1 : decode prog_10_method_27_code 1 = .ok (.iconst 0, 1) := by decide +kernel
theorem d_Model_stop_2 : decode prog_10_method_27_code 2 = .ok (.putfield 75, 3) := by decide +kernel
theorem d_Model_stop_5 : decode prog_10_method_27_code 5 = .ok (.aload_n 0, 1) := by decide +kernel
theorem d_Model_stop_6 : decode prog_10_method_27_code 6 = .ok (.getfield 71, 3) := by decide +kernel
theorem d_Model_stop_9 : decode prog_10_method_27_code 9 = .ok (.ifCond .eq 5, 3) := by decide +kernel
theorem d_Model_stop_12 : decode prog_10_method_27_code 12 = .ok (.iconst 0, 1) := by decide +kernel
theorem d_Model_stop_13 : decode prog_10_method_27_code 13 = .ok (.ireturn, 1) := by decide +kernel
theorem d_Model_mark_0 : decode prog_10_method_48_code 0 = .ok (.iload_n 2, 1) := by decide +kernel
theorem d_Model_mark_1 : decode prog_10_method_48_code 1 = .ok (.iconst 3, 1) := by decide +kernel
theorem d_Model_mark_2 : decode prog_10_method_48_code 2 = .ok (.if_icmp .ne 19, 3) := by decide +kernel
theorem d_Model_mark_21 : decode prog_10_method_48_code 21 = .ok (.iload_n 1, 1) := by decide +kernel
theorem d_Model_mark_22 : decode prog_10_method_48_code 22 = .ok (.ireturn, 1) := by decide +kernel
theorem d_Model_mark_5 : decode prog_10_method_48_code 5 = .ok (.aload_n 0, 1) := by decide +kernel
theorem d_Model_mark_6 : decode prog_10_method_48_code 6 = .ok (.iload_n 3, 1) := by decide +kernel
theorem d_Model_mark_7 : decode prog_10_method_48_code 7 = .ok (.invokevirtual 107, 3) := by decide +kernel
theorem d_Model_mark_10 : decode prog_10_method_48_code 10 = .ok (.ifCond .eq 11, 3) := by decide +kernel
theorem d_Model_collect_0 : decode prog_10_method_50_code 0 = .ok (.aload_n 0, 1) := by decide +kernel
theorem d_Model_collect_1 : decode prog_10_method_50_code 1 = .ok (.iconst 0, 1) := by decide +kernel
theorem d_Model_collect_2 : decode prog_10_method_50_code 2 = .ok (.putfield 75, 3) := by decide +kernel
theorem d_Model_collect_5 : decode prog_10_method_50_code 5 = .ok (.aload_n 0, 1) := by decide +kernel
theorem d_Model_collect_6 : decode prog_10_method_50_code 6 = .ok (.iconst 0, 1) := by decide +kernel
theorem d_Model_collect_7 : decode prog_10_method_50_code 7 = .ok (.aload_n 0, 1) := by decide +kernel
theorem d_Model_collect_8 : decode prog_10_method_50_code 8 = .ok (.getfield 147, 3) := by decide +kernel
theorem d_Model_collect_11 : decode prog_10_method_50_code 11 = .ok (.aload_n 0, 1) := by decide +kernel
theorem d_Model_collect_12 : decode prog_10_method_50_code 12 = .ok (.getfield 150, 3) := by decide +kernel
theorem d_Model_collect_15 : decode prog_10_method_50_code 15 = .ok (.invokevirtual 232, 3) := by decide +kernel
theorem d_Model_collect_18 : decode prog_10_method_50_code 18 = .ok (.istore_n 1, 1) := by decide +kernel
theorem d_Model_collect_19 : decode prog_10_method_50_code 19 = .ok (.iconst 0, 1) := by decide +kernel
theorem d_Model_collect_20 : decode prog_10_method_50_code 20 = .ok (.istore_n 2, 1) := by decide +kernel
theorem d_Model_collect_21 : decode prog_10_method_50_code 21 = .ok (.iload_n 2, 1) := by decide +kernel
theorem d_Model_collect_22 : decode prog_10_method_50_code 22 = .ok (.bipush 16, 2) := by decide +kernel
theorem d_Model_collect_24 : decode prog_10_method_50_code 24 = .ok (.if_icmp .ge 17, 3) := by decide +kernel
theorem d_Model_collect_27 : decode prog_10_method_50_code 27 = .ok (.aload_n 0, 1) := by decide +kernel
theorem d_Model_collect_28 : decode prog_10_method_50_code 28 = .ok (.iload_n 1, 1) := by decide +kernel
theorem d_Model_collect_29 : decode prog_10_method_50_code 29 = .ok (.iconst 3, 1) := by decide +kernel
theorem d_Model_collect_30 : decode prog_10_method_50_code 30 = .ok (.iload_n 2, 1) := by decide +kernel
theorem d_Model_collect_31 : decode prog_10_method_50_code 31 = .ok (.invokevirtual 232, 3) := by decide +kernel
theorem d_Model_collect_34 : decode prog_10_method_50_code 34 = .ok (.istore_n 1, 1) := by decide +kernel
theorem d_Model_collect_35 : decode prog_10_method_50_code 35 = .ok (.iinc 2 1, 3) := by decide +kernel
theorem d_Model_collect_38 : decode prog_10_method_50_code 38 = .ok (.goto (-17), 3) := by decide +kernel
theorem d_Model_collect_41 : decode prog_10_method_50_code 41 = .ok (.iconst 0, 1) := by decide +kernel
theorem d_Model_collect_42 : decode prog_10_method_50_code 42 = .ok (.istore_n 2, 1) := by decide +kernel
theorem d_Model_collect_43 : decode prog_10_method_50_code 43 = .ok (.iload_n 2, 1) := by decide +kernel
theorem d_Model_collect_44 : decode prog_10_method_50_code 44 = .ok (.aload_n 0, 1) := by decide +kernel
theorem d_Model_collect_45 : decode prog_10_method_50_code 45 = .ok (.getfield 130, 3) := by decide +kernel
theorem d_Model_collect_48 : decode prog_10_method_50_code 48 = .ok (.if_icmp .ge 27, 3) := by decide +kernel
theorem d_Model_collect_75 : decode prog_10_method_50_code 75 = .ok (.iconst 0, 1) := by decide +kernel
theorem d_Model_collect_76 : decode prog_10_method_50_code 76 = .ok (.istore_n 2, 1) := by decide +kernel
theorem d_Model_collect_77 : decode prog_10_method_50_code 77 = .ok (.iload_n 2, 1) := by decide +kernel
theorem d_Model_collect_78 : decode prog_10_method_50_code 78 = .ok (.aload_n 0, 1) := by decide +kernel
theorem d_Model_collect_79 : decode prog_10_method_50_code 79 = .ok (.getfield 127, 3) := by decide +kernel
theorem d_Model_collect_82 : decode prog_10_method_50_code 82 = .ok (.if_icmp .ge 33, 3) := by decide +kernel
theorem d_Model_collect_115 : decode prog_10_method_50_code 115 = .ok (.iconst 0, 1) := by decide +kernel
theorem d_Model_collect_116 : decode prog_10_method_50_code 116 = .ok (.istore_n 2, 1) := by decide +kernel
theorem d_Model_collect_117 : decode prog_10_method_50_code 117 = .ok (.iload_n 1, 1) := by decide +kernel
theorem d_Model_collect_118 : decode prog_10_method_50_code 118 = .ok (.iload_n 2, 1) := by decide +kernel
theorem d_Model_collect_119 : decode prog_10_method_50_code 119 = .ok (.if_icmp .eq 14, 3) := by decide +kernel
theorem d_Model_collect_133 : decode prog_10_method_50_code 133 = .ok (.iconst 0, 1) := by decide +kernel
theorem d_Model_collect_134 : decode prog_10_method_50_code 134 = .ok (.istore_n 3, 1) := by decide +kernel
theorem d_Model_collect_135 : decode prog_10_method_50_code 135 = .ok (.bipush 16, 2) := by decide +kernel
theorem d_Model_collect_137 : decode prog_10_method_50_code 137 = .ok (.istore 4, 2) := by decide +kernel
theorem d_Model_collect_139 : decode prog_10_method_50_code 139 = .ok (.iload 4, 2) := by decide +kernel
theorem d_Model_collect_141 : decode prog_10_method_50_code 141 = .ok (.bipush 32, 2) := by decide +kernel
theorem d_Model_collect_143 : decode prog_10_method_50_code 143 = .ok (.if_icmp .ge 63, 3) := by decide +kernel
theorem d_Model_collect_146 : decode prog_10_method_50_code 146 = .ok (.aload_n 0, 1) := by decide +kernel
theorem d_Model_collect_147 : decode prog_10_method_50_code 147 = .ok (.iload 4, 2) := by decide +kernel
theorem d_Model_collect_149 : decode prog_10_method_50_code 149 = .ok (.invokevirtual 107, 3) := by decide +kernel
theorem d_Model_collect_152 : decode prog_10_method_50_code 152 = .ok (.ifCond .eq 16, 3) := by decide +kernel
theorem d_Model_collect_168 : decode prog_10_method_50_code 168 = .ok (.iconst 0, 1) := by decide +kernel
theorem d_Model_collect_169 : decode prog_10_method_50_code 169 = .ok (.istore 5, 2) := by decide +kernel
theorem d_Model_collect_171 : decode prog_10_method_50_code 171 = .ok (.iload 5, 2) := by decide +kernel
theorem d_Model_collect_173 : decode prog_10_method_50_code 173 = .ok (.ifCond .eq 14, 3) := by decide +kernel
theorem d_Model_collect_187 : decode prog_10_method_50_code 187 = .ok (.iload 5, 2) := by decide +kernel
theorem d_Model_collect_189 : decode prog_10_method_50_code 189 = .ok (.ifCond .eq 9, 3) := by decide +kernel
theorem d_Model_collect_198 : decode prog_10_method_50_code 198 = .ok (.iload_n 3, 1) := by decide +kernel
theorem d_Model_collect_199 : decode prog_10_method_50_code 199 = .ok (.istore_n 3, 1) := by decide +kernel
theorem d_Model_collect_200 : decode prog_10_method_50_code 200 = .ok (.iinc 4 1, 3) := by decide +kernel
theorem d_Model_collect_203 : decode prog_10_method_50_code 203 = .ok (.goto (-64), 3) := by decide +kernel
theorem d_Model_collect_206 : decode prog_10_method_50_code 206 = .ok (.iload_n 3, 1) := by decide +kernel
theorem d_Model_collect_207 : decode prog_10_method_50_code 207 = .ok (.ireturn, 1) := by decide +kernel
theorem d_Model_stack_0 : decode prog_10_method_51_code 0 = .ok (.iload_n 1, 1) := by decide +kernel
theorem d_Model_stack_1 : decode prog_10_method_51_code 1 = .ok (.iconst 0, 1) := by decide +kernel
theorem d_Model_stack_2 : decode prog_10_method_51_code 2 = .ok (.aload_n 0, 1) := by decide +kernel
theorem d_Model_stack_3 : decode prog_10_method_51_code 3 = .ok (.getfield 130, 3) := by decide +kernel
theorem d_Model_stack_6 : decode prog_10_method_51_code 6 = .ok (.iconst 1, 1) := by decide +kernel
theorem d_Model_stack_7 : decode prog_10_method_51_code 7 = .ok (.isub, 1) := by decide +kernel
theorem d_Model_stack_8 : decode prog_10_method_51_code 8 = .ok (.invokestatic 78, 3) := by decide +kernel
theorem d_Model_stack_11 : decode prog_10_method_51_code 11 = .ok (.ifCond .ne 12, 3) := by decide +kernel
theorem d_Model_stack_23 : decode prog_10_method_51_code 23 = .ok (.aload_n 0, 1) := by decide +kernel
theorem d_Model_stack_24 : decode prog_10_method_51_code 24 = .ok (.iconst 1, 1) := by decide +kernel
theorem d_Model_stack_25 : decode prog_10_method_51_code 25 = .ok (.invokevirtual 238, 3) := by decide +kernel
theorem d_Model_stack_28 : decode prog_10_method_51_code 28 = .ok (.ireturn, 1) := by decide +kernel
theorem d_Model_said_0 : decode prog_10_method_53_code 0 = .ok (.iload_n 1, 1) := by decide +kernel
theorem d_Model_said_1 : decode prog_10_method_53_code 1 = .ok (.iconst (-1), 1) := by decide +kernel
theorem d_Model_said_2 : decode prog_10_method_53_code 2 = .ok (.aload_n 0, 1) := by decide +kernel
theorem d_Model_said_3 : decode prog_10_method_53_code 3 = .ok (.getfield 144, 3) := by decide +kernel
theorem d_Model_said_6 : decode prog_10_method_53_code 6 = .ok (.iconst 1, 1) := by decide +kernel
theorem d_Model_said_7 : decode prog_10_method_53_code 7 = .ok (.isub, 1) := by decide +kernel
theorem d_Model_said_8 : decode prog_10_method_53_code 8 = .ok (.invokestatic 78, 3) := by decide +kernel
theorem d_Model_said_11 : decode prog_10_method_53_code 11 = .ok (.ifCond .ne 33, 3) := by decide +kernel
theorem d_Model_said_44 : decode prog_10_method_53_code 44 = .ok (.aload_n 0, 1) := by decide +kernel
theorem d_Model_said_45 : decode prog_10_method_53_code 45 = .ok (.iconst 1, 1) := by decide +kernel
theorem d_Model_said_46 : decode prog_10_method_53_code 46 = .ok (.invokevirtual 238, 3) := by decide +kernel
theorem d_Model_said_49 : decode prog_10_method_53_code 49 = .ok (.ireturn, 1) := by decide +kernel
theorem d_Model_said_14 : decode prog_10_method_53_code 14 = .ok (.iload_n 2, 1) := by decide +kernel
theorem d_Model_said_15 : decode prog_10_method_53_code 15 = .ok (.iconst 0, 1) := by decide +kernel
theorem d_Model_said_16 : decode prog_10_method_53_code 16 = .ok (.iconst 1, 1) := by decide +kernel
theorem d_Model_said_17 : decode prog_10_method_53_code 17 = .ok (.invokestatic 78, 3) := by decide +kernel
theorem d_Model_said_20 : decode prog_10_method_53_code 20 = .ok (.ifCond .ne 24, 3) := by decide +kernel
theorem d_Model_said_23 : decode prog_10_method_53_code 23 = .ok (.iload_n 1, 1) := by decide +kernel
theorem d_Model_said_24 : decode prog_10_method_53_code 24 = .ok (.iconst (-1), 1) := by decide +kernel
theorem d_Model_said_25 : decode prog_10_method_53_code 25 = .ok (.if_icmp .ne 25, 3) := by decide +kernel
theorem d_Model_said_28 : decode prog_10_method_53_code 28 = .ok (.aload_n 0, 1) := by decide +kernel
theorem d_Model_said_29 : decode prog_10_method_53_code 29 = .ok (.getfield 71, 3) := by decide +kernel
theorem d_Model_said_32 : decode prog_10_method_53_code 32 = .ok (.iconst 1, 1) := by decide +kernel
theorem d_Model_said_33 : decode prog_10_method_53_code 33 = .ok (.if_icmp .eq 17, 3) := by decide +kernel
theorem d_Model_said_36 : decode prog_10_method_53_code 36 = .ok (.aload_n 0, 1) := by decide +kernel
theorem d_Model_said_37 : decode prog_10_method_53_code 37 = .ok (.getfield 71, 3) := by decide +kernel
theorem d_Model_said_40 : decode prog_10_method_53_code 40 = .ok (.iconst 2, 1) := by decide +kernel
theorem d_Model_said_41 : decode prog_10_method_53_code 41 = .ok (.if_icmp .eq 9, 3) := by decide +kernel
theorem d_Model_has_0 : decode prog_10_method_54_code 0 = .ok (.aload_n 0, 1) := by decide +kernel
theorem d_Model_has_1 : decode prog_10_method_54_code 1 = .ok (.iload_n 1, 1) := by decide +kernel
theorem d_Model_has_2 : decode prog_10_method_54_code 2 = .ok (.invokevirtual 107, 3) := by decide +kernel
theorem d_Model_has_5 : decode prog_10_method_54_code 5 = .ok (.ifCond .eq 22, 3) := by decide +kernel
theorem d_Model_has_27 : decode prog_10_method_54_code 27 = .ok (.aload_n 0, 1) := by decide +kernel
theorem d_Model_has_28 : decode prog_10_method_54_code 28 = .ok (.iconst 1, 1) := by decide +kernel
theorem d_Model_has_29 : decode prog_10_method_54_code 29 = .ok (.invokevirtual 238, 3) := by decide +kernel
theorem d_Model_has_32 : decode prog_10_method_54_code 32 = .ok (.ireturn, 1) := by decide +kernel
theorem d_Model_isOf_0 : decode prog_10_method_55_code 0 = .ok (.aload_n 0, 1) := by decide +kernel
theorem d_Model_isOf_1 : decode prog_10_method_55_code 1 = .ok (.iconst 0, 1) := by decide +kernel
theorem d_Model_isOf_2 : decode prog_10_method_55_code 2 = .ok (.putfield 75, 3) := by decide +kernel
theorem d_Model_isOf_5 : decode prog_10_method_55_code 5 = .ok (.aload_n 0, 1) := by decide +kernel
theorem d_Model_isOf_6 : decode prog_10_method_55_code 6 = .ok (.iload_n 1, 1) := by decide +kernel
theorem d_Model_isOf_7 : decode prog_10_method_55_code 7 = .ok (.invokevirtual 107, 3) := by decide +kernel
theorem d_Model_isOf_10 : decode prog_10_method_55_code 10 = .ok (.ifCond .eq 24, 3) := by decide +kernel
theorem d_Model_isOf_34 : decode prog_10_method_55_code 34 = .ok (.iconst 0, 1) := by decide +kernel
theorem d_Model_isOf_35 : decode prog_10_method_55_code 35 = .ok (.ireturn, 1) := by decide +kernel
theorem d_Model_show_0 : decode prog_10_method_52_code 0 = .ok (.iload_n 1, 1) := by decide +kernel
theorem d_Model_show_1 : decode prog_10_method_52_code 1 = .ok (.iconst 0, 1) := by decide +kernel
theorem d_Model_show_2 : decode prog_10_method_52_code 2 = .ok (.iconst 5, 1) := by decide +kernel
theorem d_Model_show_3 : decode prog_10_method_52_code 3 = .ok (.invokestatic 78, 3) := by decide +kernel
theorem d_Model_show_6 : decode prog_10_method_52_code 6 = .ok (.ifCond .ne 20, 3) := by decide +kernel
theorem d_Model_show_9 : decode prog_10_method_52_code 9 = .ok (.aload_n 0, 1) := by decide +kernel
theorem d_Model_show_10 : decode prog_10_method_52_code 10 = .ok (.getfield 127, 3) := by decide +kernel
theorem d_Model_show_13 : decode prog_10_method_52_code 13 = .ok (.ifCond .ne 19, 3) := by decide +kernel
theorem d_Model_show_16 : decode prog_10_method_52_code 16 = .ok (.iload_n 1, 1) := by decide +kernel
theorem d_Model_show_17 : decode prog_10_method_52_code 17 = .ok (.iconst 1, 1) := by decide +kernel
theorem d_Model_show_18 : decode prog_10_method_52_code 18 = .ok (.if_icmp .eq 8, 3) := by decide +kernel
theorem d_Model_show_21 : decode prog_10_method_52_code 21 = .ok (.iload_n 1, 1) := by decide +kernel
theorem d_Model_show_22 : decode prog_10_method_52_code 22 = .ok (.iconst 2, 1) := by decide +kernel
theorem d_Model_show_23 : decode prog_10_method_52_code 23 = .ok (.if_icmp .ne 9, 3) := by decide +kernel
theorem d_Model_show_32 : decode prog_10_method_52_code 32 = .ok (.aload_n 0, 1) := by decide +kernel
theorem d_Model_show_33 : decode prog_10_method_52_code 33 = .ok (.iconst 0, 1) := by decide +kernel
theorem d_Model_show_34 : decode prog_10_method_52_code 34 = .ok (.putfield 75, 3) := by decide +kernel
theorem d_Model_show_37 : decode prog_10_method_52_code 37 = .ok (.iconst 0, 1) := by decide +kernel
theorem d_Model_show_38 : decode prog_10_method_52_code 38 = .ok (.istore_n 2, 1) := by decide +kernel
theorem d_Model_show_39 : decode prog_10_method_52_code 39 = .ok (.iconst 0, 1) := by decide +kernel
theorem d_Model_show_40 : decode prog_10_method_52_code 40 = .ok (.istore_n 3, 1) := by decide +kernel
theorem d_Model_show_41 : decode prog_10_method_52_code 41 = .ok (.iload_n 3, 1) := by decide +kernel
theorem d_Model_show_42 : decode prog_10_method_52_code 42 = .ok (.bipush 32, 2) := by decide +kernel
theorem d_Model_show_44 : decode prog_10_method_52_code 44 = .ok (.if_icmp .ge 21, 3) := by decide +kernel
theorem d_Model_show_47 : decode prog_10_method_52_code 47 = .ok (.iload_n 2, 1) := by decide +kernel
theorem d_Model_show_48 : decode prog_10_method_52_code 48 = .ok (.aload_n 0, 1) := by decide +kernel
theorem d_Model_show_49 : decode prog_10_method_52_code 49 = .ok (.getfield 13, 3) := by decide +kernel
theorem d_Model_show_52 : decode prog_10_method_52_code 52 = .ok (.bipush 29, 2) := by decide +kernel
theorem d_Model_show_54 : decode prog_10_method_52_code 54 = .ok (.iload_n 3, 1) := by decide +kernel
theorem d_Model_show_55 : decode prog_10_method_52_code 55 = .ok (.imul, 1) := by decide +kernel
theorem d_Model_show_56 : decode prog_10_method_52_code 56 = .ok (.iaload, 1) := by decide +kernel
theorem d_Model_show_57 : decode prog_10_method_52_code 57 = .ok (.iadd, 1) := by decide +kernel
theorem d_Model_show_58 : decode prog_10_method_52_code 58 = .ok (.istore_n 2, 1) := by decide +kernel
theorem d_Model_show_59 : decode prog_10_method_52_code 59 = .ok (.iinc 3 1, 3) := by decide +kernel
theorem d_Model_show_62 : decode prog_10_method_52_code 62 = .ok (.goto (-21), 3) := by decide +kernel
theorem d_Model_show_65 : decode prog_10_method_52_code 65 = .ok (.iload_n 1, 1) := by decide +kernel
theorem d_Model_show_66 : decode prog_10_method_52_code 66 = .ok (.tableswitch 70 0 4 #[34, 39, 51, 63, 68], 34) := by decide +kernel
theorem d_Model_show_100 : decode prog_10_method_52_code 100 = .ok (.aload_n 0, 1) := by decide +kernel
theorem d_Model_show_101 : decode prog_10_method_52_code 101 = .ok (.getfield 127, 3) := by decide +kernel
theorem d_Model_show_104 : decode prog_10_method_52_code 104 = .ok (.ireturn, 1) := by decide +kernel
theorem d_Model_show_129 : decode prog_10_method_52_code 129 = .ok (.aload_n 0, 1) := by decide +kernel
theorem d_Model_show_130 : decode prog_10_method_52_code 130 = .ok (.getfield 153, 3) := by decide +kernel
theorem d_Model_show_133 : decode prog_10_method_52_code 133 = .ok (.ireturn, 1) := by decide +kernel
theorem d_Model_show_134 : decode prog_10_method_52_code 134 = .ok (.iload_n 2, 1) := by decide +kernel
theorem d_Model_show_135 : decode prog_10_method_52_code 135 = .ok (.ireturn, 1) := by decide +kernel
theorem d_Model_show_136 : decode prog_10_method_52_code 136 = .ok (.aload_n 0, 1) := by decide +kernel
theorem d_Model_show_137 : decode prog_10_method_52_code 137 = .ok (.getfield 144, 3) := by decide +kernel
theorem d_Model_show_140 : decode prog_10_method_52_code 140 = .ok (.ireturn, 1) := by decide +kernel
theorem d_Model_show_26 : decode prog_10_method_52_code 26 = .ok (.aload_n 0, 1) := by decide +kernel
theorem d_Model_show_27 : decode prog_10_method_52_code 27 = .ok (.iconst 1, 1) := by decide +kernel
theorem d_Model_show_28 : decode prog_10_method_52_code 28 = .ok (.invokevirtual 238, 3) := by decide +kernel
theorem d_Model_show_31 : decode prog_10_method_52_code 31 = .ok (.ireturn, 1) := by decide +kernel
theorem d_Arrays_fill_0 : decode prog_19_method_103_code 0 = .ok (.iconst 0, 1) := by decide +kernel
theorem d_Arrays_fill_1 : decode prog_19_method_103_code 1 = .ok (.istore_n 2, 1) := by decide +kernel
theorem d_Arrays_fill_2 : decode prog_19_method_103_code 2 = .ok (.aload_n 0, 1) := by decide +kernel
theorem d_Arrays_fill_3 : decode prog_19_method_103_code 3 = .ok (.arraylength, 1) := by decide +kernel
theorem d_Arrays_fill_4 : decode prog_19_method_103_code 4 = .ok (.istore_n 3, 1) := by decide +kernel
theorem d_Arrays_fill_5 : decode prog_19_method_103_code 5 = .ok (.iload_n 2, 1) := by decide +kernel
theorem d_Arrays_fill_6 : decode prog_19_method_103_code 6 = .ok (.iload_n 3, 1) := by decide +kernel
theorem d_Arrays_fill_7 : decode prog_19_method_103_code 7 = .ok (.if_icmp .ge 13, 3) := by decide +kernel
theorem d_Arrays_fill_10 : decode prog_19_method_103_code 10 = .ok (.aload_n 0, 1) := by decide +kernel
theorem d_Arrays_fill_11 : decode prog_19_method_103_code 11 = .ok (.iload_n 2, 1) := by decide +kernel
theorem d_Arrays_fill_12 : decode prog_19_method_103_code 12 = .ok (.iload_n 1, 1) := by decide +kernel
theorem d_Arrays_fill_13 : decode prog_19_method_103_code 13 = .ok (.iastore, 1) := by decide +kernel
theorem d_Arrays_fill_14 : decode prog_19_method_103_code 14 = .ok (.iinc 2 1, 3) := by decide +kernel
theorem d_Arrays_fill_17 : decode prog_19_method_103_code 17 = .ok (.goto (-12), 3) := by decide +kernel
theorem d_Arrays_fill_20 : decode prog_19_method_103_code 20 = .ok (.return_, 1) := by decide +kernel
theorem d_Script_init_0 : decode prog_4_method_1_code 0 = .ok (.aload_n 0, 1) := by decide +kernel
theorem d_Script_init_1 : decode prog_4_method_1_code 1 = .ok (.invokespecial 3, 3) := by decide +kernel
theorem d_Script_init_4 : decode prog_4_method_1_code 4 = .ok (.aload_n 0, 1) := by decide +kernel
theorem d_Script_init_5 : decode prog_4_method_1_code 5 = .ok (.sipush 300, 3) := by decide +kernel
theorem d_Script_init_8 : decode prog_4_method_1_code 8 = .ok (.newarray .int, 2) := by decide +kernel
theorem d_Script_init_10 : decode prog_4_method_1_code 10 = .ok (.putfield 9, 3) := by decide +kernel
theorem d_Script_init_13 : decode prog_4_method_1_code 13 = .ok (.return_, 1) := by decide +kernel
theorem d_Frame_init_0 : decode prog_2_method_1_code 0 = .ok (.aload_n 0, 1) := by decide +kernel
theorem d_Frame_init_1 : decode prog_2_method_1_code 1 = .ok (.invokespecial 1, 3) := by decide +kernel
theorem d_Frame_init_4 : decode prog_2_method_1_code 4 = .ok (.return_, 1) := by decide +kernel
theorem d_Values_init_0 : decode prog_7_method_1_code 0 = .ok (.aload_n 0, 1) := by decide +kernel
theorem d_Values_init_1 : decode prog_7_method_1_code 1 = .ok (.invokespecial 1, 3) := by decide +kernel
theorem d_Values_init_4 : decode prog_7_method_1_code 4 = .ok (.aload_n 0, 1) := by decide +kernel
theorem d_Values_init_5 : decode prog_7_method_1_code 5 = .ok (.iload_n 1, 1) := by decide +kernel
theorem d_Values_init_6 : decode prog_7_method_1_code 6 = .ok (.newarray .int, 2) := by decide +kernel
theorem d_Values_init_8 : decode prog_7_method_1_code 8 = .ok (.putfield 7, 3) := by decide +kernel
theorem d_Values_init_11 : decode prog_7_method_1_code 11 = .ok (.aload_n 0, 1) := by decide +kernel
theorem d_Values_init_12 : decode prog_7_method_1_code 12 = .ok (.iload_n 1, 1) := by decide +kernel
theorem d_Values_init_13 : decode prog_7_method_1_code 13 = .ok (.newarray .int, 2) := by decide +kernel
theorem d_Values_init_15 : decode prog_7_method_1_code 15 = .ok (.putfield 13, 3) := by decide +kernel
theorem d_Values_init_18 : decode prog_7_method_1_code 18 = .ok (.return_, 1) := by decide +kernel
theorem d_State_init_0 : decode prog_5_method_1_code 0 = .ok (.aload_n 0, 1) := by decide +kernel
theorem d_State_init_1 : decode prog_5_method_1_code 1 = .ok (.invokespecial 3, 3) := by decide +kernel
theorem d_State_init_4 : decode prog_5_method_1_code 4 = .ok (.aload_n 0, 1) := by decide +kernel
theorem d_State_init_5 : decode prog_5_method_1_code 5 = .ok (.sipush 256, 3) := by decide +kernel
theorem d_State_init_8 : decode prog_5_method_1_code 8 = .ok (.newarray .int, 2) := by decide +kernel
theorem d_State_init_10 : decode prog_5_method_1_code 10 = .ok (.putfield 9, 3) := by decide +kernel
theorem d_State_init_13 : decode prog_5_method_1_code 13 = .ok (.aload_n 0, 1) := by decide +kernel
theorem d_State_init_14 : decode prog_5_method_1_code 14 = .ok (.sipush 256, 3) := by decide +kernel
theorem d_State_init_17 : decode prog_5_method_1_code 17 = .ok (.newarray .int, 2) := by decide +kernel
theorem d_State_init_19 : decode prog_5_method_1_code 19 = .ok (.putfield 15, 3) := by decide +kernel
theorem d_State_init_22 : decode prog_5_method_1_code 22 = .ok (.aload_n 0, 1) := by decide +kernel
theorem d_State_init_23 : decode prog_5_method_1_code 23 = .ok (.bipush 16, 2) := by decide +kernel
theorem d_State_init_25 : decode prog_5_method_1_code 25 = .ok (.newarray .int, 2) := by decide +kernel
theorem d_State_init_27 : decode prog_5_method_1_code 27 = .ok (.putfield 18, 3) := by decide +kernel
theorem d_State_init_30 : decode prog_5_method_1_code 30 = .ok (.aload_n 0, 1) := by decide +kernel
theorem d_State_init_31 : decode prog_5_method_1_code 31 = .ok (.getfield 9, 3) := by decide +kernel
theorem d_State_init_34 : decode prog_5_method_1_code 34 = .ok (.iconst (-1), 1) := by decide +kernel
theorem d_State_init_35 : decode prog_5_method_1_code 35 = .ok (.invokestatic 21, 3) := by decide +kernel
theorem d_State_init_38 : decode prog_5_method_1_code 38 = .ok (.aload_n 0, 1) := by decide +kernel
theorem d_State_init_39 : decode prog_5_method_1_code 39 = .ok (.getfield 18, 3) := by decide +kernel
theorem d_State_init_42 : decode prog_5_method_1_code 42 = .ok (.iconst (-1), 1) := by decide +kernel
theorem d_State_init_43 : decode prog_5_method_1_code 43 = .ok (.invokestatic 21, 3) := by decide +kernel
theorem d_State_init_46 : decode prog_5_method_1_code 46 = .ok (.return_, 1) := by decide +kernel
theorem d_World_init_0 : decode prog_8_method_1_code 0 = .ok (.aload_n 0, 1) := by decide +kernel
theorem d_World_init_1 : decode prog_8_method_1_code 1 = .ok (.invokespecial 3, 3) := by decide +kernel
theorem d_World_init_4 : decode prog_8_method_1_code 4 = .ok (.aload_n 0, 1) := by decide +kernel
theorem d_World_init_5 : decode prog_8_method_1_code 5 = .ok (.new 9, 3) := by decide +kernel
theorem d_World_init_8 : decode prog_8_method_1_code 8 = .ok (.dup, 1) := by decide +kernel
theorem d_World_init_9 : decode prog_8_method_1_code 9 = .ok (.invokespecial 11, 3) := by decide +kernel
theorem d_World_init_12 : decode prog_8_method_1_code 12 = .ok (.putfield 12, 3) := by decide +kernel
theorem d_World_init_15 : decode prog_8_method_1_code 15 = .ok (.aload_n 0, 1) := by decide +kernel
theorem d_World_init_16 : decode prog_8_method_1_code 16 = .ok (.sipush 256, 3) := by decide +kernel
theorem d_World_init_19 : decode prog_8_method_1_code 19 = .ok (.newarray .int, 2) := by decide +kernel
theorem d_World_init_21 : decode prog_8_method_1_code 21 = .ok (.putfield 18, 3) := by decide +kernel
theorem d_World_init_24 : decode prog_8_method_1_code 24 = .ok (.aload_n 0, 1) := by decide +kernel
theorem d_World_init_25 : decode prog_8_method_1_code 25 = .ok (.bipush 16, 2) := by decide +kernel
theorem d_World_init_27 : decode prog_8_method_1_code 27 = .ok (.newarray .int, 2) := by decide +kernel
theorem d_World_init_29 : decode prog_8_method_1_code 29 = .ok (.putfield 22, 3) := by decide +kernel
theorem d_World_init_32 : decode prog_8_method_1_code 32 = .ok (.aload_n 0, 1) := by decide +kernel
theorem d_World_init_33 : decode prog_8_method_1_code 33 = .ok (.bipush 32, 2) := by decide +kernel
theorem d_World_init_35 : decode prog_8_method_1_code 35 = .ok (.newarray .int, 2) := by decide +kernel
theorem d_World_init_37 : decode prog_8_method_1_code 37 = .ok (.putfield 25, 3) := by decide +kernel
theorem d_World_init_40 : decode prog_8_method_1_code 40 = .ok (.aload_n 0, 1) := by decide +kernel
theorem d_World_init_41 : decode prog_8_method_1_code 41 = .ok (.bipush 32, 2) := by decide +kernel
theorem d_World_init_43 : decode prog_8_method_1_code 43 = .ok (.newarray .int, 2) := by decide +kernel
theorem d_World_init_45 : decode prog_8_method_1_code 45 = .ok (.putfield 28, 3) := by decide +kernel
theorem d_World_init_48 : decode prog_8_method_1_code 48 = .ok (.return_, 1) := by decide +kernel
theorem d_History_init_0 : decode prog_3_method_1_code 0 = .ok (.aload_n 0, 1) := by decide +kernel
theorem d_History_init_1 : decode prog_3_method_1_code 1 = .ok (.invokespecial 3, 3) := by decide +kernel
theorem d_History_init_4 : decode prog_3_method_1_code 4 = .ok (.aload_n 0, 1) := by decide +kernel
theorem d_History_init_5 : decode prog_3_method_1_code 5 = .ok (.iconst 3, 1) := by decide +kernel
theorem d_History_init_6 : decode prog_3_method_1_code 6 = .ok (.anewarray 9, 3) := by decide +kernel
theorem d_History_init_9 : decode prog_3_method_1_code 9 = .ok (.putfield 11, 3) := by decide +kernel
theorem d_History_init_12 : decode prog_3_method_1_code 12 = .ok (.aload_n 0, 1) := by decide +kernel
theorem d_History_init_13 : decode prog_3_method_1_code 13 = .ok (.iconst 2, 1) := by decide +kernel
theorem d_History_init_14 : decode prog_3_method_1_code 14 = .ok (.anewarray 9, 3) := by decide +kernel
theorem d_History_init_17 : decode prog_3_method_1_code 17 = .ok (.putfield 17, 3) := by decide +kernel
theorem d_History_init_20 : decode prog_3_method_1_code 20 = .ok (.aload_n 0, 1) := by decide +kernel
theorem d_History_init_21 : decode prog_3_method_1_code 21 = .ok (.iconst 2, 1) := by decide +kernel
theorem d_History_init_22 : decode prog_3_method_1_code 22 = .ok (.newarray .boolean, 2) := by decide +kernel
theorem d_History_init_24 : decode prog_3_method_1_code 24 = .ok (.putfield 20, 3) := by decide +kernel
theorem d_History_init_27 : decode prog_3_method_1_code 27 = .ok (.iconst 0, 1) := by decide +kernel
theorem d_History_init_28 : decode prog_3_method_1_code 28 = .ok (.istore_n 1, 1) := by decide +kernel
theorem d_History_init_29 : decode prog_3_method_1_code 29 = .ok (.iload_n 1, 1) := by decide +kernel
theorem d_History_init_30 : decode prog_3_method_1_code 30 = .ok (.iconst 3, 1) := by decide +kernel
theorem d_History_init_31 : decode prog_3_method_1_code 31 = .ok (.if_icmp .ge 22, 3) := by decide +kernel
theorem d_History_init_34 : decode prog_3_method_1_code 34 = .ok (.aload_n 0, 1) := by decide +kernel
theorem d_History_init_35 : decode prog_3_method_1_code 35 = .ok (.getfield 11, 3) := by decide +kernel
theorem d_History_init_38 : decode prog_3_method_1_code 38 = .ok (.iload_n 1, 1) := by decide +kernel
theorem d_History_init_39 : decode prog_3_method_1_code 39 = .ok (.new 9, 3) := by decide +kernel
theorem d_History_init_42 : decode prog_3_method_1_code 42 = .ok (.dup, 1) := by decide +kernel
theorem d_History_init_43 : decode prog_3_method_1_code 43 = .ok (.invokespecial 24, 3) := by decide +kernel
theorem d_History_init_46 : decode prog_3_method_1_code 46 = .ok (.aastore, 1) := by decide +kernel
theorem d_History_init_47 : decode prog_3_method_1_code 47 = .ok (.iinc 1 1, 3) := by decide +kernel
theorem d_History_init_50 : decode prog_3_method_1_code 50 = .ok (.goto (-21), 3) := by decide +kernel
theorem d_History_init_53 : decode prog_3_method_1_code 53 = .ok (.iconst 0, 1) := by decide +kernel
theorem d_History_init_54 : decode prog_3_method_1_code 54 = .ok (.istore_n 1, 1) := by decide +kernel
theorem d_History_init_55 : decode prog_3_method_1_code 55 = .ok (.iload_n 1, 1) := by decide +kernel
theorem d_History_init_56 : decode prog_3_method_1_code 56 = .ok (.iconst 2, 1) := by decide +kernel
theorem d_History_init_57 : decode prog_3_method_1_code 57 = .ok (.if_icmp .ge 22, 3) := by decide +kernel
theorem d_History_init_60 : decode prog_3_method_1_code 60 = .ok (.aload_n 0, 1) := by decide +kernel
theorem d_History_init_61 : decode prog_3_method_1_code 61 = .ok (.getfield 17, 3) := by decide +kernel
theorem d_History_init_64 : decode prog_3_method_1_code 64 = .ok (.iload_n 1, 1) := by decide +kernel
theorem d_History_init_65 : decode prog_3_method_1_code 65 = .ok (.new 9, 3) := by decide +kernel
theorem d_History_init_68 : decode prog_3_method_1_code 68 = .ok (.dup, 1) := by decide +kernel
theorem d_History_init_69 : decode prog_3_method_1_code 69 = .ok (.invokespecial 24, 3) := by decide +kernel
theorem d_History_init_72 : decode prog_3_method_1_code 72 = .ok (.aastore, 1) := by decide +kernel
theorem d_History_init_73 : decode prog_3_method_1_code 73 = .ok (.iinc 1 1, 3) := by decide +kernel
theorem d_History_init_76 : decode prog_3_method_1_code 76 = .ok (.goto (-21), 3) := by decide +kernel
theorem d_History_init_79 : decode prog_3_method_1_code 79 = .ok (.return_, 1) := by decide +kernel
theorem d_Teller_init_0 : decode prog_6_method_1_code 0 = .ok (.aload_n 0, 1) := by decide +kernel
theorem d_Teller_init_1 : decode prog_6_method_1_code 1 = .ok (.invokespecial 3, 3) := by decide +kernel
theorem d_Teller_init_4 : decode prog_6_method_1_code 4 = .ok (.aload_n 0, 1) := by decide +kernel
theorem d_Teller_init_5 : decode prog_6_method_1_code 5 = .ok (.bipush 8, 2) := by decide +kernel
theorem d_Teller_init_7 : decode prog_6_method_1_code 7 = .ok (.anewarray 9, 3) := by decide +kernel
theorem d_Teller_init_10 : decode prog_6_method_1_code 10 = .ok (.putfield 11, 3) := by decide +kernel
theorem d_Teller_init_13 : decode prog_6_method_1_code 13 = .ok (.aload_n 0, 1) := by decide +kernel
theorem d_Teller_init_14 : decode prog_6_method_1_code 14 = .ok (.new 17, 3) := by decide +kernel
theorem d_Teller_init_17 : decode prog_6_method_1_code 17 = .ok (.dup, 1) := by decide +kernel
theorem d_Teller_init_18 : decode prog_6_method_1_code 18 = .ok (.bipush 40, 2) := by decide +kernel
theorem d_Teller_init_20 : decode prog_6_method_1_code 20 = .ok (.invokespecial 19, 3) := by decide +kernel
theorem d_Teller_init_23 : decode prog_6_method_1_code 23 = .ok (.putfield 22, 3) := by decide +kernel
theorem d_Teller_init_26 : decode prog_6_method_1_code 26 = .ok (.aload_n 0, 1) := by decide +kernel
theorem d_Teller_init_27 : decode prog_6_method_1_code 27 = .ok (.new 17, 3) := by decide +kernel
theorem d_Teller_init_30 : decode prog_6_method_1_code 30 = .ok (.dup, 1) := by decide +kernel
theorem d_Teller_init_31 : decode prog_6_method_1_code 31 = .ok (.bipush 50, 2) := by decide +kernel
theorem d_Teller_init_33 : decode prog_6_method_1_code 33 = .ok (.invokespecial 19, 3) := by decide +kernel
theorem d_Teller_init_36 : decode prog_6_method_1_code 36 = .ok (.putfield 26, 3) := by decide +kernel
theorem d_Teller_init_39 : decode prog_6_method_1_code 39 = .ok (.aload_n 0, 1) := by decide +kernel
theorem d_Teller_init_40 : decode prog_6_method_1_code 40 = .ok (.new 17, 3) := by decide +kernel
theorem d_Teller_init_43 : decode prog_6_method_1_code 43 = .ok (.dup, 1) := by decide +kernel
theorem d_Teller_init_44 : decode prog_6_method_1_code 44 = .ok (.iconst 1, 1) := by decide +kernel
theorem d_Teller_init_45 : decode prog_6_method_1_code 45 = .ok (.invokespecial 19, 3) := by decide +kernel
theorem d_Teller_init_48 : decode prog_6_method_1_code 48 = .ok (.putfield 29, 3) := by decide +kernel
theorem d_Teller_init_51 : decode prog_6_method_1_code 51 = .ok (.aload_n 0, 1) := by decide +kernel
theorem d_Teller_init_52 : decode prog_6_method_1_code 52 = .ok (.iconst (-1), 1) := by decide +kernel
theorem d_Teller_init_53 : decode prog_6_method_1_code 53 = .ok (.putfield 32, 3) := by decide +kernel
theorem d_Teller_init_56 : decode prog_6_method_1_code 56 = .ok (.aload_n 0, 1) := by decide +kernel
theorem d_Teller_init_57 : decode prog_6_method_1_code 57 = .ok (.aload_n 1, 1) := by decide +kernel
theorem d_Teller_init_58 : decode prog_6_method_1_code 58 = .ok (.putfield 36, 3) := by decide +kernel
theorem d_Teller_init_61 : decode prog_6_method_1_code 61 = .ok (.aload_n 0, 1) := by decide +kernel
theorem d_Teller_init_62 : decode prog_6_method_1_code 62 = .ok (.aload_n 2, 1) := by decide +kernel
theorem d_Teller_init_63 : decode prog_6_method_1_code 63 = .ok (.putfield 40, 3) := by decide +kernel
theorem d_Teller_init_66 : decode prog_6_method_1_code 66 = .ok (.aload_n 0, 1) := by decide +kernel
theorem d_Teller_init_67 : decode prog_6_method_1_code 67 = .ok (.aload_n 3, 1) := by decide +kernel
theorem d_Teller_init_68 : decode prog_6_method_1_code 68 = .ok (.putfield 44, 3) := by decide +kernel
theorem d_Teller_init_71 : decode prog_6_method_1_code 71 = .ok (.iconst 0, 1) := by decide +kernel
theorem d_Teller_init_72 : decode prog_6_method_1_code 72 = .ok (.istore 4, 2) := by decide +kernel
theorem d_Teller_init_74 : decode prog_6_method_1_code 74 = .ok (.iload 4, 2) := by decide +kernel
theorem d_Teller_init_76 : decode prog_6_method_1_code 76 = .ok (.bipush 8, 2) := by decide +kernel
theorem d_Teller_init_78 : decode prog_6_method_1_code 78 = .ok (.if_icmp .ge 23, 3) := by decide +kernel
theorem d_Teller_init_81 : decode prog_6_method_1_code 81 = .ok (.aload_n 0, 1) := by decide +kernel
theorem d_Teller_init_82 : decode prog_6_method_1_code 82 = .ok (.getfield 11, 3) := by decide +kernel
theorem d_Teller_init_85 : decode prog_6_method_1_code 85 = .ok (.iload 4, 2) := by decide +kernel
theorem d_Teller_init_87 : decode prog_6_method_1_code 87 = .ok (.new 9, 3) := by decide +kernel
theorem d_Teller_init_90 : decode prog_6_method_1_code 90 = .ok (.dup, 1) := by decide +kernel
theorem d_Teller_init_91 : decode prog_6_method_1_code 91 = .ok (.invokespecial 48, 3) := by decide +kernel
theorem d_Teller_init_94 : decode prog_6_method_1_code 94 = .ok (.aastore, 1) := by decide +kernel
theorem d_Teller_init_95 : decode prog_6_method_1_code 95 = .ok (.iinc 4 1, 3) := by decide +kernel
theorem d_Teller_init_98 : decode prog_6_method_1_code 98 = .ok (.goto (-24), 3) := by decide +kernel
theorem d_Teller_init_101 : decode prog_6_method_1_code 101 = .ok (.return_, 1) := by decide +kernel
end
section
set_option maxHeartbeats 4000000 in
set_option maxRecDepth 100000 in
theorem c_Model_outside (l : Launch) (D : va_G) (cI cZ cJ : ClassId) (v lo hi : Int32) (sz : Nat)  : Met l y_Model_outside (.code y_Model_outside prog_10_method_4_code 3 (some .boolean) :: AW) ({ frames := 0, cells := 0, slots := 0, locals := 0 }) (va_Pc [.int v, .int lo, .int hi] (pre_ D [] [(cI, .int), (cZ, .boolean), (cJ, .long)] sz)) (va_Qi (fun (r : Int32) (u : Unit) => (r = 0 ∨ r = 1) ∧ (r = 1 ↔ v < lo ∨ hi < v)) (fun _ t => post_ D (va_A [] sz) [] t) (va_A [] sz)) 0 0 (va_A [] sz) := by
  refine Met.ofW (cc := prog_10_method_4_code) (maxL := 3) (ret := (some .boolean)) (by decide) rfl ?_
  intro p e s m args below meth c s₁ B hml hv
  obtain ⟨rfl, rfl, hP, hK, hD0, hT⟩ := hv
  have hx := B.exec
  have hb := B.bytes
  have hr := B.returns
  have hts0 := atoms_spec (ws := .code y_Model_outside prog_10_method_4_code 3 (some .boolean) :: AW) B.pre
  have hts : ∀ w ∈ AW, w.before [.int v, .int lo, .int hi].toArray s = true := fun w h => hts0 w (List.mem_cons_of_mem _ h)
  have hown : s.vm.findClass "TaleMachineModel" = some m.cls := findClass_of_methodNamed B.named
  have hlocks := B.notSynchronized
  have hD := hD0.self (sz := s.heap.size)
  generalize hAe : va_A [] s.heap.size = A at hD ⊢
  have hA : ∀ q : Nat, s.heap.size ≤ q → A q := fun q h => by rw [← hAe]; exact Or.inr h
  have hS : va_S A s.heap s.heap [] := va_S.rf
  have hl := lv_entry ([.int v, .int lo, .int hi]) (n := 3) (Nat.le_of_ble_eq_true rfl)
  rw [lg_entry_eq]
  generalize (lg_sl ([.int v, .int lo, .int hi]) ++ List.replicate (3 - (lg_sl ([.int v, .int lo, .int hi])).length) Slot.unset).toArray = ls at hl ⊢
  have hl : lv_has ls 3 [(0, .int v), (1, .int lo), (2, .int hi)] := hl
  refine lv_iload_n hx hb d_Model_outside_0 rfl (lv_at hl 0 rfl) ?_
  refine lv_iload_n hx hb d_Model_outside_1 rfl (lv_at hl 1 rfl) ?_
  refine lv_icmp_lt hx hb d_Model_outside_2 (tgt := 10) (by decide) (fun hc1 => ?_) (fun hc1 => ?_)
  · refine lv_iconst (v := 1) hx hb d_Model_outside_10 (by decide) ?_
    refine lv_goto hx hb d_Model_outside_11 (tgt := 15) (by decide) ?_
    exact end_z hx hb hr hlocks hS (u := ()) (r := 1) (at_end (hP.sub (ws' := []) [] rfl) (hD.sub (ws' := []) [] (by decide) rfl)) (⟨Or.inr rfl, ⟨fun _ => Or.inl hc1, fun _ => rfl⟩⟩) (by decide) (Nat.le_of_ble_eq_true rfl) (Nat.le_of_ble_eq_true rfl) d_Model_outside_15
  · refine lv_iload_n hx hb d_Model_outside_5 rfl (lv_at hl 0 rfl) ?_
    refine lv_iload_n hx hb d_Model_outside_6 rfl (lv_at hl 2 rfl) ?_
    refine lv_icmp_le hx hb d_Model_outside_7 (tgt := 14) (by decide) (fun hc2 => ?_) (fun hc2 => ?_)
    · refine lv_iconst (v := 0) hx hb d_Model_outside_14 (by decide) ?_
      exact end_z hx hb hr hlocks hS (u := ()) (r := 0) (at_end (hP.sub (ws' := []) [] rfl) (hD.sub (ws' := []) [] (by decide) rfl)) (⟨Or.inl rfl, ⟨fun h => absurd h (by decide), fun h => by rcases h with h | h; exact absurd h hc1; exact absurd h (by have h2 := hc2; simp only [Int32.lt_iff_toInt_lt, Int32.le_iff_toInt_le] at h2 ⊢; omega)⟩⟩) (by decide) (Nat.le_of_ble_eq_true rfl) (Nat.le_of_ble_eq_true rfl) d_Model_outside_15
    · refine lv_iconst (v := 1) hx hb d_Model_outside_10 (by decide) ?_
      refine lv_goto hx hb d_Model_outside_11 (tgt := 15) (by decide) ?_
      exact end_z hx hb hr hlocks hS (u := ()) (r := 1) (at_end (hP.sub (ws' := []) [] rfl) (hD.sub (ws' := []) [] (by decide) rfl)) (⟨Or.inr rfl, ⟨fun _ => Or.inr (by have h := hc2; simp only [Int32.lt_iff_toInt_lt, Int32.le_iff_toInt_le] at h ⊢; omega), fun _ => rfl⟩⟩) (by decide) (Nat.le_of_ble_eq_true rfl) (Nat.le_of_ble_eq_true rfl) d_Model_outside_15

set_option maxHeartbeats 4000000 in
set_option maxRecDepth 100000 in
theorem c_Model_thrown (l : Launch) (D : va_G) (cI cZ cJ : ClassId) (h m_bytes m_w m_saved m_line m_met m_waiting m_nextParent m_kind m_number m_begin m_table m_handlers m_base m_locals m_self m_found m_place m_next m_saidKind m_saidNumber : Nat) (i_code i_size i_fixed i_points i_length i_height i_depth i_said i_resultKind i_resultNumber i_ended : Int32) (sz : Nat)  : Met l y_Model_thrown (.code y_Model_thrown prog_10_method_2_code 1 (some .int) :: AW) ({ frames := 0, cells := 0, slots := 0, locals := 0 }) (va_Pc [.ref h] (pre_ D [(h, .inr (8, [.int i_code, .ref m_bytes, .int i_size, .ref m_w, .int i_fixed, .int i_points, .ref m_saved, .int i_length, .ref m_line, .ref m_met, .ref m_waiting, .ref m_nextParent, .int i_height, .ref m_kind, .ref m_number, .int i_depth, .ref m_begin, .ref m_table, .ref m_handlers, .ref m_base, .ref m_locals, .ref m_self, .ref m_found, .ref m_place, .ref m_next, .int i_said, .ref m_saidKind, .ref m_saidNumber, .int i_resultKind, .int i_resultNumber, .int i_ended]))] [(cI, .int), (cZ, .boolean), (cJ, .long)] sz)) (va_Qi (fun (r : Int32) (u : Unit) => r = i_code) (fun _ t => post_ D (va_A [(h, .inr (8, [.int i_code, .ref m_bytes, .int i_size, .ref m_w, .int i_fixed, .int i_points, .ref m_saved, .int i_length, .ref m_line, .ref m_met, .ref m_waiting, .ref m_nextParent, .int i_height, .ref m_kind, .ref m_number, .int i_depth, .ref m_begin, .ref m_table, .ref m_handlers, .ref m_base, .ref m_locals, .ref m_self, .ref m_found, .ref m_place, .ref m_next, .int i_said, .ref m_saidKind, .ref m_saidNumber, .int i_resultKind, .int i_resultNumber, .int i_ended]))] sz) [] t) (va_A [(h, .inr (8, [.int i_code, .ref m_bytes, .int i_size, .ref m_w, .int i_fixed, .int i_points, .ref m_saved, .int i_length, .ref m_line, .ref m_met, .ref m_waiting, .ref m_nextParent, .int i_height, .ref m_kind, .ref m_number, .int i_depth, .ref m_begin, .ref m_table, .ref m_handlers, .ref m_base, .ref m_locals, .ref m_self, .ref m_found, .ref m_place, .ref m_next, .int i_said, .ref m_saidKind, .ref m_saidNumber, .int i_resultKind, .int i_resultNumber, .int i_ended]))] sz)) 0 0 (va_A [(h, .inr (8, [.int i_code, .ref m_bytes, .int i_size, .ref m_w, .int i_fixed, .int i_points, .ref m_saved, .int i_length, .ref m_line, .ref m_met, .ref m_waiting, .ref m_nextParent, .int i_height, .ref m_kind, .ref m_number, .int i_depth, .ref m_begin, .ref m_table, .ref m_handlers, .ref m_base, .ref m_locals, .ref m_self, .ref m_found, .ref m_place, .ref m_next, .int i_said, .ref m_saidKind, .ref m_saidNumber, .int i_resultKind, .int i_resultNumber, .int i_ended]))] sz) := by
  refine Met.ofW (cc := prog_10_method_2_code) (maxL := 1) (ret := (some .int)) (by decide) rfl ?_
  intro p e s m args below meth c s₁ B hml hv
  obtain ⟨rfl, rfl, hP, hK, hD0, hT⟩ := hv
  have hx := B.exec
  have hb := B.bytes
  have hr := B.returns
  have hts0 := atoms_spec (ws := .code y_Model_thrown prog_10_method_2_code 1 (some .int) :: AW) B.pre
  have hts : ∀ w ∈ AW, w.before [.ref h].toArray s = true := fun w h => hts0 w (List.mem_cons_of_mem _ h)
  have hown : s.vm.findClass "TaleMachineModel" = some m.cls := findClass_of_methodNamed B.named
  have hlocks := B.notSynchronized
  have hD := hD0.self (sz := s.heap.size)
  generalize hAe : va_A [(h, .inr (8, [.int i_code, .ref m_bytes, .int i_size, .ref m_w, .int i_fixed, .int i_points, .ref m_saved, .int i_length, .ref m_line, .ref m_met, .ref m_waiting, .ref m_nextParent, .int i_height, .ref m_kind, .ref m_number, .int i_depth, .ref m_begin, .ref m_table, .ref m_handlers, .ref m_base, .ref m_locals, .ref m_self, .ref m_found, .ref m_place, .ref m_next, .int i_said, .ref m_saidKind, .ref m_saidNumber, .int i_resultKind, .int i_resultNumber, .int i_ended]))] s.heap.size = A at hD ⊢
  have hA : ∀ q : Nat, s.heap.size ≤ q → A q := fun q h => by rw [← hAe]; exact Or.inr h
  have hS : va_S A s.heap s.heap [] := va_S.rf
  have hl := lv_entry ([.ref h]) (n := 1) (Nat.le_of_ble_eq_true rfl)
  rw [lg_entry_eq]
  generalize (lg_sl ([.ref h]) ++ List.replicate (1 - (lg_sl ([.ref h])).length) Slot.unset).toArray = ls at hl ⊢
  have hl : lv_has ls 1 [(0, .ref h)] := hl
  refine lv_aload_n hx hb d_Model_thrown_0 rfl (lv_at hl 0 rfl) ?_
  refine va_get (D := D) (ci := 8) (v := .int i_code) (C := "TaleMachineModel") (T := F_Model) (N := 31) hx hb hts in_Model hown hK hP 0 rfl rfl 0 (by decide) (hts _ k_0) (fun _ h9 => h9) rfl d_Model_thrown_1 ?_
  exact end_i hx hb hr hlocks hS (u := ()) (r := i_code) (at_end (hP.sub (ws' := []) [] rfl) (hD.sub (ws' := []) [] (by decide) rfl)) (rfl) (Nat.le_of_ble_eq_true rfl) (Nat.le_of_ble_eq_true rfl) d_Model_thrown_4

set_option maxHeartbeats 4000000 in
set_option maxRecDepth 100000 in
theorem c_Model_refuse (l : Launch) (D : va_G) (cI cZ cJ : ClassId) (h m_bytes m_w m_saved m_line m_met m_waiting m_nextParent m_kind m_number m_begin m_table m_handlers m_base m_locals m_self m_found m_place m_next m_saidKind m_saidNumber : Nat) (k : Int32) (sz : Nat)  : Met l y_Model_refuse (.code y_Model_refuse prog_10_method_3_code 2 (some .int) :: AW) ({ frames := 0, cells := 0, slots := 0, locals := 0 }) (va_Pc [.ref h, .int k] (pre_ D [(h, .inr (8, [.int 0, .ref m_bytes, .int 0, .ref m_w, .int 0, .int 0, .ref m_saved, .int 0, .ref m_line, .ref m_met, .ref m_waiting, .ref m_nextParent, .int 0, .ref m_kind, .ref m_number, .int 0, .ref m_begin, .ref m_table, .ref m_handlers, .ref m_base, .ref m_locals, .ref m_self, .ref m_found, .ref m_place, .ref m_next, .int 0, .ref m_saidKind, .ref m_saidNumber, .int 0, .int 0, .int (-1)]))] [(cI, .int), (cZ, .boolean), (cJ, .long)] sz)) (va_Qi (fun (r : Int32) (u : Unit) => r = 0) (fun _ t => post_ D (va_A [(h, .inr (8, [.int 0, .ref m_bytes, .int 0, .ref m_w, .int 0, .int 0, .ref m_saved, .int 0, .ref m_line, .ref m_met, .ref m_waiting, .ref m_nextParent, .int 0, .ref m_kind, .ref m_number, .int 0, .ref m_begin, .ref m_table, .ref m_handlers, .ref m_base, .ref m_locals, .ref m_self, .ref m_found, .ref m_place, .ref m_next, .int 0, .ref m_saidKind, .ref m_saidNumber, .int 0, .int 0, .int (-1)]))] sz) [(h, .inr (8, [.int k, .ref m_bytes, .int 0, .ref m_w, .int 0, .int 0, .ref m_saved, .int 0, .ref m_line, .ref m_met, .ref m_waiting, .ref m_nextParent, .int 0, .ref m_kind, .ref m_number, .int 0, .ref m_begin, .ref m_table, .ref m_handlers, .ref m_base, .ref m_locals, .ref m_self, .ref m_found, .ref m_place, .ref m_next, .int 0, .ref m_saidKind, .ref m_saidNumber, .int 0, .int 0, .int (-1)]))] t) (va_A [(h, .inr (8, [.int 0, .ref m_bytes, .int 0, .ref m_w, .int 0, .int 0, .ref m_saved, .int 0, .ref m_line, .ref m_met, .ref m_waiting, .ref m_nextParent, .int 0, .ref m_kind, .ref m_number, .int 0, .ref m_begin, .ref m_table, .ref m_handlers, .ref m_base, .ref m_locals, .ref m_self, .ref m_found, .ref m_place, .ref m_next, .int 0, .ref m_saidKind, .ref m_saidNumber, .int 0, .int 0, .int (-1)]))] sz)) 0 0 (va_A [(h, .inr (8, [.int 0, .ref m_bytes, .int 0, .ref m_w, .int 0, .int 0, .ref m_saved, .int 0, .ref m_line, .ref m_met, .ref m_waiting, .ref m_nextParent, .int 0, .ref m_kind, .ref m_number, .int 0, .ref m_begin, .ref m_table, .ref m_handlers, .ref m_base, .ref m_locals, .ref m_self, .ref m_found, .ref m_place, .ref m_next, .int 0, .ref m_saidKind, .ref m_saidNumber, .int 0, .int 0, .int (-1)]))] sz) := by
  refine Met.ofW (cc := prog_10_method_3_code) (maxL := 2) (ret := (some .int)) (by decide) rfl ?_
  intro p e s m args below meth c s₁ B hml hv
  obtain ⟨rfl, rfl, hP, hK, hD0, hT⟩ := hv
  have hx := B.exec
  have hb := B.bytes
  have hr := B.returns
  have hts0 := atoms_spec (ws := .code y_Model_refuse prog_10_method_3_code 2 (some .int) :: AW) B.pre
  have hts : ∀ w ∈ AW, w.before [.ref h, .int k].toArray s = true := fun w h => hts0 w (List.mem_cons_of_mem _ h)
  have hown : s.vm.findClass "TaleMachineModel" = some m.cls := findClass_of_methodNamed B.named
  have hlocks := B.notSynchronized
  have hD := hD0.self (sz := s.heap.size)
  generalize hAe : va_A [(h, .inr (8, [.int 0, .ref m_bytes, .int 0, .ref m_w, .int 0, .int 0, .ref m_saved, .int 0, .ref m_line, .ref m_met, .ref m_waiting, .ref m_nextParent, .int 0, .ref m_kind, .ref m_number, .int 0, .ref m_begin, .ref m_table, .ref m_handlers, .ref m_base, .ref m_locals, .ref m_self, .ref m_found, .ref m_place, .ref m_next, .int 0, .ref m_saidKind, .ref m_saidNumber, .int 0, .int 0, .int (-1)]))] s.heap.size = A at hD ⊢
  have hA : ∀ q : Nat, s.heap.size ≤ q → A q := fun q h => by rw [← hAe]; exact Or.inr h
  have hS : va_S A s.heap s.heap [] := va_S.rf
  have hl := lv_entry ([.ref h, .int k]) (n := 2) (Nat.le_of_ble_eq_true rfl)
  rw [lg_entry_eq]
  generalize (lg_sl ([.ref h, .int k]) ++ List.replicate (2 - (lg_sl ([.ref h, .int k])).length) Slot.unset).toArray = ls at hl ⊢
  have hl : lv_has ls 2 [(0, .ref h), (1, .int k)] := hl
  refine lv_aload_n hx hb d_Model_refuse_0 rfl (lv_at hl 0 rfl) ?_
  refine lv_iload_n hx hb d_Model_refuse_1 rfl (lv_at hl 1 rfl) ?_
  refine va_put (D := D) (ci := 8) (v := .int k) (ty := .int) (C := "TaleMachineModel") (T := F_Model) (N := 31) hx hb hts in_Model t_Model t_Model_ok n_Model hown hK hP hD hS 0 rfl rfl 0 (by decide) (hts _ k_0) (fun _ h9 => h9) rfl (by decide +kernel) rfl rfl (Nat.le_of_ble_eq_true rfl) d_Model_refuse_2 (fun H locs hP hD hS => ?_)
  have hP : va_P D cL [(h, .inr (8, [.int k, .ref m_bytes, .int 0, .ref m_w, .int 0, .int 0, .ref m_saved, .int 0, .ref m_line, .ref m_met, .ref m_waiting, .ref m_nextParent, .int 0, .ref m_kind, .ref m_number, .int 0, .ref m_begin, .ref m_table, .ref m_handlers, .ref m_base, .ref m_locals, .ref m_self, .ref m_found, .ref m_place, .ref m_next, .int 0, .ref m_saidKind, .ref m_saidNumber, .int 0, .int 0, .int (-1)]))] H := hP
  have hD : va_D A [(h, .inr (8, [.int k, .ref m_bytes, .int 0, .ref m_w, .int 0, .int 0, .ref m_saved, .int 0, .ref m_line, .ref m_met, .ref m_waiting, .ref m_nextParent, .int 0, .ref m_kind, .ref m_number, .int 0, .ref m_begin, .ref m_table, .ref m_handlers, .ref m_base, .ref m_locals, .ref m_self, .ref m_found, .ref m_place, .ref m_next, .int 0, .ref m_saidKind, .ref m_saidNumber, .int 0, .int 0, .int (-1)]))] := hD
  refine lv_iconst (v := 0) hx hb d_Model_refuse_5 (by decide) ?_
  exact end_i hx hb hr hlocks hS (u := ()) (r := 0) (at_end (hP.sub (ws' := [(h, .inr (8, [.int k, .ref m_bytes, .int 0, .ref m_w, .int 0, .int 0, .ref m_saved, .int 0, .ref m_line, .ref m_met, .ref m_waiting, .ref m_nextParent, .int 0, .ref m_kind, .ref m_number, .int 0, .ref m_begin, .ref m_table, .ref m_handlers, .ref m_base, .ref m_locals, .ref m_self, .ref m_found, .ref m_place, .ref m_next, .int 0, .ref m_saidKind, .ref m_saidNumber, .int 0, .int 0, .int (-1)]))]) [0] rfl) (hD.sub (ws' := [(h, .inr (8, [.int k, .ref m_bytes, .int 0, .ref m_w, .int 0, .int 0, .ref m_saved, .int 0, .ref m_line, .ref m_met, .ref m_waiting, .ref m_nextParent, .int 0, .ref m_kind, .ref m_number, .int 0, .ref m_begin, .ref m_table, .ref m_handlers, .ref m_base, .ref m_locals, .ref m_self, .ref m_found, .ref m_place, .ref m_next, .int 0, .ref m_saidKind, .ref m_saidNumber, .int 0, .int 0, .int (-1)]))]) [0] (by decide) rfl)) (rfl) (Nat.le_of_ble_eq_true rfl) (Nat.le_of_ble_eq_true rfl) d_Model_refuse_6

set_option maxHeartbeats 4000000 in
set_option maxRecDepth 100000 in
theorem c_Model_isThere (l : Launch) (D : va_G) (cI cZ cJ : ClassId) (h m_bytes m_w m_saved m_line m_met m_waiting m_nextParent m_kind m_number m_begin m_table m_handlers m_base m_locals m_self m_found m_place m_next m_saidKind m_saidNumber : Nat) (oo : Int32) (sz : Nat)  : Met l y_Model_isThere (.code y_Model_isThere prog_10_method_5_code 2 (some .boolean) :: AW) ({ frames := 1, cells := 0, slots := 0, locals := 22 }) (va_Pc [.ref h, .int oo] (pre_ D [(h, .inr (8, [.int 0, .ref m_bytes, .int 0, .ref m_w, .int 0, .int 0, .ref m_saved, .int 0, .ref m_line, .ref m_met, .ref m_waiting, .ref m_nextParent, .int 0, .ref m_kind, .ref m_number, .int 0, .ref m_begin, .ref m_table, .ref m_handlers, .ref m_base, .ref m_locals, .ref m_self, .ref m_found, .ref m_place, .ref m_next, .int 0, .ref m_saidKind, .ref m_saidNumber, .int 0, .int 0, .int (-1)])), (m_w, .inl (cI, 5568, .inl (fun _ => 0)))] [(cI, .int), (cZ, .boolean), (cJ, .long)] sz)) (va_Qi (fun (r : Int32) (u : Unit) => r = 0) (fun _ t => post_ D (va_A [(h, .inr (8, [.int 0, .ref m_bytes, .int 0, .ref m_w, .int 0, .int 0, .ref m_saved, .int 0, .ref m_line, .ref m_met, .ref m_waiting, .ref m_nextParent, .int 0, .ref m_kind, .ref m_number, .int 0, .ref m_begin, .ref m_table, .ref m_handlers, .ref m_base, .ref m_locals, .ref m_self, .ref m_found, .ref m_place, .ref m_next, .int 0, .ref m_saidKind, .ref m_saidNumber, .int 0, .int 0, .int (-1)])), (m_w, .inl (cI, 5568, .inl (fun _ => 0)))] sz) [(h, .inr (8, [.int 0, .ref m_bytes, .int 0, .ref m_w, .int 0, .int 0, .ref m_saved, .int 0, .ref m_line, .ref m_met, .ref m_waiting, .ref m_nextParent, .int 0, .ref m_kind, .ref m_number, .int 0, .ref m_begin, .ref m_table, .ref m_handlers, .ref m_base, .ref m_locals, .ref m_self, .ref m_found, .ref m_place, .ref m_next, .int 0, .ref m_saidKind, .ref m_saidNumber, .int 0, .int 0, .int (-1)])), (m_w, .inl (cI, 5568, .inl (fun _ => 0)))] t) (va_A [(h, .inr (8, [.int 0, .ref m_bytes, .int 0, .ref m_w, .int 0, .int 0, .ref m_saved, .int 0, .ref m_line, .ref m_met, .ref m_waiting, .ref m_nextParent, .int 0, .ref m_kind, .ref m_number, .int 0, .ref m_begin, .ref m_table, .ref m_handlers, .ref m_base, .ref m_locals, .ref m_self, .ref m_found, .ref m_place, .ref m_next, .int 0, .ref m_saidKind, .ref m_saidNumber, .int 0, .int 0, .int (-1)])), (m_w, .inl (cI, 5568, .inl (fun _ => 0)))] sz)) 0 0 (va_A [(h, .inr (8, [.int 0, .ref m_bytes, .int 0, .ref m_w, .int 0, .int 0, .ref m_saved, .int 0, .ref m_line, .ref m_met, .ref m_waiting, .ref m_nextParent, .int 0, .ref m_kind, .ref m_number, .int 0, .ref m_begin, .ref m_table, .ref m_handlers, .ref m_base, .ref m_locals, .ref m_self, .ref m_found, .ref m_place, .ref m_next, .int 0, .ref m_saidKind, .ref m_saidNumber, .int 0, .int 0, .int (-1)])), (m_w, .inl (cI, 5568, .inl (fun _ => 0)))] sz) := by
  refine Met.ofW (cc := prog_10_method_5_code) (maxL := 2) (ret := (some .boolean)) (by decide) rfl ?_
  intro p e s m args below meth c s₁ B hml hv
  obtain ⟨rfl, rfl, hP, hK, hD0, hT⟩ := hv
  have hx := B.exec
  have hb := B.bytes
  have hr := B.returns
  have hts0 := atoms_spec (ws := .code y_Model_isThere prog_10_method_5_code 2 (some .boolean) :: AW) B.pre
  have hts : ∀ w ∈ AW, w.before [.ref h, .int oo].toArray s = true := fun w h => hts0 w (List.mem_cons_of_mem _ h)
  have hown : s.vm.findClass "TaleMachineModel" = some m.cls := findClass_of_methodNamed B.named
  have hlocks := B.notSynchronized
  have hD := hD0.self (sz := s.heap.size)
  generalize hAe : va_A [(h, .inr (8, [.int 0, .ref m_bytes, .int 0, .ref m_w, .int 0, .int 0, .ref m_saved, .int 0, .ref m_line, .ref m_met, .ref m_waiting, .ref m_nextParent, .int 0, .ref m_kind, .ref m_number, .int 0, .ref m_begin, .ref m_table, .ref m_handlers, .ref m_base, .ref m_locals, .ref m_self, .ref m_found, .ref m_place, .ref m_next, .int 0, .ref m_saidKind, .ref m_saidNumber, .int 0, .int 0, .int (-1)])), (m_w, .inl (cI, 5568, .inl (fun _ => 0)))] s.heap.size = A at hD ⊢
  have hA : ∀ q : Nat, s.heap.size ≤ q → A q := fun q h => by rw [← hAe]; exact Or.inr h
  have hS : va_S A s.heap s.heap [] := va_S.rf
  have hl := lv_entry ([.ref h, .int oo]) (n := 2) (Nat.le_of_ble_eq_true rfl)
  rw [lg_entry_eq]
  generalize (lg_sl ([.ref h, .int oo]) ++ List.replicate (2 - (lg_sl ([.ref h, .int oo])).length) Slot.unset).toArray = ls at hl ⊢
  have hl : lv_has ls 2 [(0, .ref h), (1, .int oo)] := hl
  refine lv_iload_n hx hb d_Model_isThere_0 rfl (lv_at hl 1 rfl) ?_
  refine lv_iconst (v := 0) hx hb d_Model_isThere_1 (by decide) ?_
  refine lv_bipush (v := 31) hx hb d_Model_isThere_2 (by decide) ?_
  refine mv_i (va_runS (As := [.int oo, .int 0, .int 31]) (rest := []) ⟨hx, hb, hml, hown, hts⟩ (c_Model_outside l D cI cZ cJ oo 0 31 _ ) (va_cwS 3 hts (gInS k_2 k_3 k_4 k_1) rfl rfl rfl (by decide +kernel) ⟨Nat.le_of_ble_eq_true rfl, Nat.le_of_ble_eq_true rfl⟩) (pre_S (hP.sub [] rfl) (hK.sub [0, 1, 2] rfl) (hD.sub [] (by decide) rfl) hT) rfl rfl hl.1 rfl (lv_room (Nat.le_of_ble_eq_true rfl)) d_Model_isThere_4 ⟨Nat.le_of_ble_eq_true rfl, Nat.le_of_ble_eq_true rfl⟩) hP hD hS hA [] [0, 1] rfl rfl (by decide) (by decide) (wr := [(h, .inr (8, [.int 0, .ref m_bytes, .int 0, .ref m_w, .int 0, .int 0, .ref m_saved, .int 0, .ref m_line, .ref m_met, .ref m_waiting, .ref m_nextParent, .int 0, .ref m_kind, .ref m_number, .int 0, .ref m_begin, .ref m_table, .ref m_handlers, .ref m_base, .ref m_locals, .ref m_self, .ref m_found, .ref m_place, .ref m_next, .int 0, .ref m_saidKind, .ref m_saidNumber, .int 0, .int 0, .int (-1)])), (m_w, .inl (cI, 5568, .inl (fun _ => 0)))]) (wn := fun _ => []) (fun _ _ h9 => h9) (fun r1 _ H locs hp2 hP hD hS => ?_)
  have hP : va_P D cL [(h, .inr (8, [.int 0, .ref m_bytes, .int 0, .ref m_w, .int 0, .int 0, .ref m_saved, .int 0, .ref m_line, .ref m_met, .ref m_waiting, .ref m_nextParent, .int 0, .ref m_kind, .ref m_number, .int 0, .ref m_begin, .ref m_table, .ref m_handlers, .ref m_base, .ref m_locals, .ref m_self, .ref m_found, .ref m_place, .ref m_next, .int 0, .ref m_saidKind, .ref m_saidNumber, .int 0, .int 0, .int (-1)])), (m_w, .inl (cI, 5568, .inl (fun _ => 0)))] H := hP
  have hD : va_D A [(h, .inr (8, [.int 0, .ref m_bytes, .int 0, .ref m_w, .int 0, .int 0, .ref m_saved, .int 0, .ref m_line, .ref m_met, .ref m_waiting, .ref m_nextParent, .int 0, .ref m_kind, .ref m_number, .int 0, .ref m_begin, .ref m_table, .ref m_handlers, .ref m_base, .ref m_locals, .ref m_self, .ref m_found, .ref m_place, .ref m_next, .int 0, .ref m_saidKind, .ref m_saidNumber, .int 0, .int 0, .int (-1)])), (m_w, .inl (cI, 5568, .inl (fun _ => 0)))] := hD
  refine lv_if_ne hx hb d_Model_isThere_7 (tgt := 27) (by decide) (fun hc3 => ?_) (fun hc3 => ?_)
  · refine lv_iconst (v := 0) hx hb d_Model_isThere_27 (by decide) ?_
    exact end_z hx hb hr hlocks hS (u := ()) (r := 0) (at_end (hP.sub (ws' := [(h, .inr (8, [.int 0, .ref m_bytes, .int 0, .ref m_w, .int 0, .int 0, .ref m_saved, .int 0, .ref m_line, .ref m_met, .ref m_waiting, .ref m_nextParent, .int 0, .ref m_kind, .ref m_number, .int 0, .ref m_begin, .ref m_table, .ref m_handlers, .ref m_base, .ref m_locals, .ref m_self, .ref m_found, .ref m_place, .ref m_next, .int 0, .ref m_saidKind, .ref m_saidNumber, .int 0, .int 0, .int (-1)])), (m_w, .inl (cI, 5568, .inl (fun _ => 0)))]) [0, 1] rfl) (hD.sub (ws' := [(h, .inr (8, [.int 0, .ref m_bytes, .int 0, .ref m_w, .int 0, .int 0, .ref m_saved, .int 0, .ref m_line, .ref m_met, .ref m_waiting, .ref m_nextParent, .int 0, .ref m_kind, .ref m_number, .int 0, .ref m_begin, .ref m_table, .ref m_handlers, .ref m_base, .ref m_locals, .ref m_self, .ref m_found, .ref m_place, .ref m_next, .int 0, .ref m_saidKind, .ref m_saidNumber, .int 0, .int 0, .int (-1)])), (m_w, .inl (cI, 5568, .inl (fun _ => 0)))]) [0, 1] (by decide) rfl)) (rfl) (by decide) (Nat.le_of_ble_eq_true rfl) (Nat.le_of_ble_eq_true rfl) d_Model_isThere_28
  · refine lv_aload_n hx hb d_Model_isThere_10 rfl (lv_at hl 0 rfl) ?_
    refine va_get (D := D) (ci := 8) (v := .ref m_w) (C := "TaleMachineModel") (T := F_Model) (N := 31) hx hb hts in_Model hown hK hP 0 rfl rfl 3 (by decide) (hts _ k_5) (fun _ h9 => h9) rfl d_Model_isThere_11 ?_
    refine lv_bipush (v := 29) hx hb d_Model_isThere_14 (by decide) ?_
    refine lv_iload_n hx hb d_Model_isThere_16 rfl (lv_at hl 1 rfl) ?_
    refine lv_imul hx hb d_Model_isThere_17 ?_
    refine lv_topi (fun z4 hz4 => ?_)
    obtain rfl : z4 = (29 * oo) := hz4.trans (rfl)
    refine va_iald hx hb hK hP 1 0 rfl rfl (i := (29 * oo)) (md_ix _ (fun hh => absurd (hp2.2.mpr hh) (by rw [hc3]; decide))) d_Model_isThere_18 ?_
    refine lv_topi (fun z5 hz5 => ?_)
    obtain rfl : z5 = 0 := hz5
    refine lv_iconst (v := 1) hx hb d_Model_isThere_19 (by decide) ?_
    refine lv_icmp_ne hx hb d_Model_isThere_20 (tgt := 27) (by decide) (fun _ => ?_) (fun hz => absurd hz (by decide))
    refine lv_iconst (v := 0) hx hb d_Model_isThere_27 (by decide) ?_
    exact end_z hx hb hr hlocks hS (u := ()) (r := 0) (at_end (hP.sub (ws' := [(h, .inr (8, [.int 0, .ref m_bytes, .int 0, .ref m_w, .int 0, .int 0, .ref m_saved, .int 0, .ref m_line, .ref m_met, .ref m_waiting, .ref m_nextParent, .int 0, .ref m_kind, .ref m_number, .int 0, .ref m_begin, .ref m_table, .ref m_handlers, .ref m_base, .ref m_locals, .ref m_self, .ref m_found, .ref m_place, .ref m_next, .int 0, .ref m_saidKind, .ref m_saidNumber, .int 0, .int 0, .int (-1)])), (m_w, .inl (cI, 5568, .inl (fun _ => 0)))]) [0, 1] rfl) (hD.sub (ws' := [(h, .inr (8, [.int 0, .ref m_bytes, .int 0, .ref m_w, .int 0, .int 0, .ref m_saved, .int 0, .ref m_line, .ref m_met, .ref m_waiting, .ref m_nextParent, .int 0, .ref m_kind, .ref m_number, .int 0, .ref m_begin, .ref m_table, .ref m_handlers, .ref m_base, .ref m_locals, .ref m_self, .ref m_found, .ref m_place, .ref m_next, .int 0, .ref m_saidKind, .ref m_saidNumber, .int 0, .int 0, .int (-1)])), (m_w, .inl (cI, 5568, .inl (fun _ => 0)))]) [0, 1] (by decide) rfl)) (rfl) (by decide) (Nat.le_of_ble_eq_true rfl) (Nat.le_of_ble_eq_true rfl) d_Model_isThere_28

set_option maxHeartbeats 4000000 in
set_option maxRecDepth 100000 in
theorem c_Model_isParent_1 (l : Launch) (D : va_G) (cI cZ cJ : ClassId) (h m_bytes m_w m_saved m_line m_met m_waiting m_nextParent m_kind m_number m_begin m_table m_handlers m_base m_locals m_self m_found m_place m_next m_saidKind m_saidNumber : Nat) (sz : Nat)  : Met l y_Model_isParent (.code y_Model_isParent prog_10_method_17_code 2 (some .boolean) :: AW) ({ frames := 0, cells := 0, slots := 0, locals := 0 }) (va_Pc [.ref h, .int (-1)] (pre_ D [(h, .inr (8, [.int 0, .ref m_bytes, .int 0, .ref m_w, .int 0, .int 0, .ref m_saved, .int 0, .ref m_line, .ref m_met, .ref m_waiting, .ref m_nextParent, .int 0, .ref m_kind, .ref m_number, .int 0, .ref m_begin, .ref m_table, .ref m_handlers, .ref m_base, .ref m_locals, .ref m_self, .ref m_found, .ref m_place, .ref m_next, .int 0, .ref m_saidKind, .ref m_saidNumber, .int 0, .int 0, .int (-1)])), (m_w, .inl (cI, 5568, .inl (fun _ => 0)))] [(cI, .int), (cZ, .boolean), (cJ, .long)] sz)) (va_Qi (fun (r : Int32) (u : Unit) => r = 1) (fun _ t => post_ D (va_A [(h, .inr (8, [.int 0, .ref m_bytes, .int 0, .ref m_w, .int 0, .int 0, .ref m_saved, .int 0, .ref m_line, .ref m_met, .ref m_waiting, .ref m_nextParent, .int 0, .ref m_kind, .ref m_number, .int 0, .ref m_begin, .ref m_table, .ref m_handlers, .ref m_base, .ref m_locals, .ref m_self, .ref m_found, .ref m_place, .ref m_next, .int 0, .ref m_saidKind, .ref m_saidNumber, .int 0, .int 0, .int (-1)])), (m_w, .inl (cI, 5568, .inl (fun _ => 0)))] sz) [(h, .inr (8, [.int 0, .ref m_bytes, .int 0, .ref m_w, .int 0, .int 0, .ref m_saved, .int 0, .ref m_line, .ref m_met, .ref m_waiting, .ref m_nextParent, .int 0, .ref m_kind, .ref m_number, .int 0, .ref m_begin, .ref m_table, .ref m_handlers, .ref m_base, .ref m_locals, .ref m_self, .ref m_found, .ref m_place, .ref m_next, .int 0, .ref m_saidKind, .ref m_saidNumber, .int 0, .int 0, .int (-1)])), (m_w, .inl (cI, 5568, .inl (fun _ => 0)))] t) (va_A [(h, .inr (8, [.int 0, .ref m_bytes, .int 0, .ref m_w, .int 0, .int 0, .ref m_saved, .int 0, .ref m_line, .ref m_met, .ref m_waiting, .ref m_nextParent, .int 0, .ref m_kind, .ref m_number, .int 0, .ref m_begin, .ref m_table, .ref m_handlers, .ref m_base, .ref m_locals, .ref m_self, .ref m_found, .ref m_place, .ref m_next, .int 0, .ref m_saidKind, .ref m_saidNumber, .int 0, .int 0, .int (-1)])), (m_w, .inl (cI, 5568, .inl (fun _ => 0)))] sz)) 0 0 (va_A [(h, .inr (8, [.int 0, .ref m_bytes, .int 0, .ref m_w, .int 0, .int 0, .ref m_saved, .int 0, .ref m_line, .ref m_met, .ref m_waiting, .ref m_nextParent, .int 0, .ref m_kind, .ref m_number, .int 0, .ref m_begin, .ref m_table, .ref m_handlers, .ref m_base, .ref m_locals, .ref m_self, .ref m_found, .ref m_place, .ref m_next, .int 0, .ref m_saidKind, .ref m_saidNumber, .int 0, .int 0, .int (-1)])), (m_w, .inl (cI, 5568, .inl (fun _ => 0)))] sz) := by
  refine Met.ofW (cc := prog_10_method_17_code) (maxL := 2) (ret := (some .boolean)) (by decide) rfl ?_
  intro p e s m args below meth c s₁ B hml hv
  obtain ⟨rfl, rfl, hP, hK, hD0, hT⟩ := hv
  have hx := B.exec
  have hb := B.bytes
  have hr := B.returns
  have hts0 := atoms_spec (ws := .code y_Model_isParent prog_10_method_17_code 2 (some .boolean) :: AW) B.pre
  have hts : ∀ w ∈ AW, w.before [.ref h, .int (-1)].toArray s = true := fun w h => hts0 w (List.mem_cons_of_mem _ h)
  have hown : s.vm.findClass "TaleMachineModel" = some m.cls := findClass_of_methodNamed B.named
  have hlocks := B.notSynchronized
  have hD := hD0.self (sz := s.heap.size)
  generalize hAe : va_A [(h, .inr (8, [.int 0, .ref m_bytes, .int 0, .ref m_w, .int 0, .int 0, .ref m_saved, .int 0, .ref m_line, .ref m_met, .ref m_waiting, .ref m_nextParent, .int 0, .ref m_kind, .ref m_number, .int 0, .ref m_begin, .ref m_table, .ref m_handlers, .ref m_base, .ref m_locals, .ref m_self, .ref m_found, .ref m_place, .ref m_next, .int 0, .ref m_saidKind, .ref m_saidNumber, .int 0, .int 0, .int (-1)])), (m_w, .inl (cI, 5568, .inl (fun _ => 0)))] s.heap.size = A at hD ⊢
  have hA : ∀ q : Nat, s.heap.size ≤ q → A q := fun q h => by rw [← hAe]; exact Or.inr h
  have hS : va_S A s.heap s.heap [] := va_S.rf
  have hl := lv_entry ([.ref h, .int (-1)]) (n := 2) (Nat.le_of_ble_eq_true rfl)
  rw [lg_entry_eq]
  generalize (lg_sl ([.ref h, .int (-1)]) ++ List.replicate (2 - (lg_sl ([.ref h, .int (-1)])).length) Slot.unset).toArray = ls at hl ⊢
  have hl : lv_has ls 2 [(0, .ref h), (1, .int (-1))] := hl
  refine lv_iload_n hx hb d_Model_isParent_0 rfl (lv_at hl 1 rfl) ?_
  refine lv_iconst (v := (-1)) hx hb d_Model_isParent_1 (by decide) ?_
  refine lv_icmp_eq hx hb d_Model_isParent_2 (tgt := 23) (by decide) (fun _ => ?_) (fun hz => absurd (by decide) hz)
  refine lv_iconst (v := 1) hx hb d_Model_isParent_23 (by decide) ?_
  refine lv_goto hx hb d_Model_isParent_24 (tgt := 28) (by decide) ?_
  exact end_z hx hb hr hlocks hS (u := ()) (r := 1) (at_end (hP.sub (ws' := [(h, .inr (8, [.int 0, .ref m_bytes, .int 0, .ref m_w, .int 0, .int 0, .ref m_saved, .int 0, .ref m_line, .ref m_met, .ref m_waiting, .ref m_nextParent, .int 0, .ref m_kind, .ref m_number, .int 0, .ref m_begin, .ref m_table, .ref m_handlers, .ref m_base, .ref m_locals, .ref m_self, .ref m_found, .ref m_place, .ref m_next, .int 0, .ref m_saidKind, .ref m_saidNumber, .int 0, .int 0, .int (-1)])), (m_w, .inl (cI, 5568, .inl (fun _ => 0)))]) [0, 1] rfl) (hD.sub (ws' := [(h, .inr (8, [.int 0, .ref m_bytes, .int 0, .ref m_w, .int 0, .int 0, .ref m_saved, .int 0, .ref m_line, .ref m_met, .ref m_waiting, .ref m_nextParent, .int 0, .ref m_kind, .ref m_number, .int 0, .ref m_begin, .ref m_table, .ref m_handlers, .ref m_base, .ref m_locals, .ref m_self, .ref m_found, .ref m_place, .ref m_next, .int 0, .ref m_saidKind, .ref m_saidNumber, .int 0, .int 0, .int (-1)])), (m_w, .inl (cI, 5568, .inl (fun _ => 0)))]) [0, 1] (by decide) rfl)) (rfl) (by decide) (Nat.le_of_ble_eq_true rfl) (Nat.le_of_ble_eq_true rfl) d_Model_isParent_28

set_option maxHeartbeats 4000000 in
set_option maxRecDepth 100000 in
theorem c_Model_isParent_2 (l : Launch) (D : va_G) (cI cZ cJ : ClassId) (h m_bytes m_w m_saved m_line m_met m_waiting m_nextParent m_kind m_number m_begin m_table m_handlers m_base m_locals m_self m_found m_place m_next m_saidKind m_saidNumber : Nat) (oo : Int32) (sz : Nat) (ho : oo ≠ -1) : Met l y_Model_isParent (.code y_Model_isParent prog_10_method_17_code 2 (some .boolean) :: AW) ({ frames := 2, cells := 0, slots := 0, locals := 43 }) (va_Pc [.ref h, .int oo] (pre_ D [(h, .inr (8, [.int 0, .ref m_bytes, .int 0, .ref m_w, .int 0, .int 0, .ref m_saved, .int 0, .ref m_line, .ref m_met, .ref m_waiting, .ref m_nextParent, .int 0, .ref m_kind, .ref m_number, .int 0, .ref m_begin, .ref m_table, .ref m_handlers, .ref m_base, .ref m_locals, .ref m_self, .ref m_found, .ref m_place, .ref m_next, .int 0, .ref m_saidKind, .ref m_saidNumber, .int 0, .int 0, .int (-1)])), (m_w, .inl (cI, 5568, .inl (fun _ => 0)))] [(cI, .int), (cZ, .boolean), (cJ, .long)] sz)) (va_Qi (fun (r : Int32) (u : Unit) => r = 0) (fun _ t => post_ D (va_A [(h, .inr (8, [.int 0, .ref m_bytes, .int 0, .ref m_w, .int 0, .int 0, .ref m_saved, .int 0, .ref m_line, .ref m_met, .ref m_waiting, .ref m_nextParent, .int 0, .ref m_kind, .ref m_number, .int 0, .ref m_begin, .ref m_table, .ref m_handlers, .ref m_base, .ref m_locals, .ref m_self, .ref m_found, .ref m_place, .ref m_next, .int 0, .ref m_saidKind, .ref m_saidNumber, .int 0, .int 0, .int (-1)])), (m_w, .inl (cI, 5568, .inl (fun _ => 0)))] sz) [(h, .inr (8, [.int 0, .ref m_bytes, .int 0, .ref m_w, .int 0, .int 0, .ref m_saved, .int 0, .ref m_line, .ref m_met, .ref m_waiting, .ref m_nextParent, .int 0, .ref m_kind, .ref m_number, .int 0, .ref m_begin, .ref m_table, .ref m_handlers, .ref m_base, .ref m_locals, .ref m_self, .ref m_found, .ref m_place, .ref m_next, .int 0, .ref m_saidKind, .ref m_saidNumber, .int 0, .int 0, .int (-1)])), (m_w, .inl (cI, 5568, .inl (fun _ => 0)))] t) (va_A [(h, .inr (8, [.int 0, .ref m_bytes, .int 0, .ref m_w, .int 0, .int 0, .ref m_saved, .int 0, .ref m_line, .ref m_met, .ref m_waiting, .ref m_nextParent, .int 0, .ref m_kind, .ref m_number, .int 0, .ref m_begin, .ref m_table, .ref m_handlers, .ref m_base, .ref m_locals, .ref m_self, .ref m_found, .ref m_place, .ref m_next, .int 0, .ref m_saidKind, .ref m_saidNumber, .int 0, .int 0, .int (-1)])), (m_w, .inl (cI, 5568, .inl (fun _ => 0)))] sz)) 0 0 (va_A [(h, .inr (8, [.int 0, .ref m_bytes, .int 0, .ref m_w, .int 0, .int 0, .ref m_saved, .int 0, .ref m_line, .ref m_met, .ref m_waiting, .ref m_nextParent, .int 0, .ref m_kind, .ref m_number, .int 0, .ref m_begin, .ref m_table, .ref m_handlers, .ref m_base, .ref m_locals, .ref m_self, .ref m_found, .ref m_place, .ref m_next, .int 0, .ref m_saidKind, .ref m_saidNumber, .int 0, .int 0, .int (-1)])), (m_w, .inl (cI, 5568, .inl (fun _ => 0)))] sz) := by
  refine Met.ofW (cc := prog_10_method_17_code) (maxL := 2) (ret := (some .boolean)) (by decide) rfl ?_
  intro p e s m args below meth c s₁ B hml hv
  obtain ⟨rfl, rfl, hP, hK, hD0, hT⟩ := hv
  have hx := B.exec
  have hb := B.bytes
  have hr := B.returns
  have hts0 := atoms_spec (ws := .code y_Model_isParent prog_10_method_17_code 2 (some .boolean) :: AW) B.pre
  have hts : ∀ w ∈ AW, w.before [.ref h, .int oo].toArray s = true := fun w h => hts0 w (List.mem_cons_of_mem _ h)
  have hown : s.vm.findClass "TaleMachineModel" = some m.cls := findClass_of_methodNamed B.named
  have hlocks := B.notSynchronized
  have hD := hD0.self (sz := s.heap.size)
  generalize hAe : va_A [(h, .inr (8, [.int 0, .ref m_bytes, .int 0, .ref m_w, .int 0, .int 0, .ref m_saved, .int 0, .ref m_line, .ref m_met, .ref m_waiting, .ref m_nextParent, .int 0, .ref m_kind, .ref m_number, .int 0, .ref m_begin, .ref m_table, .ref m_handlers, .ref m_base, .ref m_locals, .ref m_self, .ref m_found, .ref m_place, .ref m_next, .int 0, .ref m_saidKind, .ref m_saidNumber, .int 0, .int 0, .int (-1)])), (m_w, .inl (cI, 5568, .inl (fun _ => 0)))] s.heap.size = A at hD ⊢
  have hA : ∀ q : Nat, s.heap.size ≤ q → A q := fun q h => by rw [← hAe]; exact Or.inr h
  have hS : va_S A s.heap s.heap [] := va_S.rf
  have hl := lv_entry ([.ref h, .int oo]) (n := 2) (Nat.le_of_ble_eq_true rfl)
  rw [lg_entry_eq]
  generalize (lg_sl ([.ref h, .int oo]) ++ List.replicate (2 - (lg_sl ([.ref h, .int oo])).length) Slot.unset).toArray = ls at hl ⊢
  have hl : lv_has ls 2 [(0, .ref h), (1, .int oo)] := hl
  refine lv_iload_n hx hb d_Model_isParent_0 rfl (lv_at hl 1 rfl) ?_
  refine lv_iconst (v := (-1)) hx hb d_Model_isParent_1 (by decide) ?_
  refine lv_icmp_eq hx hb d_Model_isParent_2 (tgt := 23) (by decide) (fun hz => absurd hz ho) (fun _ => ?_)
  refine lv_iload_n hx hb d_Model_isParent_5 rfl (lv_at hl 1 rfl) ?_
  refine lv_iconst (v := 0) hx hb d_Model_isParent_6 (by decide) ?_
  refine lv_bipush (v := 15) hx hb d_Model_isParent_7 (by decide) ?_
  refine mv_i (va_runS (As := [.int oo, .int 0, .int 15]) (rest := []) ⟨hx, hb, hml, hown, hts⟩ (c_Model_outside l D cI cZ cJ oo 0 15 _ ) (va_cwS 3 hts (gInS k_2 k_3 k_4 k_1) rfl rfl rfl (by decide +kernel) ⟨Nat.le_of_ble_eq_true rfl, Nat.le_of_ble_eq_true rfl⟩) (pre_S (hP.sub [] rfl) (hK.sub [0, 1, 2] rfl) (hD.sub [] (by decide) rfl) hT) rfl rfl hl.1 rfl (lv_room (Nat.le_of_ble_eq_true rfl)) d_Model_isParent_9 ⟨Nat.le_of_ble_eq_true rfl, Nat.le_of_ble_eq_true rfl⟩) hP hD hS hA [] [0, 1] rfl rfl (by decide) (by decide) (wr := [(h, .inr (8, [.int 0, .ref m_bytes, .int 0, .ref m_w, .int 0, .int 0, .ref m_saved, .int 0, .ref m_line, .ref m_met, .ref m_waiting, .ref m_nextParent, .int 0, .ref m_kind, .ref m_number, .int 0, .ref m_begin, .ref m_table, .ref m_handlers, .ref m_base, .ref m_locals, .ref m_self, .ref m_found, .ref m_place, .ref m_next, .int 0, .ref m_saidKind, .ref m_saidNumber, .int 0, .int 0, .int (-1)])), (m_w, .inl (cI, 5568, .inl (fun _ => 0)))]) (wn := fun _ => []) (fun _ _ h9 => h9) (fun r1 _ H locs hp2 hP hD hS => ?_)
  have hP : va_P D cL [(h, .inr (8, [.int 0, .ref m_bytes, .int 0, .ref m_w, .int 0, .int 0, .ref m_saved, .int 0, .ref m_line, .ref m_met, .ref m_waiting, .ref m_nextParent, .int 0, .ref m_kind, .ref m_number, .int 0, .ref m_begin, .ref m_table, .ref m_handlers, .ref m_base, .ref m_locals, .ref m_self, .ref m_found, .ref m_place, .ref m_next, .int 0, .ref m_saidKind, .ref m_saidNumber, .int 0, .int 0, .int (-1)])), (m_w, .inl (cI, 5568, .inl (fun _ => 0)))] H := hP
  have hD : va_D A [(h, .inr (8, [.int 0, .ref m_bytes, .int 0, .ref m_w, .int 0, .int 0, .ref m_saved, .int 0, .ref m_line, .ref m_met, .ref m_waiting, .ref m_nextParent, .int 0, .ref m_kind, .ref m_number, .int 0, .ref m_begin, .ref m_table, .ref m_handlers, .ref m_base, .ref m_locals, .ref m_self, .ref m_found, .ref m_place, .ref m_next, .int 0, .ref m_saidKind, .ref m_saidNumber, .int 0, .int 0, .int (-1)])), (m_w, .inl (cI, 5568, .inl (fun _ => 0)))] := hD
  refine lv_if_ne hx hb d_Model_isParent_12 (tgt := 27) (by decide) (fun hc3 => ?_) (fun hc3 => ?_)
  · refine lv_iconst (v := 0) hx hb d_Model_isParent_27 (by decide) ?_
    exact end_z hx hb hr hlocks hS (u := ()) (r := 0) (at_end (hP.sub (ws' := [(h, .inr (8, [.int 0, .ref m_bytes, .int 0, .ref m_w, .int 0, .int 0, .ref m_saved, .int 0, .ref m_line, .ref m_met, .ref m_waiting, .ref m_nextParent, .int 0, .ref m_kind, .ref m_number, .int 0, .ref m_begin, .ref m_table, .ref m_handlers, .ref m_base, .ref m_locals, .ref m_self, .ref m_found, .ref m_place, .ref m_next, .int 0, .ref m_saidKind, .ref m_saidNumber, .int 0, .int 0, .int (-1)])), (m_w, .inl (cI, 5568, .inl (fun _ => 0)))]) [0, 1] rfl) (hD.sub (ws' := [(h, .inr (8, [.int 0, .ref m_bytes, .int 0, .ref m_w, .int 0, .int 0, .ref m_saved, .int 0, .ref m_line, .ref m_met, .ref m_waiting, .ref m_nextParent, .int 0, .ref m_kind, .ref m_number, .int 0, .ref m_begin, .ref m_table, .ref m_handlers, .ref m_base, .ref m_locals, .ref m_self, .ref m_found, .ref m_place, .ref m_next, .int 0, .ref m_saidKind, .ref m_saidNumber, .int 0, .int 0, .int (-1)])), (m_w, .inl (cI, 5568, .inl (fun _ => 0)))]) [0, 1] (by decide) rfl)) (rfl) (by decide) (Nat.le_of_ble_eq_true rfl) (Nat.le_of_ble_eq_true rfl) d_Model_isParent_28
  · refine lv_aload_n hx hb d_Model_isParent_15 rfl (lv_at hl 0 rfl) ?_
    refine lv_iload_n hx hb d_Model_isParent_16 rfl (lv_at hl 1 rfl) ?_
    refine mv_i (va_runV (C := "TaleMachineModel") (As := [.int oo]) (rest := []) ⟨hx, hb, hml, hown, hts⟩ (c_Model_isThere l D cI cZ cJ _ _ _ _ _ _ _ _ _ _ _ _ _ _ _ _ _ _ _ _ _ _ _ ) (cwV 1 hts (gInV k_7 k_8 k_9 k_4 k_6) rfl rfl rfl (by decide +kernel) ⟨Nat.le_of_ble_eq_true rfl, Nat.le_of_ble_eq_true rfl⟩) (pre_V (va_recv hK hP (q := ("TaleMachineModel", F_Model, 31)) rfl (q0 := 0) rfl) (hP.sub [0, 1] rfl) (hK.sub [0, 1, 2] rfl) (hD.sub [0, 1] (by decide) rfl) hT) rfl rfl hl.1 rfl (lv_room (Nat.le_of_ble_eq_true rfl)) d_Model_isParent_17 ⟨Nat.le_of_ble_eq_true rfl, Nat.le_of_ble_eq_true rfl⟩) hP hD hS hA [0, 1] [] rfl rfl (by decide) (by decide) (wr := []) (wn := fun _ => [(h, .inr (8, [.int 0, .ref m_bytes, .int 0, .ref m_w, .int 0, .int 0, .ref m_saved, .int 0, .ref m_line, .ref m_met, .ref m_waiting, .ref m_nextParent, .int 0, .ref m_kind, .ref m_number, .int 0, .ref m_begin, .ref m_table, .ref m_handlers, .ref m_base, .ref m_locals, .ref m_self, .ref m_found, .ref m_place, .ref m_next, .int 0, .ref m_saidKind, .ref m_saidNumber, .int 0, .int 0, .int (-1)])), (m_w, .inl (cI, 5568, .inl (fun _ => 0)))]) (fun _ _ h9 => h9) (fun r4 _ H locs hp5 hP hD hS => ?_)
    have hP : va_P D cL [(h, .inr (8, [.int 0, .ref m_bytes, .int 0, .ref m_w, .int 0, .int 0, .ref m_saved, .int 0, .ref m_line, .ref m_met, .ref m_waiting, .ref m_nextParent, .int 0, .ref m_kind, .ref m_number, .int 0, .ref m_begin, .ref m_table, .ref m_handlers, .ref m_base, .ref m_locals, .ref m_self, .ref m_found, .ref m_place, .ref m_next, .int 0, .ref m_saidKind, .ref m_saidNumber, .int 0, .int 0, .int (-1)])), (m_w, .inl (cI, 5568, .inl (fun _ => 0)))] H := hP
    have hD : va_D A [(h, .inr (8, [.int 0, .ref m_bytes, .int 0, .ref m_w, .int 0, .int 0, .ref m_saved, .int 0, .ref m_line, .ref m_met, .ref m_waiting, .ref m_nextParent, .int 0, .ref m_kind, .ref m_number, .int 0, .ref m_begin, .ref m_table, .ref m_handlers, .ref m_base, .ref m_locals, .ref m_self, .ref m_found, .ref m_place, .ref m_next, .int 0, .ref m_saidKind, .ref m_saidNumber, .int 0, .int 0, .int (-1)])), (m_w, .inl (cI, 5568, .inl (fun _ => 0)))] := hD
    obtain rfl : r4 = 0 := hp5
    refine lv_if_eq hx hb d_Model_isParent_20 (tgt := 27) (by decide) (fun _ => ?_) (fun hz => absurd (by decide) hz)
    refine lv_iconst (v := 0) hx hb d_Model_isParent_27 (by decide) ?_
    exact end_z hx hb hr hlocks hS (u := ()) (r := 0) (at_end (hP.sub (ws' := [(h, .inr (8, [.int 0, .ref m_bytes, .int 0, .ref m_w, .int 0, .int 0, .ref m_saved, .int 0, .ref m_line, .ref m_met, .ref m_waiting, .ref m_nextParent, .int 0, .ref m_kind, .ref m_number, .int 0, .ref m_begin, .ref m_table, .ref m_handlers, .ref m_base, .ref m_locals, .ref m_self, .ref m_found, .ref m_place, .ref m_next, .int 0, .ref m_saidKind, .ref m_saidNumber, .int 0, .int 0, .int (-1)])), (m_w, .inl (cI, 5568, .inl (fun _ => 0)))]) [0, 1] rfl) (hD.sub (ws' := [(h, .inr (8, [.int 0, .ref m_bytes, .int 0, .ref m_w, .int 0, .int 0, .ref m_saved, .int 0, .ref m_line, .ref m_met, .ref m_waiting, .ref m_nextParent, .int 0, .ref m_kind, .ref m_number, .int 0, .ref m_begin, .ref m_table, .ref m_handlers, .ref m_base, .ref m_locals, .ref m_self, .ref m_found, .ref m_place, .ref m_next, .int 0, .ref m_saidKind, .ref m_saidNumber, .int 0, .int 0, .int (-1)])), (m_w, .inl (cI, 5568, .inl (fun _ => 0)))]) [0, 1] (by decide) rfl)) (rfl) (by decide) (Nat.le_of_ble_eq_true rfl) (Nat.le_of_ble_eq_true rfl) d_Model_isParent_28

set_option maxHeartbeats 4000000 in
set_option maxRecDepth 100000 in
theorem c_Model_placeOf (l : Launch) (D : va_G) (cI cZ cJ : ClassId) (h : Nat) (oo p_ : Int32) (sz : Nat)  : Met l y_Model_placeOf (.code y_Model_placeOf prog_10_method_8_code 3 (some .int) :: AW) ({ frames := 0, cells := 0, slots := 0, locals := 0 }) (va_Pc [.ref h, .int oo, .int p_] (pre_ D [] [(cI, .int), (cZ, .boolean), (cJ, .long)] sz)) (va_Qi (fun (r : Int32) (u : Unit) => r = 29 * oo + 5 + 3 * p_) (fun _ t => post_ D (va_A [] sz) [] t) (va_A [] sz)) 0 0 (va_A [] sz) := by
  refine Met.ofW (cc := prog_10_method_8_code) (maxL := 3) (ret := (some .int)) (by decide) rfl ?_
  intro p e s m args below meth c s₁ B hml hv
  obtain ⟨rfl, rfl, hP, hK, hD0, hT⟩ := hv
  have hx := B.exec
  have hb := B.bytes
  have hr := B.returns
  have hts0 := atoms_spec (ws := .code y_Model_placeOf prog_10_method_8_code 3 (some .int) :: AW) B.pre
  have hts : ∀ w ∈ AW, w.before [.ref h, .int oo, .int p_].toArray s = true := fun w h => hts0 w (List.mem_cons_of_mem _ h)
  have hown : s.vm.findClass "TaleMachineModel" = some m.cls := findClass_of_methodNamed B.named
  have hlocks := B.notSynchronized
  have hD := hD0.self (sz := s.heap.size)
  generalize hAe : va_A [] s.heap.size = A at hD ⊢
  have hA : ∀ q : Nat, s.heap.size ≤ q → A q := fun q h => by rw [← hAe]; exact Or.inr h
  have hS : va_S A s.heap s.heap [] := va_S.rf
  have hl := lv_entry ([.ref h, .int oo, .int p_]) (n := 3) (Nat.le_of_ble_eq_true rfl)
  rw [lg_entry_eq]
  generalize (lg_sl ([.ref h, .int oo, .int p_]) ++ List.replicate (3 - (lg_sl ([.ref h, .int oo, .int p_])).length) Slot.unset).toArray = ls at hl ⊢
  have hl : lv_has ls 3 [(0, .ref h), (1, .int oo), (2, .int p_)] := hl
  refine lv_bipush (v := 29) hx hb d_Model_placeOf_0 (by decide) ?_
  refine lv_iload_n hx hb d_Model_placeOf_2 rfl (lv_at hl 1 rfl) ?_
  refine lv_imul hx hb d_Model_placeOf_3 ?_
  refine lv_topi (fun z1 hz1 => ?_)
  obtain rfl : z1 = (29 * oo) := hz1.trans (rfl)
  refine lv_iconst (v := 5) hx hb d_Model_placeOf_4 (by decide) ?_
  refine lv_iadd hx hb d_Model_placeOf_5 ?_
  refine lv_topi (fun z2 hz2 => ?_)
  obtain rfl : z2 = (29 * oo + 5) := hz2.trans (rfl)
  refine lv_iconst (v := 3) hx hb d_Model_placeOf_6 (by decide) ?_
  refine lv_iload_n hx hb d_Model_placeOf_7 rfl (lv_at hl 2 rfl) ?_
  refine lv_imul hx hb d_Model_placeOf_8 ?_
  refine lv_topi (fun z3 hz3 => ?_)
  obtain rfl : z3 = (3 * p_) := hz3.trans (rfl)
  refine lv_iadd hx hb d_Model_placeOf_9 ?_
  refine lv_topi (fun z4 hz4 => ?_)
  obtain rfl : z4 = (29 * oo + 5 + 3 * p_) := hz4.trans (rfl)
  exact end_i hx hb hr hlocks hS (u := ()) (r := (29 * oo + 5 + 3 * p_)) (at_end (hP.sub (ws' := []) [] rfl) (hD.sub (ws' := []) [] (by decide) rfl)) (rfl) (Nat.le_of_ble_eq_true rfl) (Nat.le_of_ble_eq_true rfl) d_Model_placeOf_10
end
section
set_option maxHeartbeats 4000000 in
set_option maxRecDepth 100000 in
theorem c_Model_empty (l : Launch) (D : va_G) (cI cZ cJ : ClassId) (h m_bytes m_w m_saved m_line m_met m_waiting m_nextParent m_kind m_number m_begin m_table m_handlers m_base m_locals m_self m_found m_place m_next m_saidKind m_saidNumber : Nat) (sz : Nat)  : Met l y_Model_empty (.code y_Model_empty prog_10_method_11_code 3 none :: AW) ({ frames := 1, cells := 0, slots := 0, locals := 22 }) (va_Pc [.ref h, .int 0] (pre_ D [(h, .inr (8, [.int 0, .ref m_bytes, .int 0, .ref m_w, .int 0, .int 0, .ref m_saved, .int 0, .ref m_line, .ref m_met, .ref m_waiting, .ref m_nextParent, .int 0, .ref m_kind, .ref m_number, .int 0, .ref m_begin, .ref m_table, .ref m_handlers, .ref m_base, .ref m_locals, .ref m_self, .ref m_found, .ref m_place, .ref m_next, .int 0, .ref m_saidKind, .ref m_saidNumber, .int 0, .int 0, .int (-1)])), (m_w, .inl (cI, 5568, .inl (fun _ => 0)))] [(cI, .int), (cZ, .boolean), (cJ, .long)] sz)) (va_Qv (fun (u : Nat → Int32) => True) (fun u t => match u with | fw => post_ D (va_A [(h, .inr (8, [.int 0, .ref m_bytes, .int 0, .ref m_w, .int 0, .int 0, .ref m_saved, .int 0, .ref m_line, .ref m_met, .ref m_waiting, .ref m_nextParent, .int 0, .ref m_kind, .ref m_number, .int 0, .ref m_begin, .ref m_table, .ref m_handlers, .ref m_base, .ref m_locals, .ref m_self, .ref m_found, .ref m_place, .ref m_next, .int 0, .ref m_saidKind, .ref m_saidNumber, .int 0, .int 0, .int (-1)])), (m_w, .inl (cI, 5568, .inl (fun _ => 0)))] sz) [(h, .inr (8, [.int 0, .ref m_bytes, .int 0, .ref m_w, .int 0, .int 0, .ref m_saved, .int 0, .ref m_line, .ref m_met, .ref m_waiting, .ref m_nextParent, .int 0, .ref m_kind, .ref m_number, .int 0, .ref m_begin, .ref m_table, .ref m_handlers, .ref m_base, .ref m_locals, .ref m_self, .ref m_found, .ref m_place, .ref m_next, .int 0, .ref m_saidKind, .ref m_saidNumber, .int 0, .int 0, .int (-1)])), (m_w, .inl (cI, 5568, .inl fw))] t) (va_A [(h, .inr (8, [.int 0, .ref m_bytes, .int 0, .ref m_w, .int 0, .int 0, .ref m_saved, .int 0, .ref m_line, .ref m_met, .ref m_waiting, .ref m_nextParent, .int 0, .ref m_kind, .ref m_number, .int 0, .ref m_begin, .ref m_table, .ref m_handlers, .ref m_base, .ref m_locals, .ref m_self, .ref m_found, .ref m_place, .ref m_next, .int 0, .ref m_saidKind, .ref m_saidNumber, .int 0, .int 0, .int (-1)])), (m_w, .inl (cI, 5568, .inl (fun _ => 0)))] sz)) 0 0 (va_A [(h, .inr (8, [.int 0, .ref m_bytes, .int 0, .ref m_w, .int 0, .int 0, .ref m_saved, .int 0, .ref m_line, .ref m_met, .ref m_waiting, .ref m_nextParent, .int 0, .ref m_kind, .ref m_number, .int 0, .ref m_begin, .ref m_table, .ref m_handlers, .ref m_base, .ref m_locals, .ref m_self, .ref m_found, .ref m_place, .ref m_next, .int 0, .ref m_saidKind, .ref m_saidNumber, .int 0, .int 0, .int (-1)])), (m_w, .inl (cI, 5568, .inl (fun _ => 0)))] sz) := by
  refine Met.ofW (cc := prog_10_method_11_code) (maxL := 3) (ret := none) (by decide) rfl ?_
  intro p e s m args below meth c s₁ B hml hv
  obtain ⟨rfl, rfl, hP, hK, hD0, hT⟩ := hv
  have hx := B.exec
  have hb := B.bytes
  have hr := B.returns
  have hts0 := atoms_spec (ws := .code y_Model_empty prog_10_method_11_code 3 none :: AW) B.pre
  have hts : ∀ w ∈ AW, w.before [.ref h, .int 0].toArray s = true := fun w h => hts0 w (List.mem_cons_of_mem _ h)
  have hown : s.vm.findClass "TaleMachineModel" = some m.cls := findClass_of_methodNamed B.named
  have hlocks := B.notSynchronized
  have hD := hD0.self (sz := s.heap.size)
  generalize hAe : va_A [(h, .inr (8, [.int 0, .ref m_bytes, .int 0, .ref m_w, .int 0, .int 0, .ref m_saved, .int 0, .ref m_line, .ref m_met, .ref m_waiting, .ref m_nextParent, .int 0, .ref m_kind, .ref m_number, .int 0, .ref m_begin, .ref m_table, .ref m_handlers, .ref m_base, .ref m_locals, .ref m_self, .ref m_found, .ref m_place, .ref m_next, .int 0, .ref m_saidKind, .ref m_saidNumber, .int 0, .int 0, .int (-1)])), (m_w, .inl (cI, 5568, .inl (fun _ => 0)))] s.heap.size = A at hD ⊢
  have hA : ∀ q : Nat, s.heap.size ≤ q → A q := fun q h => by rw [← hAe]; exact Or.inr h
  have hS : va_S A s.heap s.heap [] := va_S.rf
  have hl := lv_entry ([.ref h, .int 0]) (n := 3) (Nat.le_of_ble_eq_true rfl)
  rw [lg_entry_eq]
  generalize (lg_sl ([.ref h, .int 0]) ++ List.replicate (3 - (lg_sl ([.ref h, .int 0])).length) Slot.unset).toArray = ls at hl ⊢
  have hl : lv_has ls 3 [(0, .ref h), (1, .int 0)] := hl
  refine lv_aload_n hx hb d_Model_empty_0 rfl (lv_at hl 0 rfl) ?_
  refine va_get (D := D) (ci := 8) (v := .ref m_w) (C := "TaleMachineModel") (T := F_Model) (N := 31) hx hb hts in_Model hown hK hP 0 rfl rfl 3 (by decide) (hts _ k_5) (fun _ h9 => h9) rfl d_Model_empty_1 ?_
  refine lv_bipush (v := 29) hx hb d_Model_empty_4 (by decide) ?_
  refine lv_iload_n hx hb d_Model_empty_6 rfl (lv_at hl 1 rfl) ?_
  refine lv_imul hx hb d_Model_empty_7 ?_
  refine lv_topi (fun z1 hz1 => ?_)
  obtain rfl : z1 = 0 := hz1.trans (by decide)
  refine lv_iconst (v := 1) hx hb d_Model_empty_8 (by decide) ?_
  refine va_iast hx hb hK hP hD hS 1 0 rfl rfl (i := 0) (x := 1) (in_c (by decide)) d_Model_empty_9 (fun H locs hP hD hS => ?_)
  have hP : va_P D cL [(h, .inr (8, [.int 0, .ref m_bytes, .int 0, .ref m_w, .int 0, .int 0, .ref m_saved, .int 0, .ref m_line, .ref m_met, .ref m_waiting, .ref m_nextParent, .int 0, .ref m_kind, .ref m_number, .int 0, .ref m_begin, .ref m_table, .ref m_handlers, .ref m_base, .ref m_locals, .ref m_self, .ref m_found, .ref m_place, .ref m_next, .int 0, .ref m_saidKind, .ref m_saidNumber, .int 0, .int 0, .int (-1)])), (m_w, .inl (cI, 5568, .inl (upd (fun _ => 0) (0 : Int32).toNatClampNeg 1)))] H := hP
  have hD : va_D A [(h, .inr (8, [.int 0, .ref m_bytes, .int 0, .ref m_w, .int 0, .int 0, .ref m_saved, .int 0, .ref m_line, .ref m_met, .ref m_waiting, .ref m_nextParent, .int 0, .ref m_kind, .ref m_number, .int 0, .ref m_begin, .ref m_table, .ref m_handlers, .ref m_base, .ref m_locals, .ref m_self, .ref m_found, .ref m_place, .ref m_next, .int 0, .ref m_saidKind, .ref m_saidNumber, .int 0, .int 0, .int (-1)])), (m_w, .inl (cI, 5568, .inl (upd (fun _ => 0) (0 : Int32).toNatClampNeg 1)))] := hD
  generalize hff2 : upd (fun _ => 0) (0 : Int32).toNatClampNeg 1 = f2 at hP hD
  refine lv_aload_n hx hb d_Model_empty_10 rfl (lv_at hl 0 rfl) ?_
  refine va_get (D := D) (ci := 8) (v := .ref m_w) (C := "TaleMachineModel") (T := F_Model) (N := 31) hx hb hts in_Model hown hK hP 0 rfl rfl 3 (by decide) (hts _ k_5) (fun _ h9 => h9) rfl d_Model_empty_11 ?_
  refine lv_bipush (v := 29) hx hb d_Model_empty_14 (by decide) ?_
  refine lv_iload_n hx hb d_Model_empty_16 rfl (lv_at hl 1 rfl) ?_
  refine lv_imul hx hb d_Model_empty_17 ?_
  refine lv_topi (fun z3 hz3 => ?_)
  obtain rfl : z3 = 0 := hz3.trans (by decide)
  refine lv_iconst (v := 1) hx hb d_Model_empty_18 (by decide) ?_
  refine lv_iadd hx hb d_Model_empty_19 ?_
  refine lv_topi (fun z4 hz4 => ?_)
  obtain rfl : z4 = 1 := hz4.trans (by decide)
  refine lv_iconst (v := 0) hx hb d_Model_empty_20 (by decide) ?_
  refine va_iast hx hb hK hP hD hS 1 0 rfl rfl (i := 1) (x := 0) (in_c (by decide)) d_Model_empty_21 (fun H locs hP hD hS => ?_)
  have hP : va_P D cL [(h, .inr (8, [.int 0, .ref m_bytes, .int 0, .ref m_w, .int 0, .int 0, .ref m_saved, .int 0, .ref m_line, .ref m_met, .ref m_waiting, .ref m_nextParent, .int 0, .ref m_kind, .ref m_number, .int 0, .ref m_begin, .ref m_table, .ref m_handlers, .ref m_base, .ref m_locals, .ref m_self, .ref m_found, .ref m_place, .ref m_next, .int 0, .ref m_saidKind, .ref m_saidNumber, .int 0, .int 0, .int (-1)])), (m_w, .inl (cI, 5568, .inl (upd f2 (1 : Int32).toNatClampNeg 0)))] H := hP
  have hD : va_D A [(h, .inr (8, [.int 0, .ref m_bytes, .int 0, .ref m_w, .int 0, .int 0, .ref m_saved, .int 0, .ref m_line, .ref m_met, .ref m_waiting, .ref m_nextParent, .int 0, .ref m_kind, .ref m_number, .int 0, .ref m_begin, .ref m_table, .ref m_handlers, .ref m_base, .ref m_locals, .ref m_self, .ref m_found, .ref m_place, .ref m_next, .int 0, .ref m_saidKind, .ref m_saidNumber, .int 0, .int 0, .int (-1)])), (m_w, .inl (cI, 5568, .inl (upd f2 (1 : Int32).toNatClampNeg 0)))] := hD
  generalize hff5 : upd f2 (1 : Int32).toNatClampNeg 0 = f5 at hP hD
  refine lv_iconst (v := 0) hx hb d_Model_empty_22 (by decide) ?_
  refine lv_istore_n (lv' := [(2, .int 0), (0, .ref h), (1, .int 0)]) hx hb d_Model_empty_23 rfl hl (by decide) rfl (fun ls hl => ?_)
  refine lv_iload_n hx hb d_Model_empty_24 rfl (lv_at hl 0 rfl) ?_
  refine lv_bipush (v := 8) hx hb d_Model_empty_25 (by decide) ?_
  refine lv_icmp_ge hx hb d_Model_empty_27 (tgt := 48) (by decide) (fun hz => absurd hz (by decide)) (fun _ => ?_)
  refine lv_aload_n hx hb d_Model_empty_30 rfl (lv_at hl 1 rfl) ?_
  refine va_get (D := D) (ci := 8) (v := .ref m_w) (C := "TaleMachineModel") (T := F_Model) (N := 31) hx hb hts in_Model hown hK hP 0 rfl rfl 3 (by decide) (hts _ k_5) (fun _ h9 => h9) rfl d_Model_empty_31 ?_
  refine lv_aload_n hx hb d_Model_empty_34 rfl (lv_at hl 1 rfl) ?_
  refine lv_iload_n hx hb d_Model_empty_35 rfl (lv_at hl 2 rfl) ?_
  refine lv_iload_n hx hb d_Model_empty_36 rfl (lv_at hl 0 rfl) ?_
  refine mv_i (va_runV (C := "TaleMachineModel") (As := [.int 0, .int 0]) (rest := [.ref m_w]) ⟨hx, hb, hml, hown, hts⟩ (c_Model_placeOf l D cI cZ cJ _ 0 0 _ ) (cwV 2 hts (gInV k_11 k_12 k_13 k_4 k_10) rfl rfl rfl (by decide +kernel) ⟨Nat.le_of_ble_eq_true rfl, Nat.le_of_ble_eq_true rfl⟩) (pre_V (va_recv hK hP (q := ("TaleMachineModel", F_Model, 31)) rfl (q0 := 0) rfl) (hP.sub [] rfl) (hK.sub [0, 1, 2] rfl) (hD.sub [] (by decide) rfl) hT) rfl rfl hl.1 rfl (lv_room (Nat.le_of_ble_eq_true rfl)) d_Model_empty_37 ⟨Nat.le_of_ble_eq_true rfl, Nat.le_of_ble_eq_true rfl⟩) hP hD hS hA [] [0, 1] rfl rfl (by decide) (by decide) (wr := [(h, .inr (8, [.int 0, .ref m_bytes, .int 0, .ref m_w, .int 0, .int 0, .ref m_saved, .int 0, .ref m_line, .ref m_met, .ref m_waiting, .ref m_nextParent, .int 0, .ref m_kind, .ref m_number, .int 0, .ref m_begin, .ref m_table, .ref m_handlers, .ref m_base, .ref m_locals, .ref m_self, .ref m_found, .ref m_place, .ref m_next, .int 0, .ref m_saidKind, .ref m_saidNumber, .int 0, .int 0, .int (-1)])), (m_w, .inl (cI, 5568, .inl f5))]) (wn := fun _ => []) (fun _ _ h9 => h9) (fun r6 _ H locs hp7 hP hD hS => ?_)
  have hP : va_P D cL [(h, .inr (8, [.int 0, .ref m_bytes, .int 0, .ref m_w, .int 0, .int 0, .ref m_saved, .int 0, .ref m_line, .ref m_met, .ref m_waiting, .ref m_nextParent, .int 0, .ref m_kind, .ref m_number, .int 0, .ref m_begin, .ref m_table, .ref m_handlers, .ref m_base, .ref m_locals, .ref m_self, .ref m_found, .ref m_place, .ref m_next, .int 0, .ref m_saidKind, .ref m_saidNumber, .int 0, .int 0, .int (-1)])), (m_w, .inl (cI, 5568, .inl f5))] H := hP
  have hD : va_D A [(h, .inr (8, [.int 0, .ref m_bytes, .int 0, .ref m_w, .int 0, .int 0, .ref m_saved, .int 0, .ref m_line, .ref m_met, .ref m_waiting, .ref m_nextParent, .int 0, .ref m_kind, .ref m_number, .int 0, .ref m_begin, .ref m_table, .ref m_handlers, .ref m_base, .ref m_locals, .ref m_self, .ref m_found, .ref m_place, .ref m_next, .int 0, .ref m_saidKind, .ref m_saidNumber, .int 0, .int 0, .int (-1)])), (m_w, .inl (cI, 5568, .inl f5))] := hD
  obtain rfl : r6 = 5 := hp7.trans (by decide)
  refine lv_iconst (v := 0) hx hb d_Model_empty_40 (by decide) ?_
  refine va_iast hx hb hK hP hD hS 1 0 rfl rfl (i := 5) (x := 0) (in_c (by decide)) d_Model_empty_41 (fun H locs hP hD hS => ?_)
  have hP : va_P D cL [(h, .inr (8, [.int 0, .ref m_bytes, .int 0, .ref m_w, .int 0, .int 0, .ref m_saved, .int 0, .ref m_line, .ref m_met, .ref m_waiting, .ref m_nextParent, .int 0, .ref m_kind, .ref m_number, .int 0, .ref m_begin, .ref m_table, .ref m_handlers, .ref m_base, .ref m_locals, .ref m_self, .ref m_found, .ref m_place, .ref m_next, .int 0, .ref m_saidKind, .ref m_saidNumber, .int 0, .int 0, .int (-1)])), (m_w, .inl (cI, 5568, .inl (upd f5 (5 : Int32).toNatClampNeg 0)))] H := hP
  have hD : va_D A [(h, .inr (8, [.int 0, .ref m_bytes, .int 0, .ref m_w, .int 0, .int 0, .ref m_saved, .int 0, .ref m_line, .ref m_met, .ref m_waiting, .ref m_nextParent, .int 0, .ref m_kind, .ref m_number, .int 0, .ref m_begin, .ref m_table, .ref m_handlers, .ref m_base, .ref m_locals, .ref m_self, .ref m_found, .ref m_place, .ref m_next, .int 0, .ref m_saidKind, .ref m_saidNumber, .int 0, .int 0, .int (-1)])), (m_w, .inl (cI, 5568, .inl (upd f5 (5 : Int32).toNatClampNeg 0)))] := hD
  generalize hff8 : upd f5 (5 : Int32).toNatClampNeg 0 = f8 at hP hD
  refine lv_iinc (v := 1) (lv' := [(2, .int 1), (0, .ref h), (1, .int 0)]) hx hb d_Model_empty_42 hl (k := 0) rfl (by decide) (by decide) rfl (fun ls hl => ?_)
  refine lv_goto hx hb d_Model_empty_45 (tgt := 24) (by decide) ?_
  refine lv_iload_n hx hb d_Model_empty_24 rfl (lv_at hl 0 rfl) ?_
  refine lv_bipush (v := 8) hx hb d_Model_empty_25 (by decide) ?_
  refine lv_icmp_ge hx hb d_Model_empty_27 (tgt := 48) (by decide) (fun hz => absurd hz (by decide)) (fun _ => ?_)
  refine lv_aload_n hx hb d_Model_empty_30 rfl (lv_at hl 1 rfl) ?_
  refine va_get (D := D) (ci := 8) (v := .ref m_w) (C := "TaleMachineModel") (T := F_Model) (N := 31) hx hb hts in_Model hown hK hP 0 rfl rfl 3 (by decide) (hts _ k_5) (fun _ h9 => h9) rfl d_Model_empty_31 ?_
  refine lv_aload_n hx hb d_Model_empty_34 rfl (lv_at hl 1 rfl) ?_
  refine lv_iload_n hx hb d_Model_empty_35 rfl (lv_at hl 2 rfl) ?_
  refine lv_iload_n hx hb d_Model_empty_36 rfl (lv_at hl 0 rfl) ?_
  refine mv_i (va_runV (C := "TaleMachineModel") (As := [.int 0, .int 1]) (rest := [.ref m_w]) ⟨hx, hb, hml, hown, hts⟩ (c_Model_placeOf l D cI cZ cJ _ 0 1 _ ) (cwV 2 hts (gInV k_11 k_12 k_13 k_4 k_10) rfl rfl rfl (by decide +kernel) ⟨Nat.le_of_ble_eq_true rfl, Nat.le_of_ble_eq_true rfl⟩) (pre_V (va_recv hK hP (q := ("TaleMachineModel", F_Model, 31)) rfl (q0 := 0) rfl) (hP.sub [] rfl) (hK.sub [0, 1, 2] rfl) (hD.sub [] (by decide) rfl) hT) rfl rfl hl.1 rfl (lv_room (Nat.le_of_ble_eq_true rfl)) d_Model_empty_37 ⟨Nat.le_of_ble_eq_true rfl, Nat.le_of_ble_eq_true rfl⟩) hP hD hS hA [] [0, 1] rfl rfl (by decide) (by decide) (wr := [(h, .inr (8, [.int 0, .ref m_bytes, .int 0, .ref m_w, .int 0, .int 0, .ref m_saved, .int 0, .ref m_line, .ref m_met, .ref m_waiting, .ref m_nextParent, .int 0, .ref m_kind, .ref m_number, .int 0, .ref m_begin, .ref m_table, .ref m_handlers, .ref m_base, .ref m_locals, .ref m_self, .ref m_found, .ref m_place, .ref m_next, .int 0, .ref m_saidKind, .ref m_saidNumber, .int 0, .int 0, .int (-1)])), (m_w, .inl (cI, 5568, .inl f8))]) (wn := fun _ => []) (fun _ _ h9 => h9) (fun r9 _ H locs hp10 hP hD hS => ?_)
  have hP : va_P D cL [(h, .inr (8, [.int 0, .ref m_bytes, .int 0, .ref m_w, .int 0, .int 0, .ref m_saved, .int 0, .ref m_line, .ref m_met, .ref m_waiting, .ref m_nextParent, .int 0, .ref m_kind, .ref m_number, .int 0, .ref m_begin, .ref m_table, .ref m_handlers, .ref m_base, .ref m_locals, .ref m_self, .ref m_found, .ref m_place, .ref m_next, .int 0, .ref m_saidKind, .ref m_saidNumber, .int 0, .int 0, .int (-1)])), (m_w, .inl (cI, 5568, .inl f8))] H := hP
  have hD : va_D A [(h, .inr (8, [.int 0, .ref m_bytes, .int 0, .ref m_w, .int 0, .int 0, .ref m_saved, .int 0, .ref m_line, .ref m_met, .ref m_waiting, .ref m_nextParent, .int 0, .ref m_kind, .ref m_number, .int 0, .ref m_begin, .ref m_table, .ref m_handlers, .ref m_base, .ref m_locals, .ref m_self, .ref m_found, .ref m_place, .ref m_next, .int 0, .ref m_saidKind, .ref m_saidNumber, .int 0, .int 0, .int (-1)])), (m_w, .inl (cI, 5568, .inl f8))] := hD
  obtain rfl : r9 = 8 := hp10.trans (by decide)
  refine lv_iconst (v := 0) hx hb d_Model_empty_40 (by decide) ?_
  refine va_iast hx hb hK hP hD hS 1 0 rfl rfl (i := 8) (x := 0) (in_c (by decide)) d_Model_empty_41 (fun H locs hP hD hS => ?_)
  have hP : va_P D cL [(h, .inr (8, [.int 0, .ref m_bytes, .int 0, .ref m_w, .int 0, .int 0, .ref m_saved, .int 0, .ref m_line, .ref m_met, .ref m_waiting, .ref m_nextParent, .int 0, .ref m_kind, .ref m_number, .int 0, .ref m_begin, .ref m_table, .ref m_handlers, .ref m_base, .ref m_locals, .ref m_self, .ref m_found, .ref m_place, .ref m_next, .int 0, .ref m_saidKind, .ref m_saidNumber, .int 0, .int 0, .int (-1)])), (m_w, .inl (cI, 5568, .inl (upd f8 (8 : Int32).toNatClampNeg 0)))] H := hP
  have hD : va_D A [(h, .inr (8, [.int 0, .ref m_bytes, .int 0, .ref m_w, .int 0, .int 0, .ref m_saved, .int 0, .ref m_line, .ref m_met, .ref m_waiting, .ref m_nextParent, .int 0, .ref m_kind, .ref m_number, .int 0, .ref m_begin, .ref m_table, .ref m_handlers, .ref m_base, .ref m_locals, .ref m_self, .ref m_found, .ref m_place, .ref m_next, .int 0, .ref m_saidKind, .ref m_saidNumber, .int 0, .int 0, .int (-1)])), (m_w, .inl (cI, 5568, .inl (upd f8 (8 : Int32).toNatClampNeg 0)))] := hD
  generalize hff11 : upd f8 (8 : Int32).toNatClampNeg 0 = f11 at hP hD
  refine lv_iinc (v := 2) (lv' := [(2, .int 2), (0, .ref h), (1, .int 0)]) hx hb d_Model_empty_42 hl (k := 0) rfl (by decide) (by decide) rfl (fun ls hl => ?_)
  refine lv_goto hx hb d_Model_empty_45 (tgt := 24) (by decide) ?_
  refine lv_iload_n hx hb d_Model_empty_24 rfl (lv_at hl 0 rfl) ?_
  refine lv_bipush (v := 8) hx hb d_Model_empty_25 (by decide) ?_
  refine lv_icmp_ge hx hb d_Model_empty_27 (tgt := 48) (by decide) (fun hz => absurd hz (by decide)) (fun _ => ?_)
  refine lv_aload_n hx hb d_Model_empty_30 rfl (lv_at hl 1 rfl) ?_
  refine va_get (D := D) (ci := 8) (v := .ref m_w) (C := "TaleMachineModel") (T := F_Model) (N := 31) hx hb hts in_Model hown hK hP 0 rfl rfl 3 (by decide) (hts _ k_5) (fun _ h9 => h9) rfl d_Model_empty_31 ?_
  refine lv_aload_n hx hb d_Model_empty_34 rfl (lv_at hl 1 rfl) ?_
  refine lv_iload_n hx hb d_Model_empty_35 rfl (lv_at hl 2 rfl) ?_
  refine lv_iload_n hx hb d_Model_empty_36 rfl (lv_at hl 0 rfl) ?_
  refine mv_i (va_runV (C := "TaleMachineModel") (As := [.int 0, .int 2]) (rest := [.ref m_w]) ⟨hx, hb, hml, hown, hts⟩ (c_Model_placeOf l D cI cZ cJ _ 0 2 _ ) (cwV 2 hts (gInV k_11 k_12 k_13 k_4 k_10) rfl rfl rfl (by decide +kernel) ⟨Nat.le_of_ble_eq_true rfl, Nat.le_of_ble_eq_true rfl⟩) (pre_V (va_recv hK hP (q := ("TaleMachineModel", F_Model, 31)) rfl (q0 := 0) rfl) (hP.sub [] rfl) (hK.sub [0, 1, 2] rfl) (hD.sub [] (by decide) rfl) hT) rfl rfl hl.1 rfl (lv_room (Nat.le_of_ble_eq_true rfl)) d_Model_empty_37 ⟨Nat.le_of_ble_eq_true rfl, Nat.le_of_ble_eq_true rfl⟩) hP hD hS hA [] [0, 1] rfl rfl (by decide) (by decide) (wr := [(h, .inr (8, [.int 0, .ref m_bytes, .int 0, .ref m_w, .int 0, .int 0, .ref m_saved, .int 0, .ref m_line, .ref m_met, .ref m_waiting, .ref m_nextParent, .int 0, .ref m_kind, .ref m_number, .int 0, .ref m_begin, .ref m_table, .ref m_handlers, .ref m_base, .ref m_locals, .ref m_self, .ref m_found, .ref m_place, .ref m_next, .int 0, .ref m_saidKind, .ref m_saidNumber, .int 0, .int 0, .int (-1)])), (m_w, .inl (cI, 5568, .inl f11))]) (wn := fun _ => []) (fun _ _ h9 => h9) (fun r12 _ H locs hp13 hP hD hS => ?_)
  have hP : va_P D cL [(h, .inr (8, [.int 0, .ref m_bytes, .int 0, .ref m_w, .int 0, .int 0, .ref m_saved, .int 0, .ref m_line, .ref m_met, .ref m_waiting, .ref m_nextParent, .int 0, .ref m_kind, .ref m_number, .int 0, .ref m_begin, .ref m_table, .ref m_handlers, .ref m_base, .ref m_locals, .ref m_self, .ref m_found, .ref m_place, .ref m_next, .int 0, .ref m_saidKind, .ref m_saidNumber, .int 0, .int 0, .int (-1)])), (m_w, .inl (cI, 5568, .inl f11))] H := hP
  have hD : va_D A [(h, .inr (8, [.int 0, .ref m_bytes, .int 0, .ref m_w, .int 0, .int 0, .ref m_saved, .int 0, .ref m_line, .ref m_met, .ref m_waiting, .ref m_nextParent, .int 0, .ref m_kind, .ref m_number, .int 0, .ref m_begin, .ref m_table, .ref m_handlers, .ref m_base, .ref m_locals, .ref m_self, .ref m_found, .ref m_place, .ref m_next, .int 0, .ref m_saidKind, .ref m_saidNumber, .int 0, .int 0, .int (-1)])), (m_w, .inl (cI, 5568, .inl f11))] := hD
  obtain rfl : r12 = 11 := hp13.trans (by decide)
  refine lv_iconst (v := 0) hx hb d_Model_empty_40 (by decide) ?_
  refine va_iast hx hb hK hP hD hS 1 0 rfl rfl (i := 11) (x := 0) (in_c (by decide)) d_Model_empty_41 (fun H locs hP hD hS => ?_)
  have hP : va_P D cL [(h, .inr (8, [.int 0, .ref m_bytes, .int 0, .ref m_w, .int 0, .int 0, .ref m_saved, .int 0, .ref m_line, .ref m_met, .ref m_waiting, .ref m_nextParent, .int 0, .ref m_kind, .ref m_number, .int 0, .ref m_begin, .ref m_table, .ref m_handlers, .ref m_base, .ref m_locals, .ref m_self, .ref m_found, .ref m_place, .ref m_next, .int 0, .ref m_saidKind, .ref m_saidNumber, .int 0, .int 0, .int (-1)])), (m_w, .inl (cI, 5568, .inl (upd f11 (11 : Int32).toNatClampNeg 0)))] H := hP
  have hD : va_D A [(h, .inr (8, [.int 0, .ref m_bytes, .int 0, .ref m_w, .int 0, .int 0, .ref m_saved, .int 0, .ref m_line, .ref m_met, .ref m_waiting, .ref m_nextParent, .int 0, .ref m_kind, .ref m_number, .int 0, .ref m_begin, .ref m_table, .ref m_handlers, .ref m_base, .ref m_locals, .ref m_self, .ref m_found, .ref m_place, .ref m_next, .int 0, .ref m_saidKind, .ref m_saidNumber, .int 0, .int 0, .int (-1)])), (m_w, .inl (cI, 5568, .inl (upd f11 (11 : Int32).toNatClampNeg 0)))] := hD
  generalize hff14 : upd f11 (11 : Int32).toNatClampNeg 0 = f14 at hP hD
  refine lv_iinc (v := 3) (lv' := [(2, .int 3), (0, .ref h), (1, .int 0)]) hx hb d_Model_empty_42 hl (k := 0) rfl (by decide) (by decide) rfl (fun ls hl => ?_)
  refine lv_goto hx hb d_Model_empty_45 (tgt := 24) (by decide) ?_
  refine lv_iload_n hx hb d_Model_empty_24 rfl (lv_at hl 0 rfl) ?_
  refine lv_bipush (v := 8) hx hb d_Model_empty_25 (by decide) ?_
  refine lv_icmp_ge hx hb d_Model_empty_27 (tgt := 48) (by decide) (fun hz => absurd hz (by decide)) (fun _ => ?_)
  refine lv_aload_n hx hb d_Model_empty_30 rfl (lv_at hl 1 rfl) ?_
  refine va_get (D := D) (ci := 8) (v := .ref m_w) (C := "TaleMachineModel") (T := F_Model) (N := 31) hx hb hts in_Model hown hK hP 0 rfl rfl 3 (by decide) (hts _ k_5) (fun _ h9 => h9) rfl d_Model_empty_31 ?_
  refine lv_aload_n hx hb d_Model_empty_34 rfl (lv_at hl 1 rfl) ?_
  refine lv_iload_n hx hb d_Model_empty_35 rfl (lv_at hl 2 rfl) ?_
  refine lv_iload_n hx hb d_Model_empty_36 rfl (lv_at hl 0 rfl) ?_
  refine mv_i (va_runV (C := "TaleMachineModel") (As := [.int 0, .int 3]) (rest := [.ref m_w]) ⟨hx, hb, hml, hown, hts⟩ (c_Model_placeOf l D cI cZ cJ _ 0 3 _ ) (cwV 2 hts (gInV k_11 k_12 k_13 k_4 k_10) rfl rfl rfl (by decide +kernel) ⟨Nat.le_of_ble_eq_true rfl, Nat.le_of_ble_eq_true rfl⟩) (pre_V (va_recv hK hP (q := ("TaleMachineModel", F_Model, 31)) rfl (q0 := 0) rfl) (hP.sub [] rfl) (hK.sub [0, 1, 2] rfl) (hD.sub [] (by decide) rfl) hT) rfl rfl hl.1 rfl (lv_room (Nat.le_of_ble_eq_true rfl)) d_Model_empty_37 ⟨Nat.le_of_ble_eq_true rfl, Nat.le_of_ble_eq_true rfl⟩) hP hD hS hA [] [0, 1] rfl rfl (by decide) (by decide) (wr := [(h, .inr (8, [.int 0, .ref m_bytes, .int 0, .ref m_w, .int 0, .int 0, .ref m_saved, .int 0, .ref m_line, .ref m_met, .ref m_waiting, .ref m_nextParent, .int 0, .ref m_kind, .ref m_number, .int 0, .ref m_begin, .ref m_table, .ref m_handlers, .ref m_base, .ref m_locals, .ref m_self, .ref m_found, .ref m_place, .ref m_next, .int 0, .ref m_saidKind, .ref m_saidNumber, .int 0, .int 0, .int (-1)])), (m_w, .inl (cI, 5568, .inl f14))]) (wn := fun _ => []) (fun _ _ h9 => h9) (fun r15 _ H locs hp16 hP hD hS => ?_)
  have hP : va_P D cL [(h, .inr (8, [.int 0, .ref m_bytes, .int 0, .ref m_w, .int 0, .int 0, .ref m_saved, .int 0, .ref m_line, .ref m_met, .ref m_waiting, .ref m_nextParent, .int 0, .ref m_kind, .ref m_number, .int 0, .ref m_begin, .ref m_table, .ref m_handlers, .ref m_base, .ref m_locals, .ref m_self, .ref m_found, .ref m_place, .ref m_next, .int 0, .ref m_saidKind, .ref m_saidNumber, .int 0, .int 0, .int (-1)])), (m_w, .inl (cI, 5568, .inl f14))] H := hP
  have hD : va_D A [(h, .inr (8, [.int 0, .ref m_bytes, .int 0, .ref m_w, .int 0, .int 0, .ref m_saved, .int 0, .ref m_line, .ref m_met, .ref m_waiting, .ref m_nextParent, .int 0, .ref m_kind, .ref m_number, .int 0, .ref m_begin, .ref m_table, .ref m_handlers, .ref m_base, .ref m_locals, .ref m_self, .ref m_found, .ref m_place, .ref m_next, .int 0, .ref m_saidKind, .ref m_saidNumber, .int 0, .int 0, .int (-1)])), (m_w, .inl (cI, 5568, .inl f14))] := hD
  obtain rfl : r15 = 14 := hp16.trans (by decide)
  refine lv_iconst (v := 0) hx hb d_Model_empty_40 (by decide) ?_
  refine va_iast hx hb hK hP hD hS 1 0 rfl rfl (i := 14) (x := 0) (in_c (by decide)) d_Model_empty_41 (fun H locs hP hD hS => ?_)
  have hP : va_P D cL [(h, .inr (8, [.int 0, .ref m_bytes, .int 0, .ref m_w, .int 0, .int 0, .ref m_saved, .int 0, .ref m_line, .ref m_met, .ref m_waiting, .ref m_nextParent, .int 0, .ref m_kind, .ref m_number, .int 0, .ref m_begin, .ref m_table, .ref m_handlers, .ref m_base, .ref m_locals, .ref m_self, .ref m_found, .ref m_place, .ref m_next, .int 0, .ref m_saidKind, .ref m_saidNumber, .int 0, .int 0, .int (-1)])), (m_w, .inl (cI, 5568, .inl (upd f14 (14 : Int32).toNatClampNeg 0)))] H := hP
  have hD : va_D A [(h, .inr (8, [.int 0, .ref m_bytes, .int 0, .ref m_w, .int 0, .int 0, .ref m_saved, .int 0, .ref m_line, .ref m_met, .ref m_waiting, .ref m_nextParent, .int 0, .ref m_kind, .ref m_number, .int 0, .ref m_begin, .ref m_table, .ref m_handlers, .ref m_base, .ref m_locals, .ref m_self, .ref m_found, .ref m_place, .ref m_next, .int 0, .ref m_saidKind, .ref m_saidNumber, .int 0, .int 0, .int (-1)])), (m_w, .inl (cI, 5568, .inl (upd f14 (14 : Int32).toNatClampNeg 0)))] := hD
  generalize hff17 : upd f14 (14 : Int32).toNatClampNeg 0 = f17 at hP hD
  refine lv_iinc (v := 4) (lv' := [(2, .int 4), (0, .ref h), (1, .int 0)]) hx hb d_Model_empty_42 hl (k := 0) rfl (by decide) (by decide) rfl (fun ls hl => ?_)
  refine lv_goto hx hb d_Model_empty_45 (tgt := 24) (by decide) ?_
  refine lv_iload_n hx hb d_Model_empty_24 rfl (lv_at hl 0 rfl) ?_
  refine lv_bipush (v := 8) hx hb d_Model_empty_25 (by decide) ?_
  refine lv_icmp_ge hx hb d_Model_empty_27 (tgt := 48) (by decide) (fun hz => absurd hz (by decide)) (fun _ => ?_)
  refine lv_aload_n hx hb d_Model_empty_30 rfl (lv_at hl 1 rfl) ?_
  refine va_get (D := D) (ci := 8) (v := .ref m_w) (C := "TaleMachineModel") (T := F_Model) (N := 31) hx hb hts in_Model hown hK hP 0 rfl rfl 3 (by decide) (hts _ k_5) (fun _ h9 => h9) rfl d_Model_empty_31 ?_
  refine lv_aload_n hx hb d_Model_empty_34 rfl (lv_at hl 1 rfl) ?_
  refine lv_iload_n hx hb d_Model_empty_35 rfl (lv_at hl 2 rfl) ?_
  refine lv_iload_n hx hb d_Model_empty_36 rfl (lv_at hl 0 rfl) ?_
  refine mv_i (va_runV (C := "TaleMachineModel") (As := [.int 0, .int 4]) (rest := [.ref m_w]) ⟨hx, hb, hml, hown, hts⟩ (c_Model_placeOf l D cI cZ cJ _ 0 4 _ ) (cwV 2 hts (gInV k_11 k_12 k_13 k_4 k_10) rfl rfl rfl (by decide +kernel) ⟨Nat.le_of_ble_eq_true rfl, Nat.le_of_ble_eq_true rfl⟩) (pre_V (va_recv hK hP (q := ("TaleMachineModel", F_Model, 31)) rfl (q0 := 0) rfl) (hP.sub [] rfl) (hK.sub [0, 1, 2] rfl) (hD.sub [] (by decide) rfl) hT) rfl rfl hl.1 rfl (lv_room (Nat.le_of_ble_eq_true rfl)) d_Model_empty_37 ⟨Nat.le_of_ble_eq_true rfl, Nat.le_of_ble_eq_true rfl⟩) hP hD hS hA [] [0, 1] rfl rfl (by decide) (by decide) (wr := [(h, .inr (8, [.int 0, .ref m_bytes, .int 0, .ref m_w, .int 0, .int 0, .ref m_saved, .int 0, .ref m_line, .ref m_met, .ref m_waiting, .ref m_nextParent, .int 0, .ref m_kind, .ref m_number, .int 0, .ref m_begin, .ref m_table, .ref m_handlers, .ref m_base, .ref m_locals, .ref m_self, .ref m_found, .ref m_place, .ref m_next, .int 0, .ref m_saidKind, .ref m_saidNumber, .int 0, .int 0, .int (-1)])), (m_w, .inl (cI, 5568, .inl f17))]) (wn := fun _ => []) (fun _ _ h9 => h9) (fun r18 _ H locs hp19 hP hD hS => ?_)
  have hP : va_P D cL [(h, .inr (8, [.int 0, .ref m_bytes, .int 0, .ref m_w, .int 0, .int 0, .ref m_saved, .int 0, .ref m_line, .ref m_met, .ref m_waiting, .ref m_nextParent, .int 0, .ref m_kind, .ref m_number, .int 0, .ref m_begin, .ref m_table, .ref m_handlers, .ref m_base, .ref m_locals, .ref m_self, .ref m_found, .ref m_place, .ref m_next, .int 0, .ref m_saidKind, .ref m_saidNumber, .int 0, .int 0, .int (-1)])), (m_w, .inl (cI, 5568, .inl f17))] H := hP
  have hD : va_D A [(h, .inr (8, [.int 0, .ref m_bytes, .int 0, .ref m_w, .int 0, .int 0, .ref m_saved, .int 0, .ref m_line, .ref m_met, .ref m_waiting, .ref m_nextParent, .int 0, .ref m_kind, .ref m_number, .int 0, .ref m_begin, .ref m_table, .ref m_handlers, .ref m_base, .ref m_locals, .ref m_self, .ref m_found, .ref m_place, .ref m_next, .int 0, .ref m_saidKind, .ref m_saidNumber, .int 0, .int 0, .int (-1)])), (m_w, .inl (cI, 5568, .inl f17))] := hD
  obtain rfl : r18 = 17 := hp19.trans (by decide)
  refine lv_iconst (v := 0) hx hb d_Model_empty_40 (by decide) ?_
  refine va_iast hx hb hK hP hD hS 1 0 rfl rfl (i := 17) (x := 0) (in_c (by decide)) d_Model_empty_41 (fun H locs hP hD hS => ?_)
  have hP : va_P D cL [(h, .inr (8, [.int 0, .ref m_bytes, .int 0, .ref m_w, .int 0, .int 0, .ref m_saved, .int 0, .ref m_line, .ref m_met, .ref m_waiting, .ref m_nextParent, .int 0, .ref m_kind, .ref m_number, .int 0, .ref m_begin, .ref m_table, .ref m_handlers, .ref m_base, .ref m_locals, .ref m_self, .ref m_found, .ref m_place, .ref m_next, .int 0, .ref m_saidKind, .ref m_saidNumber, .int 0, .int 0, .int (-1)])), (m_w, .inl (cI, 5568, .inl (upd f17 (17 : Int32).toNatClampNeg 0)))] H := hP
  have hD : va_D A [(h, .inr (8, [.int 0, .ref m_bytes, .int 0, .ref m_w, .int 0, .int 0, .ref m_saved, .int 0, .ref m_line, .ref m_met, .ref m_waiting, .ref m_nextParent, .int 0, .ref m_kind, .ref m_number, .int 0, .ref m_begin, .ref m_table, .ref m_handlers, .ref m_base, .ref m_locals, .ref m_self, .ref m_found, .ref m_place, .ref m_next, .int 0, .ref m_saidKind, .ref m_saidNumber, .int 0, .int 0, .int (-1)])), (m_w, .inl (cI, 5568, .inl (upd f17 (17 : Int32).toNatClampNeg 0)))] := hD
  generalize hff20 : upd f17 (17 : Int32).toNatClampNeg 0 = f20 at hP hD
  refine lv_iinc (v := 5) (lv' := [(2, .int 5), (0, .ref h), (1, .int 0)]) hx hb d_Model_empty_42 hl (k := 0) rfl (by decide) (by decide) rfl (fun ls hl => ?_)
  refine lv_goto hx hb d_Model_empty_45 (tgt := 24) (by decide) ?_
  refine lv_iload_n hx hb d_Model_empty_24 rfl (lv_at hl 0 rfl) ?_
  refine lv_bipush (v := 8) hx hb d_Model_empty_25 (by decide) ?_
  refine lv_icmp_ge hx hb d_Model_empty_27 (tgt := 48) (by decide) (fun hz => absurd hz (by decide)) (fun _ => ?_)
  refine lv_aload_n hx hb d_Model_empty_30 rfl (lv_at hl 1 rfl) ?_
  refine va_get (D := D) (ci := 8) (v := .ref m_w) (C := "TaleMachineModel") (T := F_Model) (N := 31) hx hb hts in_Model hown hK hP 0 rfl rfl 3 (by decide) (hts _ k_5) (fun _ h9 => h9) rfl d_Model_empty_31 ?_
  refine lv_aload_n hx hb d_Model_empty_34 rfl (lv_at hl 1 rfl) ?_
  refine lv_iload_n hx hb d_Model_empty_35 rfl (lv_at hl 2 rfl) ?_
  refine lv_iload_n hx hb d_Model_empty_36 rfl (lv_at hl 0 rfl) ?_
  refine mv_i (va_runV (C := "TaleMachineModel") (As := [.int 0, .int 5]) (rest := [.ref m_w]) ⟨hx, hb, hml, hown, hts⟩ (c_Model_placeOf l D cI cZ cJ _ 0 5 _ ) (cwV 2 hts (gInV k_11 k_12 k_13 k_4 k_10) rfl rfl rfl (by decide +kernel) ⟨Nat.le_of_ble_eq_true rfl, Nat.le_of_ble_eq_true rfl⟩) (pre_V (va_recv hK hP (q := ("TaleMachineModel", F_Model, 31)) rfl (q0 := 0) rfl) (hP.sub [] rfl) (hK.sub [0, 1, 2] rfl) (hD.sub [] (by decide) rfl) hT) rfl rfl hl.1 rfl (lv_room (Nat.le_of_ble_eq_true rfl)) d_Model_empty_37 ⟨Nat.le_of_ble_eq_true rfl, Nat.le_of_ble_eq_true rfl⟩) hP hD hS hA [] [0, 1] rfl rfl (by decide) (by decide) (wr := [(h, .inr (8, [.int 0, .ref m_bytes, .int 0, .ref m_w, .int 0, .int 0, .ref m_saved, .int 0, .ref m_line, .ref m_met, .ref m_waiting, .ref m_nextParent, .int 0, .ref m_kind, .ref m_number, .int 0, .ref m_begin, .ref m_table, .ref m_handlers, .ref m_base, .ref m_locals, .ref m_self, .ref m_found, .ref m_place, .ref m_next, .int 0, .ref m_saidKind, .ref m_saidNumber, .int 0, .int 0, .int (-1)])), (m_w, .inl (cI, 5568, .inl f20))]) (wn := fun _ => []) (fun _ _ h9 => h9) (fun r21 _ H locs hp22 hP hD hS => ?_)
  have hP : va_P D cL [(h, .inr (8, [.int 0, .ref m_bytes, .int 0, .ref m_w, .int 0, .int 0, .ref m_saved, .int 0, .ref m_line, .ref m_met, .ref m_waiting, .ref m_nextParent, .int 0, .ref m_kind, .ref m_number, .int 0, .ref m_begin, .ref m_table, .ref m_handlers, .ref m_base, .ref m_locals, .ref m_self, .ref m_found, .ref m_place, .ref m_next, .int 0, .ref m_saidKind, .ref m_saidNumber, .int 0, .int 0, .int (-1)])), (m_w, .inl (cI, 5568, .inl f20))] H := hP
  have hD : va_D A [(h, .inr (8, [.int 0, .ref m_bytes, .int 0, .ref m_w, .int 0, .int 0, .ref m_saved, .int 0, .ref m_line, .ref m_met, .ref m_waiting, .ref m_nextParent, .int 0, .ref m_kind, .ref m_number, .int 0, .ref m_begin, .ref m_table, .ref m_handlers, .ref m_base, .ref m_locals, .ref m_self, .ref m_found, .ref m_place, .ref m_next, .int 0, .ref m_saidKind, .ref m_saidNumber, .int 0, .int 0, .int (-1)])), (m_w, .inl (cI, 5568, .inl f20))] := hD
  obtain rfl : r21 = 20 := hp22.trans (by decide)
  refine lv_iconst (v := 0) hx hb d_Model_empty_40 (by decide) ?_
  refine va_iast hx hb hK hP hD hS 1 0 rfl rfl (i := 20) (x := 0) (in_c (by decide)) d_Model_empty_41 (fun H locs hP hD hS => ?_)
  have hP : va_P D cL [(h, .inr (8, [.int 0, .ref m_bytes, .int 0, .ref m_w, .int 0, .int 0, .ref m_saved, .int 0, .ref m_line, .ref m_met, .ref m_waiting, .ref m_nextParent, .int 0, .ref m_kind, .ref m_number, .int 0, .ref m_begin, .ref m_table, .ref m_handlers, .ref m_base, .ref m_locals, .ref m_self, .ref m_found, .ref m_place, .ref m_next, .int 0, .ref m_saidKind, .ref m_saidNumber, .int 0, .int 0, .int (-1)])), (m_w, .inl (cI, 5568, .inl (upd f20 (20 : Int32).toNatClampNeg 0)))] H := hP
  have hD : va_D A [(h, .inr (8, [.int 0, .ref m_bytes, .int 0, .ref m_w, .int 0, .int 0, .ref m_saved, .int 0, .ref m_line, .ref m_met, .ref m_waiting, .ref m_nextParent, .int 0, .ref m_kind, .ref m_number, .int 0, .ref m_begin, .ref m_table, .ref m_handlers, .ref m_base, .ref m_locals, .ref m_self, .ref m_found, .ref m_place, .ref m_next, .int 0, .ref m_saidKind, .ref m_saidNumber, .int 0, .int 0, .int (-1)])), (m_w, .inl (cI, 5568, .inl (upd f20 (20 : Int32).toNatClampNeg 0)))] := hD
  generalize hff23 : upd f20 (20 : Int32).toNatClampNeg 0 = f23 at hP hD
  refine lv_iinc (v := 6) (lv' := [(2, .int 6), (0, .ref h), (1, .int 0)]) hx hb d_Model_empty_42 hl (k := 0) rfl (by decide) (by decide) rfl (fun ls hl => ?_)
  refine lv_goto hx hb d_Model_empty_45 (tgt := 24) (by decide) ?_
  refine lv_iload_n hx hb d_Model_empty_24 rfl (lv_at hl 0 rfl) ?_
  refine lv_bipush (v := 8) hx hb d_Model_empty_25 (by decide) ?_
  refine lv_icmp_ge hx hb d_Model_empty_27 (tgt := 48) (by decide) (fun hz => absurd hz (by decide)) (fun _ => ?_)
  refine lv_aload_n hx hb d_Model_empty_30 rfl (lv_at hl 1 rfl) ?_
  refine va_get (D := D) (ci := 8) (v := .ref m_w) (C := "TaleMachineModel") (T := F_Model) (N := 31) hx hb hts in_Model hown hK hP 0 rfl rfl 3 (by decide) (hts _ k_5) (fun _ h9 => h9) rfl d_Model_empty_31 ?_
  refine lv_aload_n hx hb d_Model_empty_34 rfl (lv_at hl 1 rfl) ?_
  refine lv_iload_n hx hb d_Model_empty_35 rfl (lv_at hl 2 rfl) ?_
  refine lv_iload_n hx hb d_Model_empty_36 rfl (lv_at hl 0 rfl) ?_
  refine mv_i (va_runV (C := "TaleMachineModel") (As := [.int 0, .int 6]) (rest := [.ref m_w]) ⟨hx, hb, hml, hown, hts⟩ (c_Model_placeOf l D cI cZ cJ _ 0 6 _ ) (cwV 2 hts (gInV k_11 k_12 k_13 k_4 k_10) rfl rfl rfl (by decide +kernel) ⟨Nat.le_of_ble_eq_true rfl, Nat.le_of_ble_eq_true rfl⟩) (pre_V (va_recv hK hP (q := ("TaleMachineModel", F_Model, 31)) rfl (q0 := 0) rfl) (hP.sub [] rfl) (hK.sub [0, 1, 2] rfl) (hD.sub [] (by decide) rfl) hT) rfl rfl hl.1 rfl (lv_room (Nat.le_of_ble_eq_true rfl)) d_Model_empty_37 ⟨Nat.le_of_ble_eq_true rfl, Nat.le_of_ble_eq_true rfl⟩) hP hD hS hA [] [0, 1] rfl rfl (by decide) (by decide) (wr := [(h, .inr (8, [.int 0, .ref m_bytes, .int 0, .ref m_w, .int 0, .int 0, .ref m_saved, .int 0, .ref m_line, .ref m_met, .ref m_waiting, .ref m_nextParent, .int 0, .ref m_kind, .ref m_number, .int 0, .ref m_begin, .ref m_table, .ref m_handlers, .ref m_base, .ref m_locals, .ref m_self, .ref m_found, .ref m_place, .ref m_next, .int 0, .ref m_saidKind, .ref m_saidNumber, .int 0, .int 0, .int (-1)])), (m_w, .inl (cI, 5568, .inl f23))]) (wn := fun _ => []) (fun _ _ h9 => h9) (fun r24 _ H locs hp25 hP hD hS => ?_)
  have hP : va_P D cL [(h, .inr (8, [.int 0, .ref m_bytes, .int 0, .ref m_w, .int 0, .int 0, .ref m_saved, .int 0, .ref m_line, .ref m_met, .ref m_waiting, .ref m_nextParent, .int 0, .ref m_kind, .ref m_number, .int 0, .ref m_begin, .ref m_table, .ref m_handlers, .ref m_base, .ref m_locals, .ref m_self, .ref m_found, .ref m_place, .ref m_next, .int 0, .ref m_saidKind, .ref m_saidNumber, .int 0, .int 0, .int (-1)])), (m_w, .inl (cI, 5568, .inl f23))] H := hP
  have hD : va_D A [(h, .inr (8, [.int 0, .ref m_bytes, .int 0, .ref m_w, .int 0, .int 0, .ref m_saved, .int 0, .ref m_line, .ref m_met, .ref m_waiting, .ref m_nextParent, .int 0, .ref m_kind, .ref m_number, .int 0, .ref m_begin, .ref m_table, .ref m_handlers, .ref m_base, .ref m_locals, .ref m_self, .ref m_found, .ref m_place, .ref m_next, .int 0, .ref m_saidKind, .ref m_saidNumber, .int 0, .int 0, .int (-1)])), (m_w, .inl (cI, 5568, .inl f23))] := hD
  obtain rfl : r24 = 23 := hp25.trans (by decide)
  refine lv_iconst (v := 0) hx hb d_Model_empty_40 (by decide) ?_
  refine va_iast hx hb hK hP hD hS 1 0 rfl rfl (i := 23) (x := 0) (in_c (by decide)) d_Model_empty_41 (fun H locs hP hD hS => ?_)
  have hP : va_P D cL [(h, .inr (8, [.int 0, .ref m_bytes, .int 0, .ref m_w, .int 0, .int 0, .ref m_saved, .int 0, .ref m_line, .ref m_met, .ref m_waiting, .ref m_nextParent, .int 0, .ref m_kind, .ref m_number, .int 0, .ref m_begin, .ref m_table, .ref m_handlers, .ref m_base, .ref m_locals, .ref m_self, .ref m_found, .ref m_place, .ref m_next, .int 0, .ref m_saidKind, .ref m_saidNumber, .int 0, .int 0, .int (-1)])), (m_w, .inl (cI, 5568, .inl (upd f23 (23 : Int32).toNatClampNeg 0)))] H := hP
  have hD : va_D A [(h, .inr (8, [.int 0, .ref m_bytes, .int 0, .ref m_w, .int 0, .int 0, .ref m_saved, .int 0, .ref m_line, .ref m_met, .ref m_waiting, .ref m_nextParent, .int 0, .ref m_kind, .ref m_number, .int 0, .ref m_begin, .ref m_table, .ref m_handlers, .ref m_base, .ref m_locals, .ref m_self, .ref m_found, .ref m_place, .ref m_next, .int 0, .ref m_saidKind, .ref m_saidNumber, .int 0, .int 0, .int (-1)])), (m_w, .inl (cI, 5568, .inl (upd f23 (23 : Int32).toNatClampNeg 0)))] := hD
  generalize hff26 : upd f23 (23 : Int32).toNatClampNeg 0 = f26 at hP hD
  refine lv_iinc (v := 7) (lv' := [(2, .int 7), (0, .ref h), (1, .int 0)]) hx hb d_Model_empty_42 hl (k := 0) rfl (by decide) (by decide) rfl (fun ls hl => ?_)
  refine lv_goto hx hb d_Model_empty_45 (tgt := 24) (by decide) ?_
  refine lv_iload_n hx hb d_Model_empty_24 rfl (lv_at hl 0 rfl) ?_
  refine lv_bipush (v := 8) hx hb d_Model_empty_25 (by decide) ?_
  refine lv_icmp_ge hx hb d_Model_empty_27 (tgt := 48) (by decide) (fun hz => absurd hz (by decide)) (fun _ => ?_)
  refine lv_aload_n hx hb d_Model_empty_30 rfl (lv_at hl 1 rfl) ?_
  refine va_get (D := D) (ci := 8) (v := .ref m_w) (C := "TaleMachineModel") (T := F_Model) (N := 31) hx hb hts in_Model hown hK hP 0 rfl rfl 3 (by decide) (hts _ k_5) (fun _ h9 => h9) rfl d_Model_empty_31 ?_
  refine lv_aload_n hx hb d_Model_empty_34 rfl (lv_at hl 1 rfl) ?_
  refine lv_iload_n hx hb d_Model_empty_35 rfl (lv_at hl 2 rfl) ?_
  refine lv_iload_n hx hb d_Model_empty_36 rfl (lv_at hl 0 rfl) ?_
  refine mv_i (va_runV (C := "TaleMachineModel") (As := [.int 0, .int 7]) (rest := [.ref m_w]) ⟨hx, hb, hml, hown, hts⟩ (c_Model_placeOf l D cI cZ cJ _ 0 7 _ ) (cwV 2 hts (gInV k_11 k_12 k_13 k_4 k_10) rfl rfl rfl (by decide +kernel) ⟨Nat.le_of_ble_eq_true rfl, Nat.le_of_ble_eq_true rfl⟩) (pre_V (va_recv hK hP (q := ("TaleMachineModel", F_Model, 31)) rfl (q0 := 0) rfl) (hP.sub [] rfl) (hK.sub [0, 1, 2] rfl) (hD.sub [] (by decide) rfl) hT) rfl rfl hl.1 rfl (lv_room (Nat.le_of_ble_eq_true rfl)) d_Model_empty_37 ⟨Nat.le_of_ble_eq_true rfl, Nat.le_of_ble_eq_true rfl⟩) hP hD hS hA [] [0, 1] rfl rfl (by decide) (by decide) (wr := [(h, .inr (8, [.int 0, .ref m_bytes, .int 0, .ref m_w, .int 0, .int 0, .ref m_saved, .int 0, .ref m_line, .ref m_met, .ref m_waiting, .ref m_nextParent, .int 0, .ref m_kind, .ref m_number, .int 0, .ref m_begin, .ref m_table, .ref m_handlers, .ref m_base, .ref m_locals, .ref m_self, .ref m_found, .ref m_place, .ref m_next, .int 0, .ref m_saidKind, .ref m_saidNumber, .int 0, .int 0, .int (-1)])), (m_w, .inl (cI, 5568, .inl f26))]) (wn := fun _ => []) (fun _ _ h9 => h9) (fun r27 _ H locs hp28 hP hD hS => ?_)
  have hP : va_P D cL [(h, .inr (8, [.int 0, .ref m_bytes, .int 0, .ref m_w, .int 0, .int 0, .ref m_saved, .int 0, .ref m_line, .ref m_met, .ref m_waiting, .ref m_nextParent, .int 0, .ref m_kind, .ref m_number, .int 0, .ref m_begin, .ref m_table, .ref m_handlers, .ref m_base, .ref m_locals, .ref m_self, .ref m_found, .ref m_place, .ref m_next, .int 0, .ref m_saidKind, .ref m_saidNumber, .int 0, .int 0, .int (-1)])), (m_w, .inl (cI, 5568, .inl f26))] H := hP
  have hD : va_D A [(h, .inr (8, [.int 0, .ref m_bytes, .int 0, .ref m_w, .int 0, .int 0, .ref m_saved, .int 0, .ref m_line, .ref m_met, .ref m_waiting, .ref m_nextParent, .int 0, .ref m_kind, .ref m_number, .int 0, .ref m_begin, .ref m_table, .ref m_handlers, .ref m_base, .ref m_locals, .ref m_self, .ref m_found, .ref m_place, .ref m_next, .int 0, .ref m_saidKind, .ref m_saidNumber, .int 0, .int 0, .int (-1)])), (m_w, .inl (cI, 5568, .inl f26))] := hD
  obtain rfl : r27 = 26 := hp28.trans (by decide)
  refine lv_iconst (v := 0) hx hb d_Model_empty_40 (by decide) ?_
  refine va_iast hx hb hK hP hD hS 1 0 rfl rfl (i := 26) (x := 0) (in_c (by decide)) d_Model_empty_41 (fun H locs hP hD hS => ?_)
  have hP : va_P D cL [(h, .inr (8, [.int 0, .ref m_bytes, .int 0, .ref m_w, .int 0, .int 0, .ref m_saved, .int 0, .ref m_line, .ref m_met, .ref m_waiting, .ref m_nextParent, .int 0, .ref m_kind, .ref m_number, .int 0, .ref m_begin, .ref m_table, .ref m_handlers, .ref m_base, .ref m_locals, .ref m_self, .ref m_found, .ref m_place, .ref m_next, .int 0, .ref m_saidKind, .ref m_saidNumber, .int 0, .int 0, .int (-1)])), (m_w, .inl (cI, 5568, .inl (upd f26 (26 : Int32).toNatClampNeg 0)))] H := hP
  have hD : va_D A [(h, .inr (8, [.int 0, .ref m_bytes, .int 0, .ref m_w, .int 0, .int 0, .ref m_saved, .int 0, .ref m_line, .ref m_met, .ref m_waiting, .ref m_nextParent, .int 0, .ref m_kind, .ref m_number, .int 0, .ref m_begin, .ref m_table, .ref m_handlers, .ref m_base, .ref m_locals, .ref m_self, .ref m_found, .ref m_place, .ref m_next, .int 0, .ref m_saidKind, .ref m_saidNumber, .int 0, .int 0, .int (-1)])), (m_w, .inl (cI, 5568, .inl (upd f26 (26 : Int32).toNatClampNeg 0)))] := hD
  generalize hff29 : upd f26 (26 : Int32).toNatClampNeg 0 = f29 at hP hD
  refine lv_iinc (v := 8) (lv' := [(2, .int 8), (0, .ref h), (1, .int 0)]) hx hb d_Model_empty_42 hl (k := 0) rfl (by decide) (by decide) rfl (fun ls hl => ?_)
  refine lv_goto hx hb d_Model_empty_45 (tgt := 24) (by decide) ?_
  refine lv_iload_n hx hb d_Model_empty_24 rfl (lv_at hl 0 rfl) ?_
  refine lv_bipush (v := 8) hx hb d_Model_empty_25 (by decide) ?_
  refine lv_icmp_ge hx hb d_Model_empty_27 (tgt := 48) (by decide) (fun _ => ?_) (fun hz => absurd (by decide) hz)
  exact end_v hx hb hr hlocks hS (u := f29) (at_end (hP.sub (ws' := [(h, .inr (8, [.int 0, .ref m_bytes, .int 0, .ref m_w, .int 0, .int 0, .ref m_saved, .int 0, .ref m_line, .ref m_met, .ref m_waiting, .ref m_nextParent, .int 0, .ref m_kind, .ref m_number, .int 0, .ref m_begin, .ref m_table, .ref m_handlers, .ref m_base, .ref m_locals, .ref m_self, .ref m_found, .ref m_place, .ref m_next, .int 0, .ref m_saidKind, .ref m_saidNumber, .int 0, .int 0, .int (-1)])), (m_w, .inl (cI, 5568, .inl f29))]) [0, 1] rfl) (hD.sub (ws' := [(h, .inr (8, [.int 0, .ref m_bytes, .int 0, .ref m_w, .int 0, .int 0, .ref m_saved, .int 0, .ref m_line, .ref m_met, .ref m_waiting, .ref m_nextParent, .int 0, .ref m_kind, .ref m_number, .int 0, .ref m_begin, .ref m_table, .ref m_handlers, .ref m_base, .ref m_locals, .ref m_self, .ref m_found, .ref m_place, .ref m_next, .int 0, .ref m_saidKind, .ref m_saidNumber, .int 0, .int 0, .int (-1)])), (m_w, .inl (cI, 5568, .inl f29))]) [0, 1] (by decide) rfl)) (trivial) (Nat.le_of_ble_eq_true rfl) (Nat.le_of_ble_eq_true rfl) d_Model_empty_48

set_option maxHeartbeats 4000000 in
set_option maxRecDepth 100000 in
theorem c_Model_code_1 (l : Launch) (D : va_G) (cI cZ cJ : ClassId) (h m_bytes m_w m_saved m_line m_met m_waiting m_nextParent m_kind m_number m_begin m_table m_handlers m_base m_locals m_self m_found m_place m_next m_saidKind m_saidNumber : Nat) (wd : Int32) (sz : Nat)  : Met l y_Model_code (.code y_Model_code prog_10_method_16_code 4 (some .boolean) :: AW) ({ frames := 1, cells := 0, slots := 0, locals := 22 }) (va_Pc [.ref h, .int wd, .int 1] (pre_ D [(h, .inr (8, [.int 0, .ref m_bytes, .int 0, .ref m_w, .int 0, .int 0, .ref m_saved, .int 0, .ref m_line, .ref m_met, .ref m_waiting, .ref m_nextParent, .int 0, .ref m_kind, .ref m_number, .int 0, .ref m_begin, .ref m_table, .ref m_handlers, .ref m_base, .ref m_locals, .ref m_self, .ref m_found, .ref m_place, .ref m_next, .int 0, .ref m_saidKind, .ref m_saidNumber, .int 0, .int 0, .int (-1)])), (m_bytes, .inl (cI, 300, .inl (fun _ => 0)))] [(cI, .int), (cZ, .boolean), (cJ, .long)] sz)) (va_Qi (fun (r : Int32) (u : Unit) => r = 1) (fun _ t => post_ D (va_A [(h, .inr (8, [.int 0, .ref m_bytes, .int 0, .ref m_w, .int 0, .int 0, .ref m_saved, .int 0, .ref m_line, .ref m_met, .ref m_waiting, .ref m_nextParent, .int 0, .ref m_kind, .ref m_number, .int 0, .ref m_begin, .ref m_table, .ref m_handlers, .ref m_base, .ref m_locals, .ref m_self, .ref m_found, .ref m_place, .ref m_next, .int 0, .ref m_saidKind, .ref m_saidNumber, .int 0, .int 0, .int (-1)])), (m_bytes, .inl (cI, 300, .inl (fun _ => 0)))] sz) [] t) (va_A [(h, .inr (8, [.int 0, .ref m_bytes, .int 0, .ref m_w, .int 0, .int 0, .ref m_saved, .int 0, .ref m_line, .ref m_met, .ref m_waiting, .ref m_nextParent, .int 0, .ref m_kind, .ref m_number, .int 0, .ref m_begin, .ref m_table, .ref m_handlers, .ref m_base, .ref m_locals, .ref m_self, .ref m_found, .ref m_place, .ref m_next, .int 0, .ref m_saidKind, .ref m_saidNumber, .int 0, .int 0, .int (-1)])), (m_bytes, .inl (cI, 300, .inl (fun _ => 0)))] sz)) 0 0 (va_A [(h, .inr (8, [.int 0, .ref m_bytes, .int 0, .ref m_w, .int 0, .int 0, .ref m_saved, .int 0, .ref m_line, .ref m_met, .ref m_waiting, .ref m_nextParent, .int 0, .ref m_kind, .ref m_number, .int 0, .ref m_begin, .ref m_table, .ref m_handlers, .ref m_base, .ref m_locals, .ref m_self, .ref m_found, .ref m_place, .ref m_next, .int 0, .ref m_saidKind, .ref m_saidNumber, .int 0, .int 0, .int (-1)])), (m_bytes, .inl (cI, 300, .inl (fun _ => 0)))] sz) := by
  refine Met.ofW (cc := prog_10_method_16_code) (maxL := 4) (ret := (some .boolean)) (by decide) rfl ?_
  intro p e s m args below meth c s₁ B hml hv
  obtain ⟨rfl, rfl, hP, hK, hD0, hT⟩ := hv
  have hx := B.exec
  have hb := B.bytes
  have hr := B.returns
  have hts0 := atoms_spec (ws := .code y_Model_code prog_10_method_16_code 4 (some .boolean) :: AW) B.pre
  have hts : ∀ w ∈ AW, w.before [.ref h, .int wd, .int 1].toArray s = true := fun w h => hts0 w (List.mem_cons_of_mem _ h)
  have hown : s.vm.findClass "TaleMachineModel" = some m.cls := findClass_of_methodNamed B.named
  have hlocks := B.notSynchronized
  have hD := hD0.self (sz := s.heap.size)
  generalize hAe : va_A [(h, .inr (8, [.int 0, .ref m_bytes, .int 0, .ref m_w, .int 0, .int 0, .ref m_saved, .int 0, .ref m_line, .ref m_met, .ref m_waiting, .ref m_nextParent, .int 0, .ref m_kind, .ref m_number, .int 0, .ref m_begin, .ref m_table, .ref m_handlers, .ref m_base, .ref m_locals, .ref m_self, .ref m_found, .ref m_place, .ref m_next, .int 0, .ref m_saidKind, .ref m_saidNumber, .int 0, .int 0, .int (-1)])), (m_bytes, .inl (cI, 300, .inl (fun _ => 0)))] s.heap.size = A at hD ⊢
  have hA : ∀ q : Nat, s.heap.size ≤ q → A q := fun q h => by rw [← hAe]; exact Or.inr h
  have hS : va_S A s.heap s.heap [] := va_S.rf
  have hl := lv_entry ([.ref h, .int wd, .int 1]) (n := 4) (Nat.le_of_ble_eq_true rfl)
  rw [lg_entry_eq]
  generalize (lg_sl ([.ref h, .int wd, .int 1]) ++ List.replicate (4 - (lg_sl ([.ref h, .int wd, .int 1])).length) Slot.unset).toArray = ls at hl ⊢
  have hl : lv_has ls 4 [(0, .ref h), (1, .int wd), (2, .int 1)] := hl
  refine lv_aload_n hx hb d_Model_code_0 rfl (lv_at hl 0 rfl) ?_
  refine lv_iconst (v := 0) hx hb d_Model_code_1 (by decide) ?_
  refine va_put (D := D) (ci := 8) (v := .int 0) (ty := .int) (C := "TaleMachineModel") (T := F_Model) (N := 31) hx hb hts in_Model t_Model t_Model_ok n_Model hown hK hP hD hS 0 rfl rfl 0 (by decide) (hts _ k_0) (fun _ h9 => h9) rfl (by decide +kernel) rfl rfl (Nat.le_of_ble_eq_true rfl) d_Model_code_2 (fun H locs hP hD hS => ?_)
  have hP : va_P D cL [(h, .inr (8, [.int 0, .ref m_bytes, .int 0, .ref m_w, .int 0, .int 0, .ref m_saved, .int 0, .ref m_line, .ref m_met, .ref m_waiting, .ref m_nextParent, .int 0, .ref m_kind, .ref m_number, .int 0, .ref m_begin, .ref m_table, .ref m_handlers, .ref m_base, .ref m_locals, .ref m_self, .ref m_found, .ref m_place, .ref m_next, .int 0, .ref m_saidKind, .ref m_saidNumber, .int 0, .int 0, .int (-1)])), (m_bytes, .inl (cI, 300, .inl (fun _ => 0)))] H := hP
  have hD : va_D A [(h, .inr (8, [.int 0, .ref m_bytes, .int 0, .ref m_w, .int 0, .int 0, .ref m_saved, .int 0, .ref m_line, .ref m_met, .ref m_waiting, .ref m_nextParent, .int 0, .ref m_kind, .ref m_number, .int 0, .ref m_begin, .ref m_table, .ref m_handlers, .ref m_base, .ref m_locals, .ref m_self, .ref m_found, .ref m_place, .ref m_next, .int 0, .ref m_saidKind, .ref m_saidNumber, .int 0, .int 0, .int (-1)])), (m_bytes, .inl (cI, 300, .inl (fun _ => 0)))] := hD
  refine lv_iload_n hx hb d_Model_code_5 rfl (lv_at hl 2 rfl) ?_
  refine lv_iconst (v := 1) hx hb d_Model_code_6 (by decide) ?_
  refine lv_iconst (v := 4) hx hb d_Model_code_7 (by decide) ?_
  refine mv_i (va_runS (As := [.int 1, .int 1, .int 4]) (rest := []) ⟨hx, hb, hml, hown, hts⟩ (c_Model_outside l D cI cZ cJ 1 1 4 _ ) (va_cwS 3 hts (gInS k_2 k_3 k_4 k_1) rfl rfl rfl (by decide +kernel) ⟨Nat.le_of_ble_eq_true rfl, Nat.le_of_ble_eq_true rfl⟩) (pre_S (hP.sub [] rfl) (hK.sub [0, 1, 2] rfl) (hD.sub [] (by decide) rfl) hT) rfl rfl hl.1 rfl (lv_room (Nat.le_of_ble_eq_true rfl)) d_Model_code_8 ⟨Nat.le_of_ble_eq_true rfl, Nat.le_of_ble_eq_true rfl⟩) hP hD hS hA [] [0, 1] rfl rfl (by decide) (by decide) (wr := [(h, .inr (8, [.int 0, .ref m_bytes, .int 0, .ref m_w, .int 0, .int 0, .ref m_saved, .int 0, .ref m_line, .ref m_met, .ref m_waiting, .ref m_nextParent, .int 0, .ref m_kind, .ref m_number, .int 0, .ref m_begin, .ref m_table, .ref m_handlers, .ref m_base, .ref m_locals, .ref m_self, .ref m_found, .ref m_place, .ref m_next, .int 0, .ref m_saidKind, .ref m_saidNumber, .int 0, .int 0, .int (-1)])), (m_bytes, .inl (cI, 300, .inl (fun _ => 0)))]) (wn := fun _ => []) (fun _ _ h9 => h9) (fun r1 _ H locs hp2 hP hD hS => ?_)
  have hP : va_P D cL [(h, .inr (8, [.int 0, .ref m_bytes, .int 0, .ref m_w, .int 0, .int 0, .ref m_saved, .int 0, .ref m_line, .ref m_met, .ref m_waiting, .ref m_nextParent, .int 0, .ref m_kind, .ref m_number, .int 0, .ref m_begin, .ref m_table, .ref m_handlers, .ref m_base, .ref m_locals, .ref m_self, .ref m_found, .ref m_place, .ref m_next, .int 0, .ref m_saidKind, .ref m_saidNumber, .int 0, .int 0, .int (-1)])), (m_bytes, .inl (cI, 300, .inl (fun _ => 0)))] H := hP
  have hD : va_D A [(h, .inr (8, [.int 0, .ref m_bytes, .int 0, .ref m_w, .int 0, .int 0, .ref m_saved, .int 0, .ref m_line, .ref m_met, .ref m_waiting, .ref m_nextParent, .int 0, .ref m_kind, .ref m_number, .int 0, .ref m_begin, .ref m_table, .ref m_handlers, .ref m_base, .ref m_locals, .ref m_self, .ref m_found, .ref m_place, .ref m_next, .int 0, .ref m_saidKind, .ref m_saidNumber, .int 0, .int 0, .int (-1)])), (m_bytes, .inl (cI, 300, .inl (fun _ => 0)))] := hD
  refine lv_if_ne hx hb d_Model_code_11 (tgt := 26) (by decide) (fun hz => absurd (by rcases hp2.1 with h | h; exact h; exact absurd (hp2.2.mp h) (by decide)) hz) (fun _ => ?_)
  refine lv_aload_n hx hb d_Model_code_14 rfl (lv_at hl 0 rfl) ?_
  refine va_get (D := D) (ci := 8) (v := .int 0) (C := "TaleMachineModel") (T := F_Model) (N := 31) hx hb hts in_Model hown hK hP 0 rfl rfl 2 (by decide) (hts _ k_14) (fun _ h9 => h9) rfl d_Model_code_15 ?_
  refine lv_iload_n hx hb d_Model_code_18 rfl (lv_at hl 2 rfl) ?_
  refine lv_iadd hx hb d_Model_code_19 ?_
  refine lv_topi (fun z3 hz3 => ?_)
  obtain rfl : z3 = 1 := hz3.trans (by decide)
  refine lv_sipush (v := 300) hx hb d_Model_code_20 (by decide) ?_
  refine lv_icmp_le hx hb d_Model_code_23 (tgt := 28) (by decide) (fun _ => ?_) (fun hz => absurd (by decide) hz)
  refine lv_iload_n hx hb d_Model_code_28 rfl (lv_at hl 2 rfl) ?_
  refine lv_iconst (v := 1) hx hb d_Model_code_29 (by decide) ?_
  refine lv_isub hx hb d_Model_code_30 ?_
  refine lv_topi (fun z4 hz4 => ?_)
  obtain rfl : z4 = 0 := hz4.trans (by decide)
  refine lv_istore_n (lv' := [(3, .int 0), (0, .ref h), (1, .int wd), (2, .int 1)]) hx hb d_Model_code_31 rfl hl (by decide) rfl (fun ls hl => ?_)
  refine lv_iload_n hx hb d_Model_code_32 rfl (lv_at hl 0 rfl) ?_
  refine lv_if_lt hx hb d_Model_code_33 (tgt := 71) (by decide) (fun hz => absurd hz (by decide)) (fun _ => ?_)
  refine lv_aload_n hx hb d_Model_code_36 rfl (lv_at hl 1 rfl) ?_
  refine va_get (D := D) (ci := 8) (v := .ref m_bytes) (C := "TaleMachineModel") (T := F_Model) (N := 31) hx hb hts in_Model hown hK hP 0 rfl rfl 1 (by decide) (hts _ k_15) (fun _ h9 => h9) rfl d_Model_code_37 ?_
  refine lv_aload_n hx hb d_Model_code_40 rfl (lv_at hl 1 rfl) ?_
  refine va_get (D := D) (ci := 8) (v := .int 0) (C := "TaleMachineModel") (T := F_Model) (N := 31) hx hb hts in_Model hown hK hP 0 rfl rfl 2 (by decide) (hts _ k_14) (fun _ h9 => h9) rfl d_Model_code_41 ?_
  refine lv_iload_n hx hb d_Model_code_44 rfl (lv_at hl 2 rfl) ?_
  refine lv_bipush (v := 8) hx hb d_Model_code_45 (by decide) ?_
  refine lv_iload_n hx hb d_Model_code_47 rfl (lv_at hl 0 rfl) ?_
  refine lv_imul hx hb d_Model_code_48 ?_
  refine lv_topi (fun z5 hz5 => ?_)
  obtain rfl : z5 = 0 := hz5.trans (by decide)
  refine lv_ishr hx hb d_Model_code_49 ?_
  refine lv_topi (fun z6 hz6 => ?_)
  refine lv_sipush (v := 255) hx hb d_Model_code_50 (by decide) ?_
  refine lv_iand hx hb d_Model_code_53 ?_
  refine lv_topi (fun z7 hz7 => ?_)
  refine va_iast hx hb hK hP hD hS 1 0 rfl rfl (i := 0) (x := z7) (in_c (by decide)) d_Model_code_54 (fun H locs hP hD hS => ?_)
  have hP : va_P D cL [(h, .inr (8, [.int 0, .ref m_bytes, .int 0, .ref m_w, .int 0, .int 0, .ref m_saved, .int 0, .ref m_line, .ref m_met, .ref m_waiting, .ref m_nextParent, .int 0, .ref m_kind, .ref m_number, .int 0, .ref m_begin, .ref m_table, .ref m_handlers, .ref m_base, .ref m_locals, .ref m_self, .ref m_found, .ref m_place, .ref m_next, .int 0, .ref m_saidKind, .ref m_saidNumber, .int 0, .int 0, .int (-1)])), (m_bytes, .inl (cI, 300, .inl (upd (fun _ => 0) (0 : Int32).toNatClampNeg z7)))] H := hP
  have hD : va_D A [(h, .inr (8, [.int 0, .ref m_bytes, .int 0, .ref m_w, .int 0, .int 0, .ref m_saved, .int 0, .ref m_line, .ref m_met, .ref m_waiting, .ref m_nextParent, .int 0, .ref m_kind, .ref m_number, .int 0, .ref m_begin, .ref m_table, .ref m_handlers, .ref m_base, .ref m_locals, .ref m_self, .ref m_found, .ref m_place, .ref m_next, .int 0, .ref m_saidKind, .ref m_saidNumber, .int 0, .int 0, .int (-1)])), (m_bytes, .inl (cI, 300, .inl (upd (fun _ => 0) (0 : Int32).toNatClampNeg z7)))] := hD
  generalize hff8 : upd (fun _ => 0) (0 : Int32).toNatClampNeg z7 = f8 at hP hD
  refine lv_aload_n hx hb d_Model_code_55 rfl (lv_at hl 1 rfl) ?_
  refine lv_dup hx hb d_Model_code_56 rfl ?_
  refine va_get (D := D) (ci := 8) (v := .int 0) (C := "TaleMachineModel") (T := F_Model) (N := 31) hx hb hts in_Model hown hK hP 0 rfl rfl 2 (by decide) (hts _ k_14) (fun _ h9 => h9) rfl d_Model_code_57 ?_
  refine lv_iconst (v := 1) hx hb d_Model_code_60 (by decide) ?_
  refine lv_iadd hx hb d_Model_code_61 ?_
  refine lv_topi (fun z9 hz9 => ?_)
  obtain rfl : z9 = 1 := hz9.trans (by decide)
  refine va_put (D := D) (ci := 8) (v := .int 1) (ty := .int) (C := "TaleMachineModel") (T := F_Model) (N := 31) hx hb hts in_Model t_Model t_Model_ok n_Model hown hK hP hD hS 0 rfl rfl 2 (by decide) (hts _ k_14) (fun _ h9 => h9) rfl (by decide +kernel) rfl rfl (Nat.le_of_ble_eq_true rfl) d_Model_code_62 (fun H locs hP hD hS => ?_)
  have hP : va_P D cL [(h, .inr (8, [.int 0, .ref m_bytes, .int 1, .ref m_w, .int 0, .int 0, .ref m_saved, .int 0, .ref m_line, .ref m_met, .ref m_waiting, .ref m_nextParent, .int 0, .ref m_kind, .ref m_number, .int 0, .ref m_begin, .ref m_table, .ref m_handlers, .ref m_base, .ref m_locals, .ref m_self, .ref m_found, .ref m_place, .ref m_next, .int 0, .ref m_saidKind, .ref m_saidNumber, .int 0, .int 0, .int (-1)])), (m_bytes, .inl (cI, 300, .inl f8))] H := hP
  have hD : va_D A [(h, .inr (8, [.int 0, .ref m_bytes, .int 1, .ref m_w, .int 0, .int 0, .ref m_saved, .int 0, .ref m_line, .ref m_met, .ref m_waiting, .ref m_nextParent, .int 0, .ref m_kind, .ref m_number, .int 0, .ref m_begin, .ref m_table, .ref m_handlers, .ref m_base, .ref m_locals, .ref m_self, .ref m_found, .ref m_place, .ref m_next, .int 0, .ref m_saidKind, .ref m_saidNumber, .int 0, .int 0, .int (-1)])), (m_bytes, .inl (cI, 300, .inl f8))] := hD
  refine lv_iinc (v := (-1)) (lv' := [(3, .int (-1)), (0, .ref h), (1, .int wd), (2, .int 1)]) hx hb d_Model_code_65 hl (k := 0) rfl (by decide) (by decide) rfl (fun ls hl => ?_)
  refine lv_goto hx hb d_Model_code_68 (tgt := 32) (by decide) ?_
  refine lv_iload_n hx hb d_Model_code_32 rfl (lv_at hl 0 rfl) ?_
  refine lv_if_lt hx hb d_Model_code_33 (tgt := 71) (by decide) (fun _ => ?_) (fun hz => absurd (by decide) hz)
  refine lv_iconst (v := 1) hx hb d_Model_code_71 (by decide) ?_
  exact end_z hx hb hr hlocks hS (u := ()) (r := 1) (at_end (hP.sub (ws' := []) [] rfl) (hD.sub (ws' := []) [] (by decide) rfl)) (rfl) (by decide) (Nat.le_of_ble_eq_true rfl) (Nat.le_of_ble_eq_true rfl) d_Model_code_72

set_option maxHeartbeats 4000000 in
set_option maxRecDepth 100000 in
theorem c_Model_code_2 (l : Launch) (D : va_G) (cI cZ cJ : ClassId) (h m_bytes m_w m_saved m_line m_met m_waiting m_nextParent m_kind m_number m_begin m_table m_handlers m_base m_locals m_self m_found m_place m_next m_saidKind m_saidNumber : Nat) (wd : Int32) (sz : Nat)  : Met l y_Model_code (.code y_Model_code prog_10_method_16_code 4 (some .boolean) :: AW) ({ frames := 1, cells := 0, slots := 0, locals := 22 }) (va_Pc [.ref h, .int wd, .int 2] (pre_ D [(h, .inr (8, [.int 0, .ref m_bytes, .int 0, .ref m_w, .int 0, .int 0, .ref m_saved, .int 0, .ref m_line, .ref m_met, .ref m_waiting, .ref m_nextParent, .int 0, .ref m_kind, .ref m_number, .int 0, .ref m_begin, .ref m_table, .ref m_handlers, .ref m_base, .ref m_locals, .ref m_self, .ref m_found, .ref m_place, .ref m_next, .int 0, .ref m_saidKind, .ref m_saidNumber, .int 0, .int 0, .int (-1)])), (m_bytes, .inl (cI, 300, .inl (fun _ => 0)))] [(cI, .int), (cZ, .boolean), (cJ, .long)] sz)) (va_Qi (fun (r : Int32) (u : Unit) => r = 1) (fun _ t => post_ D (va_A [(h, .inr (8, [.int 0, .ref m_bytes, .int 0, .ref m_w, .int 0, .int 0, .ref m_saved, .int 0, .ref m_line, .ref m_met, .ref m_waiting, .ref m_nextParent, .int 0, .ref m_kind, .ref m_number, .int 0, .ref m_begin, .ref m_table, .ref m_handlers, .ref m_base, .ref m_locals, .ref m_self, .ref m_found, .ref m_place, .ref m_next, .int 0, .ref m_saidKind, .ref m_saidNumber, .int 0, .int 0, .int (-1)])), (m_bytes, .inl (cI, 300, .inl (fun _ => 0)))] sz) [] t) (va_A [(h, .inr (8, [.int 0, .ref m_bytes, .int 0, .ref m_w, .int 0, .int 0, .ref m_saved, .int 0, .ref m_line, .ref m_met, .ref m_waiting, .ref m_nextParent, .int 0, .ref m_kind, .ref m_number, .int 0, .ref m_begin, .ref m_table, .ref m_handlers, .ref m_base, .ref m_locals, .ref m_self, .ref m_found, .ref m_place, .ref m_next, .int 0, .ref m_saidKind, .ref m_saidNumber, .int 0, .int 0, .int (-1)])), (m_bytes, .inl (cI, 300, .inl (fun _ => 0)))] sz)) 0 0 (va_A [(h, .inr (8, [.int 0, .ref m_bytes, .int 0, .ref m_w, .int 0, .int 0, .ref m_saved, .int 0, .ref m_line, .ref m_met, .ref m_waiting, .ref m_nextParent, .int 0, .ref m_kind, .ref m_number, .int 0, .ref m_begin, .ref m_table, .ref m_handlers, .ref m_base, .ref m_locals, .ref m_self, .ref m_found, .ref m_place, .ref m_next, .int 0, .ref m_saidKind, .ref m_saidNumber, .int 0, .int 0, .int (-1)])), (m_bytes, .inl (cI, 300, .inl (fun _ => 0)))] sz) := by
  refine Met.ofW (cc := prog_10_method_16_code) (maxL := 4) (ret := (some .boolean)) (by decide) rfl ?_
  intro p e s m args below meth c s₁ B hml hv
  obtain ⟨rfl, rfl, hP, hK, hD0, hT⟩ := hv
  have hx := B.exec
  have hb := B.bytes
  have hr := B.returns
  have hts0 := atoms_spec (ws := .code y_Model_code prog_10_method_16_code 4 (some .boolean) :: AW) B.pre
  have hts : ∀ w ∈ AW, w.before [.ref h, .int wd, .int 2].toArray s = true := fun w h => hts0 w (List.mem_cons_of_mem _ h)
  have hown : s.vm.findClass "TaleMachineModel" = some m.cls := findClass_of_methodNamed B.named
  have hlocks := B.notSynchronized
  have hD := hD0.self (sz := s.heap.size)
  generalize hAe : va_A [(h, .inr (8, [.int 0, .ref m_bytes, .int 0, .ref m_w, .int 0, .int 0, .ref m_saved, .int 0, .ref m_line, .ref m_met, .ref m_waiting, .ref m_nextParent, .int 0, .ref m_kind, .ref m_number, .int 0, .ref m_begin, .ref m_table, .ref m_handlers, .ref m_base, .ref m_locals, .ref m_self, .ref m_found, .ref m_place, .ref m_next, .int 0, .ref m_saidKind, .ref m_saidNumber, .int 0, .int 0, .int (-1)])), (m_bytes, .inl (cI, 300, .inl (fun _ => 0)))] s.heap.size = A at hD ⊢
  have hA : ∀ q : Nat, s.heap.size ≤ q → A q := fun q h => by rw [← hAe]; exact Or.inr h
  have hS : va_S A s.heap s.heap [] := va_S.rf
  have hl := lv_entry ([.ref h, .int wd, .int 2]) (n := 4) (Nat.le_of_ble_eq_true rfl)
  rw [lg_entry_eq]
  generalize (lg_sl ([.ref h, .int wd, .int 2]) ++ List.replicate (4 - (lg_sl ([.ref h, .int wd, .int 2])).length) Slot.unset).toArray = ls at hl ⊢
  have hl : lv_has ls 4 [(0, .ref h), (1, .int wd), (2, .int 2)] := hl
  refine lv_aload_n hx hb d_Model_code_0 rfl (lv_at hl 0 rfl) ?_
  refine lv_iconst (v := 0) hx hb d_Model_code_1 (by decide) ?_
  refine va_put (D := D) (ci := 8) (v := .int 0) (ty := .int) (C := "TaleMachineModel") (T := F_Model) (N := 31) hx hb hts in_Model t_Model t_Model_ok n_Model hown hK hP hD hS 0 rfl rfl 0 (by decide) (hts _ k_0) (fun _ h9 => h9) rfl (by decide +kernel) rfl rfl (Nat.le_of_ble_eq_true rfl) d_Model_code_2 (fun H locs hP hD hS => ?_)
  have hP : va_P D cL [(h, .inr (8, [.int 0, .ref m_bytes, .int 0, .ref m_w, .int 0, .int 0, .ref m_saved, .int 0, .ref m_line, .ref m_met, .ref m_waiting, .ref m_nextParent, .int 0, .ref m_kind, .ref m_number, .int 0, .ref m_begin, .ref m_table, .ref m_handlers, .ref m_base, .ref m_locals, .ref m_self, .ref m_found, .ref m_place, .ref m_next, .int 0, .ref m_saidKind, .ref m_saidNumber, .int 0, .int 0, .int (-1)])), (m_bytes, .inl (cI, 300, .inl (fun _ => 0)))] H := hP
  have hD : va_D A [(h, .inr (8, [.int 0, .ref m_bytes, .int 0, .ref m_w, .int 0, .int 0, .ref m_saved, .int 0, .ref m_line, .ref m_met, .ref m_waiting, .ref m_nextParent, .int 0, .ref m_kind, .ref m_number, .int 0, .ref m_begin, .ref m_table, .ref m_handlers, .ref m_base, .ref m_locals, .ref m_self, .ref m_found, .ref m_place, .ref m_next, .int 0, .ref m_saidKind, .ref m_saidNumber, .int 0, .int 0, .int (-1)])), (m_bytes, .inl (cI, 300, .inl (fun _ => 0)))] := hD
  refine lv_iload_n hx hb d_Model_code_5 rfl (lv_at hl 2 rfl) ?_
  refine lv_iconst (v := 1) hx hb d_Model_code_6 (by decide) ?_
  refine lv_iconst (v := 4) hx hb d_Model_code_7 (by decide) ?_
  refine mv_i (va_runS (As := [.int 2, .int 1, .int 4]) (rest := []) ⟨hx, hb, hml, hown, hts⟩ (c_Model_outside l D cI cZ cJ 2 1 4 _ ) (va_cwS 3 hts (gInS k_2 k_3 k_4 k_1) rfl rfl rfl (by decide +kernel) ⟨Nat.le_of_ble_eq_true rfl, Nat.le_of_ble_eq_true rfl⟩) (pre_S (hP.sub [] rfl) (hK.sub [0, 1, 2] rfl) (hD.sub [] (by decide) rfl) hT) rfl rfl hl.1 rfl (lv_room (Nat.le_of_ble_eq_true rfl)) d_Model_code_8 ⟨Nat.le_of_ble_eq_true rfl, Nat.le_of_ble_eq_true rfl⟩) hP hD hS hA [] [0, 1] rfl rfl (by decide) (by decide) (wr := [(h, .inr (8, [.int 0, .ref m_bytes, .int 0, .ref m_w, .int 0, .int 0, .ref m_saved, .int 0, .ref m_line, .ref m_met, .ref m_waiting, .ref m_nextParent, .int 0, .ref m_kind, .ref m_number, .int 0, .ref m_begin, .ref m_table, .ref m_handlers, .ref m_base, .ref m_locals, .ref m_self, .ref m_found, .ref m_place, .ref m_next, .int 0, .ref m_saidKind, .ref m_saidNumber, .int 0, .int 0, .int (-1)])), (m_bytes, .inl (cI, 300, .inl (fun _ => 0)))]) (wn := fun _ => []) (fun _ _ h9 => h9) (fun r1 _ H locs hp2 hP hD hS => ?_)
  have hP : va_P D cL [(h, .inr (8, [.int 0, .ref m_bytes, .int 0, .ref m_w, .int 0, .int 0, .ref m_saved, .int 0, .ref m_line, .ref m_met, .ref m_waiting, .ref m_nextParent, .int 0, .ref m_kind, .ref m_number, .int 0, .ref m_begin, .ref m_table, .ref m_handlers, .ref m_base, .ref m_locals, .ref m_self, .ref m_found, .ref m_place, .ref m_next, .int 0, .ref m_saidKind, .ref m_saidNumber, .int 0, .int 0, .int (-1)])), (m_bytes, .inl (cI, 300, .inl (fun _ => 0)))] H := hP
  have hD : va_D A [(h, .inr (8, [.int 0, .ref m_bytes, .int 0, .ref m_w, .int 0, .int 0, .ref m_saved, .int 0, .ref m_line, .ref m_met, .ref m_waiting, .ref m_nextParent, .int 0, .ref m_kind, .ref m_number, .int 0, .ref m_begin, .ref m_table, .ref m_handlers, .ref m_base, .ref m_locals, .ref m_self, .ref m_found, .ref m_place, .ref m_next, .int 0, .ref m_saidKind, .ref m_saidNumber, .int 0, .int 0, .int (-1)])), (m_bytes, .inl (cI, 300, .inl (fun _ => 0)))] := hD
  refine lv_if_ne hx hb d_Model_code_11 (tgt := 26) (by decide) (fun hz => absurd (by rcases hp2.1 with h | h; exact h; exact absurd (hp2.2.mp h) (by decide)) hz) (fun _ => ?_)
  refine lv_aload_n hx hb d_Model_code_14 rfl (lv_at hl 0 rfl) ?_
  refine va_get (D := D) (ci := 8) (v := .int 0) (C := "TaleMachineModel") (T := F_Model) (N := 31) hx hb hts in_Model hown hK hP 0 rfl rfl 2 (by decide) (hts _ k_14) (fun _ h9 => h9) rfl d_Model_code_15 ?_
  refine lv_iload_n hx hb d_Model_code_18 rfl (lv_at hl 2 rfl) ?_
  refine lv_iadd hx hb d_Model_code_19 ?_
  refine lv_topi (fun z3 hz3 => ?_)
  obtain rfl : z3 = 2 := hz3.trans (by decide)
  refine lv_sipush (v := 300) hx hb d_Model_code_20 (by decide) ?_
  refine lv_icmp_le hx hb d_Model_code_23 (tgt := 28) (by decide) (fun _ => ?_) (fun hz => absurd (by decide) hz)
  refine lv_iload_n hx hb d_Model_code_28 rfl (lv_at hl 2 rfl) ?_
  refine lv_iconst (v := 1) hx hb d_Model_code_29 (by decide) ?_
  refine lv_isub hx hb d_Model_code_30 ?_
  refine lv_topi (fun z4 hz4 => ?_)
  obtain rfl : z4 = 1 := hz4.trans (by decide)
  refine lv_istore_n (lv' := [(3, .int 1), (0, .ref h), (1, .int wd), (2, .int 2)]) hx hb d_Model_code_31 rfl hl (by decide) rfl (fun ls hl => ?_)
  refine lv_iload_n hx hb d_Model_code_32 rfl (lv_at hl 0 rfl) ?_
  refine lv_if_lt hx hb d_Model_code_33 (tgt := 71) (by decide) (fun hz => absurd hz (by decide)) (fun _ => ?_)
  refine lv_aload_n hx hb d_Model_code_36 rfl (lv_at hl 1 rfl) ?_
  refine va_get (D := D) (ci := 8) (v := .ref m_bytes) (C := "TaleMachineModel") (T := F_Model) (N := 31) hx hb hts in_Model hown hK hP 0 rfl rfl 1 (by decide) (hts _ k_15) (fun _ h9 => h9) rfl d_Model_code_37 ?_
  refine lv_aload_n hx hb d_Model_code_40 rfl (lv_at hl 1 rfl) ?_
  refine va_get (D := D) (ci := 8) (v := .int 0) (C := "TaleMachineModel") (T := F_Model) (N := 31) hx hb hts in_Model hown hK hP 0 rfl rfl 2 (by decide) (hts _ k_14) (fun _ h9 => h9) rfl d_Model_code_41 ?_
  refine lv_iload_n hx hb d_Model_code_44 rfl (lv_at hl 2 rfl) ?_
  refine lv_bipush (v := 8) hx hb d_Model_code_45 (by decide) ?_
  refine lv_iload_n hx hb d_Model_code_47 rfl (lv_at hl 0 rfl) ?_
  refine lv_imul hx hb d_Model_code_48 ?_
  refine lv_topi (fun z5 hz5 => ?_)
  obtain rfl : z5 = 8 := hz5.trans (by decide)
  refine lv_ishr hx hb d_Model_code_49 ?_
  refine lv_topi (fun z6 hz6 => ?_)
  refine lv_sipush (v := 255) hx hb d_Model_code_50 (by decide) ?_
  refine lv_iand hx hb d_Model_code_53 ?_
  refine lv_topi (fun z7 hz7 => ?_)
  refine va_iast hx hb hK hP hD hS 1 0 rfl rfl (i := 0) (x := z7) (in_c (by decide)) d_Model_code_54 (fun H locs hP hD hS => ?_)
  have hP : va_P D cL [(h, .inr (8, [.int 0, .ref m_bytes, .int 0, .ref m_w, .int 0, .int 0, .ref m_saved, .int 0, .ref m_line, .ref m_met, .ref m_waiting, .ref m_nextParent, .int 0, .ref m_kind, .ref m_number, .int 0, .ref m_begin, .ref m_table, .ref m_handlers, .ref m_base, .ref m_locals, .ref m_self, .ref m_found, .ref m_place, .ref m_next, .int 0, .ref m_saidKind, .ref m_saidNumber, .int 0, .int 0, .int (-1)])), (m_bytes, .inl (cI, 300, .inl (upd (fun _ => 0) (0 : Int32).toNatClampNeg z7)))] H := hP
  have hD : va_D A [(h, .inr (8, [.int 0, .ref m_bytes, .int 0, .ref m_w, .int 0, .int 0, .ref m_saved, .int 0, .ref m_line, .ref m_met, .ref m_waiting, .ref m_nextParent, .int 0, .ref m_kind, .ref m_number, .int 0, .ref m_begin, .ref m_table, .ref m_handlers, .ref m_base, .ref m_locals, .ref m_self, .ref m_found, .ref m_place, .ref m_next, .int 0, .ref m_saidKind, .ref m_saidNumber, .int 0, .int 0, .int (-1)])), (m_bytes, .inl (cI, 300, .inl (upd (fun _ => 0) (0 : Int32).toNatClampNeg z7)))] := hD
  generalize hff8 : upd (fun _ => 0) (0 : Int32).toNatClampNeg z7 = f8 at hP hD
  refine lv_aload_n hx hb d_Model_code_55 rfl (lv_at hl 1 rfl) ?_
  refine lv_dup hx hb d_Model_code_56 rfl ?_
  refine va_get (D := D) (ci := 8) (v := .int 0) (C := "TaleMachineModel") (T := F_Model) (N := 31) hx hb hts in_Model hown hK hP 0 rfl rfl 2 (by decide) (hts _ k_14) (fun _ h9 => h9) rfl d_Model_code_57 ?_
  refine lv_iconst (v := 1) hx hb d_Model_code_60 (by decide) ?_
  refine lv_iadd hx hb d_Model_code_61 ?_
  refine lv_topi (fun z9 hz9 => ?_)
  obtain rfl : z9 = 1 := hz9.trans (by decide)
  refine va_put (D := D) (ci := 8) (v := .int 1) (ty := .int) (C := "TaleMachineModel") (T := F_Model) (N := 31) hx hb hts in_Model t_Model t_Model_ok n_Model hown hK hP hD hS 0 rfl rfl 2 (by decide) (hts _ k_14) (fun _ h9 => h9) rfl (by decide +kernel) rfl rfl (Nat.le_of_ble_eq_true rfl) d_Model_code_62 (fun H locs hP hD hS => ?_)
  have hP : va_P D cL [(h, .inr (8, [.int 0, .ref m_bytes, .int 1, .ref m_w, .int 0, .int 0, .ref m_saved, .int 0, .ref m_line, .ref m_met, .ref m_waiting, .ref m_nextParent, .int 0, .ref m_kind, .ref m_number, .int 0, .ref m_begin, .ref m_table, .ref m_handlers, .ref m_base, .ref m_locals, .ref m_self, .ref m_found, .ref m_place, .ref m_next, .int 0, .ref m_saidKind, .ref m_saidNumber, .int 0, .int 0, .int (-1)])), (m_bytes, .inl (cI, 300, .inl f8))] H := hP
  have hD : va_D A [(h, .inr (8, [.int 0, .ref m_bytes, .int 1, .ref m_w, .int 0, .int 0, .ref m_saved, .int 0, .ref m_line, .ref m_met, .ref m_waiting, .ref m_nextParent, .int 0, .ref m_kind, .ref m_number, .int 0, .ref m_begin, .ref m_table, .ref m_handlers, .ref m_base, .ref m_locals, .ref m_self, .ref m_found, .ref m_place, .ref m_next, .int 0, .ref m_saidKind, .ref m_saidNumber, .int 0, .int 0, .int (-1)])), (m_bytes, .inl (cI, 300, .inl f8))] := hD
  refine lv_iinc (v := 0) (lv' := [(3, .int 0), (0, .ref h), (1, .int wd), (2, .int 2)]) hx hb d_Model_code_65 hl (k := 0) rfl (by decide) (by decide) rfl (fun ls hl => ?_)
  refine lv_goto hx hb d_Model_code_68 (tgt := 32) (by decide) ?_
  refine lv_iload_n hx hb d_Model_code_32 rfl (lv_at hl 0 rfl) ?_
  refine lv_if_lt hx hb d_Model_code_33 (tgt := 71) (by decide) (fun hz => absurd hz (by decide)) (fun _ => ?_)
  refine lv_aload_n hx hb d_Model_code_36 rfl (lv_at hl 1 rfl) ?_
  refine va_get (D := D) (ci := 8) (v := .ref m_bytes) (C := "TaleMachineModel") (T := F_Model) (N := 31) hx hb hts in_Model hown hK hP 0 rfl rfl 1 (by decide) (hts _ k_15) (fun _ h9 => h9) rfl d_Model_code_37 ?_
  refine lv_aload_n hx hb d_Model_code_40 rfl (lv_at hl 1 rfl) ?_
  refine va_get (D := D) (ci := 8) (v := .int 1) (C := "TaleMachineModel") (T := F_Model) (N := 31) hx hb hts in_Model hown hK hP 0 rfl rfl 2 (by decide) (hts _ k_14) (fun _ h9 => h9) rfl d_Model_code_41 ?_
  refine lv_iload_n hx hb d_Model_code_44 rfl (lv_at hl 2 rfl) ?_
  refine lv_bipush (v := 8) hx hb d_Model_code_45 (by decide) ?_
  refine lv_iload_n hx hb d_Model_code_47 rfl (lv_at hl 0 rfl) ?_
  refine lv_imul hx hb d_Model_code_48 ?_
  refine lv_topi (fun z10 hz10 => ?_)
  obtain rfl : z10 = 0 := hz10.trans (by decide)
  refine lv_ishr hx hb d_Model_code_49 ?_
  refine lv_topi (fun z11 hz11 => ?_)
  refine lv_sipush (v := 255) hx hb d_Model_code_50 (by decide) ?_
  refine lv_iand hx hb d_Model_code_53 ?_
  refine lv_topi (fun z12 hz12 => ?_)
  refine va_iast hx hb hK hP hD hS 1 0 rfl rfl (i := 1) (x := z12) (in_c (by decide)) d_Model_code_54 (fun H locs hP hD hS => ?_)
  have hP : va_P D cL [(h, .inr (8, [.int 0, .ref m_bytes, .int 1, .ref m_w, .int 0, .int 0, .ref m_saved, .int 0, .ref m_line, .ref m_met, .ref m_waiting, .ref m_nextParent, .int 0, .ref m_kind, .ref m_number, .int 0, .ref m_begin, .ref m_table, .ref m_handlers, .ref m_base, .ref m_locals, .ref m_self, .ref m_found, .ref m_place, .ref m_next, .int 0, .ref m_saidKind, .ref m_saidNumber, .int 0, .int 0, .int (-1)])), (m_bytes, .inl (cI, 300, .inl (upd f8 (1 : Int32).toNatClampNeg z12)))] H := hP
  have hD : va_D A [(h, .inr (8, [.int 0, .ref m_bytes, .int 1, .ref m_w, .int 0, .int 0, .ref m_saved, .int 0, .ref m_line, .ref m_met, .ref m_waiting, .ref m_nextParent, .int 0, .ref m_kind, .ref m_number, .int 0, .ref m_begin, .ref m_table, .ref m_handlers, .ref m_base, .ref m_locals, .ref m_self, .ref m_found, .ref m_place, .ref m_next, .int 0, .ref m_saidKind, .ref m_saidNumber, .int 0, .int 0, .int (-1)])), (m_bytes, .inl (cI, 300, .inl (upd f8 (1 : Int32).toNatClampNeg z12)))] := hD
  generalize hff13 : upd f8 (1 : Int32).toNatClampNeg z12 = f13 at hP hD
  refine lv_aload_n hx hb d_Model_code_55 rfl (lv_at hl 1 rfl) ?_
  refine lv_dup hx hb d_Model_code_56 rfl ?_
  refine va_get (D := D) (ci := 8) (v := .int 1) (C := "TaleMachineModel") (T := F_Model) (N := 31) hx hb hts in_Model hown hK hP 0 rfl rfl 2 (by decide) (hts _ k_14) (fun _ h9 => h9) rfl d_Model_code_57 ?_
  refine lv_iconst (v := 1) hx hb d_Model_code_60 (by decide) ?_
  refine lv_iadd hx hb d_Model_code_61 ?_
  refine lv_topi (fun z14 hz14 => ?_)
  obtain rfl : z14 = 2 := hz14.trans (by decide)
  refine va_put (D := D) (ci := 8) (v := .int 2) (ty := .int) (C := "TaleMachineModel") (T := F_Model) (N := 31) hx hb hts in_Model t_Model t_Model_ok n_Model hown hK hP hD hS 0 rfl rfl 2 (by decide) (hts _ k_14) (fun _ h9 => h9) rfl (by decide +kernel) rfl rfl (Nat.le_of_ble_eq_true rfl) d_Model_code_62 (fun H locs hP hD hS => ?_)
  have hP : va_P D cL [(h, .inr (8, [.int 0, .ref m_bytes, .int 2, .ref m_w, .int 0, .int 0, .ref m_saved, .int 0, .ref m_line, .ref m_met, .ref m_waiting, .ref m_nextParent, .int 0, .ref m_kind, .ref m_number, .int 0, .ref m_begin, .ref m_table, .ref m_handlers, .ref m_base, .ref m_locals, .ref m_self, .ref m_found, .ref m_place, .ref m_next, .int 0, .ref m_saidKind, .ref m_saidNumber, .int 0, .int 0, .int (-1)])), (m_bytes, .inl (cI, 300, .inl f13))] H := hP
  have hD : va_D A [(h, .inr (8, [.int 0, .ref m_bytes, .int 2, .ref m_w, .int 0, .int 0, .ref m_saved, .int 0, .ref m_line, .ref m_met, .ref m_waiting, .ref m_nextParent, .int 0, .ref m_kind, .ref m_number, .int 0, .ref m_begin, .ref m_table, .ref m_handlers, .ref m_base, .ref m_locals, .ref m_self, .ref m_found, .ref m_place, .ref m_next, .int 0, .ref m_saidKind, .ref m_saidNumber, .int 0, .int 0, .int (-1)])), (m_bytes, .inl (cI, 300, .inl f13))] := hD
  refine lv_iinc (v := (-1)) (lv' := [(3, .int (-1)), (0, .ref h), (1, .int wd), (2, .int 2)]) hx hb d_Model_code_65 hl (k := 0) rfl (by decide) (by decide) rfl (fun ls hl => ?_)
  refine lv_goto hx hb d_Model_code_68 (tgt := 32) (by decide) ?_
  refine lv_iload_n hx hb d_Model_code_32 rfl (lv_at hl 0 rfl) ?_
  refine lv_if_lt hx hb d_Model_code_33 (tgt := 71) (by decide) (fun _ => ?_) (fun hz => absurd (by decide) hz)
  refine lv_iconst (v := 1) hx hb d_Model_code_71 (by decide) ?_
  exact end_z hx hb hr hlocks hS (u := ()) (r := 1) (at_end (hP.sub (ws' := []) [] rfl) (hD.sub (ws' := []) [] (by decide) rfl)) (rfl) (by decide) (Nat.le_of_ble_eq_true rfl) (Nat.le_of_ble_eq_true rfl) d_Model_code_72

set_option maxHeartbeats 4000000 in
set_option maxRecDepth 100000 in
theorem c_Model_code_3 (l : Launch) (D : va_G) (cI cZ cJ : ClassId) (h m_bytes m_w m_saved m_line m_met m_waiting m_nextParent m_kind m_number m_begin m_table m_handlers m_base m_locals m_self m_found m_place m_next m_saidKind m_saidNumber : Nat) (wd : Int32) (sz : Nat)  : Met l y_Model_code (.code y_Model_code prog_10_method_16_code 4 (some .boolean) :: AW) ({ frames := 1, cells := 0, slots := 0, locals := 22 }) (va_Pc [.ref h, .int wd, .int 3] (pre_ D [(h, .inr (8, [.int 0, .ref m_bytes, .int 0, .ref m_w, .int 0, .int 0, .ref m_saved, .int 0, .ref m_line, .ref m_met, .ref m_waiting, .ref m_nextParent, .int 0, .ref m_kind, .ref m_number, .int 0, .ref m_begin, .ref m_table, .ref m_handlers, .ref m_base, .ref m_locals, .ref m_self, .ref m_found, .ref m_place, .ref m_next, .int 0, .ref m_saidKind, .ref m_saidNumber, .int 0, .int 0, .int (-1)])), (m_bytes, .inl (cI, 300, .inl (fun _ => 0)))] [(cI, .int), (cZ, .boolean), (cJ, .long)] sz)) (va_Qi (fun (r : Int32) (u : Unit) => r = 1) (fun _ t => post_ D (va_A [(h, .inr (8, [.int 0, .ref m_bytes, .int 0, .ref m_w, .int 0, .int 0, .ref m_saved, .int 0, .ref m_line, .ref m_met, .ref m_waiting, .ref m_nextParent, .int 0, .ref m_kind, .ref m_number, .int 0, .ref m_begin, .ref m_table, .ref m_handlers, .ref m_base, .ref m_locals, .ref m_self, .ref m_found, .ref m_place, .ref m_next, .int 0, .ref m_saidKind, .ref m_saidNumber, .int 0, .int 0, .int (-1)])), (m_bytes, .inl (cI, 300, .inl (fun _ => 0)))] sz) [] t) (va_A [(h, .inr (8, [.int 0, .ref m_bytes, .int 0, .ref m_w, .int 0, .int 0, .ref m_saved, .int 0, .ref m_line, .ref m_met, .ref m_waiting, .ref m_nextParent, .int 0, .ref m_kind, .ref m_number, .int 0, .ref m_begin, .ref m_table, .ref m_handlers, .ref m_base, .ref m_locals, .ref m_self, .ref m_found, .ref m_place, .ref m_next, .int 0, .ref m_saidKind, .ref m_saidNumber, .int 0, .int 0, .int (-1)])), (m_bytes, .inl (cI, 300, .inl (fun _ => 0)))] sz)) 0 0 (va_A [(h, .inr (8, [.int 0, .ref m_bytes, .int 0, .ref m_w, .int 0, .int 0, .ref m_saved, .int 0, .ref m_line, .ref m_met, .ref m_waiting, .ref m_nextParent, .int 0, .ref m_kind, .ref m_number, .int 0, .ref m_begin, .ref m_table, .ref m_handlers, .ref m_base, .ref m_locals, .ref m_self, .ref m_found, .ref m_place, .ref m_next, .int 0, .ref m_saidKind, .ref m_saidNumber, .int 0, .int 0, .int (-1)])), (m_bytes, .inl (cI, 300, .inl (fun _ => 0)))] sz) := by
  refine Met.ofW (cc := prog_10_method_16_code) (maxL := 4) (ret := (some .boolean)) (by decide) rfl ?_
  intro p e s m args below meth c s₁ B hml hv
  obtain ⟨rfl, rfl, hP, hK, hD0, hT⟩ := hv
  have hx := B.exec
  have hb := B.bytes
  have hr := B.returns
  have hts0 := atoms_spec (ws := .code y_Model_code prog_10_method_16_code 4 (some .boolean) :: AW) B.pre
  have hts : ∀ w ∈ AW, w.before [.ref h, .int wd, .int 3].toArray s = true := fun w h => hts0 w (List.mem_cons_of_mem _ h)
  have hown : s.vm.findClass "TaleMachineModel" = some m.cls := findClass_of_methodNamed B.named
  have hlocks := B.notSynchronized
  have hD := hD0.self (sz := s.heap.size)
  generalize hAe : va_A [(h, .inr (8, [.int 0, .ref m_bytes, .int 0, .ref m_w, .int 0, .int 0, .ref m_saved, .int 0, .ref m_line, .ref m_met, .ref m_waiting, .ref m_nextParent, .int 0, .ref m_kind, .ref m_number, .int 0, .ref m_begin, .ref m_table, .ref m_handlers, .ref m_base, .ref m_locals, .ref m_self, .ref m_found, .ref m_place, .ref m_next, .int 0, .ref m_saidKind, .ref m_saidNumber, .int 0, .int 0, .int (-1)])), (m_bytes, .inl (cI, 300, .inl (fun _ => 0)))] s.heap.size = A at hD ⊢
  have hA : ∀ q : Nat, s.heap.size ≤ q → A q := fun q h => by rw [← hAe]; exact Or.inr h
  have hS : va_S A s.heap s.heap [] := va_S.rf
  have hl := lv_entry ([.ref h, .int wd, .int 3]) (n := 4) (Nat.le_of_ble_eq_true rfl)
  rw [lg_entry_eq]
  generalize (lg_sl ([.ref h, .int wd, .int 3]) ++ List.replicate (4 - (lg_sl ([.ref h, .int wd, .int 3])).length) Slot.unset).toArray = ls at hl ⊢
  have hl : lv_has ls 4 [(0, .ref h), (1, .int wd), (2, .int 3)] := hl
  refine lv_aload_n hx hb d_Model_code_0 rfl (lv_at hl 0 rfl) ?_
  refine lv_iconst (v := 0) hx hb d_Model_code_1 (by decide) ?_
  refine va_put (D := D) (ci := 8) (v := .int 0) (ty := .int) (C := "TaleMachineModel") (T := F_Model) (N := 31) hx hb hts in_Model t_Model t_Model_ok n_Model hown hK hP hD hS 0 rfl rfl 0 (by decide) (hts _ k_0) (fun _ h9 => h9) rfl (by decide +kernel) rfl rfl (Nat.le_of_ble_eq_true rfl) d_Model_code_2 (fun H locs hP hD hS => ?_)
  have hP : va_P D cL [(h, .inr (8, [.int 0, .ref m_bytes, .int 0, .ref m_w, .int 0, .int 0, .ref m_saved, .int 0, .ref m_line, .ref m_met, .ref m_waiting, .ref m_nextParent, .int 0, .ref m_kind, .ref m_number, .int 0, .ref m_begin, .ref m_table, .ref m_handlers, .ref m_base, .ref m_locals, .ref m_self, .ref m_found, .ref m_place, .ref m_next, .int 0, .ref m_saidKind, .ref m_saidNumber, .int 0, .int 0, .int (-1)])), (m_bytes, .inl (cI, 300, .inl (fun _ => 0)))] H := hP
  have hD : va_D A [(h, .inr (8, [.int 0, .ref m_bytes, .int 0, .ref m_w, .int 0, .int 0, .ref m_saved, .int 0, .ref m_line, .ref m_met, .ref m_waiting, .ref m_nextParent, .int 0, .ref m_kind, .ref m_number, .int 0, .ref m_begin, .ref m_table, .ref m_handlers, .ref m_base, .ref m_locals, .ref m_self, .ref m_found, .ref m_place, .ref m_next, .int 0, .ref m_saidKind, .ref m_saidNumber, .int 0, .int 0, .int (-1)])), (m_bytes, .inl (cI, 300, .inl (fun _ => 0)))] := hD
  refine lv_iload_n hx hb d_Model_code_5 rfl (lv_at hl 2 rfl) ?_
  refine lv_iconst (v := 1) hx hb d_Model_code_6 (by decide) ?_
  refine lv_iconst (v := 4) hx hb d_Model_code_7 (by decide) ?_
  refine mv_i (va_runS (As := [.int 3, .int 1, .int 4]) (rest := []) ⟨hx, hb, hml, hown, hts⟩ (c_Model_outside l D cI cZ cJ 3 1 4 _ ) (va_cwS 3 hts (gInS k_2 k_3 k_4 k_1) rfl rfl rfl (by decide +kernel) ⟨Nat.le_of_ble_eq_true rfl, Nat.le_of_ble_eq_true rfl⟩) (pre_S (hP.sub [] rfl) (hK.sub [0, 1, 2] rfl) (hD.sub [] (by decide) rfl) hT) rfl rfl hl.1 rfl (lv_room (Nat.le_of_ble_eq_true rfl)) d_Model_code_8 ⟨Nat.le_of_ble_eq_true rfl, Nat.le_of_ble_eq_true rfl⟩) hP hD hS hA [] [0, 1] rfl rfl (by decide) (by decide) (wr := [(h, .inr (8, [.int 0, .ref m_bytes, .int 0, .ref m_w, .int 0, .int 0, .ref m_saved, .int 0, .ref m_line, .ref m_met, .ref m_waiting, .ref m_nextParent, .int 0, .ref m_kind, .ref m_number, .int 0, .ref m_begin, .ref m_table, .ref m_handlers, .ref m_base, .ref m_locals, .ref m_self, .ref m_found, .ref m_place, .ref m_next, .int 0, .ref m_saidKind, .ref m_saidNumber, .int 0, .int 0, .int (-1)])), (m_bytes, .inl (cI, 300, .inl (fun _ => 0)))]) (wn := fun _ => []) (fun _ _ h9 => h9) (fun r1 _ H locs hp2 hP hD hS => ?_)
  have hP : va_P D cL [(h, .inr (8, [.int 0, .ref m_bytes, .int 0, .ref m_w, .int 0, .int 0, .ref m_saved, .int 0, .ref m_line, .ref m_met, .ref m_waiting, .ref m_nextParent, .int 0, .ref m_kind, .ref m_number, .int 0, .ref m_begin, .ref m_table, .ref m_handlers, .ref m_base, .ref m_locals, .ref m_self, .ref m_found, .ref m_place, .ref m_next, .int 0, .ref m_saidKind, .ref m_saidNumber, .int 0, .int 0, .int (-1)])), (m_bytes, .inl (cI, 300, .inl (fun _ => 0)))] H := hP
  have hD : va_D A [(h, .inr (8, [.int 0, .ref m_bytes, .int 0, .ref m_w, .int 0, .int 0, .ref m_saved, .int 0, .ref m_line, .ref m_met, .ref m_waiting, .ref m_nextParent, .int 0, .ref m_kind, .ref m_number, .int 0, .ref m_begin, .ref m_table, .ref m_handlers, .ref m_base, .ref m_locals, .ref m_self, .ref m_found, .ref m_place, .ref m_next, .int 0, .ref m_saidKind, .ref m_saidNumber, .int 0, .int 0, .int (-1)])), (m_bytes, .inl (cI, 300, .inl (fun _ => 0)))] := hD
  refine lv_if_ne hx hb d_Model_code_11 (tgt := 26) (by decide) (fun hz => absurd (by rcases hp2.1 with h | h; exact h; exact absurd (hp2.2.mp h) (by decide)) hz) (fun _ => ?_)
  refine lv_aload_n hx hb d_Model_code_14 rfl (lv_at hl 0 rfl) ?_
  refine va_get (D := D) (ci := 8) (v := .int 0) (C := "TaleMachineModel") (T := F_Model) (N := 31) hx hb hts in_Model hown hK hP 0 rfl rfl 2 (by decide) (hts _ k_14) (fun _ h9 => h9) rfl d_Model_code_15 ?_
  refine lv_iload_n hx hb d_Model_code_18 rfl (lv_at hl 2 rfl) ?_
  refine lv_iadd hx hb d_Model_code_19 ?_
  refine lv_topi (fun z3 hz3 => ?_)
  obtain rfl : z3 = 3 := hz3.trans (by decide)
  refine lv_sipush (v := 300) hx hb d_Model_code_20 (by decide) ?_
  refine lv_icmp_le hx hb d_Model_code_23 (tgt := 28) (by decide) (fun _ => ?_) (fun hz => absurd (by decide) hz)
  refine lv_iload_n hx hb d_Model_code_28 rfl (lv_at hl 2 rfl) ?_
  refine lv_iconst (v := 1) hx hb d_Model_code_29 (by decide) ?_
  refine lv_isub hx hb d_Model_code_30 ?_
  refine lv_topi (fun z4 hz4 => ?_)
  obtain rfl : z4 = 2 := hz4.trans (by decide)
  refine lv_istore_n (lv' := [(3, .int 2), (0, .ref h), (1, .int wd), (2, .int 3)]) hx hb d_Model_code_31 rfl hl (by decide) rfl (fun ls hl => ?_)
  refine lv_iload_n hx hb d_Model_code_32 rfl (lv_at hl 0 rfl) ?_
  refine lv_if_lt hx hb d_Model_code_33 (tgt := 71) (by decide) (fun hz => absurd hz (by decide)) (fun _ => ?_)
  refine lv_aload_n hx hb d_Model_code_36 rfl (lv_at hl 1 rfl) ?_
  refine va_get (D := D) (ci := 8) (v := .ref m_bytes) (C := "TaleMachineModel") (T := F_Model) (N := 31) hx hb hts in_Model hown hK hP 0 rfl rfl 1 (by decide) (hts _ k_15) (fun _ h9 => h9) rfl d_Model_code_37 ?_
  refine lv_aload_n hx hb d_Model_code_40 rfl (lv_at hl 1 rfl) ?_
  refine va_get (D := D) (ci := 8) (v := .int 0) (C := "TaleMachineModel") (T := F_Model) (N := 31) hx hb hts in_Model hown hK hP 0 rfl rfl 2 (by decide) (hts _ k_14) (fun _ h9 => h9) rfl d_Model_code_41 ?_
  refine lv_iload_n hx hb d_Model_code_44 rfl (lv_at hl 2 rfl) ?_
  refine lv_bipush (v := 8) hx hb d_Model_code_45 (by decide) ?_
  refine lv_iload_n hx hb d_Model_code_47 rfl (lv_at hl 0 rfl) ?_
  refine lv_imul hx hb d_Model_code_48 ?_
  refine lv_topi (fun z5 hz5 => ?_)
  obtain rfl : z5 = 16 := hz5.trans (by decide)
  refine lv_ishr hx hb d_Model_code_49 ?_
  refine lv_topi (fun z6 hz6 => ?_)
  refine lv_sipush (v := 255) hx hb d_Model_code_50 (by decide) ?_
  refine lv_iand hx hb d_Model_code_53 ?_
  refine lv_topi (fun z7 hz7 => ?_)
  refine va_iast hx hb hK hP hD hS 1 0 rfl rfl (i := 0) (x := z7) (in_c (by decide)) d_Model_code_54 (fun H locs hP hD hS => ?_)
  have hP : va_P D cL [(h, .inr (8, [.int 0, .ref m_bytes, .int 0, .ref m_w, .int 0, .int 0, .ref m_saved, .int 0, .ref m_line, .ref m_met, .ref m_waiting, .ref m_nextParent, .int 0, .ref m_kind, .ref m_number, .int 0, .ref m_begin, .ref m_table, .ref m_handlers, .ref m_base, .ref m_locals, .ref m_self, .ref m_found, .ref m_place, .ref m_next, .int 0, .ref m_saidKind, .ref m_saidNumber, .int 0, .int 0, .int (-1)])), (m_bytes, .inl (cI, 300, .inl (upd (fun _ => 0) (0 : Int32).toNatClampNeg z7)))] H := hP
  have hD : va_D A [(h, .inr (8, [.int 0, .ref m_bytes, .int 0, .ref m_w, .int 0, .int 0, .ref m_saved, .int 0, .ref m_line, .ref m_met, .ref m_waiting, .ref m_nextParent, .int 0, .ref m_kind, .ref m_number, .int 0, .ref m_begin, .ref m_table, .ref m_handlers, .ref m_base, .ref m_locals, .ref m_self, .ref m_found, .ref m_place, .ref m_next, .int 0, .ref m_saidKind, .ref m_saidNumber, .int 0, .int 0, .int (-1)])), (m_bytes, .inl (cI, 300, .inl (upd (fun _ => 0) (0 : Int32).toNatClampNeg z7)))] := hD
  generalize hff8 : upd (fun _ => 0) (0 : Int32).toNatClampNeg z7 = f8 at hP hD
  refine lv_aload_n hx hb d_Model_code_55 rfl (lv_at hl 1 rfl) ?_
  refine lv_dup hx hb d_Model_code_56 rfl ?_
  refine va_get (D := D) (ci := 8) (v := .int 0) (C := "TaleMachineModel") (T := F_Model) (N := 31) hx hb hts in_Model hown hK hP 0 rfl rfl 2 (by decide) (hts _ k_14) (fun _ h9 => h9) rfl d_Model_code_57 ?_
  refine lv_iconst (v := 1) hx hb d_Model_code_60 (by decide) ?_
  refine lv_iadd hx hb d_Model_code_61 ?_
  refine lv_topi (fun z9 hz9 => ?_)
  obtain rfl : z9 = 1 := hz9.trans (by decide)
  refine va_put (D := D) (ci := 8) (v := .int 1) (ty := .int) (C := "TaleMachineModel") (T := F_Model) (N := 31) hx hb hts in_Model t_Model t_Model_ok n_Model hown hK hP hD hS 0 rfl rfl 2 (by decide) (hts _ k_14) (fun _ h9 => h9) rfl (by decide +kernel) rfl rfl (Nat.le_of_ble_eq_true rfl) d_Model_code_62 (fun H locs hP hD hS => ?_)
  have hP : va_P D cL [(h, .inr (8, [.int 0, .ref m_bytes, .int 1, .ref m_w, .int 0, .int 0, .ref m_saved, .int 0, .ref m_line, .ref m_met, .ref m_waiting, .ref m_nextParent, .int 0, .ref m_kind, .ref m_number, .int 0, .ref m_begin, .ref m_table, .ref m_handlers, .ref m_base, .ref m_locals, .ref m_self, .ref m_found, .ref m_place, .ref m_next, .int 0, .ref m_saidKind, .ref m_saidNumber, .int 0, .int 0, .int (-1)])), (m_bytes, .inl (cI, 300, .inl f8))] H := hP
  have hD : va_D A [(h, .inr (8, [.int 0, .ref m_bytes, .int 1, .ref m_w, .int 0, .int 0, .ref m_saved, .int 0, .ref m_line, .ref m_met, .ref m_waiting, .ref m_nextParent, .int 0, .ref m_kind, .ref m_number, .int 0, .ref m_begin, .ref m_table, .ref m_handlers, .ref m_base, .ref m_locals, .ref m_self, .ref m_found, .ref m_place, .ref m_next, .int 0, .ref m_saidKind, .ref m_saidNumber, .int 0, .int 0, .int (-1)])), (m_bytes, .inl (cI, 300, .inl f8))] := hD
  refine lv_iinc (v := 1) (lv' := [(3, .int 1), (0, .ref h), (1, .int wd), (2, .int 3)]) hx hb d_Model_code_65 hl (k := 0) rfl (by decide) (by decide) rfl (fun ls hl => ?_)
  refine lv_goto hx hb d_Model_code_68 (tgt := 32) (by decide) ?_
  refine lv_iload_n hx hb d_Model_code_32 rfl (lv_at hl 0 rfl) ?_
  refine lv_if_lt hx hb d_Model_code_33 (tgt := 71) (by decide) (fun hz => absurd hz (by decide)) (fun _ => ?_)
  refine lv_aload_n hx hb d_Model_code_36 rfl (lv_at hl 1 rfl) ?_
  refine va_get (D := D) (ci := 8) (v := .ref m_bytes) (C := "TaleMachineModel") (T := F_Model) (N := 31) hx hb hts in_Model hown hK hP 0 rfl rfl 1 (by decide) (hts _ k_15) (fun _ h9 => h9) rfl d_Model_code_37 ?_
  refine lv_aload_n hx hb d_Model_code_40 rfl (lv_at hl 1 rfl) ?_
  refine va_get (D := D) (ci := 8) (v := .int 1) (C := "TaleMachineModel") (T := F_Model) (N := 31) hx hb hts in_Model hown hK hP 0 rfl rfl 2 (by decide) (hts _ k_14) (fun _ h9 => h9) rfl d_Model_code_41 ?_
  refine lv_iload_n hx hb d_Model_code_44 rfl (lv_at hl 2 rfl) ?_
  refine lv_bipush (v := 8) hx hb d_Model_code_45 (by decide) ?_
  refine lv_iload_n hx hb d_Model_code_47 rfl (lv_at hl 0 rfl) ?_
  refine lv_imul hx hb d_Model_code_48 ?_
  refine lv_topi (fun z10 hz10 => ?_)
  obtain rfl : z10 = 8 := hz10.trans (by decide)
  refine lv_ishr hx hb d_Model_code_49 ?_
  refine lv_topi (fun z11 hz11 => ?_)
  refine lv_sipush (v := 255) hx hb d_Model_code_50 (by decide) ?_
  refine lv_iand hx hb d_Model_code_53 ?_
  refine lv_topi (fun z12 hz12 => ?_)
  refine va_iast hx hb hK hP hD hS 1 0 rfl rfl (i := 1) (x := z12) (in_c (by decide)) d_Model_code_54 (fun H locs hP hD hS => ?_)
  have hP : va_P D cL [(h, .inr (8, [.int 0, .ref m_bytes, .int 1, .ref m_w, .int 0, .int 0, .ref m_saved, .int 0, .ref m_line, .ref m_met, .ref m_waiting, .ref m_nextParent, .int 0, .ref m_kind, .ref m_number, .int 0, .ref m_begin, .ref m_table, .ref m_handlers, .ref m_base, .ref m_locals, .ref m_self, .ref m_found, .ref m_place, .ref m_next, .int 0, .ref m_saidKind, .ref m_saidNumber, .int 0, .int 0, .int (-1)])), (m_bytes, .inl (cI, 300, .inl (upd f8 (1 : Int32).toNatClampNeg z12)))] H := hP
  have hD : va_D A [(h, .inr (8, [.int 0, .ref m_bytes, .int 1, .ref m_w, .int 0, .int 0, .ref m_saved, .int 0, .ref m_line, .ref m_met, .ref m_waiting, .ref m_nextParent, .int 0, .ref m_kind, .ref m_number, .int 0, .ref m_begin, .ref m_table, .ref m_handlers, .ref m_base, .ref m_locals, .ref m_self, .ref m_found, .ref m_place, .ref m_next, .int 0, .ref m_saidKind, .ref m_saidNumber, .int 0, .int 0, .int (-1)])), (m_bytes, .inl (cI, 300, .inl (upd f8 (1 : Int32).toNatClampNeg z12)))] := hD
  generalize hff13 : upd f8 (1 : Int32).toNatClampNeg z12 = f13 at hP hD
  refine lv_aload_n hx hb d_Model_code_55 rfl (lv_at hl 1 rfl) ?_
  refine lv_dup hx hb d_Model_code_56 rfl ?_
  refine va_get (D := D) (ci := 8) (v := .int 1) (C := "TaleMachineModel") (T := F_Model) (N := 31) hx hb hts in_Model hown hK hP 0 rfl rfl 2 (by decide) (hts _ k_14) (fun _ h9 => h9) rfl d_Model_code_57 ?_
  refine lv_iconst (v := 1) hx hb d_Model_code_60 (by decide) ?_
  refine lv_iadd hx hb d_Model_code_61 ?_
  refine lv_topi (fun z14 hz14 => ?_)
  obtain rfl : z14 = 2 := hz14.trans (by decide)
  refine va_put (D := D) (ci := 8) (v := .int 2) (ty := .int) (C := "TaleMachineModel") (T := F_Model) (N := 31) hx hb hts in_Model t_Model t_Model_ok n_Model hown hK hP hD hS 0 rfl rfl 2 (by decide) (hts _ k_14) (fun _ h9 => h9) rfl (by decide +kernel) rfl rfl (Nat.le_of_ble_eq_true rfl) d_Model_code_62 (fun H locs hP hD hS => ?_)
  have hP : va_P D cL [(h, .inr (8, [.int 0, .ref m_bytes, .int 2, .ref m_w, .int 0, .int 0, .ref m_saved, .int 0, .ref m_line, .ref m_met, .ref m_waiting, .ref m_nextParent, .int 0, .ref m_kind, .ref m_number, .int 0, .ref m_begin, .ref m_table, .ref m_handlers, .ref m_base, .ref m_locals, .ref m_self, .ref m_found, .ref m_place, .ref m_next, .int 0, .ref m_saidKind, .ref m_saidNumber, .int 0, .int 0, .int (-1)])), (m_bytes, .inl (cI, 300, .inl f13))] H := hP
  have hD : va_D A [(h, .inr (8, [.int 0, .ref m_bytes, .int 2, .ref m_w, .int 0, .int 0, .ref m_saved, .int 0, .ref m_line, .ref m_met, .ref m_waiting, .ref m_nextParent, .int 0, .ref m_kind, .ref m_number, .int 0, .ref m_begin, .ref m_table, .ref m_handlers, .ref m_base, .ref m_locals, .ref m_self, .ref m_found, .ref m_place, .ref m_next, .int 0, .ref m_saidKind, .ref m_saidNumber, .int 0, .int 0, .int (-1)])), (m_bytes, .inl (cI, 300, .inl f13))] := hD
  refine lv_iinc (v := 0) (lv' := [(3, .int 0), (0, .ref h), (1, .int wd), (2, .int 3)]) hx hb d_Model_code_65 hl (k := 0) rfl (by decide) (by decide) rfl (fun ls hl => ?_)
  refine lv_goto hx hb d_Model_code_68 (tgt := 32) (by decide) ?_
  refine lv_iload_n hx hb d_Model_code_32 rfl (lv_at hl 0 rfl) ?_
  refine lv_if_lt hx hb d_Model_code_33 (tgt := 71) (by decide) (fun hz => absurd hz (by decide)) (fun _ => ?_)
  refine lv_aload_n hx hb d_Model_code_36 rfl (lv_at hl 1 rfl) ?_
  refine va_get (D := D) (ci := 8) (v := .ref m_bytes) (C := "TaleMachineModel") (T := F_Model) (N := 31) hx hb hts in_Model hown hK hP 0 rfl rfl 1 (by decide) (hts _ k_15) (fun _ h9 => h9) rfl d_Model_code_37 ?_
  refine lv_aload_n hx hb d_Model_code_40 rfl (lv_at hl 1 rfl) ?_
  refine va_get (D := D) (ci := 8) (v := .int 2) (C := "TaleMachineModel") (T := F_Model) (N := 31) hx hb hts in_Model hown hK hP 0 rfl rfl 2 (by decide) (hts _ k_14) (fun _ h9 => h9) rfl d_Model_code_41 ?_
  refine lv_iload_n hx hb d_Model_code_44 rfl (lv_at hl 2 rfl) ?_
  refine lv_bipush (v := 8) hx hb d_Model_code_45 (by decide) ?_
  refine lv_iload_n hx hb d_Model_code_47 rfl (lv_at hl 0 rfl) ?_
  refine lv_imul hx hb d_Model_code_48 ?_
  refine lv_topi (fun z15 hz15 => ?_)
  obtain rfl : z15 = 0 := hz15.trans (by decide)
  refine lv_ishr hx hb d_Model_code_49 ?_
  refine lv_topi (fun z16 hz16 => ?_)
  refine lv_sipush (v := 255) hx hb d_Model_code_50 (by decide) ?_
  refine lv_iand hx hb d_Model_code_53 ?_
  refine lv_topi (fun z17 hz17 => ?_)
  refine va_iast hx hb hK hP hD hS 1 0 rfl rfl (i := 2) (x := z17) (in_c (by decide)) d_Model_code_54 (fun H locs hP hD hS => ?_)
  have hP : va_P D cL [(h, .inr (8, [.int 0, .ref m_bytes, .int 2, .ref m_w, .int 0, .int 0, .ref m_saved, .int 0, .ref m_line, .ref m_met, .ref m_waiting, .ref m_nextParent, .int 0, .ref m_kind, .ref m_number, .int 0, .ref m_begin, .ref m_table, .ref m_handlers, .ref m_base, .ref m_locals, .ref m_self, .ref m_found, .ref m_place, .ref m_next, .int 0, .ref m_saidKind, .ref m_saidNumber, .int 0, .int 0, .int (-1)])), (m_bytes, .inl (cI, 300, .inl (upd f13 (2 : Int32).toNatClampNeg z17)))] H := hP
  have hD : va_D A [(h, .inr (8, [.int 0, .ref m_bytes, .int 2, .ref m_w, .int 0, .int 0, .ref m_saved, .int 0, .ref m_line, .ref m_met, .ref m_waiting, .ref m_nextParent, .int 0, .ref m_kind, .ref m_number, .int 0, .ref m_begin, .ref m_table, .ref m_handlers, .ref m_base, .ref m_locals, .ref m_self, .ref m_found, .ref m_place, .ref m_next, .int 0, .ref m_saidKind, .ref m_saidNumber, .int 0, .int 0, .int (-1)])), (m_bytes, .inl (cI, 300, .inl (upd f13 (2 : Int32).toNatClampNeg z17)))] := hD
  generalize hff18 : upd f13 (2 : Int32).toNatClampNeg z17 = f18 at hP hD
  refine lv_aload_n hx hb d_Model_code_55 rfl (lv_at hl 1 rfl) ?_
  refine lv_dup hx hb d_Model_code_56 rfl ?_
  refine va_get (D := D) (ci := 8) (v := .int 2) (C := "TaleMachineModel") (T := F_Model) (N := 31) hx hb hts in_Model hown hK hP 0 rfl rfl 2 (by decide) (hts _ k_14) (fun _ h9 => h9) rfl d_Model_code_57 ?_
  refine lv_iconst (v := 1) hx hb d_Model_code_60 (by decide) ?_
  refine lv_iadd hx hb d_Model_code_61 ?_
  refine lv_topi (fun z19 hz19 => ?_)
  obtain rfl : z19 = 3 := hz19.trans (by decide)
  refine va_put (D := D) (ci := 8) (v := .int 3) (ty := .int) (C := "TaleMachineModel") (T := F_Model) (N := 31) hx hb hts in_Model t_Model t_Model_ok n_Model hown hK hP hD hS 0 rfl rfl 2 (by decide) (hts _ k_14) (fun _ h9 => h9) rfl (by decide +kernel) rfl rfl (Nat.le_of_ble_eq_true rfl) d_Model_code_62 (fun H locs hP hD hS => ?_)
  have hP : va_P D cL [(h, .inr (8, [.int 0, .ref m_bytes, .int 3, .ref m_w, .int 0, .int 0, .ref m_saved, .int 0, .ref m_line, .ref m_met, .ref m_waiting, .ref m_nextParent, .int 0, .ref m_kind, .ref m_number, .int 0, .ref m_begin, .ref m_table, .ref m_handlers, .ref m_base, .ref m_locals, .ref m_self, .ref m_found, .ref m_place, .ref m_next, .int 0, .ref m_saidKind, .ref m_saidNumber, .int 0, .int 0, .int (-1)])), (m_bytes, .inl (cI, 300, .inl f18))] H := hP
  have hD : va_D A [(h, .inr (8, [.int 0, .ref m_bytes, .int 3, .ref m_w, .int 0, .int 0, .ref m_saved, .int 0, .ref m_line, .ref m_met, .ref m_waiting, .ref m_nextParent, .int 0, .ref m_kind, .ref m_number, .int 0, .ref m_begin, .ref m_table, .ref m_handlers, .ref m_base, .ref m_locals, .ref m_self, .ref m_found, .ref m_place, .ref m_next, .int 0, .ref m_saidKind, .ref m_saidNumber, .int 0, .int 0, .int (-1)])), (m_bytes, .inl (cI, 300, .inl f18))] := hD
  refine lv_iinc (v := (-1)) (lv' := [(3, .int (-1)), (0, .ref h), (1, .int wd), (2, .int 3)]) hx hb d_Model_code_65 hl (k := 0) rfl (by decide) (by decide) rfl (fun ls hl => ?_)
  refine lv_goto hx hb d_Model_code_68 (tgt := 32) (by decide) ?_
  refine lv_iload_n hx hb d_Model_code_32 rfl (lv_at hl 0 rfl) ?_
  refine lv_if_lt hx hb d_Model_code_33 (tgt := 71) (by decide) (fun _ => ?_) (fun hz => absurd (by decide) hz)
  refine lv_iconst (v := 1) hx hb d_Model_code_71 (by decide) ?_
  exact end_z hx hb hr hlocks hS (u := ()) (r := 1) (at_end (hP.sub (ws' := []) [] rfl) (hD.sub (ws' := []) [] (by decide) rfl)) (rfl) (by decide) (Nat.le_of_ble_eq_true rfl) (Nat.le_of_ble_eq_true rfl) d_Model_code_72

set_option maxHeartbeats 4000000 in
set_option maxRecDepth 100000 in
theorem c_Model_code_4 (l : Launch) (D : va_G) (cI cZ cJ : ClassId) (h m_bytes m_w m_saved m_line m_met m_waiting m_nextParent m_kind m_number m_begin m_table m_handlers m_base m_locals m_self m_found m_place m_next m_saidKind m_saidNumber : Nat) (wd : Int32) (sz : Nat)  : Met l y_Model_code (.code y_Model_code prog_10_method_16_code 4 (some .boolean) :: AW) ({ frames := 1, cells := 0, slots := 0, locals := 22 }) (va_Pc [.ref h, .int wd, .int 4] (pre_ D [(h, .inr (8, [.int 0, .ref m_bytes, .int 0, .ref m_w, .int 0, .int 0, .ref m_saved, .int 0, .ref m_line, .ref m_met, .ref m_waiting, .ref m_nextParent, .int 0, .ref m_kind, .ref m_number, .int 0, .ref m_begin, .ref m_table, .ref m_handlers, .ref m_base, .ref m_locals, .ref m_self, .ref m_found, .ref m_place, .ref m_next, .int 0, .ref m_saidKind, .ref m_saidNumber, .int 0, .int 0, .int (-1)])), (m_bytes, .inl (cI, 300, .inl (fun _ => 0)))] [(cI, .int), (cZ, .boolean), (cJ, .long)] sz)) (va_Qi (fun (r : Int32) (u : Unit) => r = 1) (fun _ t => post_ D (va_A [(h, .inr (8, [.int 0, .ref m_bytes, .int 0, .ref m_w, .int 0, .int 0, .ref m_saved, .int 0, .ref m_line, .ref m_met, .ref m_waiting, .ref m_nextParent, .int 0, .ref m_kind, .ref m_number, .int 0, .ref m_begin, .ref m_table, .ref m_handlers, .ref m_base, .ref m_locals, .ref m_self, .ref m_found, .ref m_place, .ref m_next, .int 0, .ref m_saidKind, .ref m_saidNumber, .int 0, .int 0, .int (-1)])), (m_bytes, .inl (cI, 300, .inl (fun _ => 0)))] sz) [] t) (va_A [(h, .inr (8, [.int 0, .ref m_bytes, .int 0, .ref m_w, .int 0, .int 0, .ref m_saved, .int 0, .ref m_line, .ref m_met, .ref m_waiting, .ref m_nextParent, .int 0, .ref m_kind, .ref m_number, .int 0, .ref m_begin, .ref m_table, .ref m_handlers, .ref m_base, .ref m_locals, .ref m_self, .ref m_found, .ref m_place, .ref m_next, .int 0, .ref m_saidKind, .ref m_saidNumber, .int 0, .int 0, .int (-1)])), (m_bytes, .inl (cI, 300, .inl (fun _ => 0)))] sz)) 0 0 (va_A [(h, .inr (8, [.int 0, .ref m_bytes, .int 0, .ref m_w, .int 0, .int 0, .ref m_saved, .int 0, .ref m_line, .ref m_met, .ref m_waiting, .ref m_nextParent, .int 0, .ref m_kind, .ref m_number, .int 0, .ref m_begin, .ref m_table, .ref m_handlers, .ref m_base, .ref m_locals, .ref m_self, .ref m_found, .ref m_place, .ref m_next, .int 0, .ref m_saidKind, .ref m_saidNumber, .int 0, .int 0, .int (-1)])), (m_bytes, .inl (cI, 300, .inl (fun _ => 0)))] sz) := by
  refine Met.ofW (cc := prog_10_method_16_code) (maxL := 4) (ret := (some .boolean)) (by decide) rfl ?_
  intro p e s m args below meth c s₁ B hml hv
  obtain ⟨rfl, rfl, hP, hK, hD0, hT⟩ := hv
  have hx := B.exec
  have hb := B.bytes
  have hr := B.returns
  have hts0 := atoms_spec (ws := .code y_Model_code prog_10_method_16_code 4 (some .boolean) :: AW) B.pre
  have hts : ∀ w ∈ AW, w.before [.ref h, .int wd, .int 4].toArray s = true := fun w h => hts0 w (List.mem_cons_of_mem _ h)
  have hown : s.vm.findClass "TaleMachineModel" = some m.cls := findClass_of_methodNamed B.named
  have hlocks := B.notSynchronized
  have hD := hD0.self (sz := s.heap.size)
  generalize hAe : va_A [(h, .inr (8, [.int 0, .ref m_bytes, .int 0, .ref m_w, .int 0, .int 0, .ref m_saved, .int 0, .ref m_line, .ref m_met, .ref m_waiting, .ref m_nextParent, .int 0, .ref m_kind, .ref m_number, .int 0, .ref m_begin, .ref m_table, .ref m_handlers, .ref m_base, .ref m_locals, .ref m_self, .ref m_found, .ref m_place, .ref m_next, .int 0, .ref m_saidKind, .ref m_saidNumber, .int 0, .int 0, .int (-1)])), (m_bytes, .inl (cI, 300, .inl (fun _ => 0)))] s.heap.size = A at hD ⊢
  have hA : ∀ q : Nat, s.heap.size ≤ q → A q := fun q h => by rw [← hAe]; exact Or.inr h
  have hS : va_S A s.heap s.heap [] := va_S.rf
  have hl := lv_entry ([.ref h, .int wd, .int 4]) (n := 4) (Nat.le_of_ble_eq_true rfl)
  rw [lg_entry_eq]
  generalize (lg_sl ([.ref h, .int wd, .int 4]) ++ List.replicate (4 - (lg_sl ([.ref h, .int wd, .int 4])).length) Slot.unset).toArray = ls at hl ⊢
  have hl : lv_has ls 4 [(0, .ref h), (1, .int wd), (2, .int 4)] := hl
  refine lv_aload_n hx hb d_Model_code_0 rfl (lv_at hl 0 rfl) ?_
  refine lv_iconst (v := 0) hx hb d_Model_code_1 (by decide) ?_
  refine va_put (D := D) (ci := 8) (v := .int 0) (ty := .int) (C := "TaleMachineModel") (T := F_Model) (N := 31) hx hb hts in_Model t_Model t_Model_ok n_Model hown hK hP hD hS 0 rfl rfl 0 (by decide) (hts _ k_0) (fun _ h9 => h9) rfl (by decide +kernel) rfl rfl (Nat.le_of_ble_eq_true rfl) d_Model_code_2 (fun H locs hP hD hS => ?_)
  have hP : va_P D cL [(h, .inr (8, [.int 0, .ref m_bytes, .int 0, .ref m_w, .int 0, .int 0, .ref m_saved, .int 0, .ref m_line, .ref m_met, .ref m_waiting, .ref m_nextParent, .int 0, .ref m_kind, .ref m_number, .int 0, .ref m_begin, .ref m_table, .ref m_handlers, .ref m_base, .ref m_locals, .ref m_self, .ref m_found, .ref m_place, .ref m_next, .int 0, .ref m_saidKind, .ref m_saidNumber, .int 0, .int 0, .int (-1)])), (m_bytes, .inl (cI, 300, .inl (fun _ => 0)))] H := hP
  have hD : va_D A [(h, .inr (8, [.int 0, .ref m_bytes, .int 0, .ref m_w, .int 0, .int 0, .ref m_saved, .int 0, .ref m_line, .ref m_met, .ref m_waiting, .ref m_nextParent, .int 0, .ref m_kind, .ref m_number, .int 0, .ref m_begin, .ref m_table, .ref m_handlers, .ref m_base, .ref m_locals, .ref m_self, .ref m_found, .ref m_place, .ref m_next, .int 0, .ref m_saidKind, .ref m_saidNumber, .int 0, .int 0, .int (-1)])), (m_bytes, .inl (cI, 300, .inl (fun _ => 0)))] := hD
  refine lv_iload_n hx hb d_Model_code_5 rfl (lv_at hl 2 rfl) ?_
  refine lv_iconst (v := 1) hx hb d_Model_code_6 (by decide) ?_
  refine lv_iconst (v := 4) hx hb d_Model_code_7 (by decide) ?_
  refine mv_i (va_runS (As := [.int 4, .int 1, .int 4]) (rest := []) ⟨hx, hb, hml, hown, hts⟩ (c_Model_outside l D cI cZ cJ 4 1 4 _ ) (va_cwS 3 hts (gInS k_2 k_3 k_4 k_1) rfl rfl rfl (by decide +kernel) ⟨Nat.le_of_ble_eq_true rfl, Nat.le_of_ble_eq_true rfl⟩) (pre_S (hP.sub [] rfl) (hK.sub [0, 1, 2] rfl) (hD.sub [] (by decide) rfl) hT) rfl rfl hl.1 rfl (lv_room (Nat.le_of_ble_eq_true rfl)) d_Model_code_8 ⟨Nat.le_of_ble_eq_true rfl, Nat.le_of_ble_eq_true rfl⟩) hP hD hS hA [] [0, 1] rfl rfl (by decide) (by decide) (wr := [(h, .inr (8, [.int 0, .ref m_bytes, .int 0, .ref m_w, .int 0, .int 0, .ref m_saved, .int 0, .ref m_line, .ref m_met, .ref m_waiting, .ref m_nextParent, .int 0, .ref m_kind, .ref m_number, .int 0, .ref m_begin, .ref m_table, .ref m_handlers, .ref m_base, .ref m_locals, .ref m_self, .ref m_found, .ref m_place, .ref m_next, .int 0, .ref m_saidKind, .ref m_saidNumber, .int 0, .int 0, .int (-1)])), (m_bytes, .inl (cI, 300, .inl (fun _ => 0)))]) (wn := fun _ => []) (fun _ _ h9 => h9) (fun r1 _ H locs hp2 hP hD hS => ?_)
  have hP : va_P D cL [(h, .inr (8, [.int 0, .ref m_bytes, .int 0, .ref m_w, .int 0, .int 0, .ref m_saved, .int 0, .ref m_line, .ref m_met, .ref m_waiting, .ref m_nextParent, .int 0, .ref m_kind, .ref m_number, .int 0, .ref m_begin, .ref m_table, .ref m_handlers, .ref m_base, .ref m_locals, .ref m_self, .ref m_found, .ref m_place, .ref m_next, .int 0, .ref m_saidKind, .ref m_saidNumber, .int 0, .int 0, .int (-1)])), (m_bytes, .inl (cI, 300, .inl (fun _ => 0)))] H := hP
  have hD : va_D A [(h, .inr (8, [.int 0, .ref m_bytes, .int 0, .ref m_w, .int 0, .int 0, .ref m_saved, .int 0, .ref m_line, .ref m_met, .ref m_waiting, .ref m_nextParent, .int 0, .ref m_kind, .ref m_number, .int 0, .ref m_begin, .ref m_table, .ref m_handlers, .ref m_base, .ref m_locals, .ref m_self, .ref m_found, .ref m_place, .ref m_next, .int 0, .ref m_saidKind, .ref m_saidNumber, .int 0, .int 0, .int (-1)])), (m_bytes, .inl (cI, 300, .inl (fun _ => 0)))] := hD
  refine lv_if_ne hx hb d_Model_code_11 (tgt := 26) (by decide) (fun hz => absurd (by rcases hp2.1 with h | h; exact h; exact absurd (hp2.2.mp h) (by decide)) hz) (fun _ => ?_)
  refine lv_aload_n hx hb d_Model_code_14 rfl (lv_at hl 0 rfl) ?_
  refine va_get (D := D) (ci := 8) (v := .int 0) (C := "TaleMachineModel") (T := F_Model) (N := 31) hx hb hts in_Model hown hK hP 0 rfl rfl 2 (by decide) (hts _ k_14) (fun _ h9 => h9) rfl d_Model_code_15 ?_
  refine lv_iload_n hx hb d_Model_code_18 rfl (lv_at hl 2 rfl) ?_
  refine lv_iadd hx hb d_Model_code_19 ?_
  refine lv_topi (fun z3 hz3 => ?_)
  obtain rfl : z3 = 4 := hz3.trans (by decide)
  refine lv_sipush (v := 300) hx hb d_Model_code_20 (by decide) ?_
  refine lv_icmp_le hx hb d_Model_code_23 (tgt := 28) (by decide) (fun _ => ?_) (fun hz => absurd (by decide) hz)
  refine lv_iload_n hx hb d_Model_code_28 rfl (lv_at hl 2 rfl) ?_
  refine lv_iconst (v := 1) hx hb d_Model_code_29 (by decide) ?_
  refine lv_isub hx hb d_Model_code_30 ?_
  refine lv_topi (fun z4 hz4 => ?_)
  obtain rfl : z4 = 3 := hz4.trans (by decide)
  refine lv_istore_n (lv' := [(3, .int 3), (0, .ref h), (1, .int wd), (2, .int 4)]) hx hb d_Model_code_31 rfl hl (by decide) rfl (fun ls hl => ?_)
  refine lv_iload_n hx hb d_Model_code_32 rfl (lv_at hl 0 rfl) ?_
  refine lv_if_lt hx hb d_Model_code_33 (tgt := 71) (by decide) (fun hz => absurd hz (by decide)) (fun _ => ?_)
  refine lv_aload_n hx hb d_Model_code_36 rfl (lv_at hl 1 rfl) ?_
  refine va_get (D := D) (ci := 8) (v := .ref m_bytes) (C := "TaleMachineModel") (T := F_Model) (N := 31) hx hb hts in_Model hown hK hP 0 rfl rfl 1 (by decide) (hts _ k_15) (fun _ h9 => h9) rfl d_Model_code_37 ?_
  refine lv_aload_n hx hb d_Model_code_40 rfl (lv_at hl 1 rfl) ?_
  refine va_get (D := D) (ci := 8) (v := .int 0) (C := "TaleMachineModel") (T := F_Model) (N := 31) hx hb hts in_Model hown hK hP 0 rfl rfl 2 (by decide) (hts _ k_14) (fun _ h9 => h9) rfl d_Model_code_41 ?_
  refine lv_iload_n hx hb d_Model_code_44 rfl (lv_at hl 2 rfl) ?_
  refine lv_bipush (v := 8) hx hb d_Model_code_45 (by decide) ?_
  refine lv_iload_n hx hb d_Model_code_47 rfl (lv_at hl 0 rfl) ?_
  refine lv_imul hx hb d_Model_code_48 ?_
  refine lv_topi (fun z5 hz5 => ?_)
  obtain rfl : z5 = 24 := hz5.trans (by decide)
  refine lv_ishr hx hb d_Model_code_49 ?_
  refine lv_topi (fun z6 hz6 => ?_)
  refine lv_sipush (v := 255) hx hb d_Model_code_50 (by decide) ?_
  refine lv_iand hx hb d_Model_code_53 ?_
  refine lv_topi (fun z7 hz7 => ?_)
  refine va_iast hx hb hK hP hD hS 1 0 rfl rfl (i := 0) (x := z7) (in_c (by decide)) d_Model_code_54 (fun H locs hP hD hS => ?_)
  have hP : va_P D cL [(h, .inr (8, [.int 0, .ref m_bytes, .int 0, .ref m_w, .int 0, .int 0, .ref m_saved, .int 0, .ref m_line, .ref m_met, .ref m_waiting, .ref m_nextParent, .int 0, .ref m_kind, .ref m_number, .int 0, .ref m_begin, .ref m_table, .ref m_handlers, .ref m_base, .ref m_locals, .ref m_self, .ref m_found, .ref m_place, .ref m_next, .int 0, .ref m_saidKind, .ref m_saidNumber, .int 0, .int 0, .int (-1)])), (m_bytes, .inl (cI, 300, .inl (upd (fun _ => 0) (0 : Int32).toNatClampNeg z7)))] H := hP
  have hD : va_D A [(h, .inr (8, [.int 0, .ref m_bytes, .int 0, .ref m_w, .int 0, .int 0, .ref m_saved, .int 0, .ref m_line, .ref m_met, .ref m_waiting, .ref m_nextParent, .int 0, .ref m_kind, .ref m_number, .int 0, .ref m_begin, .ref m_table, .ref m_handlers, .ref m_base, .ref m_locals, .ref m_self, .ref m_found, .ref m_place, .ref m_next, .int 0, .ref m_saidKind, .ref m_saidNumber, .int 0, .int 0, .int (-1)])), (m_bytes, .inl (cI, 300, .inl (upd (fun _ => 0) (0 : Int32).toNatClampNeg z7)))] := hD
  generalize hff8 : upd (fun _ => 0) (0 : Int32).toNatClampNeg z7 = f8 at hP hD
  refine lv_aload_n hx hb d_Model_code_55 rfl (lv_at hl 1 rfl) ?_
  refine lv_dup hx hb d_Model_code_56 rfl ?_
  refine va_get (D := D) (ci := 8) (v := .int 0) (C := "TaleMachineModel") (T := F_Model) (N := 31) hx hb hts in_Model hown hK hP 0 rfl rfl 2 (by decide) (hts _ k_14) (fun _ h9 => h9) rfl d_Model_code_57 ?_
  refine lv_iconst (v := 1) hx hb d_Model_code_60 (by decide) ?_
  refine lv_iadd hx hb d_Model_code_61 ?_
  refine lv_topi (fun z9 hz9 => ?_)
  obtain rfl : z9 = 1 := hz9.trans (by decide)
  refine va_put (D := D) (ci := 8) (v := .int 1) (ty := .int) (C := "TaleMachineModel") (T := F_Model) (N := 31) hx hb hts in_Model t_Model t_Model_ok n_Model hown hK hP hD hS 0 rfl rfl 2 (by decide) (hts _ k_14) (fun _ h9 => h9) rfl (by decide +kernel) rfl rfl (Nat.le_of_ble_eq_true rfl) d_Model_code_62 (fun H locs hP hD hS => ?_)
  have hP : va_P D cL [(h, .inr (8, [.int 0, .ref m_bytes, .int 1, .ref m_w, .int 0, .int 0, .ref m_saved, .int 0, .ref m_line, .ref m_met, .ref m_waiting, .ref m_nextParent, .int 0, .ref m_kind, .ref m_number, .int 0, .ref m_begin, .ref m_table, .ref m_handlers, .ref m_base, .ref m_locals, .ref m_self, .ref m_found, .ref m_place, .ref m_next, .int 0, .ref m_saidKind, .ref m_saidNumber, .int 0, .int 0, .int (-1)])), (m_bytes, .inl (cI, 300, .inl f8))] H := hP
  have hD : va_D A [(h, .inr (8, [.int 0, .ref m_bytes, .int 1, .ref m_w, .int 0, .int 0, .ref m_saved, .int 0, .ref m_line, .ref m_met, .ref m_waiting, .ref m_nextParent, .int 0, .ref m_kind, .ref m_number, .int 0, .ref m_begin, .ref m_table, .ref m_handlers, .ref m_base, .ref m_locals, .ref m_self, .ref m_found, .ref m_place, .ref m_next, .int 0, .ref m_saidKind, .ref m_saidNumber, .int 0, .int 0, .int (-1)])), (m_bytes, .inl (cI, 300, .inl f8))] := hD
  refine lv_iinc (v := 2) (lv' := [(3, .int 2), (0, .ref h), (1, .int wd), (2, .int 4)]) hx hb d_Model_code_65 hl (k := 0) rfl (by decide) (by decide) rfl (fun ls hl => ?_)
  refine lv_goto hx hb d_Model_code_68 (tgt := 32) (by decide) ?_
  refine lv_iload_n hx hb d_Model_code_32 rfl (lv_at hl 0 rfl) ?_
  refine lv_if_lt hx hb d_Model_code_33 (tgt := 71) (by decide) (fun hz => absurd hz (by decide)) (fun _ => ?_)
  refine lv_aload_n hx hb d_Model_code_36 rfl (lv_at hl 1 rfl) ?_
  refine va_get (D := D) (ci := 8) (v := .ref m_bytes) (C := "TaleMachineModel") (T := F_Model) (N := 31) hx hb hts in_Model hown hK hP 0 rfl rfl 1 (by decide) (hts _ k_15) (fun _ h9 => h9) rfl d_Model_code_37 ?_
  refine lv_aload_n hx hb d_Model_code_40 rfl (lv_at hl 1 rfl) ?_
  refine va_get (D := D) (ci := 8) (v := .int 1) (C := "TaleMachineModel") (T := F_Model) (N := 31) hx hb hts in_Model hown hK hP 0 rfl rfl 2 (by decide) (hts _ k_14) (fun _ h9 => h9) rfl d_Model_code_41 ?_
  refine lv_iload_n hx hb d_Model_code_44 rfl (lv_at hl 2 rfl) ?_
  refine lv_bipush (v := 8) hx hb d_Model_code_45 (by decide) ?_
  refine lv_iload_n hx hb d_Model_code_47 rfl (lv_at hl 0 rfl) ?_
  refine lv_imul hx hb d_Model_code_48 ?_
  refine lv_topi (fun z10 hz10 => ?_)
  obtain rfl : z10 = 16 := hz10.trans (by decide)
  refine lv_ishr hx hb d_Model_code_49 ?_
  refine lv_topi (fun z11 hz11 => ?_)
  refine lv_sipush (v := 255) hx hb d_Model_code_50 (by decide) ?_
  refine lv_iand hx hb d_Model_code_53 ?_
  refine lv_topi (fun z12 hz12 => ?_)
  refine va_iast hx hb hK hP hD hS 1 0 rfl rfl (i := 1) (x := z12) (in_c (by decide)) d_Model_code_54 (fun H locs hP hD hS => ?_)
  have hP : va_P D cL [(h, .inr (8, [.int 0, .ref m_bytes, .int 1, .ref m_w, .int 0, .int 0, .ref m_saved, .int 0, .ref m_line, .ref m_met, .ref m_waiting, .ref m_nextParent, .int 0, .ref m_kind, .ref m_number, .int 0, .ref m_begin, .ref m_table, .ref m_handlers, .ref m_base, .ref m_locals, .ref m_self, .ref m_found, .ref m_place, .ref m_next, .int 0, .ref m_saidKind, .ref m_saidNumber, .int 0, .int 0, .int (-1)])), (m_bytes, .inl (cI, 300, .inl (upd f8 (1 : Int32).toNatClampNeg z12)))] H := hP
  have hD : va_D A [(h, .inr (8, [.int 0, .ref m_bytes, .int 1, .ref m_w, .int 0, .int 0, .ref m_saved, .int 0, .ref m_line, .ref m_met, .ref m_waiting, .ref m_nextParent, .int 0, .ref m_kind, .ref m_number, .int 0, .ref m_begin, .ref m_table, .ref m_handlers, .ref m_base, .ref m_locals, .ref m_self, .ref m_found, .ref m_place, .ref m_next, .int 0, .ref m_saidKind, .ref m_saidNumber, .int 0, .int 0, .int (-1)])), (m_bytes, .inl (cI, 300, .inl (upd f8 (1 : Int32).toNatClampNeg z12)))] := hD
  generalize hff13 : upd f8 (1 : Int32).toNatClampNeg z12 = f13 at hP hD
  refine lv_aload_n hx hb d_Model_code_55 rfl (lv_at hl 1 rfl) ?_
  refine lv_dup hx hb d_Model_code_56 rfl ?_
  refine va_get (D := D) (ci := 8) (v := .int 1) (C := "TaleMachineModel") (T := F_Model) (N := 31) hx hb hts in_Model hown hK hP 0 rfl rfl 2 (by decide) (hts _ k_14) (fun _ h9 => h9) rfl d_Model_code_57 ?_
  refine lv_iconst (v := 1) hx hb d_Model_code_60 (by decide) ?_
  refine lv_iadd hx hb d_Model_code_61 ?_
  refine lv_topi (fun z14 hz14 => ?_)
  obtain rfl : z14 = 2 := hz14.trans (by decide)
  refine va_put (D := D) (ci := 8) (v := .int 2) (ty := .int) (C := "TaleMachineModel") (T := F_Model) (N := 31) hx hb hts in_Model t_Model t_Model_ok n_Model hown hK hP hD hS 0 rfl rfl 2 (by decide) (hts _ k_14) (fun _ h9 => h9) rfl (by decide +kernel) rfl rfl (Nat.le_of_ble_eq_true rfl) d_Model_code_62 (fun H locs hP hD hS => ?_)
  have hP : va_P D cL [(h, .inr (8, [.int 0, .ref m_bytes, .int 2, .ref m_w, .int 0, .int 0, .ref m_saved, .int 0, .ref m_line, .ref m_met, .ref m_waiting, .ref m_nextParent, .int 0, .ref m_kind, .ref m_number, .int 0, .ref m_begin, .ref m_table, .ref m_handlers, .ref m_base, .ref m_locals, .ref m_self, .ref m_found, .ref m_place, .ref m_next, .int 0, .ref m_saidKind, .ref m_saidNumber, .int 0, .int 0, .int (-1)])), (m_bytes, .inl (cI, 300, .inl f13))] H := hP
  have hD : va_D A [(h, .inr (8, [.int 0, .ref m_bytes, .int 2, .ref m_w, .int 0, .int 0, .ref m_saved, .int 0, .ref m_line, .ref m_met, .ref m_waiting, .ref m_nextParent, .int 0, .ref m_kind, .ref m_number, .int 0, .ref m_begin, .ref m_table, .ref m_handlers, .ref m_base, .ref m_locals, .ref m_self, .ref m_found, .ref m_place, .ref m_next, .int 0, .ref m_saidKind, .ref m_saidNumber, .int 0, .int 0, .int (-1)])), (m_bytes, .inl (cI, 300, .inl f13))] := hD
  refine lv_iinc (v := 1) (lv' := [(3, .int 1), (0, .ref h), (1, .int wd), (2, .int 4)]) hx hb d_Model_code_65 hl (k := 0) rfl (by decide) (by decide) rfl (fun ls hl => ?_)
  refine lv_goto hx hb d_Model_code_68 (tgt := 32) (by decide) ?_
  refine lv_iload_n hx hb d_Model_code_32 rfl (lv_at hl 0 rfl) ?_
  refine lv_if_lt hx hb d_Model_code_33 (tgt := 71) (by decide) (fun hz => absurd hz (by decide)) (fun _ => ?_)
  refine lv_aload_n hx hb d_Model_code_36 rfl (lv_at hl 1 rfl) ?_
  refine va_get (D := D) (ci := 8) (v := .ref m_bytes) (C := "TaleMachineModel") (T := F_Model) (N := 31) hx hb hts in_Model hown hK hP 0 rfl rfl 1 (by decide) (hts _ k_15) (fun _ h9 => h9) rfl d_Model_code_37 ?_
  refine lv_aload_n hx hb d_Model_code_40 rfl (lv_at hl 1 rfl) ?_
  refine va_get (D := D) (ci := 8) (v := .int 2) (C := "TaleMachineModel") (T := F_Model) (N := 31) hx hb hts in_Model hown hK hP 0 rfl rfl 2 (by decide) (hts _ k_14) (fun _ h9 => h9) rfl d_Model_code_41 ?_
  refine lv_iload_n hx hb d_Model_code_44 rfl (lv_at hl 2 rfl) ?_
  refine lv_bipush (v := 8) hx hb d_Model_code_45 (by decide) ?_
  refine lv_iload_n hx hb d_Model_code_47 rfl (lv_at hl 0 rfl) ?_
  refine lv_imul hx hb d_Model_code_48 ?_
  refine lv_topi (fun z15 hz15 => ?_)
  obtain rfl : z15 = 8 := hz15.trans (by decide)
  refine lv_ishr hx hb d_Model_code_49 ?_
  refine lv_topi (fun z16 hz16 => ?_)
  refine lv_sipush (v := 255) hx hb d_Model_code_50 (by decide) ?_
  refine lv_iand hx hb d_Model_code_53 ?_
  refine lv_topi (fun z17 hz17 => ?_)
  refine va_iast hx hb hK hP hD hS 1 0 rfl rfl (i := 2) (x := z17) (in_c (by decide)) d_Model_code_54 (fun H locs hP hD hS => ?_)
  have hP : va_P D cL [(h, .inr (8, [.int 0, .ref m_bytes, .int 2, .ref m_w, .int 0, .int 0, .ref m_saved, .int 0, .ref m_line, .ref m_met, .ref m_waiting, .ref m_nextParent, .int 0, .ref m_kind, .ref m_number, .int 0, .ref m_begin, .ref m_table, .ref m_handlers, .ref m_base, .ref m_locals, .ref m_self, .ref m_found, .ref m_place, .ref m_next, .int 0, .ref m_saidKind, .ref m_saidNumber, .int 0, .int 0, .int (-1)])), (m_bytes, .inl (cI, 300, .inl (upd f13 (2 : Int32).toNatClampNeg z17)))] H := hP
  have hD : va_D A [(h, .inr (8, [.int 0, .ref m_bytes, .int 2, .ref m_w, .int 0, .int 0, .ref m_saved, .int 0, .ref m_line, .ref m_met, .ref m_waiting, .ref m_nextParent, .int 0, .ref m_kind, .ref m_number, .int 0, .ref m_begin, .ref m_table, .ref m_handlers, .ref m_base, .ref m_locals, .ref m_self, .ref m_found, .ref m_place, .ref m_next, .int 0, .ref m_saidKind, .ref m_saidNumber, .int 0, .int 0, .int (-1)])), (m_bytes, .inl (cI, 300, .inl (upd f13 (2 : Int32).toNatClampNeg z17)))] := hD
  generalize hff18 : upd f13 (2 : Int32).toNatClampNeg z17 = f18 at hP hD
  refine lv_aload_n hx hb d_Model_code_55 rfl (lv_at hl 1 rfl) ?_
  refine lv_dup hx hb d_Model_code_56 rfl ?_
  refine va_get (D := D) (ci := 8) (v := .int 2) (C := "TaleMachineModel") (T := F_Model) (N := 31) hx hb hts in_Model hown hK hP 0 rfl rfl 2 (by decide) (hts _ k_14) (fun _ h9 => h9) rfl d_Model_code_57 ?_
  refine lv_iconst (v := 1) hx hb d_Model_code_60 (by decide) ?_
  refine lv_iadd hx hb d_Model_code_61 ?_
  refine lv_topi (fun z19 hz19 => ?_)
  obtain rfl : z19 = 3 := hz19.trans (by decide)
  refine va_put (D := D) (ci := 8) (v := .int 3) (ty := .int) (C := "TaleMachineModel") (T := F_Model) (N := 31) hx hb hts in_Model t_Model t_Model_ok n_Model hown hK hP hD hS 0 rfl rfl 2 (by decide) (hts _ k_14) (fun _ h9 => h9) rfl (by decide +kernel) rfl rfl (Nat.le_of_ble_eq_true rfl) d_Model_code_62 (fun H locs hP hD hS => ?_)
  have hP : va_P D cL [(h, .inr (8, [.int 0, .ref m_bytes, .int 3, .ref m_w, .int 0, .int 0, .ref m_saved, .int 0, .ref m_line, .ref m_met, .ref m_waiting, .ref m_nextParent, .int 0, .ref m_kind, .ref m_number, .int 0, .ref m_begin, .ref m_table, .ref m_handlers, .ref m_base, .ref m_locals, .ref m_self, .ref m_found, .ref m_place, .ref m_next, .int 0, .ref m_saidKind, .ref m_saidNumber, .int 0, .int 0, .int (-1)])), (m_bytes, .inl (cI, 300, .inl f18))] H := hP
  have hD : va_D A [(h, .inr (8, [.int 0, .ref m_bytes, .int 3, .ref m_w, .int 0, .int 0, .ref m_saved, .int 0, .ref m_line, .ref m_met, .ref m_waiting, .ref m_nextParent, .int 0, .ref m_kind, .ref m_number, .int 0, .ref m_begin, .ref m_table, .ref m_handlers, .ref m_base, .ref m_locals, .ref m_self, .ref m_found, .ref m_place, .ref m_next, .int 0, .ref m_saidKind, .ref m_saidNumber, .int 0, .int 0, .int (-1)])), (m_bytes, .inl (cI, 300, .inl f18))] := hD
  refine lv_iinc (v := 0) (lv' := [(3, .int 0), (0, .ref h), (1, .int wd), (2, .int 4)]) hx hb d_Model_code_65 hl (k := 0) rfl (by decide) (by decide) rfl (fun ls hl => ?_)
  refine lv_goto hx hb d_Model_code_68 (tgt := 32) (by decide) ?_
  refine lv_iload_n hx hb d_Model_code_32 rfl (lv_at hl 0 rfl) ?_
  refine lv_if_lt hx hb d_Model_code_33 (tgt := 71) (by decide) (fun hz => absurd hz (by decide)) (fun _ => ?_)
  refine lv_aload_n hx hb d_Model_code_36 rfl (lv_at hl 1 rfl) ?_
  refine va_get (D := D) (ci := 8) (v := .ref m_bytes) (C := "TaleMachineModel") (T := F_Model) (N := 31) hx hb hts in_Model hown hK hP 0 rfl rfl 1 (by decide) (hts _ k_15) (fun _ h9 => h9) rfl d_Model_code_37 ?_
  refine lv_aload_n hx hb d_Model_code_40 rfl (lv_at hl 1 rfl) ?_
  refine va_get (D := D) (ci := 8) (v := .int 3) (C := "TaleMachineModel") (T := F_Model) (N := 31) hx hb hts in_Model hown hK hP 0 rfl rfl 2 (by decide) (hts _ k_14) (fun _ h9 => h9) rfl d_Model_code_41 ?_
  refine lv_iload_n hx hb d_Model_code_44 rfl (lv_at hl 2 rfl) ?_
  refine lv_bipush (v := 8) hx hb d_Model_code_45 (by decide) ?_
  refine lv_iload_n hx hb d_Model_code_47 rfl (lv_at hl 0 rfl) ?_
  refine lv_imul hx hb d_Model_code_48 ?_
  refine lv_topi (fun z20 hz20 => ?_)
  obtain rfl : z20 = 0 := hz20.trans (by decide)
  refine lv_ishr hx hb d_Model_code_49 ?_
  refine lv_topi (fun z21 hz21 => ?_)
  refine lv_sipush (v := 255) hx hb d_Model_code_50 (by decide) ?_
  refine lv_iand hx hb d_Model_code_53 ?_
  refine lv_topi (fun z22 hz22 => ?_)
  refine va_iast hx hb hK hP hD hS 1 0 rfl rfl (i := 3) (x := z22) (in_c (by decide)) d_Model_code_54 (fun H locs hP hD hS => ?_)
  have hP : va_P D cL [(h, .inr (8, [.int 0, .ref m_bytes, .int 3, .ref m_w, .int 0, .int 0, .ref m_saved, .int 0, .ref m_line, .ref m_met, .ref m_waiting, .ref m_nextParent, .int 0, .ref m_kind, .ref m_number, .int 0, .ref m_begin, .ref m_table, .ref m_handlers, .ref m_base, .ref m_locals, .ref m_self, .ref m_found, .ref m_place, .ref m_next, .int 0, .ref m_saidKind, .ref m_saidNumber, .int 0, .int 0, .int (-1)])), (m_bytes, .inl (cI, 300, .inl (upd f18 (3 : Int32).toNatClampNeg z22)))] H := hP
  have hD : va_D A [(h, .inr (8, [.int 0, .ref m_bytes, .int 3, .ref m_w, .int 0, .int 0, .ref m_saved, .int 0, .ref m_line, .ref m_met, .ref m_waiting, .ref m_nextParent, .int 0, .ref m_kind, .ref m_number, .int 0, .ref m_begin, .ref m_table, .ref m_handlers, .ref m_base, .ref m_locals, .ref m_self, .ref m_found, .ref m_place, .ref m_next, .int 0, .ref m_saidKind, .ref m_saidNumber, .int 0, .int 0, .int (-1)])), (m_bytes, .inl (cI, 300, .inl (upd f18 (3 : Int32).toNatClampNeg z22)))] := hD
  generalize hff23 : upd f18 (3 : Int32).toNatClampNeg z22 = f23 at hP hD
  refine lv_aload_n hx hb d_Model_code_55 rfl (lv_at hl 1 rfl) ?_
  refine lv_dup hx hb d_Model_code_56 rfl ?_
  refine va_get (D := D) (ci := 8) (v := .int 3) (C := "TaleMachineModel") (T := F_Model) (N := 31) hx hb hts in_Model hown hK hP 0 rfl rfl 2 (by decide) (hts _ k_14) (fun _ h9 => h9) rfl d_Model_code_57 ?_
  refine lv_iconst (v := 1) hx hb d_Model_code_60 (by decide) ?_
  refine lv_iadd hx hb d_Model_code_61 ?_
  refine lv_topi (fun z24 hz24 => ?_)
  obtain rfl : z24 = 4 := hz24.trans (by decide)
  refine va_put (D := D) (ci := 8) (v := .int 4) (ty := .int) (C := "TaleMachineModel") (T := F_Model) (N := 31) hx hb hts in_Model t_Model t_Model_ok n_Model hown hK hP hD hS 0 rfl rfl 2 (by decide) (hts _ k_14) (fun _ h9 => h9) rfl (by decide +kernel) rfl rfl (Nat.le_of_ble_eq_true rfl) d_Model_code_62 (fun H locs hP hD hS => ?_)
  have hP : va_P D cL [(h, .inr (8, [.int 0, .ref m_bytes, .int 4, .ref m_w, .int 0, .int 0, .ref m_saved, .int 0, .ref m_line, .ref m_met, .ref m_waiting, .ref m_nextParent, .int 0, .ref m_kind, .ref m_number, .int 0, .ref m_begin, .ref m_table, .ref m_handlers, .ref m_base, .ref m_locals, .ref m_self, .ref m_found, .ref m_place, .ref m_next, .int 0, .ref m_saidKind, .ref m_saidNumber, .int 0, .int 0, .int (-1)])), (m_bytes, .inl (cI, 300, .inl f23))] H := hP
  have hD : va_D A [(h, .inr (8, [.int 0, .ref m_bytes, .int 4, .ref m_w, .int 0, .int 0, .ref m_saved, .int 0, .ref m_line, .ref m_met, .ref m_waiting, .ref m_nextParent, .int 0, .ref m_kind, .ref m_number, .int 0, .ref m_begin, .ref m_table, .ref m_handlers, .ref m_base, .ref m_locals, .ref m_self, .ref m_found, .ref m_place, .ref m_next, .int 0, .ref m_saidKind, .ref m_saidNumber, .int 0, .int 0, .int (-1)])), (m_bytes, .inl (cI, 300, .inl f23))] := hD
  refine lv_iinc (v := (-1)) (lv' := [(3, .int (-1)), (0, .ref h), (1, .int wd), (2, .int 4)]) hx hb d_Model_code_65 hl (k := 0) rfl (by decide) (by decide) rfl (fun ls hl => ?_)
  refine lv_goto hx hb d_Model_code_68 (tgt := 32) (by decide) ?_
  refine lv_iload_n hx hb d_Model_code_32 rfl (lv_at hl 0 rfl) ?_
  refine lv_if_lt hx hb d_Model_code_33 (tgt := 71) (by decide) (fun _ => ?_) (fun hz => absurd (by decide) hz)
  refine lv_iconst (v := 1) hx hb d_Model_code_71 (by decide) ?_
  exact end_z hx hb hr hlocks hS (u := ()) (r := 1) (at_end (hP.sub (ws' := []) [] rfl) (hD.sub (ws' := []) [] (by decide) rfl)) (rfl) (by decide) (Nat.le_of_ble_eq_true rfl) (Nat.le_of_ble_eq_true rfl) d_Model_code_72

set_option maxHeartbeats 4000000 in
set_option maxRecDepth 100000 in
theorem c_Model_code_0 (l : Launch) (D : va_G) (cI cZ cJ : ClassId) (h m_bytes m_w m_saved m_line m_met m_waiting m_nextParent m_kind m_number m_begin m_table m_handlers m_base m_locals m_self m_found m_place m_next m_saidKind m_saidNumber : Nat) (wd k : Int32) (sz : Nat) (hk : k < 1 ∨ 4 < k) : Met l y_Model_code (.code y_Model_code prog_10_method_16_code 4 (some .boolean) :: AW) ({ frames := 1, cells := 0, slots := 0, locals := 22 }) (va_Pc [.ref h, .int wd, .int k] (pre_ D [(h, .inr (8, [.int 0, .ref m_bytes, .int 0, .ref m_w, .int 0, .int 0, .ref m_saved, .int 0, .ref m_line, .ref m_met, .ref m_waiting, .ref m_nextParent, .int 0, .ref m_kind, .ref m_number, .int 0, .ref m_begin, .ref m_table, .ref m_handlers, .ref m_base, .ref m_locals, .ref m_self, .ref m_found, .ref m_place, .ref m_next, .int 0, .ref m_saidKind, .ref m_saidNumber, .int 0, .int 0, .int (-1)]))] [(cI, .int), (cZ, .boolean), (cJ, .long)] sz)) (va_Qi (fun (r : Int32) (u : Unit) => r = 0) (fun _ t => post_ D (va_A [(h, .inr (8, [.int 0, .ref m_bytes, .int 0, .ref m_w, .int 0, .int 0, .ref m_saved, .int 0, .ref m_line, .ref m_met, .ref m_waiting, .ref m_nextParent, .int 0, .ref m_kind, .ref m_number, .int 0, .ref m_begin, .ref m_table, .ref m_handlers, .ref m_base, .ref m_locals, .ref m_self, .ref m_found, .ref m_place, .ref m_next, .int 0, .ref m_saidKind, .ref m_saidNumber, .int 0, .int 0, .int (-1)]))] sz) [] t) (va_A [(h, .inr (8, [.int 0, .ref m_bytes, .int 0, .ref m_w, .int 0, .int 0, .ref m_saved, .int 0, .ref m_line, .ref m_met, .ref m_waiting, .ref m_nextParent, .int 0, .ref m_kind, .ref m_number, .int 0, .ref m_begin, .ref m_table, .ref m_handlers, .ref m_base, .ref m_locals, .ref m_self, .ref m_found, .ref m_place, .ref m_next, .int 0, .ref m_saidKind, .ref m_saidNumber, .int 0, .int 0, .int (-1)]))] sz)) 0 0 (va_A [(h, .inr (8, [.int 0, .ref m_bytes, .int 0, .ref m_w, .int 0, .int 0, .ref m_saved, .int 0, .ref m_line, .ref m_met, .ref m_waiting, .ref m_nextParent, .int 0, .ref m_kind, .ref m_number, .int 0, .ref m_begin, .ref m_table, .ref m_handlers, .ref m_base, .ref m_locals, .ref m_self, .ref m_found, .ref m_place, .ref m_next, .int 0, .ref m_saidKind, .ref m_saidNumber, .int 0, .int 0, .int (-1)]))] sz) := by
  refine Met.ofW (cc := prog_10_method_16_code) (maxL := 4) (ret := (some .boolean)) (by decide) rfl ?_
  intro p e s m args below meth c s₁ B hml hv
  obtain ⟨rfl, rfl, hP, hK, hD0, hT⟩ := hv
  have hx := B.exec
  have hb := B.bytes
  have hr := B.returns
  have hts0 := atoms_spec (ws := .code y_Model_code prog_10_method_16_code 4 (some .boolean) :: AW) B.pre
  have hts : ∀ w ∈ AW, w.before [.ref h, .int wd, .int k].toArray s = true := fun w h => hts0 w (List.mem_cons_of_mem _ h)
  have hown : s.vm.findClass "TaleMachineModel" = some m.cls := findClass_of_methodNamed B.named
  have hlocks := B.notSynchronized
  have hD := hD0.self (sz := s.heap.size)
  generalize hAe : va_A [(h, .inr (8, [.int 0, .ref m_bytes, .int 0, .ref m_w, .int 0, .int 0, .ref m_saved, .int 0, .ref m_line, .ref m_met, .ref m_waiting, .ref m_nextParent, .int 0, .ref m_kind, .ref m_number, .int 0, .ref m_begin, .ref m_table, .ref m_handlers, .ref m_base, .ref m_locals, .ref m_self, .ref m_found, .ref m_place, .ref m_next, .int 0, .ref m_saidKind, .ref m_saidNumber, .int 0, .int 0, .int (-1)]))] s.heap.size = A at hD ⊢
  have hA : ∀ q : Nat, s.heap.size ≤ q → A q := fun q h => by rw [← hAe]; exact Or.inr h
  have hS : va_S A s.heap s.heap [] := va_S.rf
  have hl := lv_entry ([.ref h, .int wd, .int k]) (n := 4) (Nat.le_of_ble_eq_true rfl)
  rw [lg_entry_eq]
  generalize (lg_sl ([.ref h, .int wd, .int k]) ++ List.replicate (4 - (lg_sl ([.ref h, .int wd, .int k])).length) Slot.unset).toArray = ls at hl ⊢
  have hl : lv_has ls 4 [(0, .ref h), (1, .int wd), (2, .int k)] := hl
  refine lv_aload_n hx hb d_Model_code_0 rfl (lv_at hl 0 rfl) ?_
  refine lv_iconst (v := 0) hx hb d_Model_code_1 (by decide) ?_
  refine va_put (D := D) (ci := 8) (v := .int 0) (ty := .int) (C := "TaleMachineModel") (T := F_Model) (N := 31) hx hb hts in_Model t_Model t_Model_ok n_Model hown hK hP hD hS 0 rfl rfl 0 (by decide) (hts _ k_0) (fun _ h9 => h9) rfl (by decide +kernel) rfl rfl (Nat.le_of_ble_eq_true rfl) d_Model_code_2 (fun H locs hP hD hS => ?_)
  have hP : va_P D cL [(h, .inr (8, [.int 0, .ref m_bytes, .int 0, .ref m_w, .int 0, .int 0, .ref m_saved, .int 0, .ref m_line, .ref m_met, .ref m_waiting, .ref m_nextParent, .int 0, .ref m_kind, .ref m_number, .int 0, .ref m_begin, .ref m_table, .ref m_handlers, .ref m_base, .ref m_locals, .ref m_self, .ref m_found, .ref m_place, .ref m_next, .int 0, .ref m_saidKind, .ref m_saidNumber, .int 0, .int 0, .int (-1)]))] H := hP
  have hD : va_D A [(h, .inr (8, [.int 0, .ref m_bytes, .int 0, .ref m_w, .int 0, .int 0, .ref m_saved, .int 0, .ref m_line, .ref m_met, .ref m_waiting, .ref m_nextParent, .int 0, .ref m_kind, .ref m_number, .int 0, .ref m_begin, .ref m_table, .ref m_handlers, .ref m_base, .ref m_locals, .ref m_self, .ref m_found, .ref m_place, .ref m_next, .int 0, .ref m_saidKind, .ref m_saidNumber, .int 0, .int 0, .int (-1)]))] := hD
  refine lv_iload_n hx hb d_Model_code_5 rfl (lv_at hl 2 rfl) ?_
  refine lv_iconst (v := 1) hx hb d_Model_code_6 (by decide) ?_
  refine lv_iconst (v := 4) hx hb d_Model_code_7 (by decide) ?_
  refine mv_i (va_runS (As := [.int k, .int 1, .int 4]) (rest := []) ⟨hx, hb, hml, hown, hts⟩ (c_Model_outside l D cI cZ cJ k 1 4 _ ) (va_cwS 3 hts (gInS k_2 k_3 k_4 k_1) rfl rfl rfl (by decide +kernel) ⟨Nat.le_of_ble_eq_true rfl, Nat.le_of_ble_eq_true rfl⟩) (pre_S (hP.sub [] rfl) (hK.sub [0, 1, 2] rfl) (hD.sub [] (by decide) rfl) hT) rfl rfl hl.1 rfl (lv_room (Nat.le_of_ble_eq_true rfl)) d_Model_code_8 ⟨Nat.le_of_ble_eq_true rfl, Nat.le_of_ble_eq_true rfl⟩) hP hD hS hA [] [0] rfl rfl (by decide) (by decide) (wr := [(h, .inr (8, [.int 0, .ref m_bytes, .int 0, .ref m_w, .int 0, .int 0, .ref m_saved, .int 0, .ref m_line, .ref m_met, .ref m_waiting, .ref m_nextParent, .int 0, .ref m_kind, .ref m_number, .int 0, .ref m_begin, .ref m_table, .ref m_handlers, .ref m_base, .ref m_locals, .ref m_self, .ref m_found, .ref m_place, .ref m_next, .int 0, .ref m_saidKind, .ref m_saidNumber, .int 0, .int 0, .int (-1)]))]) (wn := fun _ => []) (fun _ _ h9 => h9) (fun r1 _ H locs hp2 hP hD hS => ?_)
  have hP : va_P D cL [(h, .inr (8, [.int 0, .ref m_bytes, .int 0, .ref m_w, .int 0, .int 0, .ref m_saved, .int 0, .ref m_line, .ref m_met, .ref m_waiting, .ref m_nextParent, .int 0, .ref m_kind, .ref m_number, .int 0, .ref m_begin, .ref m_table, .ref m_handlers, .ref m_base, .ref m_locals, .ref m_self, .ref m_found, .ref m_place, .ref m_next, .int 0, .ref m_saidKind, .ref m_saidNumber, .int 0, .int 0, .int (-1)]))] H := hP
  have hD : va_D A [(h, .inr (8, [.int 0, .ref m_bytes, .int 0, .ref m_w, .int 0, .int 0, .ref m_saved, .int 0, .ref m_line, .ref m_met, .ref m_waiting, .ref m_nextParent, .int 0, .ref m_kind, .ref m_number, .int 0, .ref m_begin, .ref m_table, .ref m_handlers, .ref m_base, .ref m_locals, .ref m_self, .ref m_found, .ref m_place, .ref m_next, .int 0, .ref m_saidKind, .ref m_saidNumber, .int 0, .int 0, .int (-1)]))] := hD
  refine lv_if_ne hx hb d_Model_code_11 (tgt := 26) (by decide) (fun _ => ?_) (fun hz => absurd hz (by rw [hp2.2.mpr hk]; decide))
  refine lv_iconst (v := 0) hx hb d_Model_code_26 (by decide) ?_
  exact end_z hx hb hr hlocks hS (u := ()) (r := 0) (at_end (hP.sub (ws' := []) [] rfl) (hD.sub (ws' := []) [] (by decide) rfl)) (rfl) (by decide) (Nat.le_of_ble_eq_true rfl) (Nat.le_of_ble_eq_true rfl) d_Model_code_27
end
section
set_option maxHeartbeats 4000000 in
set_option maxRecDepth 100000 in
theorem c_Model_object_1 (l : Launch) (D : va_G) (cI cZ cJ : ClassId) (h m_bytes m_w m_saved m_line m_met m_waiting m_nextParent m_kind m_number m_begin m_table m_handlers m_base m_locals m_self m_found m_place m_next m_saidKind m_saidNumber : Nat) (b cc_ : Int32) (sz : Nat)  : Met l y_Model_object (.code y_Model_object prog_10_method_18_code 6 (some .int) :: AW) ({ frames := 2, cells := 0, slots := 0, locals := 44 }) (va_Pc [.ref h, .int (-1), .int b, .int cc_] (pre_ D [(h, .inr (8, [.int 0, .ref m_bytes, .int 0, .ref m_w, .int 0, .int 0, .ref m_saved, .int 0, .ref m_line, .ref m_met, .ref m_waiting, .ref m_nextParent, .int 0, .ref m_kind, .ref m_number, .int 0, .ref m_begin, .ref m_table, .ref m_handlers, .ref m_base, .ref m_locals, .ref m_self, .ref m_found, .ref m_place, .ref m_next, .int 0, .ref m_saidKind, .ref m_saidNumber, .int 0, .int 0, .int (-1)])), (m_w, .inl (cI, 5568, .inl (fun _ => 0))), (m_saved, .inl (cZ, 2, .inl (fun _ => 0)))] [(cI, .int), (cZ, .boolean), (cJ, .long)] sz)) (va_Qi (fun (r : Int32) (u : Unit) => r = 0) (fun _ t => post_ D (va_A [(h, .inr (8, [.int 0, .ref m_bytes, .int 0, .ref m_w, .int 0, .int 0, .ref m_saved, .int 0, .ref m_line, .ref m_met, .ref m_waiting, .ref m_nextParent, .int 0, .ref m_kind, .ref m_number, .int 0, .ref m_begin, .ref m_table, .ref m_handlers, .ref m_base, .ref m_locals, .ref m_self, .ref m_found, .ref m_place, .ref m_next, .int 0, .ref m_saidKind, .ref m_saidNumber, .int 0, .int 0, .int (-1)])), (m_w, .inl (cI, 5568, .inl (fun _ => 0))), (m_saved, .inl (cZ, 2, .inl (fun _ => 0)))] sz) [(h, .inr (8, [.int 0, .ref m_bytes, .int 0, .ref m_w, .int 1, .int 0, .ref m_saved, .int 0, .ref m_line, .ref m_met, .ref m_waiting, .ref m_nextParent, .int 0, .ref m_kind, .ref m_number, .int 0, .ref m_begin, .ref m_table, .ref m_handlers, .ref m_base, .ref m_locals, .ref m_self, .ref m_found, .ref m_place, .ref m_next, .int 0, .ref m_saidKind, .ref m_saidNumber, .int 0, .int 0, .int (-1)]))] t) (va_A [(h, .inr (8, [.int 0, .ref m_bytes, .int 0, .ref m_w, .int 0, .int 0, .ref m_saved, .int 0, .ref m_line, .ref m_met, .ref m_waiting, .ref m_nextParent, .int 0, .ref m_kind, .ref m_number, .int 0, .ref m_begin, .ref m_table, .ref m_handlers, .ref m_base, .ref m_locals, .ref m_self, .ref m_found, .ref m_place, .ref m_next, .int 0, .ref m_saidKind, .ref m_saidNumber, .int 0, .int 0, .int (-1)])), (m_w, .inl (cI, 5568, .inl (fun _ => 0))), (m_saved, .inl (cZ, 2, .inl (fun _ => 0)))] sz)) 0 0 (va_A [(h, .inr (8, [.int 0, .ref m_bytes, .int 0, .ref m_w, .int 0, .int 0, .ref m_saved, .int 0, .ref m_line, .ref m_met, .ref m_waiting, .ref m_nextParent, .int 0, .ref m_kind, .ref m_number, .int 0, .ref m_begin, .ref m_table, .ref m_handlers, .ref m_base, .ref m_locals, .ref m_self, .ref m_found, .ref m_place, .ref m_next, .int 0, .ref m_saidKind, .ref m_saidNumber, .int 0, .int 0, .int (-1)])), (m_w, .inl (cI, 5568, .inl (fun _ => 0))), (m_saved, .inl (cZ, 2, .inl (fun _ => 0)))] sz) := by
  refine Met.ofW (cc := prog_10_method_18_code) (maxL := 6) (ret := (some .int)) (by decide) rfl ?_
  intro p e s m args below meth c s₁ B hml hv
  obtain ⟨rfl, rfl, hP, hK, hD0, hT⟩ := hv
  have hx := B.exec
  have hb := B.bytes
  have hr := B.returns
  have hts0 := atoms_spec (ws := .code y_Model_object prog_10_method_18_code 6 (some .int) :: AW) B.pre
  have hts : ∀ w ∈ AW, w.before [.ref h, .int (-1), .int b, .int cc_].toArray s = true := fun w h => hts0 w (List.mem_cons_of_mem _ h)
  have hown : s.vm.findClass "TaleMachineModel" = some m.cls := findClass_of_methodNamed B.named
  have hlocks := B.notSynchronized
  have hD := hD0.self (sz := s.heap.size)
  generalize hAe : va_A [(h, .inr (8, [.int 0, .ref m_bytes, .int 0, .ref m_w, .int 0, .int 0, .ref m_saved, .int 0, .ref m_line, .ref m_met, .ref m_waiting, .ref m_nextParent, .int 0, .ref m_kind, .ref m_number, .int 0, .ref m_begin, .ref m_table, .ref m_handlers, .ref m_base, .ref m_locals, .ref m_self, .ref m_found, .ref m_place, .ref m_next, .int 0, .ref m_saidKind, .ref m_saidNumber, .int 0, .int 0, .int (-1)])), (m_w, .inl (cI, 5568, .inl (fun _ => 0))), (m_saved, .inl (cZ, 2, .inl (fun _ => 0)))] s.heap.size = A at hD ⊢
  have hA : ∀ q : Nat, s.heap.size ≤ q → A q := fun q h => by rw [← hAe]; exact Or.inr h
  have hS : va_S A s.heap s.heap [] := va_S.rf
  have hl := lv_entry ([.ref h, .int (-1), .int b, .int cc_]) (n := 6) (Nat.le_of_ble_eq_true rfl)
  rw [lg_entry_eq]
  generalize (lg_sl ([.ref h, .int (-1), .int b, .int cc_]) ++ List.replicate (6 - (lg_sl ([.ref h, .int (-1), .int b, .int cc_])).length) Slot.unset).toArray = ls at hl ⊢
  have hl : lv_has ls 6 [(0, .ref h), (1, .int (-1)), (2, .int b), (3, .int cc_)] := hl
  refine lv_iload_n hx hb d_Model_object_0 rfl (lv_at hl 1 rfl) ?_
  refine lv_iconst (v := (-1)) hx hb d_Model_object_1 (by decide) ?_
  refine lv_icmp_ne hx hb d_Model_object_2 (tgt := 9) (by decide) (fun hz => absurd (by decide) hz) (fun _ => ?_)
  refine lv_iconst (v := 0) hx hb d_Model_object_5 (by decide) ?_
  refine lv_goto hx hb d_Model_object_6 (tgt := 28) (by decide) ?_
  refine lv_istore (lv' := [(4, .int 0), (0, .ref h), (1, .int (-1)), (2, .int b), (3, .int cc_)]) hx hb d_Model_object_28 hl (by decide) rfl (fun ls hl => ?_)
  refine lv_aload_n hx hb d_Model_object_30 rfl (lv_at hl 1 rfl) ?_
  refine lv_iload_n hx hb d_Model_object_31 rfl (lv_at hl 2 rfl) ?_
  refine mv_i (va_runV (C := "TaleMachineModel") (As := [.int (-1)]) (rest := []) ⟨hx, hb, hml, hown, hts⟩ (c_Model_isParent_1 l D cI cZ cJ _ _ _ _ _ _ _ _ _ _ _ _ _ _ _ _ _ _ _ _ _ _ ) (cwV 1 hts (gInV k_17 k_18 k_19 k_4 k_16) rfl rfl rfl (by decide +kernel) ⟨Nat.le_of_ble_eq_true rfl, Nat.le_of_ble_eq_true rfl⟩) (pre_V (va_recv hK hP (q := ("TaleMachineModel", F_Model, 31)) rfl (q0 := 0) rfl) (hP.sub [0, 1] rfl) (hK.sub [0, 1, 2] rfl) (hD.sub [0, 1] (by decide) rfl) hT) rfl rfl hl.1 rfl (lv_room (Nat.le_of_ble_eq_true rfl)) d_Model_object_32 ⟨Nat.le_of_ble_eq_true rfl, Nat.le_of_ble_eq_true rfl⟩) hP hD hS hA [0, 1] [2] rfl rfl (by decide) (by decide) (wr := [(m_saved, .inl (cZ, 2, .inl (fun _ => 0)))]) (wn := fun _ => [(h, .inr (8, [.int 0, .ref m_bytes, .int 0, .ref m_w, .int 0, .int 0, .ref m_saved, .int 0, .ref m_line, .ref m_met, .ref m_waiting, .ref m_nextParent, .int 0, .ref m_kind, .ref m_number, .int 0, .ref m_begin, .ref m_table, .ref m_handlers, .ref m_base, .ref m_locals, .ref m_self, .ref m_found, .ref m_place, .ref m_next, .int 0, .ref m_saidKind, .ref m_saidNumber, .int 0, .int 0, .int (-1)])), (m_w, .inl (cI, 5568, .inl (fun _ => 0)))]) (fun _ _ h9 => h9) (fun r1 _ H locs hp2 hP hD hS => ?_)
  have hP : va_P D cL [(m_saved, .inl (cZ, 2, .inl (fun _ => 0))), (h, .inr (8, [.int 0, .ref m_bytes, .int 0, .ref m_w, .int 0, .int 0, .ref m_saved, .int 0, .ref m_line, .ref m_met, .ref m_waiting, .ref m_nextParent, .int 0, .ref m_kind, .ref m_number, .int 0, .ref m_begin, .ref m_table, .ref m_handlers, .ref m_base, .ref m_locals, .ref m_self, .ref m_found, .ref m_place, .ref m_next, .int 0, .ref m_saidKind, .ref m_saidNumber, .int 0, .int 0, .int (-1)])), (m_w, .inl (cI, 5568, .inl (fun _ => 0)))] H := hP
  have hD : va_D A [(m_saved, .inl (cZ, 2, .inl (fun _ => 0))), (h, .inr (8, [.int 0, .ref m_bytes, .int 0, .ref m_w, .int 0, .int 0, .ref m_saved, .int 0, .ref m_line, .ref m_met, .ref m_waiting, .ref m_nextParent, .int 0, .ref m_kind, .ref m_number, .int 0, .ref m_begin, .ref m_table, .ref m_handlers, .ref m_base, .ref m_locals, .ref m_self, .ref m_found, .ref m_place, .ref m_next, .int 0, .ref m_saidKind, .ref m_saidNumber, .int 0, .int 0, .int (-1)])), (m_w, .inl (cI, 5568, .inl (fun _ => 0)))] := hD
  obtain rfl : r1 = 1 := hp2
  refine lv_if_eq hx hb d_Model_object_35 (tgt := 70) (by decide) (fun hz => absurd hz (by decide)) (fun _ => ?_)
  refine lv_iload hx hb d_Model_object_38 (lv_at hl 0 rfl) ?_
  refine lv_iconst (v := 1) hx hb d_Model_object_40 (by decide) ?_
  refine lv_icmp_lt hx hb d_Model_object_41 (tgt := 52) (by decide) (fun _ => ?_) (fun hz => absurd (by decide) hz)
  refine lv_iload hx hb d_Model_object_52 (lv_at hl 0 rfl) ?_
  refine lv_iconst (v := 2) hx hb d_Model_object_54 (by decide) ?_
  refine lv_icmp_lt hx hb d_Model_object_55 (tgt := 66) (by decide) (fun _ => ?_) (fun hz => absurd (by decide) hz)
  refine lv_iconst (v := 1) hx hb d_Model_object_66 (by decide) ?_
  refine lv_goto hx hb d_Model_object_67 (tgt := 71) (by decide) ?_
  refine lv_istore (lv' := [(5, .int 1), (4, .int 0), (0, .ref h), (1, .int (-1)), (2, .int b), (3, .int cc_)]) hx hb d_Model_object_71 hl (by decide) rfl (fun ls hl => ?_)
  refine lv_aload_n hx hb d_Model_object_73 rfl (lv_at hl 2 rfl) ?_
  refine lv_iload hx hb d_Model_object_74 (lv_at hl 0 rfl) ?_
  refine lv_if_ne hx hb d_Model_object_76 (tgt := 83) (by decide) (fun _ => ?_) (fun hz => absurd hz (by decide))
  refine lv_aload_n hx hb d_Model_object_83 rfl (lv_at hl 2 rfl) ?_
  refine va_get (D := D) (ci := 8) (v := .int (-1)) (C := "TaleMachineModel") (T := F_Model) (N := 31) hx hb hts in_Model hown hK hP 1 rfl rfl 30 (by decide) (hts _ k_20) (fun _ h9 => h9) rfl d_Model_object_84 ?_
  refine lv_if_eq hx hb d_Model_object_87 (tgt := 99) (by decide) (fun hz => absurd hz (by decide)) (fun _ => ?_)
  refine lv_aload_n hx hb d_Model_object_90 rfl (lv_at hl 2 rfl) ?_
  refine va_get (D := D) (ci := 8) (v := .int 0) (C := "TaleMachineModel") (T := F_Model) (N := 31) hx hb hts in_Model hown hK hP 1 rfl rfl 4 (by decide) (hts _ k_21) (fun _ h9 => h9) rfl d_Model_object_91 ?_
  refine lv_bipush (v := 16) hx hb d_Model_object_94 (by decide) ?_
  refine lv_icmp_ne hx hb d_Model_object_96 (tgt := 103) (by decide) (fun _ => ?_) (fun hz => absurd hz (by decide))
  refine lv_iconst (v := 0) hx hb d_Model_object_103 (by decide) ?_
  refine va_put (D := D) (ci := 8) (v := .int 0) (ty := .int) (C := "TaleMachineModel") (T := F_Model) (N := 31) hx hb hts in_Model t_Model t_Model_ok n_Model hown hK hP hD hS 1 rfl rfl 0 (by decide) (hts _ k_0) (fun _ h9 => h9) rfl (by decide +kernel) rfl rfl (Nat.le_of_ble_eq_true rfl) d_Model_object_104 (fun H locs hP hD hS => ?_)
  have hP : va_P D cL [(m_saved, .inl (cZ, 2, .inl (fun _ => 0))), (h, .inr (8, [.int 0, .ref m_bytes, .int 0, .ref m_w, .int 0, .int 0, .ref m_saved, .int 0, .ref m_line, .ref m_met, .ref m_waiting, .ref m_nextParent, .int 0, .ref m_kind, .ref m_number, .int 0, .ref m_begin, .ref m_table, .ref m_handlers, .ref m_base, .ref m_locals, .ref m_self, .ref m_found, .ref m_place, .ref m_next, .int 0, .ref m_saidKind, .ref m_saidNumber, .int 0, .int 0, .int (-1)])), (m_w, .inl (cI, 5568, .inl (fun _ => 0)))] H := hP
  have hD : va_D A [(m_saved, .inl (cZ, 2, .inl (fun _ => 0))), (h, .inr (8, [.int 0, .ref m_bytes, .int 0, .ref m_w, .int 0, .int 0, .ref m_saved, .int 0, .ref m_line, .ref m_met, .ref m_waiting, .ref m_nextParent, .int 0, .ref m_kind, .ref m_number, .int 0, .ref m_begin, .ref m_table, .ref m_handlers, .ref m_base, .ref m_locals, .ref m_self, .ref m_found, .ref m_place, .ref m_next, .int 0, .ref m_saidKind, .ref m_saidNumber, .int 0, .int 0, .int (-1)])), (m_w, .inl (cI, 5568, .inl (fun _ => 0)))] := hD
  refine lv_aload_n hx hb d_Model_object_107 rfl (lv_at hl 2 rfl) ?_
  refine va_get (D := D) (ci := 8) (v := .int 0) (C := "TaleMachineModel") (T := F_Model) (N := 31) hx hb hts in_Model hown hK hP 1 rfl rfl 0 (by decide) (hts _ k_0) (fun _ h9 => h9) rfl d_Model_object_108 ?_
  refine lv_if_le hx hb d_Model_object_111 (tgt := 116) (by decide) (fun _ => ?_) (fun hz => absurd (by decide) hz)
  refine lv_aload_n hx hb d_Model_object_116 rfl (lv_at hl 2 rfl) ?_
  refine lv_aload_n hx hb d_Model_object_117 rfl (lv_at hl 2 rfl) ?_
  refine va_get (D := D) (ci := 8) (v := .int 0) (C := "TaleMachineModel") (T := F_Model) (N := 31) hx hb hts in_Model hown hK hP 1 rfl rfl 4 (by decide) (hts _ k_21) (fun _ h9 => h9) rfl d_Model_object_118 ?_
  refine mv_v (va_runV (C := "TaleMachineModel") (As := [.int 0]) (rest := []) ⟨hx, hb, hml, hown, hts⟩ (c_Model_empty l D cI cZ cJ _ _ _ _ _ _ _ _ _ _ _ _ _ _ _ _ _ _ _ _ _ _ ) (cwV 1 hts (gInV k_23 k_24 k_25 k_4 k_22) rfl rfl rfl (by decide +kernel) ⟨Nat.le_of_ble_eq_true rfl, Nat.le_of_ble_eq_true rfl⟩) (pre_V (va_recv hK hP (q := ("TaleMachineModel", F_Model, 31)) rfl (q0 := 1) rfl) (hP.sub [1, 2] rfl) (hK.sub [0, 1, 2] rfl) (hD.sub [1, 2] (by decide) rfl) hT) rfl rfl hl.1 rfl (lv_room (Nat.le_of_ble_eq_true rfl)) d_Model_object_121 ⟨Nat.le_of_ble_eq_true rfl, Nat.le_of_ble_eq_true rfl⟩) hP hD hS hA [1, 2] [0] rfl rfl (by decide) (by decide) (wr := [(m_saved, .inl (cZ, 2, .inl (fun _ => 0)))]) (wn := fun u => match u with | fw => [(h, .inr (8, [.int 0, .ref m_bytes, .int 0, .ref m_w, .int 0, .int 0, .ref m_saved, .int 0, .ref m_line, .ref m_met, .ref m_waiting, .ref m_nextParent, .int 0, .ref m_kind, .ref m_number, .int 0, .ref m_begin, .ref m_table, .ref m_handlers, .ref m_base, .ref m_locals, .ref m_self, .ref m_found, .ref m_place, .ref m_next, .int 0, .ref m_saidKind, .ref m_saidNumber, .int 0, .int 0, .int (-1)])), (m_w, .inl (cI, 5568, .inl fw))]) (fun _ _ h9 => h9) (fun a3 H locs hp5 hP hD hS => ?_)
  have hP : va_P D cL [(m_saved, .inl (cZ, 2, .inl (fun _ => 0))), (h, .inr (8, [.int 0, .ref m_bytes, .int 0, .ref m_w, .int 0, .int 0, .ref m_saved, .int 0, .ref m_line, .ref m_met, .ref m_waiting, .ref m_nextParent, .int 0, .ref m_kind, .ref m_number, .int 0, .ref m_begin, .ref m_table, .ref m_handlers, .ref m_base, .ref m_locals, .ref m_self, .ref m_found, .ref m_place, .ref m_next, .int 0, .ref m_saidKind, .ref m_saidNumber, .int 0, .int 0, .int (-1)])), (m_w, .inl (cI, 5568, .inl a3))] H := hP
  have hD : va_D A [(m_saved, .inl (cZ, 2, .inl (fun _ => 0))), (h, .inr (8, [.int 0, .ref m_bytes, .int 0, .ref m_w, .int 0, .int 0, .ref m_saved, .int 0, .ref m_line, .ref m_met, .ref m_waiting, .ref m_nextParent, .int 0, .ref m_kind, .ref m_number, .int 0, .ref m_begin, .ref m_table, .ref m_handlers, .ref m_base, .ref m_locals, .ref m_self, .ref m_found, .ref m_place, .ref m_next, .int 0, .ref m_saidKind, .ref m_saidNumber, .int 0, .int 0, .int (-1)])), (m_w, .inl (cI, 5568, .inl a3))] := hD
  refine lv_aload_n hx hb d_Model_object_124 rfl (lv_at hl 2 rfl) ?_
  refine va_get (D := D) (ci := 8) (v := .ref m_w) (C := "TaleMachineModel") (T := F_Model) (N := 31) hx hb hts in_Model hown hK hP 1 rfl rfl 3 (by decide) (hts _ k_5) (fun _ h9 => h9) rfl d_Model_object_125 ?_
  refine lv_bipush (v := 29) hx hb d_Model_object_128 (by decide) ?_
  refine lv_aload_n hx hb d_Model_object_130 rfl (lv_at hl 2 rfl) ?_
  refine va_get (D := D) (ci := 8) (v := .int 0) (C := "TaleMachineModel") (T := F_Model) (N := 31) hx hb hts in_Model hown hK hP 1 rfl rfl 4 (by decide) (hts _ k_21) (fun _ h9 => h9) rfl d_Model_object_131 ?_
  refine lv_imul hx hb d_Model_object_134 ?_
  refine lv_topi (fun z6 hz6 => ?_)
  obtain rfl : z6 = 0 := hz6.trans (by decide)
  refine lv_iconst (v := 1) hx hb d_Model_object_135 (by decide) ?_
  refine lv_iadd hx hb d_Model_object_136 ?_
  refine lv_topi (fun z7 hz7 => ?_)
  obtain rfl : z7 = 1 := hz7.trans (by decide)
  refine lv_iload hx hb d_Model_object_137 (lv_at hl 1 rfl) ?_
  refine va_iast hx hb hK hP hD hS 2 0 rfl rfl (i := 1) (x := 0) (in_c (by decide)) d_Model_object_139 (fun H locs hP hD hS => ?_)
  have hP : va_P D cL [(m_saved, .inl (cZ, 2, .inl (fun _ => 0))), (h, .inr (8, [.int 0, .ref m_bytes, .int 0, .ref m_w, .int 0, .int 0, .ref m_saved, .int 0, .ref m_line, .ref m_met, .ref m_waiting, .ref m_nextParent, .int 0, .ref m_kind, .ref m_number, .int 0, .ref m_begin, .ref m_table, .ref m_handlers, .ref m_base, .ref m_locals, .ref m_self, .ref m_found, .ref m_place, .ref m_next, .int 0, .ref m_saidKind, .ref m_saidNumber, .int 0, .int 0, .int (-1)])), (m_w, .inl (cI, 5568, .inl (upd a3 (1 : Int32).toNatClampNeg 0)))] H := hP
  have hD : va_D A [(m_saved, .inl (cZ, 2, .inl (fun _ => 0))), (h, .inr (8, [.int 0, .ref m_bytes, .int 0, .ref m_w, .int 0, .int 0, .ref m_saved, .int 0, .ref m_line, .ref m_met, .ref m_waiting, .ref m_nextParent, .int 0, .ref m_kind, .ref m_number, .int 0, .ref m_begin, .ref m_table, .ref m_handlers, .ref m_base, .ref m_locals, .ref m_self, .ref m_found, .ref m_place, .ref m_next, .int 0, .ref m_saidKind, .ref m_saidNumber, .int 0, .int 0, .int (-1)])), (m_w, .inl (cI, 5568, .inl (upd a3 (1 : Int32).toNatClampNeg 0)))] := hD
  generalize hff8 : upd a3 (1 : Int32).toNatClampNeg 0 = f8 at hP hD
  refine lv_aload_n hx hb d_Model_object_140 rfl (lv_at hl 2 rfl) ?_
  refine va_get (D := D) (ci := 8) (v := .ref m_w) (C := "TaleMachineModel") (T := F_Model) (N := 31) hx hb hts in_Model hown hK hP 1 rfl rfl 3 (by decide) (hts _ k_5) (fun _ h9 => h9) rfl d_Model_object_141 ?_
  refine lv_bipush (v := 29) hx hb d_Model_object_144 (by decide) ?_
  refine lv_aload_n hx hb d_Model_object_146 rfl (lv_at hl 2 rfl) ?_
  refine va_get (D := D) (ci := 8) (v := .int 0) (C := "TaleMachineModel") (T := F_Model) (N := 31) hx hb hts in_Model hown hK hP 1 rfl rfl 4 (by decide) (hts _ k_21) (fun _ h9 => h9) rfl d_Model_object_147 ?_
  refine lv_imul hx hb d_Model_object_150 ?_
  refine lv_topi (fun z9 hz9 => ?_)
  obtain rfl : z9 = 0 := hz9.trans (by decide)
  refine lv_iconst (v := 2) hx hb d_Model_object_151 (by decide) ?_
  refine lv_iadd hx hb d_Model_object_152 ?_
  refine lv_topi (fun z10 hz10 => ?_)
  obtain rfl : z10 = 2 := hz10.trans (by decide)
  refine lv_iload_n hx hb d_Model_object_153 rfl (lv_at hl 3 rfl) ?_
  refine va_iast hx hb hK hP hD hS 2 0 rfl rfl (i := 2) (x := (-1)) (in_c (by decide)) d_Model_object_154 (fun H locs hP hD hS => ?_)
  have hP : va_P D cL [(m_saved, .inl (cZ, 2, .inl (fun _ => 0))), (h, .inr (8, [.int 0, .ref m_bytes, .int 0, .ref m_w, .int 0, .int 0, .ref m_saved, .int 0, .ref m_line, .ref m_met, .ref m_waiting, .ref m_nextParent, .int 0, .ref m_kind, .ref m_number, .int 0, .ref m_begin, .ref m_table, .ref m_handlers, .ref m_base, .ref m_locals, .ref m_self, .ref m_found, .ref m_place, .ref m_next, .int 0, .ref m_saidKind, .ref m_saidNumber, .int 0, .int 0, .int (-1)])), (m_w, .inl (cI, 5568, .inl (upd f8 (2 : Int32).toNatClampNeg (-1))))] H := hP
  have hD : va_D A [(m_saved, .inl (cZ, 2, .inl (fun _ => 0))), (h, .inr (8, [.int 0, .ref m_bytes, .int 0, .ref m_w, .int 0, .int 0, .ref m_saved, .int 0, .ref m_line, .ref m_met, .ref m_waiting, .ref m_nextParent, .int 0, .ref m_kind, .ref m_number, .int 0, .ref m_begin, .ref m_table, .ref m_handlers, .ref m_base, .ref m_locals, .ref m_self, .ref m_found, .ref m_place, .ref m_next, .int 0, .ref m_saidKind, .ref m_saidNumber, .int 0, .int 0, .int (-1)])), (m_w, .inl (cI, 5568, .inl (upd f8 (2 : Int32).toNatClampNeg (-1))))] := hD
  generalize hff11 : upd f8 (2 : Int32).toNatClampNeg (-1) = f11 at hP hD
  refine lv_aload_n hx hb d_Model_object_155 rfl (lv_at hl 2 rfl) ?_
  refine va_get (D := D) (ci := 8) (v := .ref m_w) (C := "TaleMachineModel") (T := F_Model) (N := 31) hx hb hts in_Model hown hK hP 1 rfl rfl 3 (by decide) (hts _ k_5) (fun _ h9 => h9) rfl d_Model_object_156 ?_
  refine lv_bipush (v := 29) hx hb d_Model_object_159 (by decide) ?_
  refine lv_aload_n hx hb d_Model_object_161 rfl (lv_at hl 2 rfl) ?_
  refine va_get (D := D) (ci := 8) (v := .int 0) (C := "TaleMachineModel") (T := F_Model) (N := 31) hx hb hts in_Model hown hK hP 1 rfl rfl 4 (by decide) (hts _ k_21) (fun _ h9 => h9) rfl d_Model_object_162 ?_
  refine lv_imul hx hb d_Model_object_165 ?_
  refine lv_topi (fun z12 hz12 => ?_)
  obtain rfl : z12 = 0 := hz12.trans (by decide)
  refine lv_iconst (v := 3) hx hb d_Model_object_166 (by decide) ?_
  refine lv_iadd hx hb d_Model_object_167 ?_
  refine lv_topi (fun z13 hz13 => ?_)
  obtain rfl : z13 = 3 := hz13.trans (by decide)
  refine lv_iload_n hx hb d_Model_object_168 rfl (lv_at hl 4 rfl) ?_
  refine va_iast hx hb hK hP hD hS 2 0 rfl rfl (i := 3) (x := b) (in_c (by decide)) d_Model_object_169 (fun H locs hP hD hS => ?_)
  have hP : va_P D cL [(m_saved, .inl (cZ, 2, .inl (fun _ => 0))), (h, .inr (8, [.int 0, .ref m_bytes, .int 0, .ref m_w, .int 0, .int 0, .ref m_saved, .int 0, .ref m_line, .ref m_met, .ref m_waiting, .ref m_nextParent, .int 0, .ref m_kind, .ref m_number, .int 0, .ref m_begin, .ref m_table, .ref m_handlers, .ref m_base, .ref m_locals, .ref m_self, .ref m_found, .ref m_place, .ref m_next, .int 0, .ref m_saidKind, .ref m_saidNumber, .int 0, .int 0, .int (-1)])), (m_w, .inl (cI, 5568, .inl (upd f11 (3 : Int32).toNatClampNeg b)))] H := hP
  have hD : va_D A [(m_saved, .inl (cZ, 2, .inl (fun _ => 0))), (h, .inr (8, [.int 0, .ref m_bytes, .int 0, .ref m_w, .int 0, .int 0, .ref m_saved, .int 0, .ref m_line, .ref m_met, .ref m_waiting, .ref m_nextParent, .int 0, .ref m_kind, .ref m_number, .int 0, .ref m_begin, .ref m_table, .ref m_handlers, .ref m_base, .ref m_locals, .ref m_self, .ref m_found, .ref m_place, .ref m_next, .int 0, .ref m_saidKind, .ref m_saidNumber, .int 0, .int 0, .int (-1)])), (m_w, .inl (cI, 5568, .inl (upd f11 (3 : Int32).toNatClampNeg b)))] := hD
  generalize hff14 : upd f11 (3 : Int32).toNatClampNeg b = f14 at hP hD
  refine lv_aload_n hx hb d_Model_object_170 rfl (lv_at hl 2 rfl) ?_
  refine va_get (D := D) (ci := 8) (v := .ref m_w) (C := "TaleMachineModel") (T := F_Model) (N := 31) hx hb hts in_Model hown hK hP 1 rfl rfl 3 (by decide) (hts _ k_5) (fun _ h9 => h9) rfl d_Model_object_171 ?_
  refine lv_bipush (v := 29) hx hb d_Model_object_174 (by decide) ?_
  refine lv_aload_n hx hb d_Model_object_176 rfl (lv_at hl 2 rfl) ?_
  refine va_get (D := D) (ci := 8) (v := .int 0) (C := "TaleMachineModel") (T := F_Model) (N := 31) hx hb hts in_Model hown hK hP 1 rfl rfl 4 (by decide) (hts _ k_21) (fun _ h9 => h9) rfl d_Model_object_177 ?_
  refine lv_imul hx hb d_Model_object_180 ?_
  refine lv_topi (fun z15 hz15 => ?_)
  obtain rfl : z15 = 0 := hz15.trans (by decide)
  refine lv_iconst (v := 4) hx hb d_Model_object_181 (by decide) ?_
  refine lv_iadd hx hb d_Model_object_182 ?_
  refine lv_topi (fun z16 hz16 => ?_)
  obtain rfl : z16 = 4 := hz16.trans (by decide)
  refine lv_iload_n hx hb d_Model_object_183 rfl (lv_at hl 5 rfl) ?_
  refine va_iast hx hb hK hP hD hS 2 0 rfl rfl (i := 4) (x := cc_) (in_c (by decide)) d_Model_object_184 (fun H locs hP hD hS => ?_)
  have hP : va_P D cL [(m_saved, .inl (cZ, 2, .inl (fun _ => 0))), (h, .inr (8, [.int 0, .ref m_bytes, .int 0, .ref m_w, .int 0, .int 0, .ref m_saved, .int 0, .ref m_line, .ref m_met, .ref m_waiting, .ref m_nextParent, .int 0, .ref m_kind, .ref m_number, .int 0, .ref m_begin, .ref m_table, .ref m_handlers, .ref m_base, .ref m_locals, .ref m_self, .ref m_found, .ref m_place, .ref m_next, .int 0, .ref m_saidKind, .ref m_saidNumber, .int 0, .int 0, .int (-1)])), (m_w, .inl (cI, 5568, .inl (upd f14 (4 : Int32).toNatClampNeg cc_)))] H := hP
  have hD : va_D A [(m_saved, .inl (cZ, 2, .inl (fun _ => 0))), (h, .inr (8, [.int 0, .ref m_bytes, .int 0, .ref m_w, .int 0, .int 0, .ref m_saved, .int 0, .ref m_line, .ref m_met, .ref m_waiting, .ref m_nextParent, .int 0, .ref m_kind, .ref m_number, .int 0, .ref m_begin, .ref m_table, .ref m_handlers, .ref m_base, .ref m_locals, .ref m_self, .ref m_found, .ref m_place, .ref m_next, .int 0, .ref m_saidKind, .ref m_saidNumber, .int 0, .int 0, .int (-1)])), (m_w, .inl (cI, 5568, .inl (upd f14 (4 : Int32).toNatClampNeg cc_)))] := hD
  generalize hff17 : upd f14 (4 : Int32).toNatClampNeg cc_ = f17 at hP hD
  refine lv_aload_n hx hb d_Model_object_185 rfl (lv_at hl 2 rfl) ?_
  refine lv_dup hx hb d_Model_object_186 rfl ?_
  refine va_get (D := D) (ci := 8) (v := .int 0) (C := "TaleMachineModel") (T := F_Model) (N := 31) hx hb hts in_Model hown hK hP 1 rfl rfl 4 (by decide) (hts _ k_21) (fun _ h9 => h9) rfl d_Model_object_187 ?_
  refine lv_iconst (v := 1) hx hb d_Model_object_190 (by decide) ?_
  refine lv_iadd hx hb d_Model_object_191 ?_
  refine lv_topi (fun z18 hz18 => ?_)
  obtain rfl : z18 = 1 := hz18.trans (by decide)
  refine va_put (D := D) (ci := 8) (v := .int 1) (ty := .int) (C := "TaleMachineModel") (T := F_Model) (N := 31) hx hb hts in_Model t_Model t_Model_ok n_Model hown hK hP hD hS 1 rfl rfl 4 (by decide) (hts _ k_21) (fun _ h9 => h9) rfl (by decide +kernel) rfl rfl (Nat.le_of_ble_eq_true rfl) d_Model_object_192 (fun H locs hP hD hS => ?_)
  have hP : va_P D cL [(m_saved, .inl (cZ, 2, .inl (fun _ => 0))), (h, .inr (8, [.int 0, .ref m_bytes, .int 0, .ref m_w, .int 1, .int 0, .ref m_saved, .int 0, .ref m_line, .ref m_met, .ref m_waiting, .ref m_nextParent, .int 0, .ref m_kind, .ref m_number, .int 0, .ref m_begin, .ref m_table, .ref m_handlers, .ref m_base, .ref m_locals, .ref m_self, .ref m_found, .ref m_place, .ref m_next, .int 0, .ref m_saidKind, .ref m_saidNumber, .int 0, .int 0, .int (-1)])), (m_w, .inl (cI, 5568, .inl f17))] H := hP
  have hD : va_D A [(m_saved, .inl (cZ, 2, .inl (fun _ => 0))), (h, .inr (8, [.int 0, .ref m_bytes, .int 0, .ref m_w, .int 1, .int 0, .ref m_saved, .int 0, .ref m_line, .ref m_met, .ref m_waiting, .ref m_nextParent, .int 0, .ref m_kind, .ref m_number, .int 0, .ref m_begin, .ref m_table, .ref m_handlers, .ref m_base, .ref m_locals, .ref m_self, .ref m_found, .ref m_place, .ref m_next, .int 0, .ref m_saidKind, .ref m_saidNumber, .int 0, .int 0, .int (-1)])), (m_w, .inl (cI, 5568, .inl f17))] := hD
  refine lv_aload_n hx hb d_Model_object_195 rfl (lv_at hl 2 rfl) ?_
  refine va_get (D := D) (ci := 8) (v := .ref m_saved) (C := "TaleMachineModel") (T := F_Model) (N := 31) hx hb hts in_Model hown hK hP 1 rfl rfl 6 (by decide) (hts _ k_26) (fun _ h9 => h9) rfl d_Model_object_196 ?_
  refine lv_iconst (v := 0) hx hb d_Model_object_199 (by decide) ?_
  refine lv_iconst (v := 0) hx hb d_Model_object_200 (by decide) ?_
  refine va_zast hx hb hK hP hD hS 0 1 rfl rfl (i := 0) (x := 0) (in_c (by decide)) d_Model_object_201 (fun H locs hP hD hS => ?_)
  have hP : va_P D cL [(m_saved, .inl (cZ, 2, .inl (upd (fun _ => 0) (0 : Int32).toNatClampNeg (vp_nar .boolean 0)))), (h, .inr (8, [.int 0, .ref m_bytes, .int 0, .ref m_w, .int 1, .int 0, .ref m_saved, .int 0, .ref m_line, .ref m_met, .ref m_waiting, .ref m_nextParent, .int 0, .ref m_kind, .ref m_number, .int 0, .ref m_begin, .ref m_table, .ref m_handlers, .ref m_base, .ref m_locals, .ref m_self, .ref m_found, .ref m_place, .ref m_next, .int 0, .ref m_saidKind, .ref m_saidNumber, .int 0, .int 0, .int (-1)])), (m_w, .inl (cI, 5568, .inl f17))] H := hP
  have hD : va_D A [(m_saved, .inl (cZ, 2, .inl (upd (fun _ => 0) (0 : Int32).toNatClampNeg (vp_nar .boolean 0)))), (h, .inr (8, [.int 0, .ref m_bytes, .int 0, .ref m_w, .int 1, .int 0, .ref m_saved, .int 0, .ref m_line, .ref m_met, .ref m_waiting, .ref m_nextParent, .int 0, .ref m_kind, .ref m_number, .int 0, .ref m_begin, .ref m_table, .ref m_handlers, .ref m_base, .ref m_locals, .ref m_self, .ref m_found, .ref m_place, .ref m_next, .int 0, .ref m_saidKind, .ref m_saidNumber, .int 0, .int 0, .int (-1)])), (m_w, .inl (cI, 5568, .inl f17))] := hD
  generalize hff19 : upd (fun _ => 0) (0 : Int32).toNatClampNeg (vp_nar .boolean 0) = f19 at hP hD
  refine lv_aload_n hx hb d_Model_object_202 rfl (lv_at hl 2 rfl) ?_
  refine va_get (D := D) (ci := 8) (v := .ref m_saved) (C := "TaleMachineModel") (T := F_Model) (N := 31) hx hb hts in_Model hown hK hP 1 rfl rfl 6 (by decide) (hts _ k_26) (fun _ h9 => h9) rfl d_Model_object_203 ?_
  refine lv_iconst (v := 1) hx hb d_Model_object_206 (by decide) ?_
  refine lv_iconst (v := 0) hx hb d_Model_object_207 (by decide) ?_
  refine va_zast hx hb hK hP hD hS 0 1 rfl rfl (i := 1) (x := 0) (in_c (by decide)) d_Model_object_208 (fun H locs hP hD hS => ?_)
  have hP : va_P D cL [(m_saved, .inl (cZ, 2, .inl (upd f19 (1 : Int32).toNatClampNeg (vp_nar .boolean 0)))), (h, .inr (8, [.int 0, .ref m_bytes, .int 0, .ref m_w, .int 1, .int 0, .ref m_saved, .int 0, .ref m_line, .ref m_met, .ref m_waiting, .ref m_nextParent, .int 0, .ref m_kind, .ref m_number, .int 0, .ref m_begin, .ref m_table, .ref m_handlers, .ref m_base, .ref m_locals, .ref m_self, .ref m_found, .ref m_place, .ref m_next, .int 0, .ref m_saidKind, .ref m_saidNumber, .int 0, .int 0, .int (-1)])), (m_w, .inl (cI, 5568, .inl f17))] H := hP
  have hD : va_D A [(m_saved, .inl (cZ, 2, .inl (upd f19 (1 : Int32).toNatClampNeg (vp_nar .boolean 0)))), (h, .inr (8, [.int 0, .ref m_bytes, .int 0, .ref m_w, .int 1, .int 0, .ref m_saved, .int 0, .ref m_line, .ref m_met, .ref m_waiting, .ref m_nextParent, .int 0, .ref m_kind, .ref m_number, .int 0, .ref m_begin, .ref m_table, .ref m_handlers, .ref m_base, .ref m_locals, .ref m_self, .ref m_found, .ref m_place, .ref m_next, .int 0, .ref m_saidKind, .ref m_saidNumber, .int 0, .int 0, .int (-1)])), (m_w, .inl (cI, 5568, .inl f17))] := hD
  generalize hff20 : upd f19 (1 : Int32).toNatClampNeg (vp_nar .boolean 0) = f20 at hP hD
  refine lv_aload_n hx hb d_Model_object_209 rfl (lv_at hl 2 rfl) ?_
  refine va_get (D := D) (ci := 8) (v := .int 1) (C := "TaleMachineModel") (T := F_Model) (N := 31) hx hb hts in_Model hown hK hP 1 rfl rfl 4 (by decide) (hts _ k_21) (fun _ h9 => h9) rfl d_Model_object_210 ?_
  refine lv_iconst (v := 1) hx hb d_Model_object_213 (by decide) ?_
  refine lv_isub hx hb d_Model_object_214 ?_
  refine lv_topi (fun z21 hz21 => ?_)
  obtain rfl : z21 = 0 := hz21.trans (by decide)
  exact end_i hx hb hr hlocks hS (u := ()) (r := 0) (at_end (hP.sub (ws' := [(h, .inr (8, [.int 0, .ref m_bytes, .int 0, .ref m_w, .int 1, .int 0, .ref m_saved, .int 0, .ref m_line, .ref m_met, .ref m_waiting, .ref m_nextParent, .int 0, .ref m_kind, .ref m_number, .int 0, .ref m_begin, .ref m_table, .ref m_handlers, .ref m_base, .ref m_locals, .ref m_self, .ref m_found, .ref m_place, .ref m_next, .int 0, .ref m_saidKind, .ref m_saidNumber, .int 0, .int 0, .int (-1)]))]) [1] rfl) (hD.sub (ws' := [(h, .inr (8, [.int 0, .ref m_bytes, .int 0, .ref m_w, .int 1, .int 0, .ref m_saved, .int 0, .ref m_line, .ref m_met, .ref m_waiting, .ref m_nextParent, .int 0, .ref m_kind, .ref m_number, .int 0, .ref m_begin, .ref m_table, .ref m_handlers, .ref m_base, .ref m_locals, .ref m_self, .ref m_found, .ref m_place, .ref m_next, .int 0, .ref m_saidKind, .ref m_saidNumber, .int 0, .int 0, .int (-1)]))]) [1] (by decide) rfl)) (rfl) (Nat.le_of_ble_eq_true rfl) (Nat.le_of_ble_eq_true rfl) d_Model_object_215

set_option maxHeartbeats 4000000 in
set_option maxRecDepth 100000 in
theorem c_Model_object_2 (l : Launch) (D : va_G) (cI cZ cJ : ClassId) (h m_bytes m_w m_saved m_line m_met m_waiting m_nextParent m_kind m_number m_begin m_table m_handlers m_base m_locals m_self m_found m_place m_next m_saidKind m_saidNumber : Nat) (oo b cc_ : Int32) (sz : Nat) (ho : oo ≠ -1) : Met l y_Model_object (.code y_Model_object prog_10_method_18_code 6 (some .int) :: AW) ({ frames := 3, cells := 0, slots := 0, locals := 64 }) (va_Pc [.ref h, .int oo, .int b, .int cc_] (pre_ D [(h, .inr (8, [.int 0, .ref m_bytes, .int 0, .ref m_w, .int 0, .int 0, .ref m_saved, .int 0, .ref m_line, .ref m_met, .ref m_waiting, .ref m_nextParent, .int 0, .ref m_kind, .ref m_number, .int 0, .ref m_begin, .ref m_table, .ref m_handlers, .ref m_base, .ref m_locals, .ref m_self, .ref m_found, .ref m_place, .ref m_next, .int 0, .ref m_saidKind, .ref m_saidNumber, .int 0, .int 0, .int (-1)])), (m_w, .inl (cI, 5568, .inl (fun _ => 0)))] [(cI, .int), (cZ, .boolean), (cJ, .long)] sz)) (va_Qi (fun (r : Int32) (u : Unit) => r = 0) (fun _ t => post_ D (va_A [(h, .inr (8, [.int 0, .ref m_bytes, .int 0, .ref m_w, .int 0, .int 0, .ref m_saved, .int 0, .ref m_line, .ref m_met, .ref m_waiting, .ref m_nextParent, .int 0, .ref m_kind, .ref m_number, .int 0, .ref m_begin, .ref m_table, .ref m_handlers, .ref m_base, .ref m_locals, .ref m_self, .ref m_found, .ref m_place, .ref m_next, .int 0, .ref m_saidKind, .ref m_saidNumber, .int 0, .int 0, .int (-1)])), (m_w, .inl (cI, 5568, .inl (fun _ => 0)))] sz) [(h, .inr (8, [.int 1, .ref m_bytes, .int 0, .ref m_w, .int 0, .int 0, .ref m_saved, .int 0, .ref m_line, .ref m_met, .ref m_waiting, .ref m_nextParent, .int 0, .ref m_kind, .ref m_number, .int 0, .ref m_begin, .ref m_table, .ref m_handlers, .ref m_base, .ref m_locals, .ref m_self, .ref m_found, .ref m_place, .ref m_next, .int 0, .ref m_saidKind, .ref m_saidNumber, .int 0, .int 0, .int (-1)]))] t) (va_A [(h, .inr (8, [.int 0, .ref m_bytes, .int 0, .ref m_w, .int 0, .int 0, .ref m_saved, .int 0, .ref m_line, .ref m_met, .ref m_waiting, .ref m_nextParent, .int 0, .ref m_kind, .ref m_number, .int 0, .ref m_begin, .ref m_table, .ref m_handlers, .ref m_base, .ref m_locals, .ref m_self, .ref m_found, .ref m_place, .ref m_next, .int 0, .ref m_saidKind, .ref m_saidNumber, .int 0, .int 0, .int (-1)])), (m_w, .inl (cI, 5568, .inl (fun _ => 0)))] sz)) 0 0 (va_A [(h, .inr (8, [.int 0, .ref m_bytes, .int 0, .ref m_w, .int 0, .int 0, .ref m_saved, .int 0, .ref m_line, .ref m_met, .ref m_waiting, .ref m_nextParent, .int 0, .ref m_kind, .ref m_number, .int 0, .ref m_begin, .ref m_table, .ref m_handlers, .ref m_base, .ref m_locals, .ref m_self, .ref m_found, .ref m_place, .ref m_next, .int 0, .ref m_saidKind, .ref m_saidNumber, .int 0, .int 0, .int (-1)])), (m_w, .inl (cI, 5568, .inl (fun _ => 0)))] sz) := by
  refine Met.ofW (cc := prog_10_method_18_code) (maxL := 6) (ret := (some .int)) (by decide) rfl ?_
  intro p e s m args below meth c s₁ B hml hv
  obtain ⟨rfl, rfl, hP, hK, hD0, hT⟩ := hv
  have hx := B.exec
  have hb := B.bytes
  have hr := B.returns
  have hts0 := atoms_spec (ws := .code y_Model_object prog_10_method_18_code 6 (some .int) :: AW) B.pre
  have hts : ∀ w ∈ AW, w.before [.ref h, .int oo, .int b, .int cc_].toArray s = true := fun w h => hts0 w (List.mem_cons_of_mem _ h)
  have hown : s.vm.findClass "TaleMachineModel" = some m.cls := findClass_of_methodNamed B.named
  have hlocks := B.notSynchronized
  have hD := hD0.self (sz := s.heap.size)
  generalize hAe : va_A [(h, .inr (8, [.int 0, .ref m_bytes, .int 0, .ref m_w, .int 0, .int 0, .ref m_saved, .int 0, .ref m_line, .ref m_met, .ref m_waiting, .ref m_nextParent, .int 0, .ref m_kind, .ref m_number, .int 0, .ref m_begin, .ref m_table, .ref m_handlers, .ref m_base, .ref m_locals, .ref m_self, .ref m_found, .ref m_place, .ref m_next, .int 0, .ref m_saidKind, .ref m_saidNumber, .int 0, .int 0, .int (-1)])), (m_w, .inl (cI, 5568, .inl (fun _ => 0)))] s.heap.size = A at hD ⊢
  have hA : ∀ q : Nat, s.heap.size ≤ q → A q := fun q h => by rw [← hAe]; exact Or.inr h
  have hS : va_S A s.heap s.heap [] := va_S.rf
  have hl := lv_entry ([.ref h, .int oo, .int b, .int cc_]) (n := 6) (Nat.le_of_ble_eq_true rfl)
  rw [lg_entry_eq]
  generalize (lg_sl ([.ref h, .int oo, .int b, .int cc_]) ++ List.replicate (6 - (lg_sl ([.ref h, .int oo, .int b, .int cc_])).length) Slot.unset).toArray = ls at hl ⊢
  have hl : lv_has ls 6 [(0, .ref h), (1, .int oo), (2, .int b), (3, .int cc_)] := hl
  refine lv_iload_n hx hb d_Model_object_0 rfl (lv_at hl 1 rfl) ?_
  refine lv_iconst (v := (-1)) hx hb d_Model_object_1 (by decide) ?_
  refine lv_icmp_ne hx hb d_Model_object_2 (tgt := 9) (by decide) (fun _ => ?_) (fun hz => absurd hz ho)
  refine lv_iload_n hx hb d_Model_object_9 rfl (lv_at hl 2 rfl) ?_
  refine lv_iconst (v := (-1)) hx hb d_Model_object_10 (by decide) ?_
  refine lv_icmp_ne hx hb d_Model_object_11 (tgt := 18) (by decide) (fun hc1 => ?_) (fun hc1 => ?_)
  · refine lv_iload_n hx hb d_Model_object_18 rfl (lv_at hl 3 rfl) ?_
    refine lv_iconst (v := (-1)) hx hb d_Model_object_19 (by decide) ?_
    refine lv_icmp_ne hx hb d_Model_object_20 (tgt := 27) (by decide) (fun hc2 => ?_) (fun hc2 => ?_)
    · refine lv_iconst (v := 3) hx hb d_Model_object_27 (by decide) ?_
      refine lv_istore (lv' := [(4, .int 3), (0, .ref h), (1, .int oo), (2, .int b), (3, .int cc_)]) hx hb d_Model_object_28 hl (by decide) rfl (fun ls hl => ?_)
      refine lv_aload_n hx hb d_Model_object_30 rfl (lv_at hl 1 rfl) ?_
      refine lv_iload_n hx hb d_Model_object_31 rfl (lv_at hl 2 rfl) ?_
      refine mv_i (va_runV (C := "TaleMachineModel") (As := [.int oo]) (rest := []) ⟨hx, hb, hml, hown, hts⟩ (c_Model_isParent_2 l D cI cZ cJ _ _ _ _ _ _ _ _ _ _ _ _ _ _ _ _ _ _ _ _ _ _ _ (by first | assumption | decide | omega)) (cwV 1 hts (gInV k_17 k_18 k_19 k_4 k_16) rfl rfl rfl (by decide +kernel) ⟨Nat.le_of_ble_eq_true rfl, Nat.le_of_ble_eq_true rfl⟩) (pre_V (va_recv hK hP (q := ("TaleMachineModel", F_Model, 31)) rfl (q0 := 0) rfl) (hP.sub [0, 1] rfl) (hK.sub [0, 1, 2] rfl) (hD.sub [0, 1] (by decide) rfl) hT) rfl rfl hl.1 rfl (lv_room (Nat.le_of_ble_eq_true rfl)) d_Model_object_32 ⟨Nat.le_of_ble_eq_true rfl, Nat.le_of_ble_eq_true rfl⟩) hP hD hS hA [0, 1] [] rfl rfl (by decide) (by decide) (wr := []) (wn := fun _ => [(h, .inr (8, [.int 0, .ref m_bytes, .int 0, .ref m_w, .int 0, .int 0, .ref m_saved, .int 0, .ref m_line, .ref m_met, .ref m_waiting, .ref m_nextParent, .int 0, .ref m_kind, .ref m_number, .int 0, .ref m_begin, .ref m_table, .ref m_handlers, .ref m_base, .ref m_locals, .ref m_self, .ref m_found, .ref m_place, .ref m_next, .int 0, .ref m_saidKind, .ref m_saidNumber, .int 0, .int 0, .int (-1)])), (m_w, .inl (cI, 5568, .inl (fun _ => 0)))]) (fun _ _ h9 => h9) (fun r3 _ H locs hp4 hP hD hS => ?_)
      have hP : va_P D cL [(h, .inr (8, [.int 0, .ref m_bytes, .int 0, .ref m_w, .int 0, .int 0, .ref m_saved, .int 0, .ref m_line, .ref m_met, .ref m_waiting, .ref m_nextParent, .int 0, .ref m_kind, .ref m_number, .int 0, .ref m_begin, .ref m_table, .ref m_handlers, .ref m_base, .ref m_locals, .ref m_self, .ref m_found, .ref m_place, .ref m_next, .int 0, .ref m_saidKind, .ref m_saidNumber, .int 0, .int 0, .int (-1)])), (m_w, .inl (cI, 5568, .inl (fun _ => 0)))] H := hP
      have hD : va_D A [(h, .inr (8, [.int 0, .ref m_bytes, .int 0, .ref m_w, .int 0, .int 0, .ref m_saved, .int 0, .ref m_line, .ref m_met, .ref m_waiting, .ref m_nextParent, .int 0, .ref m_kind, .ref m_number, .int 0, .ref m_begin, .ref m_table, .ref m_handlers, .ref m_base, .ref m_locals, .ref m_self, .ref m_found, .ref m_place, .ref m_next, .int 0, .ref m_saidKind, .ref m_saidNumber, .int 0, .int 0, .int (-1)])), (m_w, .inl (cI, 5568, .inl (fun _ => 0)))] := hD
      obtain rfl : r3 = 0 := hp4
      refine lv_if_eq hx hb d_Model_object_35 (tgt := 70) (by decide) (fun _ => ?_) (fun hz => absurd (by decide) hz)
      refine lv_iconst (v := 0) hx hb d_Model_object_70 (by decide) ?_
      refine lv_istore (lv' := [(5, .int 0), (4, .int 3), (0, .ref h), (1, .int oo), (2, .int b), (3, .int cc_)]) hx hb d_Model_object_71 hl (by decide) rfl (fun ls hl => ?_)
      refine lv_aload_n hx hb d_Model_object_73 rfl (lv_at hl 2 rfl) ?_
      refine lv_iload hx hb d_Model_object_74 (lv_at hl 0 rfl) ?_
      refine lv_if_ne hx hb d_Model_object_76 (tgt := 83) (by decide) (fun hz => absurd (by decide) hz) (fun _ => ?_)
      refine lv_iconst (v := 1) hx hb d_Model_object_79 (by decide) ?_
      refine lv_goto hx hb d_Model_object_80 (tgt := 104) (by decide) ?_
      refine va_put (D := D) (ci := 8) (v := .int 1) (ty := .int) (C := "TaleMachineModel") (T := F_Model) (N := 31) hx hb hts in_Model t_Model t_Model_ok n_Model hown hK hP hD hS 0 rfl rfl 0 (by decide) (hts _ k_0) (fun _ h9 => h9) rfl (by decide +kernel) rfl rfl (Nat.le_of_ble_eq_true rfl) d_Model_object_104 (fun H locs hP hD hS => ?_)
      have hP : va_P D cL [(h, .inr (8, [.int 1, .ref m_bytes, .int 0, .ref m_w, .int 0, .int 0, .ref m_saved, .int 0, .ref m_line, .ref m_met, .ref m_waiting, .ref m_nextParent, .int 0, .ref m_kind, .ref m_number, .int 0, .ref m_begin, .ref m_table, .ref m_handlers, .ref m_base, .ref m_locals, .ref m_self, .ref m_found, .ref m_place, .ref m_next, .int 0, .ref m_saidKind, .ref m_saidNumber, .int 0, .int 0, .int (-1)])), (m_w, .inl (cI, 5568, .inl (fun _ => 0)))] H := hP
      have hD : va_D A [(h, .inr (8, [.int 1, .ref m_bytes, .int 0, .ref m_w, .int 0, .int 0, .ref m_saved, .int 0, .ref m_line, .ref m_met, .ref m_waiting, .ref m_nextParent, .int 0, .ref m_kind, .ref m_number, .int 0, .ref m_begin, .ref m_table, .ref m_handlers, .ref m_base, .ref m_locals, .ref m_self, .ref m_found, .ref m_place, .ref m_next, .int 0, .ref m_saidKind, .ref m_saidNumber, .int 0, .int 0, .int (-1)])), (m_w, .inl (cI, 5568, .inl (fun _ => 0)))] := hD
      refine lv_aload_n hx hb d_Model_object_107 rfl (lv_at hl 2 rfl) ?_
      refine va_get (D := D) (ci := 8) (v := .int 1) (C := "TaleMachineModel") (T := F_Model) (N := 31) hx hb hts in_Model hown hK hP 0 rfl rfl 0 (by decide) (hts _ k_0) (fun _ h9 => h9) rfl d_Model_object_108 ?_
      refine lv_if_le hx hb d_Model_object_111 (tgt := 116) (by decide) (fun hz => absurd hz (by decide)) (fun _ => ?_)
      refine lv_iconst (v := 0) hx hb d_Model_object_114 (by decide) ?_
      exact end_i hx hb hr hlocks hS (u := ()) (r := 0) (at_end (hP.sub (ws' := [(h, .inr (8, [.int 1, .ref m_bytes, .int 0, .ref m_w, .int 0, .int 0, .ref m_saved, .int 0, .ref m_line, .ref m_met, .ref m_waiting, .ref m_nextParent, .int 0, .ref m_kind, .ref m_number, .int 0, .ref m_begin, .ref m_table, .ref m_handlers, .ref m_base, .ref m_locals, .ref m_self, .ref m_found, .ref m_place, .ref m_next, .int 0, .ref m_saidKind, .ref m_saidNumber, .int 0, .int 0, .int (-1)]))]) [0] rfl) (hD.sub (ws' := [(h, .inr (8, [.int 1, .ref m_bytes, .int 0, .ref m_w, .int 0, .int 0, .ref m_saved, .int 0, .ref m_line, .ref m_met, .ref m_waiting, .ref m_nextParent, .int 0, .ref m_kind, .ref m_number, .int 0, .ref m_begin, .ref m_table, .ref m_handlers, .ref m_base, .ref m_locals, .ref m_self, .ref m_found, .ref m_place, .ref m_next, .int 0, .ref m_saidKind, .ref m_saidNumber, .int 0, .int 0, .int (-1)]))]) [0] (by decide) rfl)) (rfl) (Nat.le_of_ble_eq_true rfl) (Nat.le_of_ble_eq_true rfl) d_Model_object_115
    · refine lv_iconst (v := 2) hx hb d_Model_object_23 (by decide) ?_
      refine lv_goto hx hb d_Model_object_24 (tgt := 28) (by decide) ?_
      refine lv_istore (lv' := [(4, .int 2), (0, .ref h), (1, .int oo), (2, .int b), (3, .int cc_)]) hx hb d_Model_object_28 hl (by decide) rfl (fun ls hl => ?_)
      refine lv_aload_n hx hb d_Model_object_30 rfl (lv_at hl 1 rfl) ?_
      refine lv_iload_n hx hb d_Model_object_31 rfl (lv_at hl 2 rfl) ?_
      refine mv_i (va_runV (C := "TaleMachineModel") (As := [.int oo]) (rest := []) ⟨hx, hb, hml, hown, hts⟩ (c_Model_isParent_2 l D cI cZ cJ _ _ _ _ _ _ _ _ _ _ _ _ _ _ _ _ _ _ _ _ _ _ _ (by first | assumption | decide | omega)) (cwV 1 hts (gInV k_17 k_18 k_19 k_4 k_16) rfl rfl rfl (by decide +kernel) ⟨Nat.le_of_ble_eq_true rfl, Nat.le_of_ble_eq_true rfl⟩) (pre_V (va_recv hK hP (q := ("TaleMachineModel", F_Model, 31)) rfl (q0 := 0) rfl) (hP.sub [0, 1] rfl) (hK.sub [0, 1, 2] rfl) (hD.sub [0, 1] (by decide) rfl) hT) rfl rfl hl.1 rfl (lv_room (Nat.le_of_ble_eq_true rfl)) d_Model_object_32 ⟨Nat.le_of_ble_eq_true rfl, Nat.le_of_ble_eq_true rfl⟩) hP hD hS hA [0, 1] [] rfl rfl (by decide) (by decide) (wr := []) (wn := fun _ => [(h, .inr (8, [.int 0, .ref m_bytes, .int 0, .ref m_w, .int 0, .int 0, .ref m_saved, .int 0, .ref m_line, .ref m_met, .ref m_waiting, .ref m_nextParent, .int 0, .ref m_kind, .ref m_number, .int 0, .ref m_begin, .ref m_table, .ref m_handlers, .ref m_base, .ref m_locals, .ref m_self, .ref m_found, .ref m_place, .ref m_next, .int 0, .ref m_saidKind, .ref m_saidNumber, .int 0, .int 0, .int (-1)])), (m_w, .inl (cI, 5568, .inl (fun _ => 0)))]) (fun _ _ h9 => h9) (fun r5 _ H locs hp6 hP hD hS => ?_)
      have hP : va_P D cL [(h, .inr (8, [.int 0, .ref m_bytes, .int 0, .ref m_w, .int 0, .int 0, .ref m_saved, .int 0, .ref m_line, .ref m_met, .ref m_waiting, .ref m_nextParent, .int 0, .ref m_kind, .ref m_number, .int 0, .ref m_begin, .ref m_table, .ref m_handlers, .ref m_base, .ref m_locals, .ref m_self, .ref m_found, .ref m_place, .ref m_next, .int 0, .ref m_saidKind, .ref m_saidNumber, .int 0, .int 0, .int (-1)])), (m_w, .inl (cI, 5568, .inl (fun _ => 0)))] H := hP
      have hD : va_D A [(h, .inr (8, [.int 0, .ref m_bytes, .int 0, .ref m_w, .int 0, .int 0, .ref m_saved, .int 0, .ref m_line, .ref m_met, .ref m_waiting, .ref m_nextParent, .int 0, .ref m_kind, .ref m_number, .int 0, .ref m_begin, .ref m_table, .ref m_handlers, .ref m_base, .ref m_locals, .ref m_self, .ref m_found, .ref m_place, .ref m_next, .int 0, .ref m_saidKind, .ref m_saidNumber, .int 0, .int 0, .int (-1)])), (m_w, .inl (cI, 5568, .inl (fun _ => 0)))] := hD
      obtain rfl : r5 = 0 := hp6
      refine lv_if_eq hx hb d_Model_object_35 (tgt := 70) (by decide) (fun _ => ?_) (fun hz => absurd (by decide) hz)
      refine lv_iconst (v := 0) hx hb d_Model_object_70 (by decide) ?_
      refine lv_istore (lv' := [(5, .int 0), (4, .int 2), (0, .ref h), (1, .int oo), (2, .int b), (3, .int cc_)]) hx hb d_Model_object_71 hl (by decide) rfl (fun ls hl => ?_)
      refine lv_aload_n hx hb d_Model_object_73 rfl (lv_at hl 2 rfl) ?_
      refine lv_iload hx hb d_Model_object_74 (lv_at hl 0 rfl) ?_
      refine lv_if_ne hx hb d_Model_object_76 (tgt := 83) (by decide) (fun hz => absurd (by decide) hz) (fun _ => ?_)
      refine lv_iconst (v := 1) hx hb d_Model_object_79 (by decide) ?_
      refine lv_goto hx hb d_Model_object_80 (tgt := 104) (by decide) ?_
      refine va_put (D := D) (ci := 8) (v := .int 1) (ty := .int) (C := "TaleMachineModel") (T := F_Model) (N := 31) hx hb hts in_Model t_Model t_Model_ok n_Model hown hK hP hD hS 0 rfl rfl 0 (by decide) (hts _ k_0) (fun _ h9 => h9) rfl (by decide +kernel) rfl rfl (Nat.le_of_ble_eq_true rfl) d_Model_object_104 (fun H locs hP hD hS => ?_)
      have hP : va_P D cL [(h, .inr (8, [.int 1, .ref m_bytes, .int 0, .ref m_w, .int 0, .int 0, .ref m_saved, .int 0, .ref m_line, .ref m_met, .ref m_waiting, .ref m_nextParent, .int 0, .ref m_kind, .ref m_number, .int 0, .ref m_begin, .ref m_table, .ref m_handlers, .ref m_base, .ref m_locals, .ref m_self, .ref m_found, .ref m_place, .ref m_next, .int 0, .ref m_saidKind, .ref m_saidNumber, .int 0, .int 0, .int (-1)])), (m_w, .inl (cI, 5568, .inl (fun _ => 0)))] H := hP
      have hD : va_D A [(h, .inr (8, [.int 1, .ref m_bytes, .int 0, .ref m_w, .int 0, .int 0, .ref m_saved, .int 0, .ref m_line, .ref m_met, .ref m_waiting, .ref m_nextParent, .int 0, .ref m_kind, .ref m_number, .int 0, .ref m_begin, .ref m_table, .ref m_handlers, .ref m_base, .ref m_locals, .ref m_self, .ref m_found, .ref m_place, .ref m_next, .int 0, .ref m_saidKind, .ref m_saidNumber, .int 0, .int 0, .int (-1)])), (m_w, .inl (cI, 5568, .inl (fun _ => 0)))] := hD
      refine lv_aload_n hx hb d_Model_object_107 rfl (lv_at hl 2 rfl) ?_
      refine va_get (D := D) (ci := 8) (v := .int 1) (C := "TaleMachineModel") (T := F_Model) (N := 31) hx hb hts in_Model hown hK hP 0 rfl rfl 0 (by decide) (hts _ k_0) (fun _ h9 => h9) rfl d_Model_object_108 ?_
      refine lv_if_le hx hb d_Model_object_111 (tgt := 116) (by decide) (fun hz => absurd hz (by decide)) (fun _ => ?_)
      refine lv_iconst (v := 0) hx hb d_Model_object_114 (by decide) ?_
      exact end_i hx hb hr hlocks hS (u := ()) (r := 0) (at_end (hP.sub (ws' := [(h, .inr (8, [.int 1, .ref m_bytes, .int 0, .ref m_w, .int 0, .int 0, .ref m_saved, .int 0, .ref m_line, .ref m_met, .ref m_waiting, .ref m_nextParent, .int 0, .ref m_kind, .ref m_number, .int 0, .ref m_begin, .ref m_table, .ref m_handlers, .ref m_base, .ref m_locals, .ref m_self, .ref m_found, .ref m_place, .ref m_next, .int 0, .ref m_saidKind, .ref m_saidNumber, .int 0, .int 0, .int (-1)]))]) [0] rfl) (hD.sub (ws' := [(h, .inr (8, [.int 1, .ref m_bytes, .int 0, .ref m_w, .int 0, .int 0, .ref m_saved, .int 0, .ref m_line, .ref m_met, .ref m_waiting, .ref m_nextParent, .int 0, .ref m_kind, .ref m_number, .int 0, .ref m_begin, .ref m_table, .ref m_handlers, .ref m_base, .ref m_locals, .ref m_self, .ref m_found, .ref m_place, .ref m_next, .int 0, .ref m_saidKind, .ref m_saidNumber, .int 0, .int 0, .int (-1)]))]) [0] (by decide) rfl)) (rfl) (Nat.le_of_ble_eq_true rfl) (Nat.le_of_ble_eq_true rfl) d_Model_object_115
  · refine lv_iconst (v := 1) hx hb d_Model_object_14 (by decide) ?_
    refine lv_goto hx hb d_Model_object_15 (tgt := 28) (by decide) ?_
    refine lv_istore (lv' := [(4, .int 1), (0, .ref h), (1, .int oo), (2, .int b), (3, .int cc_)]) hx hb d_Model_object_28 hl (by decide) rfl (fun ls hl => ?_)
    refine lv_aload_n hx hb d_Model_object_30 rfl (lv_at hl 1 rfl) ?_
    refine lv_iload_n hx hb d_Model_object_31 rfl (lv_at hl 2 rfl) ?_
    refine mv_i (va_runV (C := "TaleMachineModel") (As := [.int oo]) (rest := []) ⟨hx, hb, hml, hown, hts⟩ (c_Model_isParent_2 l D cI cZ cJ _ _ _ _ _ _ _ _ _ _ _ _ _ _ _ _ _ _ _ _ _ _ _ (by first | assumption | decide | omega)) (cwV 1 hts (gInV k_17 k_18 k_19 k_4 k_16) rfl rfl rfl (by decide +kernel) ⟨Nat.le_of_ble_eq_true rfl, Nat.le_of_ble_eq_true rfl⟩) (pre_V (va_recv hK hP (q := ("TaleMachineModel", F_Model, 31)) rfl (q0 := 0) rfl) (hP.sub [0, 1] rfl) (hK.sub [0, 1, 2] rfl) (hD.sub [0, 1] (by decide) rfl) hT) rfl rfl hl.1 rfl (lv_room (Nat.le_of_ble_eq_true rfl)) d_Model_object_32 ⟨Nat.le_of_ble_eq_true rfl, Nat.le_of_ble_eq_true rfl⟩) hP hD hS hA [0, 1] [] rfl rfl (by decide) (by decide) (wr := []) (wn := fun _ => [(h, .inr (8, [.int 0, .ref m_bytes, .int 0, .ref m_w, .int 0, .int 0, .ref m_saved, .int 0, .ref m_line, .ref m_met, .ref m_waiting, .ref m_nextParent, .int 0, .ref m_kind, .ref m_number, .int 0, .ref m_begin, .ref m_table, .ref m_handlers, .ref m_base, .ref m_locals, .ref m_self, .ref m_found, .ref m_place, .ref m_next, .int 0, .ref m_saidKind, .ref m_saidNumber, .int 0, .int 0, .int (-1)])), (m_w, .inl (cI, 5568, .inl (fun _ => 0)))]) (fun _ _ h9 => h9) (fun r7 _ H locs hp8 hP hD hS => ?_)
    have hP : va_P D cL [(h, .inr (8, [.int 0, .ref m_bytes, .int 0, .ref m_w, .int 0, .int 0, .ref m_saved, .int 0, .ref m_line, .ref m_met, .ref m_waiting, .ref m_nextParent, .int 0, .ref m_kind, .ref m_number, .int 0, .ref m_begin, .ref m_table, .ref m_handlers, .ref m_base, .ref m_locals, .ref m_self, .ref m_found, .ref m_place, .ref m_next, .int 0, .ref m_saidKind, .ref m_saidNumber, .int 0, .int 0, .int (-1)])), (m_w, .inl (cI, 5568, .inl (fun _ => 0)))] H := hP
    have hD : va_D A [(h, .inr (8, [.int 0, .ref m_bytes, .int 0, .ref m_w, .int 0, .int 0, .ref m_saved, .int 0, .ref m_line, .ref m_met, .ref m_waiting, .ref m_nextParent, .int 0, .ref m_kind, .ref m_number, .int 0, .ref m_begin, .ref m_table, .ref m_handlers, .ref m_base, .ref m_locals, .ref m_self, .ref m_found, .ref m_place, .ref m_next, .int 0, .ref m_saidKind, .ref m_saidNumber, .int 0, .int 0, .int (-1)])), (m_w, .inl (cI, 5568, .inl (fun _ => 0)))] := hD
    obtain rfl : r7 = 0 := hp8
    refine lv_if_eq hx hb d_Model_object_35 (tgt := 70) (by decide) (fun _ => ?_) (fun hz => absurd (by decide) hz)
    refine lv_iconst (v := 0) hx hb d_Model_object_70 (by decide) ?_
    refine lv_istore (lv' := [(5, .int 0), (4, .int 1), (0, .ref h), (1, .int oo), (2, .int b), (3, .int cc_)]) hx hb d_Model_object_71 hl (by decide) rfl (fun ls hl => ?_)
    refine lv_aload_n hx hb d_Model_object_73 rfl (lv_at hl 2 rfl) ?_
    refine lv_iload hx hb d_Model_object_74 (lv_at hl 0 rfl) ?_
    refine lv_if_ne hx hb d_Model_object_76 (tgt := 83) (by decide) (fun hz => absurd (by decide) hz) (fun _ => ?_)
    refine lv_iconst (v := 1) hx hb d_Model_object_79 (by decide) ?_
    refine lv_goto hx hb d_Model_object_80 (tgt := 104) (by decide) ?_
    refine va_put (D := D) (ci := 8) (v := .int 1) (ty := .int) (C := "TaleMachineModel") (T := F_Model) (N := 31) hx hb hts in_Model t_Model t_Model_ok n_Model hown hK hP hD hS 0 rfl rfl 0 (by decide) (hts _ k_0) (fun _ h9 => h9) rfl (by decide +kernel) rfl rfl (Nat.le_of_ble_eq_true rfl) d_Model_object_104 (fun H locs hP hD hS => ?_)
    have hP : va_P D cL [(h, .inr (8, [.int 1, .ref m_bytes, .int 0, .ref m_w, .int 0, .int 0, .ref m_saved, .int 0, .ref m_line, .ref m_met, .ref m_waiting, .ref m_nextParent, .int 0, .ref m_kind, .ref m_number, .int 0, .ref m_begin, .ref m_table, .ref m_handlers, .ref m_base, .ref m_locals, .ref m_self, .ref m_found, .ref m_place, .ref m_next, .int 0, .ref m_saidKind, .ref m_saidNumber, .int 0, .int 0, .int (-1)])), (m_w, .inl (cI, 5568, .inl (fun _ => 0)))] H := hP
    have hD : va_D A [(h, .inr (8, [.int 1, .ref m_bytes, .int 0, .ref m_w, .int 0, .int 0, .ref m_saved, .int 0, .ref m_line, .ref m_met, .ref m_waiting, .ref m_nextParent, .int 0, .ref m_kind, .ref m_number, .int 0, .ref m_begin, .ref m_table, .ref m_handlers, .ref m_base, .ref m_locals, .ref m_self, .ref m_found, .ref m_place, .ref m_next, .int 0, .ref m_saidKind, .ref m_saidNumber, .int 0, .int 0, .int (-1)])), (m_w, .inl (cI, 5568, .inl (fun _ => 0)))] := hD
    refine lv_aload_n hx hb d_Model_object_107 rfl (lv_at hl 2 rfl) ?_
    refine va_get (D := D) (ci := 8) (v := .int 1) (C := "TaleMachineModel") (T := F_Model) (N := 31) hx hb hts in_Model hown hK hP 0 rfl rfl 0 (by decide) (hts _ k_0) (fun _ h9 => h9) rfl d_Model_object_108 ?_
    refine lv_if_le hx hb d_Model_object_111 (tgt := 116) (by decide) (fun hz => absurd hz (by decide)) (fun _ => ?_)
    refine lv_iconst (v := 0) hx hb d_Model_object_114 (by decide) ?_
    exact end_i hx hb hr hlocks hS (u := ()) (r := 0) (at_end (hP.sub (ws' := [(h, .inr (8, [.int 1, .ref m_bytes, .int 0, .ref m_w, .int 0, .int 0, .ref m_saved, .int 0, .ref m_line, .ref m_met, .ref m_waiting, .ref m_nextParent, .int 0, .ref m_kind, .ref m_number, .int 0, .ref m_begin, .ref m_table, .ref m_handlers, .ref m_base, .ref m_locals, .ref m_self, .ref m_found, .ref m_place, .ref m_next, .int 0, .ref m_saidKind, .ref m_saidNumber, .int 0, .int 0, .int (-1)]))]) [0] rfl) (hD.sub (ws' := [(h, .inr (8, [.int 1, .ref m_bytes, .int 0, .ref m_w, .int 0, .int 0, .ref m_saved, .int 0, .ref m_line, .ref m_met, .ref m_waiting, .ref m_nextParent, .int 0, .ref m_kind, .ref m_number, .int 0, .ref m_begin, .ref m_table, .ref m_handlers, .ref m_base, .ref m_locals, .ref m_self, .ref m_found, .ref m_place, .ref m_next, .int 0, .ref m_saidKind, .ref m_saidNumber, .int 0, .int 0, .int (-1)]))]) [0] (by decide) rfl)) (rfl) (Nat.le_of_ble_eq_true rfl) (Nat.le_of_ble_eq_true rfl) d_Model_object_115

set_option maxHeartbeats 4000000 in
set_option maxRecDepth 100000 in
theorem c_Model_begin (l : Launch) (D : va_G) (cI cZ cJ : ClassId) (h m_bytes m_w m_saved m_line m_met m_waiting m_nextParent m_kind m_number m_begin m_table m_handlers m_base m_locals m_self m_found m_place m_next m_saidKind m_saidNumber : Nat) (oo p_ : Int32) (sz : Nat)  : Met l y_Model_begin (.code y_Model_begin prog_10_method_24_code 5 none :: AW) ({ frames := 2, cells := 0, slots := 0, locals := 43 }) (va_Pc [.ref h, .int oo, .int p_] (pre_ D [(h, .inr (8, [.int 0, .ref m_bytes, .int 0, .ref m_w, .int 0, .int 0, .ref m_saved, .int 0, .ref m_line, .ref m_met, .ref m_waiting, .ref m_nextParent, .int 0, .ref m_kind, .ref m_number, .int 0, .ref m_begin, .ref m_table, .ref m_handlers, .ref m_base, .ref m_locals, .ref m_self, .ref m_found, .ref m_place, .ref m_next, .int 0, .ref m_saidKind, .ref m_saidNumber, .int 0, .int 0, .int (-1)])), (m_w, .inl (cI, 5568, .inl (fun _ => 0)))] [(cI, .int), (cZ, .boolean), (cJ, .long)] sz)) (va_Qv (fun (u : Unit) => True) (fun _ t => post_ D (va_A [(h, .inr (8, [.int 0, .ref m_bytes, .int 0, .ref m_w, .int 0, .int 0, .ref m_saved, .int 0, .ref m_line, .ref m_met, .ref m_waiting, .ref m_nextParent, .int 0, .ref m_kind, .ref m_number, .int 0, .ref m_begin, .ref m_table, .ref m_handlers, .ref m_base, .ref m_locals, .ref m_self, .ref m_found, .ref m_place, .ref m_next, .int 0, .ref m_saidKind, .ref m_saidNumber, .int 0, .int 0, .int (-1)])), (m_w, .inl (cI, 5568, .inl (fun _ => 0)))] sz) [(h, .inr (8, [.int 1, .ref m_bytes, .int 0, .ref m_w, .int 0, .int 0, .ref m_saved, .int 0, .ref m_line, .ref m_met, .ref m_waiting, .ref m_nextParent, .int 0, .ref m_kind, .ref m_number, .int 0, .ref m_begin, .ref m_table, .ref m_handlers, .ref m_base, .ref m_locals, .ref m_self, .ref m_found, .ref m_place, .ref m_next, .int 0, .ref m_saidKind, .ref m_saidNumber, .int 0, .int 0, .int (-1)]))] t) (va_A [(h, .inr (8, [.int 0, .ref m_bytes, .int 0, .ref m_w, .int 0, .int 0, .ref m_saved, .int 0, .ref m_line, .ref m_met, .ref m_waiting, .ref m_nextParent, .int 0, .ref m_kind, .ref m_number, .int 0, .ref m_begin, .ref m_table, .ref m_handlers, .ref m_base, .ref m_locals, .ref m_self, .ref m_found, .ref m_place, .ref m_next, .int 0, .ref m_saidKind, .ref m_saidNumber, .int 0, .int 0, .int (-1)])), (m_w, .inl (cI, 5568, .inl (fun _ => 0)))] sz)) 0 0 (va_A [(h, .inr (8, [.int 0, .ref m_bytes, .int 0, .ref m_w, .int 0, .int 0, .ref m_saved, .int 0, .ref m_line, .ref m_met, .ref m_waiting, .ref m_nextParent, .int 0, .ref m_kind, .ref m_number, .int 0, .ref m_begin, .ref m_table, .ref m_handlers, .ref m_base, .ref m_locals, .ref m_self, .ref m_found, .ref m_place, .ref m_next, .int 0, .ref m_saidKind, .ref m_saidNumber, .int 0, .int 0, .int (-1)])), (m_w, .inl (cI, 5568, .inl (fun _ => 0)))] sz) := by
  refine Met.ofW (cc := prog_10_method_24_code) (maxL := 5) (ret := none) (by decide) rfl ?_
  intro p e s m args below meth c s₁ B hml hv
  obtain ⟨rfl, rfl, hP, hK, hD0, hT⟩ := hv
  have hx := B.exec
  have hb := B.bytes
  have hr := B.returns
  have hts0 := atoms_spec (ws := .code y_Model_begin prog_10_method_24_code 5 none :: AW) B.pre
  have hts : ∀ w ∈ AW, w.before [.ref h, .int oo, .int p_].toArray s = true := fun w h => hts0 w (List.mem_cons_of_mem _ h)
  have hown : s.vm.findClass "TaleMachineModel" = some m.cls := findClass_of_methodNamed B.named
  have hlocks := B.notSynchronized
  have hD := hD0.self (sz := s.heap.size)
  generalize hAe : va_A [(h, .inr (8, [.int 0, .ref m_bytes, .int 0, .ref m_w, .int 0, .int 0, .ref m_saved, .int 0, .ref m_line, .ref m_met, .ref m_waiting, .ref m_nextParent, .int 0, .ref m_kind, .ref m_number, .int 0, .ref m_begin, .ref m_table, .ref m_handlers, .ref m_base, .ref m_locals, .ref m_self, .ref m_found, .ref m_place, .ref m_next, .int 0, .ref m_saidKind, .ref m_saidNumber, .int 0, .int 0, .int (-1)])), (m_w, .inl (cI, 5568, .inl (fun _ => 0)))] s.heap.size = A at hD ⊢
  have hA : ∀ q : Nat, s.heap.size ≤ q → A q := fun q h => by rw [← hAe]; exact Or.inr h
  have hS : va_S A s.heap s.heap [] := va_S.rf
  have hl := lv_entry ([.ref h, .int oo, .int p_]) (n := 5) (Nat.le_of_ble_eq_true rfl)
  rw [lg_entry_eq]
  generalize (lg_sl ([.ref h, .int oo, .int p_]) ++ List.replicate (5 - (lg_sl ([.ref h, .int oo, .int p_])).length) Slot.unset).toArray = ls at hl ⊢
  have hl : lv_has ls 5 [(0, .ref h), (1, .int oo), (2, .int p_)] := hl
  refine lv_aload_n hx hb d_Model_begin_0 rfl (lv_at hl 0 rfl) ?_
  refine lv_iconst (v := 0) hx hb d_Model_begin_1 (by decide) ?_
  refine va_put (D := D) (ci := 8) (v := .int 0) (ty := .int) (C := "TaleMachineModel") (T := F_Model) (N := 31) hx hb hts in_Model t_Model t_Model_ok n_Model hown hK hP hD hS 0 rfl rfl 0 (by decide) (hts _ k_0) (fun _ h9 => h9) rfl (by decide +kernel) rfl rfl (Nat.le_of_ble_eq_true rfl) d_Model_begin_2 (fun H locs hP hD hS => ?_)
  have hP : va_P D cL [(h, .inr (8, [.int 0, .ref m_bytes, .int 0, .ref m_w, .int 0, .int 0, .ref m_saved, .int 0, .ref m_line, .ref m_met, .ref m_waiting, .ref m_nextParent, .int 0, .ref m_kind, .ref m_number, .int 0, .ref m_begin, .ref m_table, .ref m_handlers, .ref m_base, .ref m_locals, .ref m_self, .ref m_found, .ref m_place, .ref m_next, .int 0, .ref m_saidKind, .ref m_saidNumber, .int 0, .int 0, .int (-1)])), (m_w, .inl (cI, 5568, .inl (fun _ => 0)))] H := hP
  have hD : va_D A [(h, .inr (8, [.int 0, .ref m_bytes, .int 0, .ref m_w, .int 0, .int 0, .ref m_saved, .int 0, .ref m_line, .ref m_met, .ref m_waiting, .ref m_nextParent, .int 0, .ref m_kind, .ref m_number, .int 0, .ref m_begin, .ref m_table, .ref m_handlers, .ref m_base, .ref m_locals, .ref m_self, .ref m_found, .ref m_place, .ref m_next, .int 0, .ref m_saidKind, .ref m_saidNumber, .int 0, .int 0, .int (-1)])), (m_w, .inl (cI, 5568, .inl (fun _ => 0)))] := hD
  refine lv_aload_n hx hb d_Model_begin_5 rfl (lv_at hl 0 rfl) ?_
  refine lv_iload_n hx hb d_Model_begin_6 rfl (lv_at hl 1 rfl) ?_
  refine mv_i (va_runV (C := "TaleMachineModel") (As := [.int oo]) (rest := []) ⟨hx, hb, hml, hown, hts⟩ (c_Model_isThere l D cI cZ cJ _ _ _ _ _ _ _ _ _ _ _ _ _ _ _ _ _ _ _ _ _ _ _ ) (cwV 1 hts (gInV k_7 k_8 k_9 k_4 k_6) rfl rfl rfl (by decide +kernel) ⟨Nat.le_of_ble_eq_true rfl, Nat.le_of_ble_eq_true rfl⟩) (pre_V (va_recv hK hP (q := ("TaleMachineModel", F_Model, 31)) rfl (q0 := 0) rfl) (hP.sub [0, 1] rfl) (hK.sub [0, 1, 2] rfl) (hD.sub [0, 1] (by decide) rfl) hT) rfl rfl hl.1 rfl (lv_room (Nat.le_of_ble_eq_true rfl)) d_Model_begin_7 ⟨Nat.le_of_ble_eq_true rfl, Nat.le_of_ble_eq_true rfl⟩) hP hD hS hA [0, 1] [] rfl rfl (by decide) (by decide) (wr := []) (wn := fun _ => [(h, .inr (8, [.int 0, .ref m_bytes, .int 0, .ref m_w, .int 0, .int 0, .ref m_saved, .int 0, .ref m_line, .ref m_met, .ref m_waiting, .ref m_nextParent, .int 0, .ref m_kind, .ref m_number, .int 0, .ref m_begin, .ref m_table, .ref m_handlers, .ref m_base, .ref m_locals, .ref m_self, .ref m_found, .ref m_place, .ref m_next, .int 0, .ref m_saidKind, .ref m_saidNumber, .int 0, .int 0, .int (-1)])), (m_w, .inl (cI, 5568, .inl (fun _ => 0)))]) (fun _ _ h9 => h9) (fun r1 _ H locs hp2 hP hD hS => ?_)
  have hP : va_P D cL [(h, .inr (8, [.int 0, .ref m_bytes, .int 0, .ref m_w, .int 0, .int 0, .ref m_saved, .int 0, .ref m_line, .ref m_met, .ref m_waiting, .ref m_nextParent, .int 0, .ref m_kind, .ref m_number, .int 0, .ref m_begin, .ref m_table, .ref m_handlers, .ref m_base, .ref m_locals, .ref m_self, .ref m_found, .ref m_place, .ref m_next, .int 0, .ref m_saidKind, .ref m_saidNumber, .int 0, .int 0, .int (-1)])), (m_w, .inl (cI, 5568, .inl (fun _ => 0)))] H := hP
  have hD : va_D A [(h, .inr (8, [.int 0, .ref m_bytes, .int 0, .ref m_w, .int 0, .int 0, .ref m_saved, .int 0, .ref m_line, .ref m_met, .ref m_waiting, .ref m_nextParent, .int 0, .ref m_kind, .ref m_number, .int 0, .ref m_begin, .ref m_table, .ref m_handlers, .ref m_base, .ref m_locals, .ref m_self, .ref m_found, .ref m_place, .ref m_next, .int 0, .ref m_saidKind, .ref m_saidNumber, .int 0, .int 0, .int (-1)])), (m_w, .inl (cI, 5568, .inl (fun _ => 0)))] := hD
  obtain rfl : r1 = 0 := hp2
  refine lv_if_ne hx hb d_Model_begin_10 (tgt := 21) (by decide) (fun hz => absurd (by decide) hz) (fun _ => ?_)
  refine lv_aload_n hx hb d_Model_begin_13 rfl (lv_at hl 0 rfl) ?_
  refine lv_iconst (v := 1) hx hb d_Model_begin_14 (by decide) ?_
  refine va_put (D := D) (ci := 8) (v := .int 1) (ty := .int) (C := "TaleMachineModel") (T := F_Model) (N := 31) hx hb hts in_Model t_Model t_Model_ok n_Model hown hK hP hD hS 0 rfl rfl 0 (by decide) (hts _ k_0) (fun _ h9 => h9) rfl (by decide +kernel) rfl rfl (Nat.le_of_ble_eq_true rfl) d_Model_begin_15 (fun H locs hP hD hS => ?_)
  have hP : va_P D cL [(h, .inr (8, [.int 1, .ref m_bytes, .int 0, .ref m_w, .int 0, .int 0, .ref m_saved, .int 0, .ref m_line, .ref m_met, .ref m_waiting, .ref m_nextParent, .int 0, .ref m_kind, .ref m_number, .int 0, .ref m_begin, .ref m_table, .ref m_handlers, .ref m_base, .ref m_locals, .ref m_self, .ref m_found, .ref m_place, .ref m_next, .int 0, .ref m_saidKind, .ref m_saidNumber, .int 0, .int 0, .int (-1)])), (m_w, .inl (cI, 5568, .inl (fun _ => 0)))] H := hP
  have hD : va_D A [(h, .inr (8, [.int 1, .ref m_bytes, .int 0, .ref m_w, .int 0, .int 0, .ref m_saved, .int 0, .ref m_line, .ref m_met, .ref m_waiting, .ref m_nextParent, .int 0, .ref m_kind, .ref m_number, .int 0, .ref m_begin, .ref m_table, .ref m_handlers, .ref m_base, .ref m_locals, .ref m_self, .ref m_found, .ref m_place, .ref m_next, .int 0, .ref m_saidKind, .ref m_saidNumber, .int 0, .int 0, .int (-1)])), (m_w, .inl (cI, 5568, .inl (fun _ => 0)))] := hD
  refine lv_goto hx hb d_Model_begin_18 (tgt := 36) (by decide) ?_
  refine lv_aload_n hx hb d_Model_begin_36 rfl (lv_at hl 0 rfl) ?_
  refine va_get (D := D) (ci := 8) (v := .int 1) (C := "TaleMachineModel") (T := F_Model) (N := 31) hx hb hts in_Model hown hK hP 0 rfl rfl 0 (by decide) (hts _ k_0) (fun _ h9 => h9) rfl d_Model_begin_37 ?_
  refine lv_if_le hx hb d_Model_begin_40 (tgt := 44) (by decide) (fun hz => absurd hz (by decide)) (fun _ => ?_)
  exact end_v hx hb hr hlocks hS (u := ()) (at_end (hP.sub (ws' := [(h, .inr (8, [.int 1, .ref m_bytes, .int 0, .ref m_w, .int 0, .int 0, .ref m_saved, .int 0, .ref m_line, .ref m_met, .ref m_waiting, .ref m_nextParent, .int 0, .ref m_kind, .ref m_number, .int 0, .ref m_begin, .ref m_table, .ref m_handlers, .ref m_base, .ref m_locals, .ref m_self, .ref m_found, .ref m_place, .ref m_next, .int 0, .ref m_saidKind, .ref m_saidNumber, .int 0, .int 0, .int (-1)]))]) [0] rfl) (hD.sub (ws' := [(h, .inr (8, [.int 1, .ref m_bytes, .int 0, .ref m_w, .int 0, .int 0, .ref m_saved, .int 0, .ref m_line, .ref m_met, .ref m_waiting, .ref m_nextParent, .int 0, .ref m_kind, .ref m_number, .int 0, .ref m_begin, .ref m_table, .ref m_handlers, .ref m_base, .ref m_locals, .ref m_self, .ref m_found, .ref m_place, .ref m_next, .int 0, .ref m_saidKind, .ref m_saidNumber, .int 0, .int 0, .int (-1)]))]) [0] (by decide) rfl)) (trivial) (Nat.le_of_ble_eq_true rfl) (Nat.le_of_ble_eq_true rfl) d_Model_begin_43

set_option maxHeartbeats 4000000 in
set_option maxRecDepth 100000 in
theorem c_Model_run (l : Launch) (D : va_G) (cI cZ cJ : ClassId) (h m_bytes m_w m_saved m_line m_met m_waiting m_nextParent m_kind m_number m_begin m_table m_handlers m_base m_locals m_self m_found m_place m_next m_saidKind m_saidNumber : Nat) (fu : Int32) (sz : Nat)  : Met l y_Model_run (.code y_Model_run prog_10_method_26_code 3 (some .int) :: AW) ({ frames := 0, cells := 0, slots := 0, locals := 0 }) (va_Pc [.ref h, .int fu] (pre_ D [(h, .inr (8, [.int 0, .ref m_bytes, .int 0, .ref m_w, .int 0, .int 0, .ref m_saved, .int 0, .ref m_line, .ref m_met, .ref m_waiting, .ref m_nextParent, .int 0, .ref m_kind, .ref m_number, .int 0, .ref m_begin, .ref m_table, .ref m_handlers, .ref m_base, .ref m_locals, .ref m_self, .ref m_found, .ref m_place, .ref m_next, .int 0, .ref m_saidKind, .ref m_saidNumber, .int 0, .int 0, .int (-1)]))] [(cI, .int), (cZ, .boolean), (cJ, .long)] sz)) (va_Qi (fun (r : Int32) (u : Unit) => r = -1) (fun _ t => post_ D (va_A [(h, .inr (8, [.int 0, .ref m_bytes, .int 0, .ref m_w, .int 0, .int 0, .ref m_saved, .int 0, .ref m_line, .ref m_met, .ref m_waiting, .ref m_nextParent, .int 0, .ref m_kind, .ref m_number, .int 0, .ref m_begin, .ref m_table, .ref m_handlers, .ref m_base, .ref m_locals, .ref m_self, .ref m_found, .ref m_place, .ref m_next, .int 0, .ref m_saidKind, .ref m_saidNumber, .int 0, .int 0, .int (-1)]))] sz) [] t) (va_A [(h, .inr (8, [.int 0, .ref m_bytes, .int 0, .ref m_w, .int 0, .int 0, .ref m_saved, .int 0, .ref m_line, .ref m_met, .ref m_waiting, .ref m_nextParent, .int 0, .ref m_kind, .ref m_number, .int 0, .ref m_begin, .ref m_table, .ref m_handlers, .ref m_base, .ref m_locals, .ref m_self, .ref m_found, .ref m_place, .ref m_next, .int 0, .ref m_saidKind, .ref m_saidNumber, .int 0, .int 0, .int (-1)]))] sz)) 0 0 (va_A [(h, .inr (8, [.int 0, .ref m_bytes, .int 0, .ref m_w, .int 0, .int 0, .ref m_saved, .int 0, .ref m_line, .ref m_met, .ref m_waiting, .ref m_nextParent, .int 0, .ref m_kind, .ref m_number, .int 0, .ref m_begin, .ref m_table, .ref m_handlers, .ref m_base, .ref m_locals, .ref m_self, .ref m_found, .ref m_place, .ref m_next, .int 0, .ref m_saidKind, .ref m_saidNumber, .int 0, .int 0, .int (-1)]))] sz) := by
  refine Met.ofW (cc := prog_10_method_26_code) (maxL := 3) (ret := (some .int)) (by decide) rfl ?_
  intro p e s m args below meth c s₁ B hml hv
  obtain ⟨rfl, rfl, hP, hK, hD0, hT⟩ := hv
  have hx := B.exec
  have hb := B.bytes
  have hr := B.returns
  have hts0 := atoms_spec (ws := .code y_Model_run prog_10_method_26_code 3 (some .int) :: AW) B.pre
  have hts : ∀ w ∈ AW, w.before [.ref h, .int fu].toArray s = true := fun w h => hts0 w (List.mem_cons_of_mem _ h)
  have hown : s.vm.findClass "TaleMachineModel" = some m.cls := findClass_of_methodNamed B.named
  have hlocks := B.notSynchronized
  have hD := hD0.self (sz := s.heap.size)
  generalize hAe : va_A [(h, .inr (8, [.int 0, .ref m_bytes, .int 0, .ref m_w, .int 0, .int 0, .ref m_saved, .int 0, .ref m_line, .ref m_met, .ref m_waiting, .ref m_nextParent, .int 0, .ref m_kind, .ref m_number, .int 0, .ref m_begin, .ref m_table, .ref m_handlers, .ref m_base, .ref m_locals, .ref m_self, .ref m_found, .ref m_place, .ref m_next, .int 0, .ref m_saidKind, .ref m_saidNumber, .int 0, .int 0, .int (-1)]))] s.heap.size = A at hD ⊢
  have hA : ∀ q : Nat, s.heap.size ≤ q → A q := fun q h => by rw [← hAe]; exact Or.inr h
  have hS : va_S A s.heap s.heap [] := va_S.rf
  have hl := lv_entry ([.ref h, .int fu]) (n := 3) (Nat.le_of_ble_eq_true rfl)
  rw [lg_entry_eq]
  generalize (lg_sl ([.ref h, .int fu]) ++ List.replicate (3 - (lg_sl ([.ref h, .int fu])).length) Slot.unset).toArray = ls at hl ⊢
  have hl : lv_has ls 3 [(0, .ref h), (1, .int fu)] := hl
  refine lv_aload_n hx hb d_Model_run_0 rfl (lv_at hl 0 rfl) ?_
  refine lv_iconst (v := 0) hx hb d_Model_run_1 (by decide) ?_
  refine va_put (D := D) (ci := 8) (v := .int 0) (ty := .int) (C := "TaleMachineModel") (T := F_Model) (N := 31) hx hb hts in_Model t_Model t_Model_ok n_Model hown hK hP hD hS 0 rfl rfl 0 (by decide) (hts _ k_0) (fun _ h9 => h9) rfl (by decide +kernel) rfl rfl (Nat.le_of_ble_eq_true rfl) d_Model_run_2 (fun H locs hP hD hS => ?_)
  have hP : va_P D cL [(h, .inr (8, [.int 0, .ref m_bytes, .int 0, .ref m_w, .int 0, .int 0, .ref m_saved, .int 0, .ref m_line, .ref m_met, .ref m_waiting, .ref m_nextParent, .int 0, .ref m_kind, .ref m_number, .int 0, .ref m_begin, .ref m_table, .ref m_handlers, .ref m_base, .ref m_locals, .ref m_self, .ref m_found, .ref m_place, .ref m_next, .int 0, .ref m_saidKind, .ref m_saidNumber, .int 0, .int 0, .int (-1)]))] H := hP
  have hD : va_D A [(h, .inr (8, [.int 0, .ref m_bytes, .int 0, .ref m_w, .int 0, .int 0, .ref m_saved, .int 0, .ref m_line, .ref m_met, .ref m_waiting, .ref m_nextParent, .int 0, .ref m_kind, .ref m_number, .int 0, .ref m_begin, .ref m_table, .ref m_handlers, .ref m_base, .ref m_locals, .ref m_self, .ref m_found, .ref m_place, .ref m_next, .int 0, .ref m_saidKind, .ref m_saidNumber, .int 0, .int 0, .int (-1)]))] := hD
  refine lv_iconst (v := 0) hx hb d_Model_run_5 (by decide) ?_
  refine lv_istore_n (lv' := [(2, .int 0), (0, .ref h), (1, .int fu)]) hx hb d_Model_run_6 rfl hl (by decide) rfl (fun ls hl => ?_)
  refine lv_iload_n hx hb d_Model_run_7 rfl (lv_at hl 0 rfl) ?_
  refine lv_iload_n hx hb d_Model_run_8 rfl (lv_at hl 2 rfl) ?_
  refine lv_icmp_ge hx hb d_Model_run_9 (tgt := 45) (by decide) (fun hc1 => ?_) (fun hc1 => ?_)
  · refine lv_aload_n hx hb d_Model_run_45 rfl (lv_at hl 1 rfl) ?_
    refine va_get (D := D) (ci := 8) (v := .int (-1)) (C := "TaleMachineModel") (T := F_Model) (N := 31) hx hb hts in_Model hown hK hP 0 rfl rfl 30 (by decide) (hts _ k_20) (fun _ h9 => h9) rfl d_Model_run_46 ?_
    exact end_i hx hb hr hlocks hS (u := ()) (r := (-1)) (at_end (hP.sub (ws' := []) [] rfl) (hD.sub (ws' := []) [] (by decide) rfl)) (rfl) (Nat.le_of_ble_eq_true rfl) (Nat.le_of_ble_eq_true rfl) d_Model_run_49
  · refine lv_iload_n hx hb d_Model_run_12 rfl (lv_at hl 0 rfl) ?_
    refine lv_sipush (v := 3000) hx hb d_Model_run_13 (by decide) ?_
    refine lv_icmp_ge hx hb d_Model_run_16 (tgt := 45) (by decide) (fun hz => absurd hz (by decide)) (fun _ => ?_)
    refine lv_aload_n hx hb d_Model_run_19 rfl (lv_at hl 1 rfl) ?_
    refine va_get (D := D) (ci := 8) (v := .int (-1)) (C := "TaleMachineModel") (T := F_Model) (N := 31) hx hb hts in_Model hown hK hP 0 rfl rfl 30 (by decide) (hts _ k_20) (fun _ h9 => h9) rfl d_Model_run_20 ?_
    refine lv_if_ne hx hb d_Model_run_23 (tgt := 45) (by decide) (fun _ => ?_) (fun hz => absurd hz (by decide))
    refine lv_aload_n hx hb d_Model_run_45 rfl (lv_at hl 1 rfl) ?_
    refine va_get (D := D) (ci := 8) (v := .int (-1)) (C := "TaleMachineModel") (T := F_Model) (N := 31) hx hb hts in_Model hown hK hP 0 rfl rfl 30 (by decide) (hts _ k_20) (fun _ h9 => h9) rfl d_Model_run_46 ?_
    exact end_i hx hb hr hlocks hS (u := ()) (r := (-1)) (at_end (hP.sub (ws' := []) [] rfl) (hD.sub (ws' := []) [] (by decide) rfl)) (rfl) (Nat.le_of_ble_eq_true rfl) (Nat.le_of_ble_eq_true rfl) d_Model_run_49

set_option maxHeartbeats 4000000 in
set_option maxRecDepth 100000 in
theorem c_Model_stop (l : Launch) (D : va_G) (cI cZ cJ : ClassId) (h m_bytes m_w m_saved m_line m_met m_waiting m_nextParent m_kind m_number m_begin m_table m_handlers m_base m_locals m_self m_found m_place m_next m_saidKind m_saidNumber : Nat) (sz : Nat)  : Met l y_Model_stop (.code y_Model_stop prog_10_method_27_code 1 (some .boolean) :: AW) ({ frames := 0, cells := 0, slots := 0, locals := 0 }) (va_Pc [.ref h] (pre_ D [(h, .inr (8, [.int 0, .ref m_bytes, .int 0, .ref m_w, .int 0, .int 0, .ref m_saved, .int 0, .ref m_line, .ref m_met, .ref m_waiting, .ref m_nextParent, .int 0, .ref m_kind, .ref m_number, .int 0, .ref m_begin, .ref m_table, .ref m_handlers, .ref m_base, .ref m_locals, .ref m_self, .ref m_found, .ref m_place, .ref m_next, .int 0, .ref m_saidKind, .ref m_saidNumber, .int 0, .int 0, .int (-1)]))] [(cI, .int), (cZ, .boolean), (cJ, .long)] sz)) (va_Qi (fun (r : Int32) (u : Unit) => r = 0) (fun _ t => post_ D (va_A [(h, .inr (8, [.int 0, .ref m_bytes, .int 0, .ref m_w, .int 0, .int 0, .ref m_saved, .int 0, .ref m_line, .ref m_met, .ref m_waiting, .ref m_nextParent, .int 0, .ref m_kind, .ref m_number, .int 0, .ref m_begin, .ref m_table, .ref m_handlers, .ref m_base, .ref m_locals, .ref m_self, .ref m_found, .ref m_place, .ref m_next, .int 0, .ref m_saidKind, .ref m_saidNumber, .int 0, .int 0, .int (-1)]))] sz) [] t) (va_A [(h, .inr (8, [.int 0, .ref m_bytes, .int 0, .ref m_w, .int 0, .int 0, .ref m_saved, .int 0, .ref m_line, .ref m_met, .ref m_waiting, .ref m_nextParent, .int 0, .ref m_kind, .ref m_number, .int 0, .ref m_begin, .ref m_table, .ref m_handlers, .ref m_base, .ref m_locals, .ref m_self, .ref m_found, .ref m_place, .ref m_next, .int 0, .ref m_saidKind, .ref m_saidNumber, .int 0, .int 0, .int (-1)]))] sz)) 0 0 (va_A [(h, .inr (8, [.int 0, .ref m_bytes, .int 0, .ref m_w, .int 0, .int 0, .ref m_saved, .int 0, .ref m_line, .ref m_met, .ref m_waiting, .ref m_nextParent, .int 0, .ref m_kind, .ref m_number, .int 0, .ref m_begin, .ref m_table, .ref m_handlers, .ref m_base, .ref m_locals, .ref m_self, .ref m_found, .ref m_place, .ref m_next, .int 0, .ref m_saidKind, .ref m_saidNumber, .int 0, .int 0, .int (-1)]))] sz) := by
  refine Met.ofW (cc := prog_10_method_27_code) (maxL := 1) (ret := (some .boolean)) (by decide) rfl ?_
  intro p e s m args below meth c s₁ B hml hv
  obtain ⟨rfl, rfl, hP, hK, hD0, hT⟩ := hv
  have hx := B.exec
  have hb := B.bytes
  have hr := B.returns
  have hts0 := atoms_spec (ws := .code y_Model_stop prog_10_method_27_code 1 (some .boolean) :: AW) B.pre
  have hts : ∀ w ∈ AW, w.before [.ref h].toArray s = true := fun w h => hts0 w (List.mem_cons_of_mem _ h)
  have hown : s.vm.findClass "TaleMachineModel" = some m.cls := findClass_of_methodNamed B.named
  have hlocks := B.notSynchronized
  have hD := hD0.self (sz := s.heap.size)
  generalize hAe : va_A [(h, .inr (8, [.int 0, .ref m_bytes, .int 0, .ref m_w, .int 0, .int 0, .ref m_saved, .int 0, .ref m_line, .ref m_met, .ref m_waiting, .ref m_nextParent, .int 0, .ref m_kind, .ref m_number, .int 0, .ref m_begin, .ref m_table, .ref m_handlers, .ref m_base, .ref m_locals, .ref m_self, .ref m_found, .ref m_place, .ref m_next, .int 0, .ref m_saidKind, .ref m_saidNumber, .int 0, .int 0, .int (-1)]))] s.heap.size = A at hD ⊢
  have hA : ∀ q : Nat, s.heap.size ≤ q → A q := fun q h => by rw [← hAe]; exact Or.inr h
  have hS : va_S A s.heap s.heap [] := va_S.rf
  have hl := lv_entry ([.ref h]) (n := 1) (Nat.le_of_ble_eq_true rfl)
  rw [lg_entry_eq]
  generalize (lg_sl ([.ref h]) ++ List.replicate (1 - (lg_sl ([.ref h])).length) Slot.unset).toArray = ls at hl ⊢
  have hl : lv_has ls 1 [(0, .ref h)] := hl
  refine lv_aload_n hx hb d_Model_stop_0 rfl (lv_at hl 0 rfl) ?_
  refine lv_iconst (v := 0) hx hb d_Model_stop_1 (by decide) ?_
  refine va_put (D := D) (ci := 8) (v := .int 0) (ty := .int) (C := "TaleMachineModel") (T := F_Model) (N := 31) hx hb hts in_Model t_Model t_Model_ok n_Model hown hK hP hD hS 0 rfl rfl 0 (by decide) (hts _ k_0) (fun _ h9 => h9) rfl (by decide +kernel) rfl rfl (Nat.le_of_ble_eq_true rfl) d_Model_stop_2 (fun H locs hP hD hS => ?_)
  have hP : va_P D cL [(h, .inr (8, [.int 0, .ref m_bytes, .int 0, .ref m_w, .int 0, .int 0, .ref m_saved, .int 0, .ref m_line, .ref m_met, .ref m_waiting, .ref m_nextParent, .int 0, .ref m_kind, .ref m_number, .int 0, .ref m_begin, .ref m_table, .ref m_handlers, .ref m_base, .ref m_locals, .ref m_self, .ref m_found, .ref m_place, .ref m_next, .int 0, .ref m_saidKind, .ref m_saidNumber, .int 0, .int 0, .int (-1)]))] H := hP
  have hD : va_D A [(h, .inr (8, [.int 0, .ref m_bytes, .int 0, .ref m_w, .int 0, .int 0, .ref m_saved, .int 0, .ref m_line, .ref m_met, .ref m_waiting, .ref m_nextParent, .int 0, .ref m_kind, .ref m_number, .int 0, .ref m_begin, .ref m_table, .ref m_handlers, .ref m_base, .ref m_locals, .ref m_self, .ref m_found, .ref m_place, .ref m_next, .int 0, .ref m_saidKind, .ref m_saidNumber, .int 0, .int 0, .int (-1)]))] := hD
  refine lv_aload_n hx hb d_Model_stop_5 rfl (lv_at hl 0 rfl) ?_
  refine va_get (D := D) (ci := 8) (v := .int (-1)) (C := "TaleMachineModel") (T := F_Model) (N := 31) hx hb hts in_Model hown hK hP 0 rfl rfl 30 (by decide) (hts _ k_20) (fun _ h9 => h9) rfl d_Model_stop_6 ?_
  refine lv_if_eq hx hb d_Model_stop_9 (tgt := 14) (by decide) (fun hz => absurd hz (by decide)) (fun _ => ?_)
  refine lv_iconst (v := 0) hx hb d_Model_stop_12 (by decide) ?_
  exact end_z hx hb hr hlocks hS (u := ()) (r := 0) (at_end (hP.sub (ws' := []) [] rfl) (hD.sub (ws' := []) [] (by decide) rfl)) (rfl) (by decide) (Nat.le_of_ble_eq_true rfl) (Nat.le_of_ble_eq_true rfl) d_Model_stop_13

set_option maxHeartbeats 4000000 in
set_option maxRecDepth 100000 in
theorem c_Model_mark (l : Launch) (D : va_G) (cI cZ cJ : ClassId) (h m_bytes m_w m_saved m_line m_met m_waiting m_nextParent m_kind m_number m_begin m_table m_handlers m_base m_locals m_self m_found m_place m_next m_saidKind m_saidNumber : Nat) (mk_ wh oo : Int32) (sz : Nat)  : Met l y_Model_mark (.code y_Model_mark prog_10_method_48_code 4 (some .int) :: AW) ({ frames := 2, cells := 0, slots := 0, locals := 43 }) (va_Pc [.ref h, .int mk_, .int wh, .int oo] (pre_ D [(h, .inr (8, [.int 0, .ref m_bytes, .int 0, .ref m_w, .int 0, .int 0, .ref m_saved, .int 0, .ref m_line, .ref m_met, .ref m_waiting, .ref m_nextParent, .int 0, .ref m_kind, .ref m_number, .int 0, .ref m_begin, .ref m_table, .ref m_handlers, .ref m_base, .ref m_locals, .ref m_self, .ref m_found, .ref m_place, .ref m_next, .int 0, .ref m_saidKind, .ref m_saidNumber, .int 0, .int 0, .int (-1)])), (m_w, .inl (cI, 5568, .inl (fun _ => 0)))] [(cI, .int), (cZ, .boolean), (cJ, .long)] sz)) (va_Qi (fun (r : Int32) (u : Unit) => r = mk_) (fun _ t => post_ D (va_A [(h, .inr (8, [.int 0, .ref m_bytes, .int 0, .ref m_w, .int 0, .int 0, .ref m_saved, .int 0, .ref m_line, .ref m_met, .ref m_waiting, .ref m_nextParent, .int 0, .ref m_kind, .ref m_number, .int 0, .ref m_begin, .ref m_table, .ref m_handlers, .ref m_base, .ref m_locals, .ref m_self, .ref m_found, .ref m_place, .ref m_next, .int 0, .ref m_saidKind, .ref m_saidNumber, .int 0, .int 0, .int (-1)])), (m_w, .inl (cI, 5568, .inl (fun _ => 0)))] sz) [(h, .inr (8, [.int 0, .ref m_bytes, .int 0, .ref m_w, .int 0, .int 0, .ref m_saved, .int 0, .ref m_line, .ref m_met, .ref m_waiting, .ref m_nextParent, .int 0, .ref m_kind, .ref m_number, .int 0, .ref m_begin, .ref m_table, .ref m_handlers, .ref m_base, .ref m_locals, .ref m_self, .ref m_found, .ref m_place, .ref m_next, .int 0, .ref m_saidKind, .ref m_saidNumber, .int 0, .int 0, .int (-1)])), (m_w, .inl (cI, 5568, .inl (fun _ => 0)))] t) (va_A [(h, .inr (8, [.int 0, .ref m_bytes, .int 0, .ref m_w, .int 0, .int 0, .ref m_saved, .int 0, .ref m_line, .ref m_met, .ref m_waiting, .ref m_nextParent, .int 0, .ref m_kind, .ref m_number, .int 0, .ref m_begin, .ref m_table, .ref m_handlers, .ref m_base, .ref m_locals, .ref m_self, .ref m_found, .ref m_place, .ref m_next, .int 0, .ref m_saidKind, .ref m_saidNumber, .int 0, .int 0, .int (-1)])), (m_w, .inl (cI, 5568, .inl (fun _ => 0)))] sz)) 0 0 (va_A [(h, .inr (8, [.int 0, .ref m_bytes, .int 0, .ref m_w, .int 0, .int 0, .ref m_saved, .int 0, .ref m_line, .ref m_met, .ref m_waiting, .ref m_nextParent, .int 0, .ref m_kind, .ref m_number, .int 0, .ref m_begin, .ref m_table, .ref m_handlers, .ref m_base, .ref m_locals, .ref m_self, .ref m_found, .ref m_place, .ref m_next, .int 0, .ref m_saidKind, .ref m_saidNumber, .int 0, .int 0, .int (-1)])), (m_w, .inl (cI, 5568, .inl (fun _ => 0)))] sz) := by
  refine Met.ofW (cc := prog_10_method_48_code) (maxL := 4) (ret := (some .int)) (by decide) rfl ?_
  intro p e s m args below meth c s₁ B hml hv
  obtain ⟨rfl, rfl, hP, hK, hD0, hT⟩ := hv
  have hx := B.exec
  have hb := B.bytes
  have hr := B.returns
  have hts0 := atoms_spec (ws := .code y_Model_mark prog_10_method_48_code 4 (some .int) :: AW) B.pre
  have hts : ∀ w ∈ AW, w.before [.ref h, .int mk_, .int wh, .int oo].toArray s = true := fun w h => hts0 w (List.mem_cons_of_mem _ h)
  have hown : s.vm.findClass "TaleMachineModel" = some m.cls := findClass_of_methodNamed B.named
  have hlocks := B.notSynchronized
  have hD := hD0.self (sz := s.heap.size)
  generalize hAe : va_A [(h, .inr (8, [.int 0, .ref m_bytes, .int 0, .ref m_w, .int 0, .int 0, .ref m_saved, .int 0, .ref m_line, .ref m_met, .ref m_waiting, .ref m_nextParent, .int 0, .ref m_kind, .ref m_number, .int 0, .ref m_begin, .ref m_table, .ref m_handlers, .ref m_base, .ref m_locals, .ref m_self, .ref m_found, .ref m_place, .ref m_next, .int 0, .ref m_saidKind, .ref m_saidNumber, .int 0, .int 0, .int (-1)])), (m_w, .inl (cI, 5568, .inl (fun _ => 0)))] s.heap.size = A at hD ⊢
  have hA : ∀ q : Nat, s.heap.size ≤ q → A q := fun q h => by rw [← hAe]; exact Or.inr h
  have hS : va_S A s.heap s.heap [] := va_S.rf
  have hl := lv_entry ([.ref h, .int mk_, .int wh, .int oo]) (n := 4) (Nat.le_of_ble_eq_true rfl)
  rw [lg_entry_eq]
  generalize (lg_sl ([.ref h, .int mk_, .int wh, .int oo]) ++ List.replicate (4 - (lg_sl ([.ref h, .int mk_, .int wh, .int oo])).length) Slot.unset).toArray = ls at hl ⊢
  have hl : lv_has ls 4 [(0, .ref h), (1, .int mk_), (2, .int wh), (3, .int oo)] := hl
  refine lv_iload_n hx hb d_Model_mark_0 rfl (lv_at hl 2 rfl) ?_
  refine lv_iconst (v := 3) hx hb d_Model_mark_1 (by decide) ?_
  refine lv_icmp_ne hx hb d_Model_mark_2 (tgt := 21) (by decide) (fun hc1 => ?_) (fun hc1 => ?_)
  · refine lv_iload_n hx hb d_Model_mark_21 rfl (lv_at hl 1 rfl) ?_
    exact end_i hx hb hr hlocks hS (u := ()) (r := mk_) (at_end (hP.sub (ws' := [(h, .inr (8, [.int 0, .ref m_bytes, .int 0, .ref m_w, .int 0, .int 0, .ref m_saved, .int 0, .ref m_line, .ref m_met, .ref m_waiting, .ref m_nextParent, .int 0, .ref m_kind, .ref m_number, .int 0, .ref m_begin, .ref m_table, .ref m_handlers, .ref m_base, .ref m_locals, .ref m_self, .ref m_found, .ref m_place, .ref m_next, .int 0, .ref m_saidKind, .ref m_saidNumber, .int 0, .int 0, .int (-1)])), (m_w, .inl (cI, 5568, .inl (fun _ => 0)))]) [0, 1] rfl) (hD.sub (ws' := [(h, .inr (8, [.int 0, .ref m_bytes, .int 0, .ref m_w, .int 0, .int 0, .ref m_saved, .int 0, .ref m_line, .ref m_met, .ref m_waiting, .ref m_nextParent, .int 0, .ref m_kind, .ref m_number, .int 0, .ref m_begin, .ref m_table, .ref m_handlers, .ref m_base, .ref m_locals, .ref m_self, .ref m_found, .ref m_place, .ref m_next, .int 0, .ref m_saidKind, .ref m_saidNumber, .int 0, .int 0, .int (-1)])), (m_w, .inl (cI, 5568, .inl (fun _ => 0)))]) [0, 1] (by decide) rfl)) (rfl) (Nat.le_of_ble_eq_true rfl) (Nat.le_of_ble_eq_true rfl) d_Model_mark_22
  · refine lv_aload_n hx hb d_Model_mark_5 rfl (lv_at hl 0 rfl) ?_
    refine lv_iload_n hx hb d_Model_mark_6 rfl (lv_at hl 3 rfl) ?_
    refine mv_i (va_runV (C := "TaleMachineModel") (As := [.int oo]) (rest := []) ⟨hx, hb, hml, hown, hts⟩ (c_Model_isThere l D cI cZ cJ _ _ _ _ _ _ _ _ _ _ _ _ _ _ _ _ _ _ _ _ _ _ _ ) (cwV 1 hts (gInV k_7 k_8 k_9 k_4 k_6) rfl rfl rfl (by decide +kernel) ⟨Nat.le_of_ble_eq_true rfl, Nat.le_of_ble_eq_true rfl⟩) (pre_V (va_recv hK hP (q := ("TaleMachineModel", F_Model, 31)) rfl (q0 := 0) rfl) (hP.sub [0, 1] rfl) (hK.sub [0, 1, 2] rfl) (hD.sub [0, 1] (by decide) rfl) hT) rfl rfl hl.1 rfl (lv_room (Nat.le_of_ble_eq_true rfl)) d_Model_mark_7 ⟨Nat.le_of_ble_eq_true rfl, Nat.le_of_ble_eq_true rfl⟩) hP hD hS hA [0, 1] [] rfl rfl (by decide) (by decide) (wr := []) (wn := fun _ => [(h, .inr (8, [.int 0, .ref m_bytes, .int 0, .ref m_w, .int 0, .int 0, .ref m_saved, .int 0, .ref m_line, .ref m_met, .ref m_waiting, .ref m_nextParent, .int 0, .ref m_kind, .ref m_number, .int 0, .ref m_begin, .ref m_table, .ref m_handlers, .ref m_base, .ref m_locals, .ref m_self, .ref m_found, .ref m_place, .ref m_next, .int 0, .ref m_saidKind, .ref m_saidNumber, .int 0, .int 0, .int (-1)])), (m_w, .inl (cI, 5568, .inl (fun _ => 0)))]) (fun _ _ h9 => h9) (fun r2 _ H locs hp3 hP hD hS => ?_)
    have hP : va_P D cL [(h, .inr (8, [.int 0, .ref m_bytes, .int 0, .ref m_w, .int 0, .int 0, .ref m_saved, .int 0, .ref m_line, .ref m_met, .ref m_waiting, .ref m_nextParent, .int 0, .ref m_kind, .ref m_number, .int 0, .ref m_begin, .ref m_table, .ref m_handlers, .ref m_base, .ref m_locals, .ref m_self, .ref m_found, .ref m_place, .ref m_next, .int 0, .ref m_saidKind, .ref m_saidNumber, .int 0, .int 0, .int (-1)])), (m_w, .inl (cI, 5568, .inl (fun _ => 0)))] H := hP
    have hD : va_D A [(h, .inr (8, [.int 0, .ref m_bytes, .int 0, .ref m_w, .int 0, .int 0, .ref m_saved, .int 0, .ref m_line, .ref m_met, .ref m_waiting, .ref m_nextParent, .int 0, .ref m_kind, .ref m_number, .int 0, .ref m_begin, .ref m_table, .ref m_handlers, .ref m_base, .ref m_locals, .ref m_self, .ref m_found, .ref m_place, .ref m_next, .int 0, .ref m_saidKind, .ref m_saidNumber, .int 0, .int 0, .int (-1)])), (m_w, .inl (cI, 5568, .inl (fun _ => 0)))] := hD
    obtain rfl : r2 = 0 := hp3
    refine lv_if_eq hx hb d_Model_mark_10 (tgt := 21) (by decide) (fun _ => ?_) (fun hz => absurd (by decide) hz)
    refine lv_iload_n hx hb d_Model_mark_21 rfl (lv_at hl 1 rfl) ?_
    exact end_i hx hb hr hlocks hS (u := ()) (r := mk_) (at_end (hP.sub (ws' := [(h, .inr (8, [.int 0, .ref m_bytes, .int 0, .ref m_w, .int 0, .int 0, .ref m_saved, .int 0, .ref m_line, .ref m_met, .ref m_waiting, .ref m_nextParent, .int 0, .ref m_kind, .ref m_number, .int 0, .ref m_begin, .ref m_table, .ref m_handlers, .ref m_base, .ref m_locals, .ref m_self, .ref m_found, .ref m_place, .ref m_next, .int 0, .ref m_saidKind, .ref m_saidNumber, .int 0, .int 0, .int (-1)])), (m_w, .inl (cI, 5568, .inl (fun _ => 0)))]) [0, 1] rfl) (hD.sub (ws' := [(h, .inr (8, [.int 0, .ref m_bytes, .int 0, .ref m_w, .int 0, .int 0, .ref m_saved, .int 0, .ref m_line, .ref m_met, .ref m_waiting, .ref m_nextParent, .int 0, .ref m_kind, .ref m_number, .int 0, .ref m_begin, .ref m_table, .ref m_handlers, .ref m_base, .ref m_locals, .ref m_self, .ref m_found, .ref m_place, .ref m_next, .int 0, .ref m_saidKind, .ref m_saidNumber, .int 0, .int 0, .int (-1)])), (m_w, .inl (cI, 5568, .inl (fun _ => 0)))]) [0, 1] (by decide) rfl)) (rfl) (Nat.le_of_ble_eq_true rfl) (Nat.le_of_ble_eq_true rfl) d_Model_mark_22

set_option maxHeartbeats 4000000 in
set_option maxRecDepth 100000 in
theorem c_Model_collect (l : Launch) (D : va_G) (cI cZ cJ : ClassId) (h m_bytes m_w m_saved m_line m_met m_waiting m_nextParent m_kind m_number m_begin m_table m_handlers m_base m_locals m_self m_found m_place m_next m_saidKind m_saidNumber : Nat) (sz : Nat)  : Met l y_Model_collect (.code y_Model_collect prog_10_method_50_code 6 (some .int) :: AW) ({ frames := 3, cells := 0, slots := 0, locals := 66 }) (va_Pc [.ref h] (pre_ D [(h, .inr (8, [.int 0, .ref m_bytes, .int 0, .ref m_w, .int 0, .int 0, .ref m_saved, .int 0, .ref m_line, .ref m_met, .ref m_waiting, .ref m_nextParent, .int 0, .ref m_kind, .ref m_number, .int 0, .ref m_begin, .ref m_table, .ref m_handlers, .ref m_base, .ref m_locals, .ref m_self, .ref m_found, .ref m_place, .ref m_next, .int 0, .ref m_saidKind, .ref m_saidNumber, .int 0, .int 0, .int (-1)])), (m_w, .inl (cI, 5568, .inl (fun _ => 0)))] [(cI, .int), (cZ, .boolean), (cJ, .long)] sz)) (va_Qi (fun (r : Int32) (u : Unit) => r = 0) (fun _ t => post_ D (va_A [(h, .inr (8, [.int 0, .ref m_bytes, .int 0, .ref m_w, .int 0, .int 0, .ref m_saved, .int 0, .ref m_line, .ref m_met, .ref m_waiting, .ref m_nextParent, .int 0, .ref m_kind, .ref m_number, .int 0, .ref m_begin, .ref m_table, .ref m_handlers, .ref m_base, .ref m_locals, .ref m_self, .ref m_found, .ref m_place, .ref m_next, .int 0, .ref m_saidKind, .ref m_saidNumber, .int 0, .int 0, .int (-1)])), (m_w, .inl (cI, 5568, .inl (fun _ => 0)))] sz) [] t) (va_A [(h, .inr (8, [.int 0, .ref m_bytes, .int 0, .ref m_w, .int 0, .int 0, .ref m_saved, .int 0, .ref m_line, .ref m_met, .ref m_waiting, .ref m_nextParent, .int 0, .ref m_kind, .ref m_number, .int 0, .ref m_begin, .ref m_table, .ref m_handlers, .ref m_base, .ref m_locals, .ref m_self, .ref m_found, .ref m_place, .ref m_next, .int 0, .ref m_saidKind, .ref m_saidNumber, .int 0, .int 0, .int (-1)])), (m_w, .inl (cI, 5568, .inl (fun _ => 0)))] sz)) 0 0 (va_A [(h, .inr (8, [.int 0, .ref m_bytes, .int 0, .ref m_w, .int 0, .int 0, .ref m_saved, .int 0, .ref m_line, .ref m_met, .ref m_waiting, .ref m_nextParent, .int 0, .ref m_kind, .ref m_number, .int 0, .ref m_begin, .ref m_table, .ref m_handlers, .ref m_base, .ref m_locals, .ref m_self, .ref m_found, .ref m_place, .ref m_next, .int 0, .ref m_saidKind, .ref m_saidNumber, .int 0, .int 0, .int (-1)])), (m_w, .inl (cI, 5568, .inl (fun _ => 0)))] sz) := by
  refine Met.ofW (cc := prog_10_method_50_code) (maxL := 6) (ret := (some .int)) (by decide) rfl ?_
  intro p e s m args below meth c s₁ B hml hv
  obtain ⟨rfl, rfl, hP, hK, hD0, hT⟩ := hv
  have hx := B.exec
  have hb := B.bytes
  have hr := B.returns
  have hts0 := atoms_spec (ws := .code y_Model_collect prog_10_method_50_code 6 (some .int) :: AW) B.pre
  have hts : ∀ w ∈ AW, w.before [.ref h].toArray s = true := fun w h => hts0 w (List.mem_cons_of_mem _ h)
  have hown : s.vm.findClass "TaleMachineModel" = some m.cls := findClass_of_methodNamed B.named
  have hlocks := B.notSynchronized
  have hD := hD0.self (sz := s.heap.size)
  generalize hAe : va_A [(h, .inr (8, [.int 0, .ref m_bytes, .int 0, .ref m_w, .int 0, .int 0, .ref m_saved, .int 0, .ref m_line, .ref m_met, .ref m_waiting, .ref m_nextParent, .int 0, .ref m_kind, .ref m_number, .int 0, .ref m_begin, .ref m_table, .ref m_handlers, .ref m_base, .ref m_locals, .ref m_self, .ref m_found, .ref m_place, .ref m_next, .int 0, .ref m_saidKind, .ref m_saidNumber, .int 0, .int 0, .int (-1)])), (m_w, .inl (cI, 5568, .inl (fun _ => 0)))] s.heap.size = A at hD ⊢
  have hA : ∀ q : Nat, s.heap.size ≤ q → A q := fun q h => by rw [← hAe]; exact Or.inr h
  have hS : va_S A s.heap s.heap [] := va_S.rf
  have hl := lv_entry ([.ref h]) (n := 6) (Nat.le_of_ble_eq_true rfl)
  rw [lg_entry_eq]
  generalize (lg_sl ([.ref h]) ++ List.replicate (6 - (lg_sl ([.ref h])).length) Slot.unset).toArray = ls at hl ⊢
  have hl : lv_has ls 6 [(0, .ref h)] := hl
  refine lv_aload_n hx hb d_Model_collect_0 rfl (lv_at hl 0 rfl) ?_
  refine lv_iconst (v := 0) hx hb d_Model_collect_1 (by decide) ?_
  refine va_put (D := D) (ci := 8) (v := .int 0) (ty := .int) (C := "TaleMachineModel") (T := F_Model) (N := 31) hx hb hts in_Model t_Model t_Model_ok n_Model hown hK hP hD hS 0 rfl rfl 0 (by decide) (hts _ k_0) (fun _ h9 => h9) rfl (by decide +kernel) rfl rfl (Nat.le_of_ble_eq_true rfl) d_Model_collect_2 (fun H locs hP hD hS => ?_)
  have hP : va_P D cL [(h, .inr (8, [.int 0, .ref m_bytes, .int 0, .ref m_w, .int 0, .int 0, .ref m_saved, .int 0, .ref m_line, .ref m_met, .ref m_waiting, .ref m_nextParent, .int 0, .ref m_kind, .ref m_number, .int 0, .ref m_begin, .ref m_table, .ref m_handlers, .ref m_base, .ref m_locals, .ref m_self, .ref m_found, .ref m_place, .ref m_next, .int 0, .ref m_saidKind, .ref m_saidNumber, .int 0, .int 0, .int (-1)])), (m_w, .inl (cI, 5568, .inl (fun _ => 0)))] H := hP
  have hD : va_D A [(h, .inr (8, [.int 0, .ref m_bytes, .int 0, .ref m_w, .int 0, .int 0, .ref m_saved, .int 0, .ref m_line, .ref m_met, .ref m_waiting, .ref m_nextParent, .int 0, .ref m_kind, .ref m_number, .int 0, .ref m_begin, .ref m_table, .ref m_handlers, .ref m_base, .ref m_locals, .ref m_self, .ref m_found, .ref m_place, .ref m_next, .int 0, .ref m_saidKind, .ref m_saidNumber, .int 0, .int 0, .int (-1)])), (m_w, .inl (cI, 5568, .inl (fun _ => 0)))] := hD
  refine lv_aload_n hx hb d_Model_collect_5 rfl (lv_at hl 0 rfl) ?_
  refine lv_iconst (v := 0) hx hb d_Model_collect_6 (by decide) ?_
  refine lv_aload_n hx hb d_Model_collect_7 rfl (lv_at hl 0 rfl) ?_
  refine va_get (D := D) (ci := 8) (v := .int 0) (C := "TaleMachineModel") (T := F_Model) (N := 31) hx hb hts in_Model hown hK hP 0 rfl rfl 28 (by decide) (hts _ k_27) (fun _ h9 => h9) rfl d_Model_collect_8 ?_
  refine lv_aload_n hx hb d_Model_collect_11 rfl (lv_at hl 0 rfl) ?_
  refine va_get (D := D) (ci := 8) (v := .int 0) (C := "TaleMachineModel") (T := F_Model) (N := 31) hx hb hts in_Model hown hK hP 0 rfl rfl 29 (by decide) (hts _ k_28) (fun _ h9 => h9) rfl d_Model_collect_12 ?_
  refine mv_i (va_runV (C := "TaleMachineModel") (As := [.int 0, .int 0, .int 0]) (rest := []) ⟨hx, hb, hml, hown, hts⟩ (c_Model_mark l D cI cZ cJ _ _ _ _ _ _ _ _ _ _ _ _ _ _ _ _ _ _ _ _ _ 0 0 0 _ ) (cwV 3 hts (gInV k_30 k_31 k_32 k_4 k_29) rfl rfl rfl (by decide +kernel) ⟨Nat.le_of_ble_eq_true rfl, Nat.le_of_ble_eq_true rfl⟩) (pre_V (va_recv hK hP (q := ("TaleMachineModel", F_Model, 31)) rfl (q0 := 0) rfl) (hP.sub [0, 1] rfl) (hK.sub [0, 1, 2] rfl) (hD.sub [0, 1] (by decide) rfl) hT) rfl rfl hl.1 rfl (lv_room (Nat.le_of_ble_eq_true rfl)) d_Model_collect_15 ⟨Nat.le_of_ble_eq_true rfl, Nat.le_of_ble_eq_true rfl⟩) hP hD hS hA [0, 1] [] rfl rfl (by decide) (by decide) (wr := []) (wn := fun _ => [(h, .inr (8, [.int 0, .ref m_bytes, .int 0, .ref m_w, .int 0, .int 0, .ref m_saved, .int 0, .ref m_line, .ref m_met, .ref m_waiting, .ref m_nextParent, .int 0, .ref m_kind, .ref m_number, .int 0, .ref m_begin, .ref m_table, .ref m_handlers, .ref m_base, .ref m_locals, .ref m_self, .ref m_found, .ref m_place, .ref m_next, .int 0, .ref m_saidKind, .ref m_saidNumber, .int 0, .int 0, .int (-1)])), (m_w, .inl (cI, 5568, .inl (fun _ => 0)))]) (fun _ _ h9 => h9) (fun r1 _ H locs hp2 hP hD hS => ?_)
  have hP : va_P D cL [(h, .inr (8, [.int 0, .ref m_bytes, .int 0, .ref m_w, .int 0, .int 0, .ref m_saved, .int 0, .ref m_line, .ref m_met, .ref m_waiting, .ref m_nextParent, .int 0, .ref m_kind, .ref m_number, .int 0, .ref m_begin, .ref m_table, .ref m_handlers, .ref m_base, .ref m_locals, .ref m_self, .ref m_found, .ref m_place, .ref m_next, .int 0, .ref m_saidKind, .ref m_saidNumber, .int 0, .int 0, .int (-1)])), (m_w, .inl (cI, 5568, .inl (fun _ => 0)))] H := hP
  have hD : va_D A [(h, .inr (8, [.int 0, .ref m_bytes, .int 0, .ref m_w, .int 0, .int 0, .ref m_saved, .int 0, .ref m_line, .ref m_met, .ref m_waiting, .ref m_nextParent, .int 0, .ref m_kind, .ref m_number, .int 0, .ref m_begin, .ref m_table, .ref m_handlers, .ref m_base, .ref m_locals, .ref m_self, .ref m_found, .ref m_place, .ref m_next, .int 0, .ref m_saidKind, .ref m_saidNumber, .int 0, .int 0, .int (-1)])), (m_w, .inl (cI, 5568, .inl (fun _ => 0)))] := hD
  obtain rfl : r1 = 0 := hp2
  refine lv_istore_n (lv' := [(1, .int 0), (0, .ref h)]) hx hb d_Model_collect_18 rfl hl (by decide) rfl (fun ls hl => ?_)
  refine lv_iconst (v := 0) hx hb d_Model_collect_19 (by decide) ?_
  refine lv_istore_n (lv' := [(2, .int 0), (1, .int 0), (0, .ref h)]) hx hb d_Model_collect_20 rfl hl (by decide) rfl (fun ls hl => ?_)
  refine lp_W (I := fun k3 H locs ls => va_P D cL [(h, .inr (8, [.int 0, .ref m_bytes, .int 0, .ref m_w, .int 0, .int 0, .ref m_saved, .int 0, .ref m_line, .ref m_met, .ref m_waiting, .ref m_nextParent, .int 0, .ref m_kind, .ref m_number, .int 0, .ref m_begin, .ref m_table, .ref m_handlers, .ref m_base, .ref m_locals, .ref m_self, .ref m_found, .ref m_place, .ref m_next, .int 0, .ref m_saidKind, .ref m_saidNumber, .int 0, .int 0, .int (-1)])), (m_w, .inl (cI, 5568, .inl (fun _ => 0)))] H ∧ va_D A [(h, .inr (8, [.int 0, .ref m_bytes, .int 0, .ref m_w, .int 0, .int 0, .ref m_saved, .int 0, .ref m_line, .ref m_met, .ref m_waiting, .ref m_nextParent, .int 0, .ref m_kind, .ref m_number, .int 0, .ref m_begin, .ref m_table, .ref m_handlers, .ref m_base, .ref m_locals, .ref m_self, .ref m_found, .ref m_place, .ref m_next, .int 0, .ref m_saidKind, .ref m_saidNumber, .int 0, .int 0, .int (-1)])), (m_w, .inl (cI, 5568, .inl (fun _ => 0)))] ∧ va_S A s.heap H locs ∧ lv_has ls 6 [(2, .int (nI k3)), (1, .int 0), (0, .ref h)]) (a := 0) (b := 16) (by decide) ?_ _ _ _ ⟨hP, hD, hS, hl⟩
  intro k3 H locs ls hkak3 hkbk3 hI ih4
  obtain ⟨hP, hD, hS, hl⟩ := hI
  rcases Nat.lt_or_ge k3 16 with hkk3 | hkk3
  · refine lv_iload_n hx hb d_Model_collect_21 rfl (lv_at hl 0 rfl) ?_
    refine lv_bipush (v := 16) hx hb d_Model_collect_22 (by decide) ?_
    refine lv_icmp_ge hx hb d_Model_collect_24 (tgt := 41) (by decide) (fun hz => absurd hz (nI_ge hkk3 (by decide))) (fun _ => ?_)
    refine lv_aload_n hx hb d_Model_collect_27 rfl (lv_at hl 2 rfl) ?_
    refine lv_iload_n hx hb d_Model_collect_28 rfl (lv_at hl 1 rfl) ?_
    refine lv_iconst (v := 3) hx hb d_Model_collect_29 (by decide) ?_
    refine lv_iload_n hx hb d_Model_collect_30 rfl (lv_at hl 0 rfl) ?_
    refine mv_i (va_runV (C := "TaleMachineModel") (As := [.int 0, .int 3, .int (nI k3)]) (rest := []) ⟨hx, hb, hml, hown, hts⟩ (c_Model_mark l D cI cZ cJ _ _ _ _ _ _ _ _ _ _ _ _ _ _ _ _ _ _ _ _ _ 0 3 (nI k3) _ ) (cwV 3 hts (gInV k_30 k_31 k_32 k_4 k_29) rfl rfl rfl (by decide +kernel) ⟨Nat.le_of_ble_eq_true rfl, Nat.le_of_ble_eq_true rfl⟩) (pre_V (va_recv hK hP (q := ("TaleMachineModel", F_Model, 31)) rfl (q0 := 0) rfl) (hP.sub [0, 1] rfl) (hK.sub [0, 1, 2] rfl) (hD.sub [0, 1] (by decide) rfl) hT) rfl rfl hl.1 rfl (lv_room (Nat.le_of_ble_eq_true rfl)) d_Model_collect_31 ⟨Nat.le_of_ble_eq_true rfl, Nat.le_of_ble_eq_true rfl⟩) hP hD hS hA [0, 1] [] rfl rfl (by decide) (by decide) (wr := []) (wn := fun _ => [(h, .inr (8, [.int 0, .ref m_bytes, .int 0, .ref m_w, .int 0, .int 0, .ref m_saved, .int 0, .ref m_line, .ref m_met, .ref m_waiting, .ref m_nextParent, .int 0, .ref m_kind, .ref m_number, .int 0, .ref m_begin, .ref m_table, .ref m_handlers, .ref m_base, .ref m_locals, .ref m_self, .ref m_found, .ref m_place, .ref m_next, .int 0, .ref m_saidKind, .ref m_saidNumber, .int 0, .int 0, .int (-1)])), (m_w, .inl (cI, 5568, .inl (fun _ => 0)))]) (fun _ _ h9 => h9) (fun r5 _ H locs hp6 hP hD hS => ?_)
    have hP : va_P D cL [(h, .inr (8, [.int 0, .ref m_bytes, .int 0, .ref m_w, .int 0, .int 0, .ref m_saved, .int 0, .ref m_line, .ref m_met, .ref m_waiting, .ref m_nextParent, .int 0, .ref m_kind, .ref m_number, .int 0, .ref m_begin, .ref m_table, .ref m_handlers, .ref m_base, .ref m_locals, .ref m_self, .ref m_found, .ref m_place, .ref m_next, .int 0, .ref m_saidKind, .ref m_saidNumber, .int 0, .int 0, .int (-1)])), (m_w, .inl (cI, 5568, .inl (fun _ => 0)))] H := hP
    have hD : va_D A [(h, .inr (8, [.int 0, .ref m_bytes, .int 0, .ref m_w, .int 0, .int 0, .ref m_saved, .int 0, .ref m_line, .ref m_met, .ref m_waiting, .ref m_nextParent, .int 0, .ref m_kind, .ref m_number, .int 0, .ref m_begin, .ref m_table, .ref m_handlers, .ref m_base, .ref m_locals, .ref m_self, .ref m_found, .ref m_place, .ref m_next, .int 0, .ref m_saidKind, .ref m_saidNumber, .int 0, .int 0, .int (-1)])), (m_w, .inl (cI, 5568, .inl (fun _ => 0)))] := hD
    obtain rfl : r5 = 0 := hp6
    refine lv_istore_n (lv' := [(1, .int 0), (2, .int (nI k3)), (0, .ref h)]) hx hb d_Model_collect_34 rfl hl (by decide) rfl (fun ls hl => ?_)
    refine lv_iinc (v := (nI (k3 + 1))) (lv' := [(2, .int (nI (k3 + 1))), (1, .int 0), (0, .ref h)]) hx hb d_Model_collect_35 hl (k := 1) rfl (nI_1 k3) (by decide) rfl (fun ls hl => ?_)
    refine lv_goto hx hb d_Model_collect_38 (tgt := 21) (by decide) ?_
    exact ih4 hkk3 _ _ _ ⟨hP, hD, hS, lv_sub hl [0, 1, 2] rfl⟩
  · obtain rfl : k3 = 16 := by omega
    have hl : lv_has ls 6 [(2, .int 16), (1, .int 0), (0, .ref h)] := hl
    refine lv_iload_n hx hb d_Model_collect_21 rfl (lv_at hl 0 rfl) ?_
    refine lv_bipush (v := 16) hx hb d_Model_collect_22 (by decide) ?_
    refine lv_icmp_ge hx hb d_Model_collect_24 (tgt := 41) (by decide) (fun _ => ?_) (fun hz => absurd (by decide) hz)
    refine lv_iconst (v := 0) hx hb d_Model_collect_41 (by decide) ?_
    refine lv_istore_n (lv' := [(2, .int 0), (1, .int 0), (0, .ref h)]) hx hb d_Model_collect_42 rfl hl (by decide) rfl (fun ls hl => ?_)
    refine lv_iload_n hx hb d_Model_collect_43 rfl (lv_at hl 0 rfl) ?_
    refine lv_aload_n hx hb d_Model_collect_44 rfl (lv_at hl 2 rfl) ?_
    refine va_get (D := D) (ci := 8) (v := .int 0) (C := "TaleMachineModel") (T := F_Model) (N := 31) hx hb hts in_Model hown hK hP 0 rfl rfl 12 (by decide) (hts _ k_33) (fun _ h9 => h9) rfl d_Model_collect_45 ?_
    refine lv_icmp_ge hx hb d_Model_collect_48 (tgt := 75) (by decide) (fun _ => ?_) (fun hz => absurd (by decide) hz)
    refine lv_iconst (v := 0) hx hb d_Model_collect_75 (by decide) ?_
    refine lv_istore_n (lv' := [(2, .int 0), (1, .int 0), (0, .ref h)]) hx hb d_Model_collect_76 rfl hl (by decide) rfl (fun ls hl => ?_)
    refine lv_iload_n hx hb d_Model_collect_77 rfl (lv_at hl 0 rfl) ?_
    refine lv_aload_n hx hb d_Model_collect_78 rfl (lv_at hl 2 rfl) ?_
    refine va_get (D := D) (ci := 8) (v := .int 0) (C := "TaleMachineModel") (T := F_Model) (N := 31) hx hb hts in_Model hown hK hP 0 rfl rfl 15 (by decide) (hts _ k_34) (fun _ h9 => h9) rfl d_Model_collect_79 ?_
    refine lv_icmp_ge hx hb d_Model_collect_82 (tgt := 115) (by decide) (fun _ => ?_) (fun hz => absurd (by decide) hz)
    refine lv_iconst (v := 0) hx hb d_Model_collect_115 (by decide) ?_
    refine lv_istore_n (lv' := [(2, .int 0), (1, .int 0), (0, .ref h)]) hx hb d_Model_collect_116 rfl hl (by decide) rfl (fun ls hl => ?_)
    refine lv_iload_n hx hb d_Model_collect_117 rfl (lv_at hl 1 rfl) ?_
    refine lv_iload_n hx hb d_Model_collect_118 rfl (lv_at hl 0 rfl) ?_
    refine lv_icmp_eq hx hb d_Model_collect_119 (tgt := 133) (by decide) (fun _ => ?_) (fun hz => absurd (by decide) hz)
    refine lv_iconst (v := 0) hx hb d_Model_collect_133 (by decide) ?_
    refine lv_istore_n (lv' := [(3, .int 0), (2, .int 0), (1, .int 0), (0, .ref h)]) hx hb d_Model_collect_134 rfl hl (by decide) rfl (fun ls hl => ?_)
    refine lv_bipush (v := 16) hx hb d_Model_collect_135 (by decide) ?_
    refine lv_istore (lv' := [(4, .int 16), (3, .int 0), (2, .int 0), (1, .int 0), (0, .ref h)]) hx hb d_Model_collect_137 hl (by decide) rfl (fun ls hl => ?_)
    refine lp_W (I := fun k7 H locs ls => va_P D cL [(h, .inr (8, [.int 0, .ref m_bytes, .int 0, .ref m_w, .int 0, .int 0, .ref m_saved, .int 0, .ref m_line, .ref m_met, .ref m_waiting, .ref m_nextParent, .int 0, .ref m_kind, .ref m_number, .int 0, .ref m_begin, .ref m_table, .ref m_handlers, .ref m_base, .ref m_locals, .ref m_self, .ref m_found, .ref m_place, .ref m_next, .int 0, .ref m_saidKind, .ref m_saidNumber, .int 0, .int 0, .int (-1)])), (m_w, .inl (cI, 5568, .inl (fun _ => 0)))] H ∧ va_D A [(h, .inr (8, [.int 0, .ref m_bytes, .int 0, .ref m_w, .int 0, .int 0, .ref m_saved, .int 0, .ref m_line, .ref m_met, .ref m_waiting, .ref m_nextParent, .int 0, .ref m_kind, .ref m_number, .int 0, .ref m_begin, .ref m_table, .ref m_handlers, .ref m_base, .ref m_locals, .ref m_self, .ref m_found, .ref m_place, .ref m_next, .int 0, .ref m_saidKind, .ref m_saidNumber, .int 0, .int 0, .int (-1)])), (m_w, .inl (cI, 5568, .inl (fun _ => 0)))] ∧ va_S A s.heap H locs ∧ lv_has ls 6 [(4, .int (nI k7)), (3, .int 0), (2, .int 0), (1, .int 0), (0, .ref h)]) (a := 16) (b := 32) (by decide) ?_ _ _ _ ⟨hP, hD, hS, hl⟩
    intro k7 H locs ls hkak7 hkbk7 hI ih8
    obtain ⟨hP, hD, hS, hl⟩ := hI
    rcases Nat.lt_or_ge k7 32 with hkk7 | hkk7
    · refine lv_iload hx hb d_Model_collect_139 (lv_at hl 0 rfl) ?_
      refine lv_bipush (v := 32) hx hb d_Model_collect_141 (by decide) ?_
      refine lv_icmp_ge hx hb d_Model_collect_143 (tgt := 206) (by decide) (fun hz => absurd hz (nI_ge hkk7 (by decide))) (fun _ => ?_)
      refine lv_aload_n hx hb d_Model_collect_146 rfl (lv_at hl 4 rfl) ?_
      refine lv_iload hx hb d_Model_collect_147 (lv_at hl 0 rfl) ?_
      refine mv_i (va_runV (C := "TaleMachineModel") (As := [.int (nI k7)]) (rest := []) ⟨hx, hb, hml, hown, hts⟩ (c_Model_isThere l D cI cZ cJ _ _ _ _ _ _ _ _ _ _ _ _ _ _ _ _ _ _ _ _ _ (nI k7) _ ) (cwV 1 hts (gInV k_7 k_8 k_9 k_4 k_6) rfl rfl rfl (by decide +kernel) ⟨Nat.le_of_ble_eq_true rfl, Nat.le_of_ble_eq_true rfl⟩) (pre_V (va_recv hK hP (q := ("TaleMachineModel", F_Model, 31)) rfl (q0 := 0) rfl) (hP.sub [0, 1] rfl) (hK.sub [0, 1, 2] rfl) (hD.sub [0, 1] (by decide) rfl) hT) rfl rfl hl.1 rfl (lv_room (Nat.le_of_ble_eq_true rfl)) d_Model_collect_149 ⟨Nat.le_of_ble_eq_true rfl, Nat.le_of_ble_eq_true rfl⟩) hP hD hS hA [0, 1] [] rfl rfl (by decide) (by decide) (wr := []) (wn := fun _ => [(h, .inr (8, [.int 0, .ref m_bytes, .int 0, .ref m_w, .int 0, .int 0, .ref m_saved, .int 0, .ref m_line, .ref m_met, .ref m_waiting, .ref m_nextParent, .int 0, .ref m_kind, .ref m_number, .int 0, .ref m_begin, .ref m_table, .ref m_handlers, .ref m_base, .ref m_locals, .ref m_self, .ref m_found, .ref m_place, .ref m_next, .int 0, .ref m_saidKind, .ref m_saidNumber, .int 0, .int 0, .int (-1)])), (m_w, .inl (cI, 5568, .inl (fun _ => 0)))]) (fun _ _ h9 => h9) (fun r9 _ H locs hp10 hP hD hS => ?_)
      have hP : va_P D cL [(h, .inr (8, [.int 0, .ref m_bytes, .int 0, .ref m_w, .int 0, .int 0, .ref m_saved, .int 0, .ref m_line, .ref m_met, .ref m_waiting, .ref m_nextParent, .int 0, .ref m_kind, .ref m_number, .int 0, .ref m_begin, .ref m_table, .ref m_handlers, .ref m_base, .ref m_locals, .ref m_self, .ref m_found, .ref m_place, .ref m_next, .int 0, .ref m_saidKind, .ref m_saidNumber, .int 0, .int 0, .int (-1)])), (m_w, .inl (cI, 5568, .inl (fun _ => 0)))] H := hP
      have hD : va_D A [(h, .inr (8, [.int 0, .ref m_bytes, .int 0, .ref m_w, .int 0, .int 0, .ref m_saved, .int 0, .ref m_line, .ref m_met, .ref m_waiting, .ref m_nextParent, .int 0, .ref m_kind, .ref m_number, .int 0, .ref m_begin, .ref m_table, .ref m_handlers, .ref m_base, .ref m_locals, .ref m_self, .ref m_found, .ref m_place, .ref m_next, .int 0, .ref m_saidKind, .ref m_saidNumber, .int 0, .int 0, .int (-1)])), (m_w, .inl (cI, 5568, .inl (fun _ => 0)))] := hD
      obtain rfl : r9 = 0 := hp10
      refine lv_if_eq hx hb d_Model_collect_152 (tgt := 168) (by decide) (fun _ => ?_) (fun hz => absurd (by decide) hz)
      refine lv_iconst (v := 0) hx hb d_Model_collect_168 (by decide) ?_
      refine lv_istore (lv' := [(5, .int 0), (4, .int (nI k7)), (3, .int 0), (2, .int 0), (1, .int 0), (0, .ref h)]) hx hb d_Model_collect_169 hl (by decide) rfl (fun ls hl => ?_)
      refine lv_iload hx hb d_Model_collect_171 (lv_at hl 0 rfl) ?_
      refine lv_if_eq hx hb d_Model_collect_173 (tgt := 187) (by decide) (fun _ => ?_) (fun hz => absurd (by decide) hz)
      refine lv_iload hx hb d_Model_collect_187 (lv_at hl 0 rfl) ?_
      refine lv_if_eq hx hb d_Model_collect_189 (tgt := 198) (by decide) (fun _ => ?_) (fun hz => absurd (by decide) hz)
      refine lv_iload_n hx hb d_Model_collect_198 rfl (lv_at hl 2 rfl) ?_
      refine lv_istore_n (lv' := [(3, .int 0), (5, .int 0), (4, .int (nI k7)), (2, .int 0), (1, .int 0), (0, .ref h)]) hx hb d_Model_collect_199 rfl hl (by decide) rfl (fun ls hl => ?_)
      refine lv_iinc (v := (nI (k7 + 1))) (lv' := [(4, .int (nI (k7 + 1))), (3, .int 0), (5, .int 0), (2, .int 0), (1, .int 0), (0, .ref h)]) hx hb d_Model_collect_200 hl (k := 2) rfl (nI_1 k7) (by decide) rfl (fun ls hl => ?_)
      refine lv_goto hx hb d_Model_collect_203 (tgt := 139) (by decide) ?_
      exact ih8 hkk7 _ _ _ ⟨hP, hD, hS, lv_sub hl [0, 1, 3, 4, 5] rfl⟩
    · obtain rfl : k7 = 32 := by omega
      have hl : lv_has ls 6 [(4, .int 32), (3, .int 0), (2, .int 0), (1, .int 0), (0, .ref h)] := hl
      refine lv_iload hx hb d_Model_collect_139 (lv_at hl 0 rfl) ?_
      refine lv_bipush (v := 32) hx hb d_Model_collect_141 (by decide) ?_
      refine lv_icmp_ge hx hb d_Model_collect_143 (tgt := 206) (by decide) (fun _ => ?_) (fun hz => absurd (by decide) hz)
      refine lv_iload_n hx hb d_Model_collect_206 rfl (lv_at hl 1 rfl) ?_
      exact end_i hx hb hr hlocks hS (u := ()) (r := 0) (at_end (hP.sub (ws' := []) [] rfl) (hD.sub (ws' := []) [] (by decide) rfl)) (rfl) (Nat.le_of_ble_eq_true rfl) (Nat.le_of_ble_eq_true rfl) d_Model_collect_207

set_option maxHeartbeats 4000000 in
set_option maxRecDepth 100000 in
theorem c_Model_stack (l : Launch) (D : va_G) (cI cZ cJ : ClassId) (h m_bytes m_w m_saved m_line m_met m_waiting m_nextParent m_kind m_number m_begin m_table m_handlers m_base m_locals m_self m_found m_place m_next m_saidKind m_saidNumber : Nat) (k wh : Int32) (sz : Nat)  : Met l y_Model_stack (.code y_Model_stack prog_10_method_51_code 3 (some .int) :: AW) ({ frames := 1, cells := 0, slots := 0, locals := 22 }) (va_Pc [.ref h, .int k, .int wh] (pre_ D [(h, .inr (8, [.int 0, .ref m_bytes, .int 0, .ref m_w, .int 0, .int 0, .ref m_saved, .int 0, .ref m_line, .ref m_met, .ref m_waiting, .ref m_nextParent, .int 0, .ref m_kind, .ref m_number, .int 0, .ref m_begin, .ref m_table, .ref m_handlers, .ref m_base, .ref m_locals, .ref m_self, .ref m_found, .ref m_place, .ref m_next, .int 0, .ref m_saidKind, .ref m_saidNumber, .int 0, .int 0, .int (-1)]))] [(cI, .int), (cZ, .boolean), (cJ, .long)] sz)) (va_Qi (fun (r : Int32) (u : Unit) => r = 0) (fun _ t => post_ D (va_A [(h, .inr (8, [.int 0, .ref m_bytes, .int 0, .ref m_w, .int 0, .int 0, .ref m_saved, .int 0, .ref m_line, .ref m_met, .ref m_waiting, .ref m_nextParent, .int 0, .ref m_kind, .ref m_number, .int 0, .ref m_begin, .ref m_table, .ref m_handlers, .ref m_base, .ref m_locals, .ref m_self, .ref m_found, .ref m_place, .ref m_next, .int 0, .ref m_saidKind, .ref m_saidNumber, .int 0, .int 0, .int (-1)]))] sz) [(h, .inr (8, [.int 1, .ref m_bytes, .int 0, .ref m_w, .int 0, .int 0, .ref m_saved, .int 0, .ref m_line, .ref m_met, .ref m_waiting, .ref m_nextParent, .int 0, .ref m_kind, .ref m_number, .int 0, .ref m_begin, .ref m_table, .ref m_handlers, .ref m_base, .ref m_locals, .ref m_self, .ref m_found, .ref m_place, .ref m_next, .int 0, .ref m_saidKind, .ref m_saidNumber, .int 0, .int 0, .int (-1)]))] t) (va_A [(h, .inr (8, [.int 0, .ref m_bytes, .int 0, .ref m_w, .int 0, .int 0, .ref m_saved, .int 0, .ref m_line, .ref m_met, .ref m_waiting, .ref m_nextParent, .int 0, .ref m_kind, .ref m_number, .int 0, .ref m_begin, .ref m_table, .ref m_handlers, .ref m_base, .ref m_locals, .ref m_self, .ref m_found, .ref m_place, .ref m_next, .int 0, .ref m_saidKind, .ref m_saidNumber, .int 0, .int 0, .int (-1)]))] sz)) 0 0 (va_A [(h, .inr (8, [.int 0, .ref m_bytes, .int 0, .ref m_w, .int 0, .int 0, .ref m_saved, .int 0, .ref m_line, .ref m_met, .ref m_waiting, .ref m_nextParent, .int 0, .ref m_kind, .ref m_number, .int 0, .ref m_begin, .ref m_table, .ref m_handlers, .ref m_base, .ref m_locals, .ref m_self, .ref m_found, .ref m_place, .ref m_next, .int 0, .ref m_saidKind, .ref m_saidNumber, .int 0, .int 0, .int (-1)]))] sz) := by
  refine Met.ofW (cc := prog_10_method_51_code) (maxL := 3) (ret := (some .int)) (by decide) rfl ?_
  intro p e s m args below meth c s₁ B hml hv
  obtain ⟨rfl, rfl, hP, hK, hD0, hT⟩ := hv
  have hx := B.exec
  have hb := B.bytes
  have hr := B.returns
  have hts0 := atoms_spec (ws := .code y_Model_stack prog_10_method_51_code 3 (some .int) :: AW) B.pre
  have hts : ∀ w ∈ AW, w.before [.ref h, .int k, .int wh].toArray s = true := fun w h => hts0 w (List.mem_cons_of_mem _ h)
  have hown : s.vm.findClass "TaleMachineModel" = some m.cls := findClass_of_methodNamed B.named
  have hlocks := B.notSynchronized
  have hD := hD0.self (sz := s.heap.size)
  generalize hAe : va_A [(h, .inr (8, [.int 0, .ref m_bytes, .int 0, .ref m_w, .int 0, .int 0, .ref m_saved, .int 0, .ref m_line, .ref m_met, .ref m_waiting, .ref m_nextParent, .int 0, .ref m_kind, .ref m_number, .int 0, .ref m_begin, .ref m_table, .ref m_handlers, .ref m_base, .ref m_locals, .ref m_self, .ref m_found, .ref m_place, .ref m_next, .int 0, .ref m_saidKind, .ref m_saidNumber, .int 0, .int 0, .int (-1)]))] s.heap.size = A at hD ⊢
  have hA : ∀ q : Nat, s.heap.size ≤ q → A q := fun q h => by rw [← hAe]; exact Or.inr h
  have hS : va_S A s.heap s.heap [] := va_S.rf
  have hl := lv_entry ([.ref h, .int k, .int wh]) (n := 3) (Nat.le_of_ble_eq_true rfl)
  rw [lg_entry_eq]
  generalize (lg_sl ([.ref h, .int k, .int wh]) ++ List.replicate (3 - (lg_sl ([.ref h, .int k, .int wh])).length) Slot.unset).toArray = ls at hl ⊢
  have hl : lv_has ls 3 [(0, .ref h), (1, .int k), (2, .int wh)] := hl
  refine lv_iload_n hx hb d_Model_stack_0 rfl (lv_at hl 1 rfl) ?_
  refine lv_iconst (v := 0) hx hb d_Model_stack_1 (by decide) ?_
  refine lv_aload_n hx hb d_Model_stack_2 rfl (lv_at hl 0 rfl) ?_
  refine va_get (D := D) (ci := 8) (v := .int 0) (C := "TaleMachineModel") (T := F_Model) (N := 31) hx hb hts in_Model hown hK hP 0 rfl rfl 12 (by decide) (hts _ k_33) (fun _ h9 => h9) rfl d_Model_stack_3 ?_
  refine lv_iconst (v := 1) hx hb d_Model_stack_6 (by decide) ?_
  refine lv_isub hx hb d_Model_stack_7 ?_
  refine lv_topi (fun z1 hz1 => ?_)
  obtain rfl : z1 = (-1) := hz1.trans (by decide)
  refine mv_i (va_runS (As := [.int k, .int 0, .int (-1)]) (rest := []) ⟨hx, hb, hml, hown, hts⟩ (c_Model_outside l D cI cZ cJ k 0 (-1) _ ) (va_cwS 3 hts (gInS k_2 k_3 k_4 k_1) rfl rfl rfl (by decide +kernel) ⟨Nat.le_of_ble_eq_true rfl, Nat.le_of_ble_eq_true rfl⟩) (pre_S (hP.sub [] rfl) (hK.sub [0, 1, 2] rfl) (hD.sub [] (by decide) rfl) hT) rfl rfl hl.1 rfl (lv_room (Nat.le_of_ble_eq_true rfl)) d_Model_stack_8 ⟨Nat.le_of_ble_eq_true rfl, Nat.le_of_ble_eq_true rfl⟩) hP hD hS hA [] [0] rfl rfl (by decide) (by decide) (wr := [(h, .inr (8, [.int 0, .ref m_bytes, .int 0, .ref m_w, .int 0, .int 0, .ref m_saved, .int 0, .ref m_line, .ref m_met, .ref m_waiting, .ref m_nextParent, .int 0, .ref m_kind, .ref m_number, .int 0, .ref m_begin, .ref m_table, .ref m_handlers, .ref m_base, .ref m_locals, .ref m_self, .ref m_found, .ref m_place, .ref m_next, .int 0, .ref m_saidKind, .ref m_saidNumber, .int 0, .int 0, .int (-1)]))]) (wn := fun _ => []) (fun _ _ h9 => h9) (fun r2 _ H locs hp3 hP hD hS => ?_)
  have hP : va_P D cL [(h, .inr (8, [.int 0, .ref m_bytes, .int 0, .ref m_w, .int 0, .int 0, .ref m_saved, .int 0, .ref m_line, .ref m_met, .ref m_waiting, .ref m_nextParent, .int 0, .ref m_kind, .ref m_number, .int 0, .ref m_begin, .ref m_table, .ref m_handlers, .ref m_base, .ref m_locals, .ref m_self, .ref m_found, .ref m_place, .ref m_next, .int 0, .ref m_saidKind, .ref m_saidNumber, .int 0, .int 0, .int (-1)]))] H := hP
  have hD : va_D A [(h, .inr (8, [.int 0, .ref m_bytes, .int 0, .ref m_w, .int 0, .int 0, .ref m_saved, .int 0, .ref m_line, .ref m_met, .ref m_waiting, .ref m_nextParent, .int 0, .ref m_kind, .ref m_number, .int 0, .ref m_begin, .ref m_table, .ref m_handlers, .ref m_base, .ref m_locals, .ref m_self, .ref m_found, .ref m_place, .ref m_next, .int 0, .ref m_saidKind, .ref m_saidNumber, .int 0, .int 0, .int (-1)]))] := hD
  refine lv_if_ne hx hb d_Model_stack_11 (tgt := 23) (by decide) (fun _ => ?_) (fun hz => absurd hz (by rw [hp3.2.mpr (md_all k)]; decide))
  refine lv_aload_n hx hb d_Model_stack_23 rfl (lv_at hl 0 rfl) ?_
  refine lv_iconst (v := 1) hx hb d_Model_stack_24 (by decide) ?_
  refine mv_i (va_runV (C := "TaleMachineModel") (As := [.int 1]) (rest := []) ⟨hx, hb, hml, hown, hts⟩ (c_Model_refuse l D cI cZ cJ _ _ _ _ _ _ _ _ _ _ _ _ _ _ _ _ _ _ _ _ _ 1 _ ) (cwV 1 hts (gInV k_36 k_37 k_38 k_4 k_35) rfl rfl rfl (by decide +kernel) ⟨Nat.le_of_ble_eq_true rfl, Nat.le_of_ble_eq_true rfl⟩) (pre_V (va_recv hK hP (q := ("TaleMachineModel", F_Model, 31)) rfl (q0 := 0) rfl) (hP.sub [0] rfl) (hK.sub [0, 1, 2] rfl) (hD.sub [0] (by decide) rfl) hT) rfl rfl hl.1 rfl (lv_room (Nat.le_of_ble_eq_true rfl)) d_Model_stack_25 ⟨Nat.le_of_ble_eq_true rfl, Nat.le_of_ble_eq_true rfl⟩) hP hD hS hA [0] [] rfl rfl (by decide) (by decide) (wr := []) (wn := fun _ => [(h, .inr (8, [.int 1, .ref m_bytes, .int 0, .ref m_w, .int 0, .int 0, .ref m_saved, .int 0, .ref m_line, .ref m_met, .ref m_waiting, .ref m_nextParent, .int 0, .ref m_kind, .ref m_number, .int 0, .ref m_begin, .ref m_table, .ref m_handlers, .ref m_base, .ref m_locals, .ref m_self, .ref m_found, .ref m_place, .ref m_next, .int 0, .ref m_saidKind, .ref m_saidNumber, .int 0, .int 0, .int (-1)]))]) (fun _ _ h9 => h9) (fun r4 _ H locs hp5 hP hD hS => ?_)
  have hP : va_P D cL [(h, .inr (8, [.int 1, .ref m_bytes, .int 0, .ref m_w, .int 0, .int 0, .ref m_saved, .int 0, .ref m_line, .ref m_met, .ref m_waiting, .ref m_nextParent, .int 0, .ref m_kind, .ref m_number, .int 0, .ref m_begin, .ref m_table, .ref m_handlers, .ref m_base, .ref m_locals, .ref m_self, .ref m_found, .ref m_place, .ref m_next, .int 0, .ref m_saidKind, .ref m_saidNumber, .int 0, .int 0, .int (-1)]))] H := hP
  have hD : va_D A [(h, .inr (8, [.int 1, .ref m_bytes, .int 0, .ref m_w, .int 0, .int 0, .ref m_saved, .int 0, .ref m_line, .ref m_met, .ref m_waiting, .ref m_nextParent, .int 0, .ref m_kind, .ref m_number, .int 0, .ref m_begin, .ref m_table, .ref m_handlers, .ref m_base, .ref m_locals, .ref m_self, .ref m_found, .ref m_place, .ref m_next, .int 0, .ref m_saidKind, .ref m_saidNumber, .int 0, .int 0, .int (-1)]))] := hD
  obtain rfl : r4 = 0 := hp5
  exact end_i hx hb hr hlocks hS (u := ()) (r := 0) (at_end (hP.sub (ws' := [(h, .inr (8, [.int 1, .ref m_bytes, .int 0, .ref m_w, .int 0, .int 0, .ref m_saved, .int 0, .ref m_line, .ref m_met, .ref m_waiting, .ref m_nextParent, .int 0, .ref m_kind, .ref m_number, .int 0, .ref m_begin, .ref m_table, .ref m_handlers, .ref m_base, .ref m_locals, .ref m_self, .ref m_found, .ref m_place, .ref m_next, .int 0, .ref m_saidKind, .ref m_saidNumber, .int 0, .int 0, .int (-1)]))]) [0] rfl) (hD.sub (ws' := [(h, .inr (8, [.int 1, .ref m_bytes, .int 0, .ref m_w, .int 0, .int 0, .ref m_saved, .int 0, .ref m_line, .ref m_met, .ref m_waiting, .ref m_nextParent, .int 0, .ref m_kind, .ref m_number, .int 0, .ref m_begin, .ref m_table, .ref m_handlers, .ref m_base, .ref m_locals, .ref m_self, .ref m_found, .ref m_place, .ref m_next, .int 0, .ref m_saidKind, .ref m_saidNumber, .int 0, .int 0, .int (-1)]))]) [0] (by decide) rfl)) (rfl) (Nat.le_of_ble_eq_true rfl) (Nat.le_of_ble_eq_true rfl) d_Model_stack_28

set_option maxHeartbeats 4000000 in
set_option maxRecDepth 100000 in
theorem c_Model_said (l : Launch) (D : va_G) (cI cZ cJ : ClassId) (h m_bytes m_w m_saved m_line m_met m_waiting m_nextParent m_kind m_number m_begin m_table m_handlers m_base m_locals m_self m_found m_place m_next m_saidKind m_saidNumber : Nat) (k wh : Int32) (sz : Nat)  : Met l y_Model_said (.code y_Model_said prog_10_method_53_code 3 (some .int) :: AW) ({ frames := 1, cells := 0, slots := 0, locals := 22 }) (va_Pc [.ref h, .int k, .int wh] (pre_ D [(h, .inr (8, [.int 0, .ref m_bytes, .int 0, .ref m_w, .int 0, .int 0, .ref m_saved, .int 0, .ref m_line, .ref m_met, .ref m_waiting, .ref m_nextParent, .int 0, .ref m_kind, .ref m_number, .int 0, .ref m_begin, .ref m_table, .ref m_handlers, .ref m_base, .ref m_locals, .ref m_self, .ref m_found, .ref m_place, .ref m_next, .int 0, .ref m_saidKind, .ref m_saidNumber, .int 0, .int 0, .int (-1)]))] [(cI, .int), (cZ, .boolean), (cJ, .long)] sz)) (va_Qi (fun (r : Int32) (u : Unit) => r = 0) (fun _ t => post_ D (va_A [(h, .inr (8, [.int 0, .ref m_bytes, .int 0, .ref m_w, .int 0, .int 0, .ref m_saved, .int 0, .ref m_line, .ref m_met, .ref m_waiting, .ref m_nextParent, .int 0, .ref m_kind, .ref m_number, .int 0, .ref m_begin, .ref m_table, .ref m_handlers, .ref m_base, .ref m_locals, .ref m_self, .ref m_found, .ref m_place, .ref m_next, .int 0, .ref m_saidKind, .ref m_saidNumber, .int 0, .int 0, .int (-1)]))] sz) [(h, .inr (8, [.int 1, .ref m_bytes, .int 0, .ref m_w, .int 0, .int 0, .ref m_saved, .int 0, .ref m_line, .ref m_met, .ref m_waiting, .ref m_nextParent, .int 0, .ref m_kind, .ref m_number, .int 0, .ref m_begin, .ref m_table, .ref m_handlers, .ref m_base, .ref m_locals, .ref m_self, .ref m_found, .ref m_place, .ref m_next, .int 0, .ref m_saidKind, .ref m_saidNumber, .int 0, .int 0, .int (-1)]))] t) (va_A [(h, .inr (8, [.int 0, .ref m_bytes, .int 0, .ref m_w, .int 0, .int 0, .ref m_saved, .int 0, .ref m_line, .ref m_met, .ref m_waiting, .ref m_nextParent, .int 0, .ref m_kind, .ref m_number, .int 0, .ref m_begin, .ref m_table, .ref m_handlers, .ref m_base, .ref m_locals, .ref m_self, .ref m_found, .ref m_place, .ref m_next, .int 0, .ref m_saidKind, .ref m_saidNumber, .int 0, .int 0, .int (-1)]))] sz)) 0 0 (va_A [(h, .inr (8, [.int 0, .ref m_bytes, .int 0, .ref m_w, .int 0, .int 0, .ref m_saved, .int 0, .ref m_line, .ref m_met, .ref m_waiting, .ref m_nextParent, .int 0, .ref m_kind, .ref m_number, .int 0, .ref m_begin, .ref m_table, .ref m_handlers, .ref m_base, .ref m_locals, .ref m_self, .ref m_found, .ref m_place, .ref m_next, .int 0, .ref m_saidKind, .ref m_saidNumber, .int 0, .int 0, .int (-1)]))] sz) := by
  refine Met.ofW (cc := prog_10_method_53_code) (maxL := 3) (ret := (some .int)) (by decide) rfl ?_
  intro p e s m args below meth c s₁ B hml hv
  obtain ⟨rfl, rfl, hP, hK, hD0, hT⟩ := hv
  have hx := B.exec
  have hb := B.bytes
  have hr := B.returns
  have hts0 := atoms_spec (ws := .code y_Model_said prog_10_method_53_code 3 (some .int) :: AW) B.pre
  have hts : ∀ w ∈ AW, w.before [.ref h, .int k, .int wh].toArray s = true := fun w h => hts0 w (List.mem_cons_of_mem _ h)
  have hown : s.vm.findClass "TaleMachineModel" = some m.cls := findClass_of_methodNamed B.named
  have hlocks := B.notSynchronized
  have hD := hD0.self (sz := s.heap.size)
  generalize hAe : va_A [(h, .inr (8, [.int 0, .ref m_bytes, .int 0, .ref m_w, .int 0, .int 0, .ref m_saved, .int 0, .ref m_line, .ref m_met, .ref m_waiting, .ref m_nextParent, .int 0, .ref m_kind, .ref m_number, .int 0, .ref m_begin, .ref m_table, .ref m_handlers, .ref m_base, .ref m_locals, .ref m_self, .ref m_found, .ref m_place, .ref m_next, .int 0, .ref m_saidKind, .ref m_saidNumber, .int 0, .int 0, .int (-1)]))] s.heap.size = A at hD ⊢
  have hA : ∀ q : Nat, s.heap.size ≤ q → A q := fun q h => by rw [← hAe]; exact Or.inr h
  have hS : va_S A s.heap s.heap [] := va_S.rf
  have hl := lv_entry ([.ref h, .int k, .int wh]) (n := 3) (Nat.le_of_ble_eq_true rfl)
  rw [lg_entry_eq]
  generalize (lg_sl ([.ref h, .int k, .int wh]) ++ List.replicate (3 - (lg_sl ([.ref h, .int k, .int wh])).length) Slot.unset).toArray = ls at hl ⊢
  have hl : lv_has ls 3 [(0, .ref h), (1, .int k), (2, .int wh)] := hl
  refine lv_iload_n hx hb d_Model_said_0 rfl (lv_at hl 1 rfl) ?_
  refine lv_iconst (v := (-1)) hx hb d_Model_said_1 (by decide) ?_
  refine lv_aload_n hx hb d_Model_said_2 rfl (lv_at hl 0 rfl) ?_
  refine va_get (D := D) (ci := 8) (v := .int 0) (C := "TaleMachineModel") (T := F_Model) (N := 31) hx hb hts in_Model hown hK hP 0 rfl rfl 25 (by decide) (hts _ k_39) (fun _ h9 => h9) rfl d_Model_said_3 ?_
  refine lv_iconst (v := 1) hx hb d_Model_said_6 (by decide) ?_
  refine lv_isub hx hb d_Model_said_7 ?_
  refine lv_topi (fun z1 hz1 => ?_)
  obtain rfl : z1 = (-1) := hz1.trans (by decide)
  refine mv_i (va_runS (As := [.int k, .int (-1), .int (-1)]) (rest := []) ⟨hx, hb, hml, hown, hts⟩ (c_Model_outside l D cI cZ cJ k (-1) (-1) _ ) (va_cwS 3 hts (gInS k_2 k_3 k_4 k_1) rfl rfl rfl (by decide +kernel) ⟨Nat.le_of_ble_eq_true rfl, Nat.le_of_ble_eq_true rfl⟩) (pre_S (hP.sub [] rfl) (hK.sub [0, 1, 2] rfl) (hD.sub [] (by decide) rfl) hT) rfl rfl hl.1 rfl (lv_room (Nat.le_of_ble_eq_true rfl)) d_Model_said_8 ⟨Nat.le_of_ble_eq_true rfl, Nat.le_of_ble_eq_true rfl⟩) hP hD hS hA [] [0] rfl rfl (by decide) (by decide) (wr := [(h, .inr (8, [.int 0, .ref m_bytes, .int 0, .ref m_w, .int 0, .int 0, .ref m_saved, .int 0, .ref m_line, .ref m_met, .ref m_waiting, .ref m_nextParent, .int 0, .ref m_kind, .ref m_number, .int 0, .ref m_begin, .ref m_table, .ref m_handlers, .ref m_base, .ref m_locals, .ref m_self, .ref m_found, .ref m_place, .ref m_next, .int 0, .ref m_saidKind, .ref m_saidNumber, .int 0, .int 0, .int (-1)]))]) (wn := fun _ => []) (fun _ _ h9 => h9) (fun r2 _ H locs hp3 hP hD hS => ?_)
  have hP : va_P D cL [(h, .inr (8, [.int 0, .ref m_bytes, .int 0, .ref m_w, .int 0, .int 0, .ref m_saved, .int 0, .ref m_line, .ref m_met, .ref m_waiting, .ref m_nextParent, .int 0, .ref m_kind, .ref m_number, .int 0, .ref m_begin, .ref m_table, .ref m_handlers, .ref m_base, .ref m_locals, .ref m_self, .ref m_found, .ref m_place, .ref m_next, .int 0, .ref m_saidKind, .ref m_saidNumber, .int 0, .int 0, .int (-1)]))] H := hP
  have hD : va_D A [(h, .inr (8, [.int 0, .ref m_bytes, .int 0, .ref m_w, .int 0, .int 0, .ref m_saved, .int 0, .ref m_line, .ref m_met, .ref m_waiting, .ref m_nextParent, .int 0, .ref m_kind, .ref m_number, .int 0, .ref m_begin, .ref m_table, .ref m_handlers, .ref m_base, .ref m_locals, .ref m_self, .ref m_found, .ref m_place, .ref m_next, .int 0, .ref m_saidKind, .ref m_saidNumber, .int 0, .int 0, .int (-1)]))] := hD
  refine lv_if_ne hx hb d_Model_said_11 (tgt := 44) (by decide) (fun hc4 => ?_) (fun hc4 => ?_)
  · refine lv_aload_n hx hb d_Model_said_44 rfl (lv_at hl 0 rfl) ?_
    refine lv_iconst (v := 1) hx hb d_Model_said_45 (by decide) ?_
    refine mv_i (va_runV (C := "TaleMachineModel") (As := [.int 1]) (rest := []) ⟨hx, hb, hml, hown, hts⟩ (c_Model_refuse l D cI cZ cJ _ _ _ _ _ _ _ _ _ _ _ _ _ _ _ _ _ _ _ _ _ 1 _ ) (cwV 1 hts (gInV k_36 k_37 k_38 k_4 k_35) rfl rfl rfl (by decide +kernel) ⟨Nat.le_of_ble_eq_true rfl, Nat.le_of_ble_eq_true rfl⟩) (pre_V (va_recv hK hP (q := ("TaleMachineModel", F_Model, 31)) rfl (q0 := 0) rfl) (hP.sub [0] rfl) (hK.sub [0, 1, 2] rfl) (hD.sub [0] (by decide) rfl) hT) rfl rfl hl.1 rfl (lv_room (Nat.le_of_ble_eq_true rfl)) d_Model_said_46 ⟨Nat.le_of_ble_eq_true rfl, Nat.le_of_ble_eq_true rfl⟩) hP hD hS hA [0] [] rfl rfl (by decide) (by decide) (wr := []) (wn := fun _ => [(h, .inr (8, [.int 1, .ref m_bytes, .int 0, .ref m_w, .int 0, .int 0, .ref m_saved, .int 0, .ref m_line, .ref m_met, .ref m_waiting, .ref m_nextParent, .int 0, .ref m_kind, .ref m_number, .int 0, .ref m_begin, .ref m_table, .ref m_handlers, .ref m_base, .ref m_locals, .ref m_self, .ref m_found, .ref m_place, .ref m_next, .int 0, .ref m_saidKind, .ref m_saidNumber, .int 0, .int 0, .int (-1)]))]) (fun _ _ h9 => h9) (fun r5 _ H locs hp6 hP hD hS => ?_)
    have hP : va_P D cL [(h, .inr (8, [.int 1, .ref m_bytes, .int 0, .ref m_w, .int 0, .int 0, .ref m_saved, .int 0, .ref m_line, .ref m_met, .ref m_waiting, .ref m_nextParent, .int 0, .ref m_kind, .ref m_number, .int 0, .ref m_begin, .ref m_table, .ref m_handlers, .ref m_base, .ref m_locals, .ref m_self, .ref m_found, .ref m_place, .ref m_next, .int 0, .ref m_saidKind, .ref m_saidNumber, .int 0, .int 0, .int (-1)]))] H := hP
    have hD : va_D A [(h, .inr (8, [.int 1, .ref m_bytes, .int 0, .ref m_w, .int 0, .int 0, .ref m_saved, .int 0, .ref m_line, .ref m_met, .ref m_waiting, .ref m_nextParent, .int 0, .ref m_kind, .ref m_number, .int 0, .ref m_begin, .ref m_table, .ref m_handlers, .ref m_base, .ref m_locals, .ref m_self, .ref m_found, .ref m_place, .ref m_next, .int 0, .ref m_saidKind, .ref m_saidNumber, .int 0, .int 0, .int (-1)]))] := hD
    obtain rfl : r5 = 0 := hp6
    exact end_i hx hb hr hlocks hS (u := ()) (r := 0) (at_end (hP.sub (ws' := [(h, .inr (8, [.int 1, .ref m_bytes, .int 0, .ref m_w, .int 0, .int 0, .ref m_saved, .int 0, .ref m_line, .ref m_met, .ref m_waiting, .ref m_nextParent, .int 0, .ref m_kind, .ref m_number, .int 0, .ref m_begin, .ref m_table, .ref m_handlers, .ref m_base, .ref m_locals, .ref m_self, .ref m_found, .ref m_place, .ref m_next, .int 0, .ref m_saidKind, .ref m_saidNumber, .int 0, .int 0, .int (-1)]))]) [0] rfl) (hD.sub (ws' := [(h, .inr (8, [.int 1, .ref m_bytes, .int 0, .ref m_w, .int 0, .int 0, .ref m_saved, .int 0, .ref m_line, .ref m_met, .ref m_waiting, .ref m_nextParent, .int 0, .ref m_kind, .ref m_number, .int 0, .ref m_begin, .ref m_table, .ref m_handlers, .ref m_base, .ref m_locals, .ref m_self, .ref m_found, .ref m_place, .ref m_next, .int 0, .ref m_saidKind, .ref m_saidNumber, .int 0, .int 0, .int (-1)]))]) [0] (by decide) rfl)) (rfl) (Nat.le_of_ble_eq_true rfl) (Nat.le_of_ble_eq_true rfl) d_Model_said_49
  · refine lv_iload_n hx hb d_Model_said_14 rfl (lv_at hl 2 rfl) ?_
    refine lv_iconst (v := 0) hx hb d_Model_said_15 (by decide) ?_
    refine lv_iconst (v := 1) hx hb d_Model_said_16 (by decide) ?_
    refine mv_i (va_runS (As := [.int wh, .int 0, .int 1]) (rest := []) ⟨hx, hb, hml, hown, hts⟩ (c_Model_outside l D cI cZ cJ wh 0 1 _ ) (va_cwS 3 hts (gInS k_2 k_3 k_4 k_1) rfl rfl rfl (by decide +kernel) ⟨Nat.le_of_ble_eq_true rfl, Nat.le_of_ble_eq_true rfl⟩) (pre_S (hP.sub [] rfl) (hK.sub [0, 1, 2] rfl) (hD.sub [] (by decide) rfl) hT) rfl rfl hl.1 rfl (lv_room (Nat.le_of_ble_eq_true rfl)) d_Model_said_17 ⟨Nat.le_of_ble_eq_true rfl, Nat.le_of_ble_eq_true rfl⟩) hP hD hS hA [] [0] rfl rfl (by decide) (by decide) (wr := [(h, .inr (8, [.int 0, .ref m_bytes, .int 0, .ref m_w, .int 0, .int 0, .ref m_saved, .int 0, .ref m_line, .ref m_met, .ref m_waiting, .ref m_nextParent, .int 0, .ref m_kind, .ref m_number, .int 0, .ref m_begin, .ref m_table, .ref m_handlers, .ref m_base, .ref m_locals, .ref m_self, .ref m_found, .ref m_place, .ref m_next, .int 0, .ref m_saidKind, .ref m_saidNumber, .int 0, .int 0, .int (-1)]))]) (wn := fun _ => []) (fun _ _ h9 => h9) (fun r7 _ H locs hp8 hP hD hS => ?_)
    have hP : va_P D cL [(h, .inr (8, [.int 0, .ref m_bytes, .int 0, .ref m_w, .int 0, .int 0, .ref m_saved, .int 0, .ref m_line, .ref m_met, .ref m_waiting, .ref m_nextParent, .int 0, .ref m_kind, .ref m_number, .int 0, .ref m_begin, .ref m_table, .ref m_handlers, .ref m_base, .ref m_locals, .ref m_self, .ref m_found, .ref m_place, .ref m_next, .int 0, .ref m_saidKind, .ref m_saidNumber, .int 0, .int 0, .int (-1)]))] H := hP
    have hD : va_D A [(h, .inr (8, [.int 0, .ref m_bytes, .int 0, .ref m_w, .int 0, .int 0, .ref m_saved, .int 0, .ref m_line, .ref m_met, .ref m_waiting, .ref m_nextParent, .int 0, .ref m_kind, .ref m_number, .int 0, .ref m_begin, .ref m_table, .ref m_handlers, .ref m_base, .ref m_locals, .ref m_self, .ref m_found, .ref m_place, .ref m_next, .int 0, .ref m_saidKind, .ref m_saidNumber, .int 0, .int 0, .int (-1)]))] := hD
    refine lv_if_ne hx hb d_Model_said_20 (tgt := 44) (by decide) (fun hc9 => ?_) (fun hc9 => ?_)
    · refine lv_aload_n hx hb d_Model_said_44 rfl (lv_at hl 0 rfl) ?_
      refine lv_iconst (v := 1) hx hb d_Model_said_45 (by decide) ?_
      refine mv_i (va_runV (C := "TaleMachineModel") (As := [.int 1]) (rest := []) ⟨hx, hb, hml, hown, hts⟩ (c_Model_refuse l D cI cZ cJ _ _ _ _ _ _ _ _ _ _ _ _ _ _ _ _ _ _ _ _ _ 1 _ ) (cwV 1 hts (gInV k_36 k_37 k_38 k_4 k_35) rfl rfl rfl (by decide +kernel) ⟨Nat.le_of_ble_eq_true rfl, Nat.le_of_ble_eq_true rfl⟩) (pre_V (va_recv hK hP (q := ("TaleMachineModel", F_Model, 31)) rfl (q0 := 0) rfl) (hP.sub [0] rfl) (hK.sub [0, 1, 2] rfl) (hD.sub [0] (by decide) rfl) hT) rfl rfl hl.1 rfl (lv_room (Nat.le_of_ble_eq_true rfl)) d_Model_said_46 ⟨Nat.le_of_ble_eq_true rfl, Nat.le_of_ble_eq_true rfl⟩) hP hD hS hA [0] [] rfl rfl (by decide) (by decide) (wr := []) (wn := fun _ => [(h, .inr (8, [.int 1, .ref m_bytes, .int 0, .ref m_w, .int 0, .int 0, .ref m_saved, .int 0, .ref m_line, .ref m_met, .ref m_waiting, .ref m_nextParent, .int 0, .ref m_kind, .ref m_number, .int 0, .ref m_begin, .ref m_table, .ref m_handlers, .ref m_base, .ref m_locals, .ref m_self, .ref m_found, .ref m_place, .ref m_next, .int 0, .ref m_saidKind, .ref m_saidNumber, .int 0, .int 0, .int (-1)]))]) (fun _ _ h9 => h9) (fun r10 _ H locs hp11 hP hD hS => ?_)
      have hP : va_P D cL [(h, .inr (8, [.int 1, .ref m_bytes, .int 0, .ref m_w, .int 0, .int 0, .ref m_saved, .int 0, .ref m_line, .ref m_met, .ref m_waiting, .ref m_nextParent, .int 0, .ref m_kind, .ref m_number, .int 0, .ref m_begin, .ref m_table, .ref m_handlers, .ref m_base, .ref m_locals, .ref m_self, .ref m_found, .ref m_place, .ref m_next, .int 0, .ref m_saidKind, .ref m_saidNumber, .int 0, .int 0, .int (-1)]))] H := hP
      have hD : va_D A [(h, .inr (8, [.int 1, .ref m_bytes, .int 0, .ref m_w, .int 0, .int 0, .ref m_saved, .int 0, .ref m_line, .ref m_met, .ref m_waiting, .ref m_nextParent, .int 0, .ref m_kind, .ref m_number, .int 0, .ref m_begin, .ref m_table, .ref m_handlers, .ref m_base, .ref m_locals, .ref m_self, .ref m_found, .ref m_place, .ref m_next, .int 0, .ref m_saidKind, .ref m_saidNumber, .int 0, .int 0, .int (-1)]))] := hD
      obtain rfl : r10 = 0 := hp11
      exact end_i hx hb hr hlocks hS (u := ()) (r := 0) (at_end (hP.sub (ws' := [(h, .inr (8, [.int 1, .ref m_bytes, .int 0, .ref m_w, .int 0, .int 0, .ref m_saved, .int 0, .ref m_line, .ref m_met, .ref m_waiting, .ref m_nextParent, .int 0, .ref m_kind, .ref m_number, .int 0, .ref m_begin, .ref m_table, .ref m_handlers, .ref m_base, .ref m_locals, .ref m_self, .ref m_found, .ref m_place, .ref m_next, .int 0, .ref m_saidKind, .ref m_saidNumber, .int 0, .int 0, .int (-1)]))]) [0] rfl) (hD.sub (ws' := [(h, .inr (8, [.int 1, .ref m_bytes, .int 0, .ref m_w, .int 0, .int 0, .ref m_saved, .int 0, .ref m_line, .ref m_met, .ref m_waiting, .ref m_nextParent, .int 0, .ref m_kind, .ref m_number, .int 0, .ref m_begin, .ref m_table, .ref m_handlers, .ref m_base, .ref m_locals, .ref m_self, .ref m_found, .ref m_place, .ref m_next, .int 0, .ref m_saidKind, .ref m_saidNumber, .int 0, .int 0, .int (-1)]))]) [0] (by decide) rfl)) (rfl) (Nat.le_of_ble_eq_true rfl) (Nat.le_of_ble_eq_true rfl) d_Model_said_49
    · refine lv_iload_n hx hb d_Model_said_23 rfl (lv_at hl 1 rfl) ?_
      refine lv_iconst (v := (-1)) hx hb d_Model_said_24 (by decide) ?_
      refine lv_icmp_ne hx hb d_Model_said_25 (tgt := 50) (by decide) (fun hz => absurd (md_eq (fun hh => absurd (hp3.2.mpr hh) (by rw [hc4]; decide))) hz) (fun _ => ?_)
      refine lv_aload_n hx hb d_Model_said_28 rfl (lv_at hl 0 rfl) ?_
      refine va_get (D := D) (ci := 8) (v := .int (-1)) (C := "TaleMachineModel") (T := F_Model) (N := 31) hx hb hts in_Model hown hK hP 0 rfl rfl 30 (by decide) (hts _ k_20) (fun _ h9 => h9) rfl d_Model_said_29 ?_
      refine lv_iconst (v := 1) hx hb d_Model_said_32 (by decide) ?_
      refine lv_icmp_eq hx hb d_Model_said_33 (tgt := 50) (by decide) (fun hz => absurd hz (by decide)) (fun _ => ?_)
      refine lv_aload_n hx hb d_Model_said_36 rfl (lv_at hl 0 rfl) ?_
      refine va_get (D := D) (ci := 8) (v := .int (-1)) (C := "TaleMachineModel") (T := F_Model) (N := 31) hx hb hts in_Model hown hK hP 0 rfl rfl 30 (by decide) (hts _ k_20) (fun _ h9 => h9) rfl d_Model_said_37 ?_
      refine lv_iconst (v := 2) hx hb d_Model_said_40 (by decide) ?_
      refine lv_icmp_eq hx hb d_Model_said_41 (tgt := 50) (by decide) (fun hz => absurd hz (by decide)) (fun _ => ?_)
      refine lv_aload_n hx hb d_Model_said_44 rfl (lv_at hl 0 rfl) ?_
      refine lv_iconst (v := 1) hx hb d_Model_said_45 (by decide) ?_
      refine mv_i (va_runV (C := "TaleMachineModel") (As := [.int 1]) (rest := []) ⟨hx, hb, hml, hown, hts⟩ (c_Model_refuse l D cI cZ cJ _ _ _ _ _ _ _ _ _ _ _ _ _ _ _ _ _ _ _ _ _ 1 _ ) (cwV 1 hts (gInV k_36 k_37 k_38 k_4 k_35) rfl rfl rfl (by decide +kernel) ⟨Nat.le_of_ble_eq_true rfl, Nat.le_of_ble_eq_true rfl⟩) (pre_V (va_recv hK hP (q := ("TaleMachineModel", F_Model, 31)) rfl (q0 := 0) rfl) (hP.sub [0] rfl) (hK.sub [0, 1, 2] rfl) (hD.sub [0] (by decide) rfl) hT) rfl rfl hl.1 rfl (lv_room (Nat.le_of_ble_eq_true rfl)) d_Model_said_46 ⟨Nat.le_of_ble_eq_true rfl, Nat.le_of_ble_eq_true rfl⟩) hP hD hS hA [0] [] rfl rfl (by decide) (by decide) (wr := []) (wn := fun _ => [(h, .inr (8, [.int 1, .ref m_bytes, .int 0, .ref m_w, .int 0, .int 0, .ref m_saved, .int 0, .ref m_line, .ref m_met, .ref m_waiting, .ref m_nextParent, .int 0, .ref m_kind, .ref m_number, .int 0, .ref m_begin, .ref m_table, .ref m_handlers, .ref m_base, .ref m_locals, .ref m_self, .ref m_found, .ref m_place, .ref m_next, .int 0, .ref m_saidKind, .ref m_saidNumber, .int 0, .int 0, .int (-1)]))]) (fun _ _ h9 => h9) (fun r12 _ H locs hp13 hP hD hS => ?_)
      have hP : va_P D cL [(h, .inr (8, [.int 1, .ref m_bytes, .int 0, .ref m_w, .int 0, .int 0, .ref m_saved, .int 0, .ref m_line, .ref m_met, .ref m_waiting, .ref m_nextParent, .int 0, .ref m_kind, .ref m_number, .int 0, .ref m_begin, .ref m_table, .ref m_handlers, .ref m_base, .ref m_locals, .ref m_self, .ref m_found, .ref m_place, .ref m_next, .int 0, .ref m_saidKind, .ref m_saidNumber, .int 0, .int 0, .int (-1)]))] H := hP
      have hD : va_D A [(h, .inr (8, [.int 1, .ref m_bytes, .int 0, .ref m_w, .int 0, .int 0, .ref m_saved, .int 0, .ref m_line, .ref m_met, .ref m_waiting, .ref m_nextParent, .int 0, .ref m_kind, .ref m_number, .int 0, .ref m_begin, .ref m_table, .ref m_handlers, .ref m_base, .ref m_locals, .ref m_self, .ref m_found, .ref m_place, .ref m_next, .int 0, .ref m_saidKind, .ref m_saidNumber, .int 0, .int 0, .int (-1)]))] := hD
      obtain rfl : r12 = 0 := hp13
      exact end_i hx hb hr hlocks hS (u := ()) (r := 0) (at_end (hP.sub (ws' := [(h, .inr (8, [.int 1, .ref m_bytes, .int 0, .ref m_w, .int 0, .int 0, .ref m_saved, .int 0, .ref m_line, .ref m_met, .ref m_waiting, .ref m_nextParent, .int 0, .ref m_kind, .ref m_number, .int 0, .ref m_begin, .ref m_table, .ref m_handlers, .ref m_base, .ref m_locals, .ref m_self, .ref m_found, .ref m_place, .ref m_next, .int 0, .ref m_saidKind, .ref m_saidNumber, .int 0, .int 0, .int (-1)]))]) [0] rfl) (hD.sub (ws' := [(h, .inr (8, [.int 1, .ref m_bytes, .int 0, .ref m_w, .int 0, .int 0, .ref m_saved, .int 0, .ref m_line, .ref m_met, .ref m_waiting, .ref m_nextParent, .int 0, .ref m_kind, .ref m_number, .int 0, .ref m_begin, .ref m_table, .ref m_handlers, .ref m_base, .ref m_locals, .ref m_self, .ref m_found, .ref m_place, .ref m_next, .int 0, .ref m_saidKind, .ref m_saidNumber, .int 0, .int 0, .int (-1)]))]) [0] (by decide) rfl)) (rfl) (Nat.le_of_ble_eq_true rfl) (Nat.le_of_ble_eq_true rfl) d_Model_said_49

set_option maxHeartbeats 4000000 in
set_option maxRecDepth 100000 in
theorem c_Model_has (l : Launch) (D : va_G) (cI cZ cJ : ClassId) (h m_bytes m_w m_saved m_line m_met m_waiting m_nextParent m_kind m_number m_begin m_table m_handlers m_base m_locals m_self m_found m_place m_next m_saidKind m_saidNumber : Nat) (oo p_ wh : Int32) (sz : Nat)  : Met l y_Model_has (.code y_Model_has prog_10_method_54_code 5 (some .int) :: AW) ({ frames := 2, cells := 0, slots := 0, locals := 43 }) (va_Pc [.ref h, .int oo, .int p_, .int wh] (pre_ D [(h, .inr (8, [.int 0, .ref m_bytes, .int 0, .ref m_w, .int 0, .int 0, .ref m_saved, .int 0, .ref m_line, .ref m_met, .ref m_waiting, .ref m_nextParent, .int 0, .ref m_kind, .ref m_number, .int 0, .ref m_begin, .ref m_table, .ref m_handlers, .ref m_base, .ref m_locals, .ref m_self, .ref m_found, .ref m_place, .ref m_next, .int 0, .ref m_saidKind, .ref m_saidNumber, .int 0, .int 0, .int (-1)])), (m_w, .inl (cI, 5568, .inl (fun _ => 0)))] [(cI, .int), (cZ, .boolean), (cJ, .long)] sz)) (va_Qi (fun (r : Int32) (u : Unit) => r = 0) (fun _ t => post_ D (va_A [(h, .inr (8, [.int 0, .ref m_bytes, .int 0, .ref m_w, .int 0, .int 0, .ref m_saved, .int 0, .ref m_line, .ref m_met, .ref m_waiting, .ref m_nextParent, .int 0, .ref m_kind, .ref m_number, .int 0, .ref m_begin, .ref m_table, .ref m_handlers, .ref m_base, .ref m_locals, .ref m_self, .ref m_found, .ref m_place, .ref m_next, .int 0, .ref m_saidKind, .ref m_saidNumber, .int 0, .int 0, .int (-1)])), (m_w, .inl (cI, 5568, .inl (fun _ => 0)))] sz) [(h, .inr (8, [.int 1, .ref m_bytes, .int 0, .ref m_w, .int 0, .int 0, .ref m_saved, .int 0, .ref m_line, .ref m_met, .ref m_waiting, .ref m_nextParent, .int 0, .ref m_kind, .ref m_number, .int 0, .ref m_begin, .ref m_table, .ref m_handlers, .ref m_base, .ref m_locals, .ref m_self, .ref m_found, .ref m_place, .ref m_next, .int 0, .ref m_saidKind, .ref m_saidNumber, .int 0, .int 0, .int (-1)]))] t) (va_A [(h, .inr (8, [.int 0, .ref m_bytes, .int 0, .ref m_w, .int 0, .int 0, .ref m_saved, .int 0, .ref m_line, .ref m_met, .ref m_waiting, .ref m_nextParent, .int 0, .ref m_kind, .ref m_number, .int 0, .ref m_begin, .ref m_table, .ref m_handlers, .ref m_base, .ref m_locals, .ref m_self, .ref m_found, .ref m_place, .ref m_next, .int 0, .ref m_saidKind, .ref m_saidNumber, .int 0, .int 0, .int (-1)])), (m_w, .inl (cI, 5568, .inl (fun _ => 0)))] sz)) 0 0 (va_A [(h, .inr (8, [.int 0, .ref m_bytes, .int 0, .ref m_w, .int 0, .int 0, .ref m_saved, .int 0, .ref m_line, .ref m_met, .ref m_waiting, .ref m_nextParent, .int 0, .ref m_kind, .ref m_number, .int 0, .ref m_begin, .ref m_table, .ref m_handlers, .ref m_base, .ref m_locals, .ref m_self, .ref m_found, .ref m_place, .ref m_next, .int 0, .ref m_saidKind, .ref m_saidNumber, .int 0, .int 0, .int (-1)])), (m_w, .inl (cI, 5568, .inl (fun _ => 0)))] sz) := by
  refine Met.ofW (cc := prog_10_method_54_code) (maxL := 5) (ret := (some .int)) (by decide) rfl ?_
  intro p e s m args below meth c s₁ B hml hv
  obtain ⟨rfl, rfl, hP, hK, hD0, hT⟩ := hv
  have hx := B.exec
  have hb := B.bytes
  have hr := B.returns
  have hts0 := atoms_spec (ws := .code y_Model_has prog_10_method_54_code 5 (some .int) :: AW) B.pre
  have hts : ∀ w ∈ AW, w.before [.ref h, .int oo, .int p_, .int wh].toArray s = true := fun w h => hts0 w (List.mem_cons_of_mem _ h)
  have hown : s.vm.findClass "TaleMachineModel" = some m.cls := findClass_of_methodNamed B.named
  have hlocks := B.notSynchronized
  have hD := hD0.self (sz := s.heap.size)
  generalize hAe : va_A [(h, .inr (8, [.int 0, .ref m_bytes, .int 0, .ref m_w, .int 0, .int 0, .ref m_saved, .int 0, .ref m_line, .ref m_met, .ref m_waiting, .ref m_nextParent, .int 0, .ref m_kind, .ref m_number, .int 0, .ref m_begin, .ref m_table, .ref m_handlers, .ref m_base, .ref m_locals, .ref m_self, .ref m_found, .ref m_place, .ref m_next, .int 0, .ref m_saidKind, .ref m_saidNumber, .int 0, .int 0, .int (-1)])), (m_w, .inl (cI, 5568, .inl (fun _ => 0)))] s.heap.size = A at hD ⊢
  have hA : ∀ q : Nat, s.heap.size ≤ q → A q := fun q h => by rw [← hAe]; exact Or.inr h
  have hS : va_S A s.heap s.heap [] := va_S.rf
  have hl := lv_entry ([.ref h, .int oo, .int p_, .int wh]) (n := 5) (Nat.le_of_ble_eq_true rfl)
  rw [lg_entry_eq]
  generalize (lg_sl ([.ref h, .int oo, .int p_, .int wh]) ++ List.replicate (5 - (lg_sl ([.ref h, .int oo, .int p_, .int wh])).length) Slot.unset).toArray = ls at hl ⊢
  have hl : lv_has ls 5 [(0, .ref h), (1, .int oo), (2, .int p_), (3, .int wh)] := hl
  refine lv_aload_n hx hb d_Model_has_0 rfl (lv_at hl 0 rfl) ?_
  refine lv_iload_n hx hb d_Model_has_1 rfl (lv_at hl 1 rfl) ?_
  refine mv_i (va_runV (C := "TaleMachineModel") (As := [.int oo]) (rest := []) ⟨hx, hb, hml, hown, hts⟩ (c_Model_isThere l D cI cZ cJ _ _ _ _ _ _ _ _ _ _ _ _ _ _ _ _ _ _ _ _ _ _ _ ) (cwV 1 hts (gInV k_7 k_8 k_9 k_4 k_6) rfl rfl rfl (by decide +kernel) ⟨Nat.le_of_ble_eq_true rfl, Nat.le_of_ble_eq_true rfl⟩) (pre_V (va_recv hK hP (q := ("TaleMachineModel", F_Model, 31)) rfl (q0 := 0) rfl) (hP.sub [0, 1] rfl) (hK.sub [0, 1, 2] rfl) (hD.sub [0, 1] (by decide) rfl) hT) rfl rfl hl.1 rfl (lv_room (Nat.le_of_ble_eq_true rfl)) d_Model_has_2 ⟨Nat.le_of_ble_eq_true rfl, Nat.le_of_ble_eq_true rfl⟩) hP hD hS hA [0, 1] [] rfl rfl (by decide) (by decide) (wr := []) (wn := fun _ => [(h, .inr (8, [.int 0, .ref m_bytes, .int 0, .ref m_w, .int 0, .int 0, .ref m_saved, .int 0, .ref m_line, .ref m_met, .ref m_waiting, .ref m_nextParent, .int 0, .ref m_kind, .ref m_number, .int 0, .ref m_begin, .ref m_table, .ref m_handlers, .ref m_base, .ref m_locals, .ref m_self, .ref m_found, .ref m_place, .ref m_next, .int 0, .ref m_saidKind, .ref m_saidNumber, .int 0, .int 0, .int (-1)])), (m_w, .inl (cI, 5568, .inl (fun _ => 0)))]) (fun _ _ h9 => h9) (fun r1 _ H locs hp2 hP hD hS => ?_)
  have hP : va_P D cL [(h, .inr (8, [.int 0, .ref m_bytes, .int 0, .ref m_w, .int 0, .int 0, .ref m_saved, .int 0, .ref m_line, .ref m_met, .ref m_waiting, .ref m_nextParent, .int 0, .ref m_kind, .ref m_number, .int 0, .ref m_begin, .ref m_table, .ref m_handlers, .ref m_base, .ref m_locals, .ref m_self, .ref m_found, .ref m_place, .ref m_next, .int 0, .ref m_saidKind, .ref m_saidNumber, .int 0, .int 0, .int (-1)])), (m_w, .inl (cI, 5568, .inl (fun _ => 0)))] H := hP
  have hD : va_D A [(h, .inr (8, [.int 0, .ref m_bytes, .int 0, .ref m_w, .int 0, .int 0, .ref m_saved, .int 0, .ref m_line, .ref m_met, .ref m_waiting, .ref m_nextParent, .int 0, .ref m_kind, .ref m_number, .int 0, .ref m_begin, .ref m_table, .ref m_handlers, .ref m_base, .ref m_locals, .ref m_self, .ref m_found, .ref m_place, .ref m_next, .int 0, .ref m_saidKind, .ref m_saidNumber, .int 0, .int 0, .int (-1)])), (m_w, .inl (cI, 5568, .inl (fun _ => 0)))] := hD
  obtain rfl : r1 = 0 := hp2
  refine lv_if_eq hx hb d_Model_has_5 (tgt := 27) (by decide) (fun _ => ?_) (fun hz => absurd (by decide) hz)
  refine lv_aload_n hx hb d_Model_has_27 rfl (lv_at hl 0 rfl) ?_
  refine lv_iconst (v := 1) hx hb d_Model_has_28 (by decide) ?_
  refine mv_i (va_runV (C := "TaleMachineModel") (As := [.int 1]) (rest := []) ⟨hx, hb, hml, hown, hts⟩ (c_Model_refuse l D cI cZ cJ _ _ _ _ _ _ _ _ _ _ _ _ _ _ _ _ _ _ _ _ _ 1 _ ) (cwV 1 hts (gInV k_36 k_37 k_38 k_4 k_35) rfl rfl rfl (by decide +kernel) ⟨Nat.le_of_ble_eq_true rfl, Nat.le_of_ble_eq_true rfl⟩) (pre_V (va_recv hK hP (q := ("TaleMachineModel", F_Model, 31)) rfl (q0 := 0) rfl) (hP.sub [0] rfl) (hK.sub [0, 1, 2] rfl) (hD.sub [0] (by decide) rfl) hT) rfl rfl hl.1 rfl (lv_room (Nat.le_of_ble_eq_true rfl)) d_Model_has_29 ⟨Nat.le_of_ble_eq_true rfl, Nat.le_of_ble_eq_true rfl⟩) hP hD hS hA [0] [1] rfl rfl (by decide) (by decide) (wr := [(m_w, .inl (cI, 5568, .inl (fun _ => 0)))]) (wn := fun _ => [(h, .inr (8, [.int 1, .ref m_bytes, .int 0, .ref m_w, .int 0, .int 0, .ref m_saved, .int 0, .ref m_line, .ref m_met, .ref m_waiting, .ref m_nextParent, .int 0, .ref m_kind, .ref m_number, .int 0, .ref m_begin, .ref m_table, .ref m_handlers, .ref m_base, .ref m_locals, .ref m_self, .ref m_found, .ref m_place, .ref m_next, .int 0, .ref m_saidKind, .ref m_saidNumber, .int 0, .int 0, .int (-1)]))]) (fun _ _ h9 => h9) (fun r3 _ H locs hp4 hP hD hS => ?_)
  have hP : va_P D cL [(m_w, .inl (cI, 5568, .inl (fun _ => 0))), (h, .inr (8, [.int 1, .ref m_bytes, .int 0, .ref m_w, .int 0, .int 0, .ref m_saved, .int 0, .ref m_line, .ref m_met, .ref m_waiting, .ref m_nextParent, .int 0, .ref m_kind, .ref m_number, .int 0, .ref m_begin, .ref m_table, .ref m_handlers, .ref m_base, .ref m_locals, .ref m_self, .ref m_found, .ref m_place, .ref m_next, .int 0, .ref m_saidKind, .ref m_saidNumber, .int 0, .int 0, .int (-1)]))] H := hP
  have hD : va_D A [(m_w, .inl (cI, 5568, .inl (fun _ => 0))), (h, .inr (8, [.int 1, .ref m_bytes, .int 0, .ref m_w, .int 0, .int 0, .ref m_saved, .int 0, .ref m_line, .ref m_met, .ref m_waiting, .ref m_nextParent, .int 0, .ref m_kind, .ref m_number, .int 0, .ref m_begin, .ref m_table, .ref m_handlers, .ref m_base, .ref m_locals, .ref m_self, .ref m_found, .ref m_place, .ref m_next, .int 0, .ref m_saidKind, .ref m_saidNumber, .int 0, .int 0, .int (-1)]))] := hD
  obtain rfl : r3 = 0 := hp4
  exact end_i hx hb hr hlocks hS (u := ()) (r := 0) (at_end (hP.sub (ws' := [(h, .inr (8, [.int 1, .ref m_bytes, .int 0, .ref m_w, .int 0, .int 0, .ref m_saved, .int 0, .ref m_line, .ref m_met, .ref m_waiting, .ref m_nextParent, .int 0, .ref m_kind, .ref m_number, .int 0, .ref m_begin, .ref m_table, .ref m_handlers, .ref m_base, .ref m_locals, .ref m_self, .ref m_found, .ref m_place, .ref m_next, .int 0, .ref m_saidKind, .ref m_saidNumber, .int 0, .int 0, .int (-1)]))]) [1] rfl) (hD.sub (ws' := [(h, .inr (8, [.int 1, .ref m_bytes, .int 0, .ref m_w, .int 0, .int 0, .ref m_saved, .int 0, .ref m_line, .ref m_met, .ref m_waiting, .ref m_nextParent, .int 0, .ref m_kind, .ref m_number, .int 0, .ref m_begin, .ref m_table, .ref m_handlers, .ref m_base, .ref m_locals, .ref m_self, .ref m_found, .ref m_place, .ref m_next, .int 0, .ref m_saidKind, .ref m_saidNumber, .int 0, .int 0, .int (-1)]))]) [1] (by decide) rfl)) (rfl) (Nat.le_of_ble_eq_true rfl) (Nat.le_of_ble_eq_true rfl) d_Model_has_32

set_option maxHeartbeats 4000000 in
set_option maxRecDepth 100000 in
theorem c_Model_isOf (l : Launch) (D : va_G) (cI cZ cJ : ClassId) (h m_bytes m_w m_saved m_line m_met m_waiting m_nextParent m_kind m_number m_begin m_table m_handlers m_base m_locals m_self m_found m_place m_next m_saidKind m_saidNumber : Nat) (oo p_ : Int32) (sz : Nat)  : Met l y_Model_isOf (.code y_Model_isOf prog_10_method_55_code 3 (some .boolean) :: AW) ({ frames := 2, cells := 0, slots := 0, locals := 43 }) (va_Pc [.ref h, .int oo, .int p_] (pre_ D [(h, .inr (8, [.int 0, .ref m_bytes, .int 0, .ref m_w, .int 0, .int 0, .ref m_saved, .int 0, .ref m_line, .ref m_met, .ref m_waiting, .ref m_nextParent, .int 0, .ref m_kind, .ref m_number, .int 0, .ref m_begin, .ref m_table, .ref m_handlers, .ref m_base, .ref m_locals, .ref m_self, .ref m_found, .ref m_place, .ref m_next, .int 0, .ref m_saidKind, .ref m_saidNumber, .int 0, .int 0, .int (-1)])), (m_w, .inl (cI, 5568, .inl (fun _ => 0)))] [(cI, .int), (cZ, .boolean), (cJ, .long)] sz)) (va_Qi (fun (r : Int32) (u : Unit) => r = 0) (fun _ t => post_ D (va_A [(h, .inr (8, [.int 0, .ref m_bytes, .int 0, .ref m_w, .int 0, .int 0, .ref m_saved, .int 0, .ref m_line, .ref m_met, .ref m_waiting, .ref m_nextParent, .int 0, .ref m_kind, .ref m_number, .int 0, .ref m_begin, .ref m_table, .ref m_handlers, .ref m_base, .ref m_locals, .ref m_self, .ref m_found, .ref m_place, .ref m_next, .int 0, .ref m_saidKind, .ref m_saidNumber, .int 0, .int 0, .int (-1)])), (m_w, .inl (cI, 5568, .inl (fun _ => 0)))] sz) [] t) (va_A [(h, .inr (8, [.int 0, .ref m_bytes, .int 0, .ref m_w, .int 0, .int 0, .ref m_saved, .int 0, .ref m_line, .ref m_met, .ref m_waiting, .ref m_nextParent, .int 0, .ref m_kind, .ref m_number, .int 0, .ref m_begin, .ref m_table, .ref m_handlers, .ref m_base, .ref m_locals, .ref m_self, .ref m_found, .ref m_place, .ref m_next, .int 0, .ref m_saidKind, .ref m_saidNumber, .int 0, .int 0, .int (-1)])), (m_w, .inl (cI, 5568, .inl (fun _ => 0)))] sz)) 0 0 (va_A [(h, .inr (8, [.int 0, .ref m_bytes, .int 0, .ref m_w, .int 0, .int 0, .ref m_saved, .int 0, .ref m_line, .ref m_met, .ref m_waiting, .ref m_nextParent, .int 0, .ref m_kind, .ref m_number, .int 0, .ref m_begin, .ref m_table, .ref m_handlers, .ref m_base, .ref m_locals, .ref m_self, .ref m_found, .ref m_place, .ref m_next, .int 0, .ref m_saidKind, .ref m_saidNumber, .int 0, .int 0, .int (-1)])), (m_w, .inl (cI, 5568, .inl (fun _ => 0)))] sz) := by
  refine Met.ofW (cc := prog_10_method_55_code) (maxL := 3) (ret := (some .boolean)) (by decide) rfl ?_
  intro p e s m args below meth c s₁ B hml hv
  obtain ⟨rfl, rfl, hP, hK, hD0, hT⟩ := hv
  have hx := B.exec
  have hb := B.bytes
  have hr := B.returns
  have hts0 := atoms_spec (ws := .code y_Model_isOf prog_10_method_55_code 3 (some .boolean) :: AW) B.pre
  have hts : ∀ w ∈ AW, w.before [.ref h, .int oo, .int p_].toArray s = true := fun w h => hts0 w (List.mem_cons_of_mem _ h)
  have hown : s.vm.findClass "TaleMachineModel" = some m.cls := findClass_of_methodNamed B.named
  have hlocks := B.notSynchronized
  have hD := hD0.self (sz := s.heap.size)
  generalize hAe : va_A [(h, .inr (8, [.int 0, .ref m_bytes, .int 0, .ref m_w, .int 0, .int 0, .ref m_saved, .int 0, .ref m_line, .ref m_met, .ref m_waiting, .ref m_nextParent, .int 0, .ref m_kind, .ref m_number, .int 0, .ref m_begin, .ref m_table, .ref m_handlers, .ref m_base, .ref m_locals, .ref m_self, .ref m_found, .ref m_place, .ref m_next, .int 0, .ref m_saidKind, .ref m_saidNumber, .int 0, .int 0, .int (-1)])), (m_w, .inl (cI, 5568, .inl (fun _ => 0)))] s.heap.size = A at hD ⊢
  have hA : ∀ q : Nat, s.heap.size ≤ q → A q := fun q h => by rw [← hAe]; exact Or.inr h
  have hS : va_S A s.heap s.heap [] := va_S.rf
  have hl := lv_entry ([.ref h, .int oo, .int p_]) (n := 3) (Nat.le_of_ble_eq_true rfl)
  rw [lg_entry_eq]
  generalize (lg_sl ([.ref h, .int oo, .int p_]) ++ List.replicate (3 - (lg_sl ([.ref h, .int oo, .int p_])).length) Slot.unset).toArray = ls at hl ⊢
  have hl : lv_has ls 3 [(0, .ref h), (1, .int oo), (2, .int p_)] := hl
  refine lv_aload_n hx hb d_Model_isOf_0 rfl (lv_at hl 0 rfl) ?_
  refine lv_iconst (v := 0) hx hb d_Model_isOf_1 (by decide) ?_
  refine va_put (D := D) (ci := 8) (v := .int 0) (ty := .int) (C := "TaleMachineModel") (T := F_Model) (N := 31) hx hb hts in_Model t_Model t_Model_ok n_Model hown hK hP hD hS 0 rfl rfl 0 (by decide) (hts _ k_0) (fun _ h9 => h9) rfl (by decide +kernel) rfl rfl (Nat.le_of_ble_eq_true rfl) d_Model_isOf_2 (fun H locs hP hD hS => ?_)
  have hP : va_P D cL [(h, .inr (8, [.int 0, .ref m_bytes, .int 0, .ref m_w, .int 0, .int 0, .ref m_saved, .int 0, .ref m_line, .ref m_met, .ref m_waiting, .ref m_nextParent, .int 0, .ref m_kind, .ref m_number, .int 0, .ref m_begin, .ref m_table, .ref m_handlers, .ref m_base, .ref m_locals, .ref m_self, .ref m_found, .ref m_place, .ref m_next, .int 0, .ref m_saidKind, .ref m_saidNumber, .int 0, .int 0, .int (-1)])), (m_w, .inl (cI, 5568, .inl (fun _ => 0)))] H := hP
  have hD : va_D A [(h, .inr (8, [.int 0, .ref m_bytes, .int 0, .ref m_w, .int 0, .int 0, .ref m_saved, .int 0, .ref m_line, .ref m_met, .ref m_waiting, .ref m_nextParent, .int 0, .ref m_kind, .ref m_number, .int 0, .ref m_begin, .ref m_table, .ref m_handlers, .ref m_base, .ref m_locals, .ref m_self, .ref m_found, .ref m_place, .ref m_next, .int 0, .ref m_saidKind, .ref m_saidNumber, .int 0, .int 0, .int (-1)])), (m_w, .inl (cI, 5568, .inl (fun _ => 0)))] := hD
  refine lv_aload_n hx hb d_Model_isOf_5 rfl (lv_at hl 0 rfl) ?_
  refine lv_iload_n hx hb d_Model_isOf_6 rfl (lv_at hl 1 rfl) ?_
  refine mv_i (va_runV (C := "TaleMachineModel") (As := [.int oo]) (rest := []) ⟨hx, hb, hml, hown, hts⟩ (c_Model_isThere l D cI cZ cJ _ _ _ _ _ _ _ _ _ _ _ _ _ _ _ _ _ _ _ _ _ _ _ ) (cwV 1 hts (gInV k_7 k_8 k_9 k_4 k_6) rfl rfl rfl (by decide +kernel) ⟨Nat.le_of_ble_eq_true rfl, Nat.le_of_ble_eq_true rfl⟩) (pre_V (va_recv hK hP (q := ("TaleMachineModel", F_Model, 31)) rfl (q0 := 0) rfl) (hP.sub [0, 1] rfl) (hK.sub [0, 1, 2] rfl) (hD.sub [0, 1] (by decide) rfl) hT) rfl rfl hl.1 rfl (lv_room (Nat.le_of_ble_eq_true rfl)) d_Model_isOf_7 ⟨Nat.le_of_ble_eq_true rfl, Nat.le_of_ble_eq_true rfl⟩) hP hD hS hA [0, 1] [] rfl rfl (by decide) (by decide) (wr := []) (wn := fun _ => [(h, .inr (8, [.int 0, .ref m_bytes, .int 0, .ref m_w, .int 0, .int 0, .ref m_saved, .int 0, .ref m_line, .ref m_met, .ref m_waiting, .ref m_nextParent, .int 0, .ref m_kind, .ref m_number, .int 0, .ref m_begin, .ref m_table, .ref m_handlers, .ref m_base, .ref m_locals, .ref m_self, .ref m_found, .ref m_place, .ref m_next, .int 0, .ref m_saidKind, .ref m_saidNumber, .int 0, .int 0, .int (-1)])), (m_w, .inl (cI, 5568, .inl (fun _ => 0)))]) (fun _ _ h9 => h9) (fun r1 _ H locs hp2 hP hD hS => ?_)
  have hP : va_P D cL [(h, .inr (8, [.int 0, .ref m_bytes, .int 0, .ref m_w, .int 0, .int 0, .ref m_saved, .int 0, .ref m_line, .ref m_met, .ref m_waiting, .ref m_nextParent, .int 0, .ref m_kind, .ref m_number, .int 0, .ref m_begin, .ref m_table, .ref m_handlers, .ref m_base, .ref m_locals, .ref m_self, .ref m_found, .ref m_place, .ref m_next, .int 0, .ref m_saidKind, .ref m_saidNumber, .int 0, .int 0, .int (-1)])), (m_w, .inl (cI, 5568, .inl (fun _ => 0)))] H := hP
  have hD : va_D A [(h, .inr (8, [.int 0, .ref m_bytes, .int 0, .ref m_w, .int 0, .int 0, .ref m_saved, .int 0, .ref m_line, .ref m_met, .ref m_waiting, .ref m_nextParent, .int 0, .ref m_kind, .ref m_number, .int 0, .ref m_begin, .ref m_table, .ref m_handlers, .ref m_base, .ref m_locals, .ref m_self, .ref m_found, .ref m_place, .ref m_next, .int 0, .ref m_saidKind, .ref m_saidNumber, .int 0, .int 0, .int (-1)])), (m_w, .inl (cI, 5568, .inl (fun _ => 0)))] := hD
  obtain rfl : r1 = 0 := hp2
  refine lv_if_eq hx hb d_Model_isOf_10 (tgt := 34) (by decide) (fun _ => ?_) (fun hz => absurd (by decide) hz)
  refine lv_iconst (v := 0) hx hb d_Model_isOf_34 (by decide) ?_
  exact end_z hx hb hr hlocks hS (u := ()) (r := 0) (at_end (hP.sub (ws' := []) [] rfl) (hD.sub (ws' := []) [] (by decide) rfl)) (rfl) (by decide) (Nat.le_of_ble_eq_true rfl) (Nat.le_of_ble_eq_true rfl) d_Model_isOf_35
end
section
set_option maxHeartbeats 4000000 in
set_option maxRecDepth 100000 in
theorem c_Model_property (l : Launch) (D : va_G) (cI cZ cJ : ClassId) (h m_bytes m_w m_saved m_line m_met m_waiting m_nextParent m_kind m_number m_begin m_table m_handlers m_base m_locals m_self m_found m_place m_next m_saidKind m_saidNumber : Nat) (oo p_ kd vl : Int32) (sz : Nat)  : Met l y_Model_property (.code y_Model_property prog_10_method_19_code 6 none :: AW) ({ frames := 2, cells := 0, slots := 0, locals := 43 }) (va_Pc [.ref h, .int oo, .int p_, .int kd, .int vl] (pre_ D [(h, .inr (8, [.int 0, .ref m_bytes, .int 0, .ref m_w, .int 0, .int 0, .ref m_saved, .int 0, .ref m_line, .ref m_met, .ref m_waiting, .ref m_nextParent, .int 0, .ref m_kind, .ref m_number, .int 0, .ref m_begin, .ref m_table, .ref m_handlers, .ref m_base, .ref m_locals, .ref m_self, .ref m_found, .ref m_place, .ref m_next, .int 0, .ref m_saidKind, .ref m_saidNumber, .int 0, .int 0, .int (-1)])), (m_w, .inl (cI, 5568, .inl (fun _ => 0)))] [(cI, .int), (cZ, .boolean), (cJ, .long)] sz)) (va_Qv (fun (u : Unit) => True) (fun _ t => post_ D (va_A [(h, .inr (8, [.int 0, .ref m_bytes, .int 0, .ref m_w, .int 0, .int 0, .ref m_saved, .int 0, .ref m_line, .ref m_met, .ref m_waiting, .ref m_nextParent, .int 0, .ref m_kind, .ref m_number, .int 0, .ref m_begin, .ref m_table, .ref m_handlers, .ref m_base, .ref m_locals, .ref m_self, .ref m_found, .ref m_place, .ref m_next, .int 0, .ref m_saidKind, .ref m_saidNumber, .int 0, .int 0, .int (-1)])), (m_w, .inl (cI, 5568, .inl (fun _ => 0)))] sz) [(h, .inr (8, [.int 1, .ref m_bytes, .int 0, .ref m_w, .int 0, .int 0, .ref m_saved, .int 0, .ref m_line, .ref m_met, .ref m_waiting, .ref m_nextParent, .int 0, .ref m_kind, .ref m_number, .int 0, .ref m_begin, .ref m_table, .ref m_handlers, .ref m_base, .ref m_locals, .ref m_self, .ref m_found, .ref m_place, .ref m_next, .int 0, .ref m_saidKind, .ref m_saidNumber, .int 0, .int 0, .int (-1)]))] t) (va_A [(h, .inr (8, [.int 0, .ref m_bytes, .int 0, .ref m_w, .int 0, .int 0, .ref m_saved, .int 0, .ref m_line, .ref m_met, .ref m_waiting, .ref m_nextParent, .int 0, .ref m_kind, .ref m_number, .int 0, .ref m_begin, .ref m_table, .ref m_handlers, .ref m_base, .ref m_locals, .ref m_self, .ref m_found, .ref m_place, .ref m_next, .int 0, .ref m_saidKind, .ref m_saidNumber, .int 0, .int 0, .int (-1)])), (m_w, .inl (cI, 5568, .inl (fun _ => 0)))] sz)) 0 0 (va_A [(h, .inr (8, [.int 0, .ref m_bytes, .int 0, .ref m_w, .int 0, .int 0, .ref m_saved, .int 0, .ref m_line, .ref m_met, .ref m_waiting, .ref m_nextParent, .int 0, .ref m_kind, .ref m_number, .int 0, .ref m_begin, .ref m_table, .ref m_handlers, .ref m_base, .ref m_locals, .ref m_self, .ref m_found, .ref m_place, .ref m_next, .int 0, .ref m_saidKind, .ref m_saidNumber, .int 0, .int 0, .int (-1)])), (m_w, .inl (cI, 5568, .inl (fun _ => 0)))] sz) := by
  refine Met.ofW (cc := prog_10_method_19_code) (maxL := 6) (ret := none) (by decide) rfl ?_
  intro p e s m args below meth c s₁ B hml hv
  obtain ⟨rfl, rfl, hP, hK, hD0, hT⟩ := hv
  have hx := B.exec
  have hb := B.bytes
  have hr := B.returns
  have hts0 := atoms_spec (ws := .code y_Model_property prog_10_method_19_code 6 none :: AW) B.pre
  have hts : ∀ w ∈ AW, w.before [.ref h, .int oo, .int p_, .int kd, .int vl].toArray s = true := fun w h => hts0 w (List.mem_cons_of_mem _ h)
  have hown : s.vm.findClass "TaleMachineModel" = some m.cls := findClass_of_methodNamed B.named
  have hlocks := B.notSynchronized
  have hD := hD0.self (sz := s.heap.size)
  generalize hAe : va_A [(h, .inr (8, [.int 0, .ref m_bytes, .int 0, .ref m_w, .int 0, .int 0, .ref m_saved, .int 0, .ref m_line, .ref m_met, .ref m_waiting, .ref m_nextParent, .int 0, .ref m_kind, .ref m_number, .int 0, .ref m_begin, .ref m_table, .ref m_handlers, .ref m_base, .ref m_locals, .ref m_self, .ref m_found, .ref m_place, .ref m_next, .int 0, .ref m_saidKind, .ref m_saidNumber, .int 0, .int 0, .int (-1)])), (m_w, .inl (cI, 5568, .inl (fun _ => 0)))] s.heap.size = A at hD ⊢
  have hA : ∀ q : Nat, s.heap.size ≤ q → A q := fun q h => by rw [← hAe]; exact Or.inr h
  have hS : va_S A s.heap s.heap [] := va_S.rf
  have hl := lv_entry ([.ref h, .int oo, .int p_, .int kd, .int vl]) (n := 6) (Nat.le_of_ble_eq_true rfl)
  rw [lg_entry_eq]
  generalize (lg_sl ([.ref h, .int oo, .int p_, .int kd, .int vl]) ++ List.replicate (6 - (lg_sl ([.ref h, .int oo, .int p_, .int kd, .int vl])).length) Slot.unset).toArray = ls at hl ⊢
  have hl : lv_has ls 6 [(0, .ref h), (1, .int oo), (2, .int p_), (3, .int kd), (4, .int vl)] := hl
  refine lv_iload_n hx hb d_Model_property_0 rfl (lv_at hl 2 rfl) ?_
  refine lv_iconst (v := 0) hx hb d_Model_property_1 (by decide) ?_
  refine lv_bipush (v := 7) hx hb d_Model_property_2 (by decide) ?_
  refine mv_i (va_runS (As := [.int p_, .int 0, .int 7]) (rest := []) ⟨hx, hb, hml, hown, hts⟩ (c_Model_outside l D cI cZ cJ p_ 0 7 _ ) (va_cwS 3 hts (gInS k_2 k_3 k_4 k_1) rfl rfl rfl (by decide +kernel) ⟨Nat.le_of_ble_eq_true rfl, Nat.le_of_ble_eq_true rfl⟩) (pre_S (hP.sub [] rfl) (hK.sub [0, 1, 2] rfl) (hD.sub [] (by decide) rfl) hT) rfl rfl hl.1 rfl (lv_room (Nat.le_of_ble_eq_true rfl)) d_Model_property_4 ⟨Nat.le_of_ble_eq_true rfl, Nat.le_of_ble_eq_true rfl⟩) hP hD hS hA [] [0, 1] rfl rfl (by decide) (by decide) (wr := [(h, .inr (8, [.int 0, .ref m_bytes, .int 0, .ref m_w, .int 0, .int 0, .ref m_saved, .int 0, .ref m_line, .ref m_met, .ref m_waiting, .ref m_nextParent, .int 0, .ref m_kind, .ref m_number, .int 0, .ref m_begin, .ref m_table, .ref m_handlers, .ref m_base, .ref m_locals, .ref m_self, .ref m_found, .ref m_place, .ref m_next, .int 0, .ref m_saidKind, .ref m_saidNumber, .int 0, .int 0, .int (-1)])), (m_w, .inl (cI, 5568, .inl (fun _ => 0)))]) (wn := fun _ => []) (fun _ _ h9 => h9) (fun r1 _ H locs hp2 hP hD hS => ?_)
  have hP : va_P D cL [(h, .inr (8, [.int 0, .ref m_bytes, .int 0, .ref m_w, .int 0, .int 0, .ref m_saved, .int 0, .ref m_line, .ref m_met, .ref m_waiting, .ref m_nextParent, .int 0, .ref m_kind, .ref m_number, .int 0, .ref m_begin, .ref m_table, .ref m_handlers, .ref m_base, .ref m_locals, .ref m_self, .ref m_found, .ref m_place, .ref m_next, .int 0, .ref m_saidKind, .ref m_saidNumber, .int 0, .int 0, .int (-1)])), (m_w, .inl (cI, 5568, .inl (fun _ => 0)))] H := hP
  have hD : va_D A [(h, .inr (8, [.int 0, .ref m_bytes, .int 0, .ref m_w, .int 0, .int 0, .ref m_saved, .int 0, .ref m_line, .ref m_met, .ref m_waiting, .ref m_nextParent, .int 0, .ref m_kind, .ref m_number, .int 0, .ref m_begin, .ref m_table, .ref m_handlers, .ref m_base, .ref m_locals, .ref m_self, .ref m_found, .ref m_place, .ref m_next, .int 0, .ref m_saidKind, .ref m_saidNumber, .int 0, .int 0, .int (-1)])), (m_w, .inl (cI, 5568, .inl (fun _ => 0)))] := hD
  refine lv_if_ne hx hb d_Model_property_7 (tgt := 54) (by decide) (fun hc3 => ?_) (fun hc3 => ?_)
  · refine lv_iconst (v := 0) hx hb d_Model_property_54 (by decide) ?_
    refine lv_istore (lv' := [(5, .int 0), (0, .ref h), (1, .int oo), (2, .int p_), (3, .int kd), (4, .int vl)]) hx hb d_Model_property_55 hl (by decide) rfl (fun ls hl => ?_)
    refine lv_aload_n hx hb d_Model_property_57 rfl (lv_at hl 1 rfl) ?_
    refine lv_aload_n hx hb d_Model_property_58 rfl (lv_at hl 1 rfl) ?_
    refine lv_iload_n hx hb d_Model_property_59 rfl (lv_at hl 2 rfl) ?_
    refine mv_i (va_runV (C := "TaleMachineModel") (As := [.int oo]) (rest := [.ref h]) ⟨hx, hb, hml, hown, hts⟩ (c_Model_isThere l D cI cZ cJ _ _ _ _ _ _ _ _ _ _ _ _ _ _ _ _ _ _ _ _ _ _ _ ) (cwV 1 hts (gInV k_7 k_8 k_9 k_4 k_6) rfl rfl rfl (by decide +kernel) ⟨Nat.le_of_ble_eq_true rfl, Nat.le_of_ble_eq_true rfl⟩) (pre_V (va_recv hK hP (q := ("TaleMachineModel", F_Model, 31)) rfl (q0 := 0) rfl) (hP.sub [0, 1] rfl) (hK.sub [0, 1, 2] rfl) (hD.sub [0, 1] (by decide) rfl) hT) rfl rfl hl.1 rfl (lv_room (Nat.le_of_ble_eq_true rfl)) d_Model_property_60 ⟨Nat.le_of_ble_eq_true rfl, Nat.le_of_ble_eq_true rfl⟩) hP hD hS hA [0, 1] [] rfl rfl (by decide) (by decide) (wr := []) (wn := fun _ => [(h, .inr (8, [.int 0, .ref m_bytes, .int 0, .ref m_w, .int 0, .int 0, .ref m_saved, .int 0, .ref m_line, .ref m_met, .ref m_waiting, .ref m_nextParent, .int 0, .ref m_kind, .ref m_number, .int 0, .ref m_begin, .ref m_table, .ref m_handlers, .ref m_base, .ref m_locals, .ref m_self, .ref m_found, .ref m_place, .ref m_next, .int 0, .ref m_saidKind, .ref m_saidNumber, .int 0, .int 0, .int (-1)])), (m_w, .inl (cI, 5568, .inl (fun _ => 0)))]) (fun _ _ h9 => h9) (fun r4 _ H locs hp5 hP hD hS => ?_)
    have hP : va_P D cL [(h, .inr (8, [.int 0, .ref m_bytes, .int 0, .ref m_w, .int 0, .int 0, .ref m_saved, .int 0, .ref m_line, .ref m_met, .ref m_waiting, .ref m_nextParent, .int 0, .ref m_kind, .ref m_number, .int 0, .ref m_begin, .ref m_table, .ref m_handlers, .ref m_base, .ref m_locals, .ref m_self, .ref m_found, .ref m_place, .ref m_next, .int 0, .ref m_saidKind, .ref m_saidNumber, .int 0, .int 0, .int (-1)])), (m_w, .inl (cI, 5568, .inl (fun _ => 0)))] H := hP
    have hD : va_D A [(h, .inr (8, [.int 0, .ref m_bytes, .int 0, .ref m_w, .int 0, .int 0, .ref m_saved, .int 0, .ref m_line, .ref m_met, .ref m_waiting, .ref m_nextParent, .int 0, .ref m_kind, .ref m_number, .int 0, .ref m_begin, .ref m_table, .ref m_handlers, .ref m_base, .ref m_locals, .ref m_self, .ref m_found, .ref m_place, .ref m_next, .int 0, .ref m_saidKind, .ref m_saidNumber, .int 0, .int 0, .int (-1)])), (m_w, .inl (cI, 5568, .inl (fun _ => 0)))] := hD
    obtain rfl : r4 = 0 := hp5
    refine lv_if_ne hx hb d_Model_property_63 (tgt := 70) (by decide) (fun hz => absurd (by decide) hz) (fun _ => ?_)
    refine lv_iconst (v := 1) hx hb d_Model_property_66 (by decide) ?_
    refine lv_goto hx hb d_Model_property_67 (tgt := 91) (by decide) ?_
    refine va_put (D := D) (ci := 8) (v := .int 1) (ty := .int) (C := "TaleMachineModel") (T := F_Model) (N := 31) hx hb hts in_Model t_Model t_Model_ok n_Model hown hK hP hD hS 0 rfl rfl 0 (by decide) (hts _ k_0) (fun _ h9 => h9) rfl (by decide +kernel) rfl rfl (Nat.le_of_ble_eq_true rfl) d_Model_property_91 (fun H locs hP hD hS => ?_)
    have hP : va_P D cL [(h, .inr (8, [.int 1, .ref m_bytes, .int 0, .ref m_w, .int 0, .int 0, .ref m_saved, .int 0, .ref m_line, .ref m_met, .ref m_waiting, .ref m_nextParent, .int 0, .ref m_kind, .ref m_number, .int 0, .ref m_begin, .ref m_table, .ref m_handlers, .ref m_base, .ref m_locals, .ref m_self, .ref m_found, .ref m_place, .ref m_next, .int 0, .ref m_saidKind, .ref m_saidNumber, .int 0, .int 0, .int (-1)])), (m_w, .inl (cI, 5568, .inl (fun _ => 0)))] H := hP
    have hD : va_D A [(h, .inr (8, [.int 1, .ref m_bytes, .int 0, .ref m_w, .int 0, .int 0, .ref m_saved, .int 0, .ref m_line, .ref m_met, .ref m_waiting, .ref m_nextParent, .int 0, .ref m_kind, .ref m_number, .int 0, .ref m_begin, .ref m_table, .ref m_handlers, .ref m_base, .ref m_locals, .ref m_self, .ref m_found, .ref m_place, .ref m_next, .int 0, .ref m_saidKind, .ref m_saidNumber, .int 0, .int 0, .int (-1)])), (m_w, .inl (cI, 5568, .inl (fun _ => 0)))] := hD
    refine lv_aload_n hx hb d_Model_property_94 rfl (lv_at hl 1 rfl) ?_
    refine va_get (D := D) (ci := 8) (v := .int 1) (C := "TaleMachineModel") (T := F_Model) (N := 31) hx hb hts in_Model hown hK hP 0 rfl rfl 0 (by decide) (hts _ k_0) (fun _ h9 => h9) rfl d_Model_property_95 ?_
    refine lv_if_le hx hb d_Model_property_98 (tgt := 102) (by decide) (fun hz => absurd hz (by decide)) (fun _ => ?_)
    exact end_v hx hb hr hlocks hS (u := ()) (at_end (hP.sub (ws' := [(h, .inr (8, [.int 1, .ref m_bytes, .int 0, .ref m_w, .int 0, .int 0, .ref m_saved, .int 0, .ref m_line, .ref m_met, .ref m_waiting, .ref m_nextParent, .int 0, .ref m_kind, .ref m_number, .int 0, .ref m_begin, .ref m_table, .ref m_handlers, .ref m_base, .ref m_locals, .ref m_self, .ref m_found, .ref m_place, .ref m_next, .int 0, .ref m_saidKind, .ref m_saidNumber, .int 0, .int 0, .int (-1)]))]) [0] rfl) (hD.sub (ws' := [(h, .inr (8, [.int 1, .ref m_bytes, .int 0, .ref m_w, .int 0, .int 0, .ref m_saved, .int 0, .ref m_line, .ref m_met, .ref m_waiting, .ref m_nextParent, .int 0, .ref m_kind, .ref m_number, .int 0, .ref m_begin, .ref m_table, .ref m_handlers, .ref m_base, .ref m_locals, .ref m_self, .ref m_found, .ref m_place, .ref m_next, .int 0, .ref m_saidKind, .ref m_saidNumber, .int 0, .int 0, .int (-1)]))]) [0] (by decide) rfl)) (trivial) (Nat.le_of_ble_eq_true rfl) (Nat.le_of_ble_eq_true rfl) d_Model_property_101
  · refine lv_iload_n hx hb d_Model_property_10 rfl (lv_at hl 3 rfl) ?_
    refine lv_iconst (v := (-1)) hx hb d_Model_property_11 (by decide) ?_
    refine lv_iconst (v := 4) hx hb d_Model_property_12 (by decide) ?_
    refine mv_i (va_runS (As := [.int kd, .int (-1), .int 4]) (rest := []) ⟨hx, hb, hml, hown, hts⟩ (c_Model_outside l D cI cZ cJ kd (-1) 4 _ ) (va_cwS 3 hts (gInS k_2 k_3 k_4 k_1) rfl rfl rfl (by decide +kernel) ⟨Nat.le_of_ble_eq_true rfl, Nat.le_of_ble_eq_true rfl⟩) (pre_S (hP.sub [] rfl) (hK.sub [0, 1, 2] rfl) (hD.sub [] (by decide) rfl) hT) rfl rfl hl.1 rfl (lv_room (Nat.le_of_ble_eq_true rfl)) d_Model_property_13 ⟨Nat.le_of_ble_eq_true rfl, Nat.le_of_ble_eq_true rfl⟩) hP hD hS hA [] [0, 1] rfl rfl (by decide) (by decide) (wr := [(h, .inr (8, [.int 0, .ref m_bytes, .int 0, .ref m_w, .int 0, .int 0, .ref m_saved, .int 0, .ref m_line, .ref m_met, .ref m_waiting, .ref m_nextParent, .int 0, .ref m_kind, .ref m_number, .int 0, .ref m_begin, .ref m_table, .ref m_handlers, .ref m_base, .ref m_locals, .ref m_self, .ref m_found, .ref m_place, .ref m_next, .int 0, .ref m_saidKind, .ref m_saidNumber, .int 0, .int 0, .int (-1)])), (m_w, .inl (cI, 5568, .inl (fun _ => 0)))]) (wn := fun _ => []) (fun _ _ h9 => h9) (fun r6 _ H locs hp7 hP hD hS => ?_)
    have hP : va_P D cL [(h, .inr (8, [.int 0, .ref m_bytes, .int 0, .ref m_w, .int 0, .int 0, .ref m_saved, .int 0, .ref m_line, .ref m_met, .ref m_waiting, .ref m_nextParent, .int 0, .ref m_kind, .ref m_number, .int 0, .ref m_begin, .ref m_table, .ref m_handlers, .ref m_base, .ref m_locals, .ref m_self, .ref m_found, .ref m_place, .ref m_next, .int 0, .ref m_saidKind, .ref m_saidNumber, .int 0, .int 0, .int (-1)])), (m_w, .inl (cI, 5568, .inl (fun _ => 0)))] H := hP
    have hD : va_D A [(h, .inr (8, [.int 0, .ref m_bytes, .int 0, .ref m_w, .int 0, .int 0, .ref m_saved, .int 0, .ref m_line, .ref m_met, .ref m_waiting, .ref m_nextParent, .int 0, .ref m_kind, .ref m_number, .int 0, .ref m_begin, .ref m_table, .ref m_handlers, .ref m_base, .ref m_locals, .ref m_self, .ref m_found, .ref m_place, .ref m_next, .int 0, .ref m_saidKind, .ref m_saidNumber, .int 0, .int 0, .int (-1)])), (m_w, .inl (cI, 5568, .inl (fun _ => 0)))] := hD
    refine lv_if_ne hx hb d_Model_property_16 (tgt := 54) (by decide) (fun hc8 => ?_) (fun hc8 => ?_)
    · refine lv_iconst (v := 0) hx hb d_Model_property_54 (by decide) ?_
      refine lv_istore (lv' := [(5, .int 0), (0, .ref h), (1, .int oo), (2, .int p_), (3, .int kd), (4, .int vl)]) hx hb d_Model_property_55 hl (by decide) rfl (fun ls hl => ?_)
      refine lv_aload_n hx hb d_Model_property_57 rfl (lv_at hl 1 rfl) ?_
      refine lv_aload_n hx hb d_Model_property_58 rfl (lv_at hl 1 rfl) ?_
      refine lv_iload_n hx hb d_Model_property_59 rfl (lv_at hl 2 rfl) ?_
      refine mv_i (va_runV (C := "TaleMachineModel") (As := [.int oo]) (rest := [.ref h]) ⟨hx, hb, hml, hown, hts⟩ (c_Model_isThere l D cI cZ cJ _ _ _ _ _ _ _ _ _ _ _ _ _ _ _ _ _ _ _ _ _ _ _ ) (cwV 1 hts (gInV k_7 k_8 k_9 k_4 k_6) rfl rfl rfl (by decide +kernel) ⟨Nat.le_of_ble_eq_true rfl, Nat.le_of_ble_eq_true rfl⟩) (pre_V (va_recv hK hP (q := ("TaleMachineModel", F_Model, 31)) rfl (q0 := 0) rfl) (hP.sub [0, 1] rfl) (hK.sub [0, 1, 2] rfl) (hD.sub [0, 1] (by decide) rfl) hT) rfl rfl hl.1 rfl (lv_room (Nat.le_of_ble_eq_true rfl)) d_Model_property_60 ⟨Nat.le_of_ble_eq_true rfl, Nat.le_of_ble_eq_true rfl⟩) hP hD hS hA [0, 1] [] rfl rfl (by decide) (by decide) (wr := []) (wn := fun _ => [(h, .inr (8, [.int 0, .ref m_bytes, .int 0, .ref m_w, .int 0, .int 0, .ref m_saved, .int 0, .ref m_line, .ref m_met, .ref m_waiting, .ref m_nextParent, .int 0, .ref m_kind, .ref m_number, .int 0, .ref m_begin, .ref m_table, .ref m_handlers, .ref m_base, .ref m_locals, .ref m_self, .ref m_found, .ref m_place, .ref m_next, .int 0, .ref m_saidKind, .ref m_saidNumber, .int 0, .int 0, .int (-1)])), (m_w, .inl (cI, 5568, .inl (fun _ => 0)))]) (fun _ _ h9 => h9) (fun r9 _ H locs hp10 hP hD hS => ?_)
      have hP : va_P D cL [(h, .inr (8, [.int 0, .ref m_bytes, .int 0, .ref m_w, .int 0, .int 0, .ref m_saved, .int 0, .ref m_line, .ref m_met, .ref m_waiting, .ref m_nextParent, .int 0, .ref m_kind, .ref m_number, .int 0, .ref m_begin, .ref m_table, .ref m_handlers, .ref m_base, .ref m_locals, .ref m_self, .ref m_found, .ref m_place, .ref m_next, .int 0, .ref m_saidKind, .ref m_saidNumber, .int 0, .int 0, .int (-1)])), (m_w, .inl (cI, 5568, .inl (fun _ => 0)))] H := hP
      have hD : va_D A [(h, .inr (8, [.int 0, .ref m_bytes, .int 0, .ref m_w, .int 0, .int 0, .ref m_saved, .int 0, .ref m_line, .ref m_met, .ref m_waiting, .ref m_nextParent, .int 0, .ref m_kind, .ref m_number, .int 0, .ref m_begin, .ref m_table, .ref m_handlers, .ref m_base, .ref m_locals, .ref m_self, .ref m_found, .ref m_place, .ref m_next, .int 0, .ref m_saidKind, .ref m_saidNumber, .int 0, .int 0, .int (-1)])), (m_w, .inl (cI, 5568, .inl (fun _ => 0)))] := hD
      obtain rfl : r9 = 0 := hp10
      refine lv_if_ne hx hb d_Model_property_63 (tgt := 70) (by decide) (fun hz => absurd (by decide) hz) (fun _ => ?_)
      refine lv_iconst (v := 1) hx hb d_Model_property_66 (by decide) ?_
      refine lv_goto hx hb d_Model_property_67 (tgt := 91) (by decide) ?_
      refine va_put (D := D) (ci := 8) (v := .int 1) (ty := .int) (C := "TaleMachineModel") (T := F_Model) (N := 31) hx hb hts in_Model t_Model t_Model_ok n_Model hown hK hP hD hS 0 rfl rfl 0 (by decide) (hts _ k_0) (fun _ h9 => h9) rfl (by decide +kernel) rfl rfl (Nat.le_of_ble_eq_true rfl) d_Model_property_91 (fun H locs hP hD hS => ?_)
      have hP : va_P D cL [(h, .inr (8, [.int 1, .ref m_bytes, .int 0, .ref m_w, .int 0, .int 0, .ref m_saved, .int 0, .ref m_line, .ref m_met, .ref m_waiting, .ref m_nextParent, .int 0, .ref m_kind, .ref m_number, .int 0, .ref m_begin, .ref m_table, .ref m_handlers, .ref m_base, .ref m_locals, .ref m_self, .ref m_found, .ref m_place, .ref m_next, .int 0, .ref m_saidKind, .ref m_saidNumber, .int 0, .int 0, .int (-1)])), (m_w, .inl (cI, 5568, .inl (fun _ => 0)))] H := hP
      have hD : va_D A [(h, .inr (8, [.int 1, .ref m_bytes, .int 0, .ref m_w, .int 0, .int 0, .ref m_saved, .int 0, .ref m_line, .ref m_met, .ref m_waiting, .ref m_nextParent, .int 0, .ref m_kind, .ref m_number, .int 0, .ref m_begin, .ref m_table, .ref m_handlers, .ref m_base, .ref m_locals, .ref m_self, .ref m_found, .ref m_place, .ref m_next, .int 0, .ref m_saidKind, .ref m_saidNumber, .int 0, .int 0, .int (-1)])), (m_w, .inl (cI, 5568, .inl (fun _ => 0)))] := hD
      refine lv_aload_n hx hb d_Model_property_94 rfl (lv_at hl 1 rfl) ?_
      refine va_get (D := D) (ci := 8) (v := .int 1) (C := "TaleMachineModel") (T := F_Model) (N := 31) hx hb hts in_Model hown hK hP 0 rfl rfl 0 (by decide) (hts _ k_0) (fun _ h9 => h9) rfl d_Model_property_95 ?_
      refine lv_if_le hx hb d_Model_property_98 (tgt := 102) (by decide) (fun hz => absurd hz (by decide)) (fun _ => ?_)
      exact end_v hx hb hr hlocks hS (u := ()) (at_end (hP.sub (ws' := [(h, .inr (8, [.int 1, .ref m_bytes, .int 0, .ref m_w, .int 0, .int 0, .ref m_saved, .int 0, .ref m_line, .ref m_met, .ref m_waiting, .ref m_nextParent, .int 0, .ref m_kind, .ref m_number, .int 0, .ref m_begin, .ref m_table, .ref m_handlers, .ref m_base, .ref m_locals, .ref m_self, .ref m_found, .ref m_place, .ref m_next, .int 0, .ref m_saidKind, .ref m_saidNumber, .int 0, .int 0, .int (-1)]))]) [0] rfl) (hD.sub (ws' := [(h, .inr (8, [.int 1, .ref m_bytes, .int 0, .ref m_w, .int 0, .int 0, .ref m_saved, .int 0, .ref m_line, .ref m_met, .ref m_waiting, .ref m_nextParent, .int 0, .ref m_kind, .ref m_number, .int 0, .ref m_begin, .ref m_table, .ref m_handlers, .ref m_base, .ref m_locals, .ref m_self, .ref m_found, .ref m_place, .ref m_next, .int 0, .ref m_saidKind, .ref m_saidNumber, .int 0, .int 0, .int (-1)]))]) [0] (by decide) rfl)) (trivial) (Nat.le_of_ble_eq_true rfl) (Nat.le_of_ble_eq_true rfl) d_Model_property_101
    · refine lv_iload_n hx hb d_Model_property_19 rfl (lv_at hl 3 rfl) ?_
      refine lv_iconst (v := 3) hx hb d_Model_property_20 (by decide) ?_
      refine lv_icmp_ne hx hb d_Model_property_21 (tgt := 33) (by decide) (fun hc11 => ?_) (fun hc11 => ?_)
      · refine lv_iload_n hx hb d_Model_property_33 rfl (lv_at hl 3 rfl) ?_
        refine lv_iconst (v := 4) hx hb d_Model_property_34 (by decide) ?_
        refine lv_icmp_ne hx hb d_Model_property_35 (tgt := 50) (by decide) (fun hc12 => ?_) (fun hc12 => ?_)
        · refine lv_iconst (v := 1) hx hb d_Model_property_50 (by decide) ?_
          refine lv_goto hx hb d_Model_property_51 (tgt := 55) (by decide) ?_
          refine lv_istore (lv' := [(5, .int 1), (0, .ref h), (1, .int oo), (2, .int p_), (3, .int kd), (4, .int vl)]) hx hb d_Model_property_55 hl (by decide) rfl (fun ls hl => ?_)
          refine lv_aload_n hx hb d_Model_property_57 rfl (lv_at hl 1 rfl) ?_
          refine lv_aload_n hx hb d_Model_property_58 rfl (lv_at hl 1 rfl) ?_
          refine lv_iload_n hx hb d_Model_property_59 rfl (lv_at hl 2 rfl) ?_
          refine mv_i (va_runV (C := "TaleMachineModel") (As := [.int oo]) (rest := [.ref h]) ⟨hx, hb, hml, hown, hts⟩ (c_Model_isThere l D cI cZ cJ _ _ _ _ _ _ _ _ _ _ _ _ _ _ _ _ _ _ _ _ _ _ _ ) (cwV 1 hts (gInV k_7 k_8 k_9 k_4 k_6) rfl rfl rfl (by decide +kernel) ⟨Nat.le_of_ble_eq_true rfl, Nat.le_of_ble_eq_true rfl⟩) (pre_V (va_recv hK hP (q := ("TaleMachineModel", F_Model, 31)) rfl (q0 := 0) rfl) (hP.sub [0, 1] rfl) (hK.sub [0, 1, 2] rfl) (hD.sub [0, 1] (by decide) rfl) hT) rfl rfl hl.1 rfl (lv_room (Nat.le_of_ble_eq_true rfl)) d_Model_property_60 ⟨Nat.le_of_ble_eq_true rfl, Nat.le_of_ble_eq_true rfl⟩) hP hD hS hA [0, 1] [] rfl rfl (by decide) (by decide) (wr := []) (wn := fun _ => [(h, .inr (8, [.int 0, .ref m_bytes, .int 0, .ref m_w, .int 0, .int 0, .ref m_saved, .int 0, .ref m_line, .ref m_met, .ref m_waiting, .ref m_nextParent, .int 0, .ref m_kind, .ref m_number, .int 0, .ref m_begin, .ref m_table, .ref m_handlers, .ref m_base, .ref m_locals, .ref m_self, .ref m_found, .ref m_place, .ref m_next, .int 0, .ref m_saidKind, .ref m_saidNumber, .int 0, .int 0, .int (-1)])), (m_w, .inl (cI, 5568, .inl (fun _ => 0)))]) (fun _ _ h9 => h9) (fun r13 _ H locs hp14 hP hD hS => ?_)
          have hP : va_P D cL [(h, .inr (8, [.int 0, .ref m_bytes, .int 0, .ref m_w, .int 0, .int 0, .ref m_saved, .int 0, .ref m_line, .ref m_met, .ref m_waiting, .ref m_nextParent, .int 0, .ref m_kind, .ref m_number, .int 0, .ref m_begin, .ref m_table, .ref m_handlers, .ref m_base, .ref m_locals, .ref m_self, .ref m_found, .ref m_place, .ref m_next, .int 0, .ref m_saidKind, .ref m_saidNumber, .int 0, .int 0, .int (-1)])), (m_w, .inl (cI, 5568, .inl (fun _ => 0)))] H := hP
          have hD : va_D A [(h, .inr (8, [.int 0, .ref m_bytes, .int 0, .ref m_w, .int 0, .int 0, .ref m_saved, .int 0, .ref m_line, .ref m_met, .ref m_waiting, .ref m_nextParent, .int 0, .ref m_kind, .ref m_number, .int 0, .ref m_begin, .ref m_table, .ref m_handlers, .ref m_base, .ref m_locals, .ref m_self, .ref m_found, .ref m_place, .ref m_next, .int 0, .ref m_saidKind, .ref m_saidNumber, .int 0, .int 0, .int (-1)])), (m_w, .inl (cI, 5568, .inl (fun _ => 0)))] := hD
          obtain rfl : r13 = 0 := hp14
          refine lv_if_ne hx hb d_Model_property_63 (tgt := 70) (by decide) (fun hz => absurd (by decide) hz) (fun _ => ?_)
          refine lv_iconst (v := 1) hx hb d_Model_property_66 (by decide) ?_
          refine lv_goto hx hb d_Model_property_67 (tgt := 91) (by decide) ?_
          refine va_put (D := D) (ci := 8) (v := .int 1) (ty := .int) (C := "TaleMachineModel") (T := F_Model) (N := 31) hx hb hts in_Model t_Model t_Model_ok n_Model hown hK hP hD hS 0 rfl rfl 0 (by decide) (hts _ k_0) (fun _ h9 => h9) rfl (by decide +kernel) rfl rfl (Nat.le_of_ble_eq_true rfl) d_Model_property_91 (fun H locs hP hD hS => ?_)
          have hP : va_P D cL [(h, .inr (8, [.int 1, .ref m_bytes, .int 0, .ref m_w, .int 0, .int 0, .ref m_saved, .int 0, .ref m_line, .ref m_met, .ref m_waiting, .ref m_nextParent, .int 0, .ref m_kind, .ref m_number, .int 0, .ref m_begin, .ref m_table, .ref m_handlers, .ref m_base, .ref m_locals, .ref m_self, .ref m_found, .ref m_place, .ref m_next, .int 0, .ref m_saidKind, .ref m_saidNumber, .int 0, .int 0, .int (-1)])), (m_w, .inl (cI, 5568, .inl (fun _ => 0)))] H := hP
          have hD : va_D A [(h, .inr (8, [.int 1, .ref m_bytes, .int 0, .ref m_w, .int 0, .int 0, .ref m_saved, .int 0, .ref m_line, .ref m_met, .ref m_waiting, .ref m_nextParent, .int 0, .ref m_kind, .ref m_number, .int 0, .ref m_begin, .ref m_table, .ref m_handlers, .ref m_base, .ref m_locals, .ref m_self, .ref m_found, .ref m_place, .ref m_next, .int 0, .ref m_saidKind, .ref m_saidNumber, .int 0, .int 0, .int (-1)])), (m_w, .inl (cI, 5568, .inl (fun _ => 0)))] := hD
          refine lv_aload_n hx hb d_Model_property_94 rfl (lv_at hl 1 rfl) ?_
          refine va_get (D := D) (ci := 8) (v := .int 1) (C := "TaleMachineModel") (T := F_Model) (N := 31) hx hb hts in_Model hown hK hP 0 rfl rfl 0 (by decide) (hts _ k_0) (fun _ h9 => h9) rfl d_Model_property_95 ?_
          refine lv_if_le hx hb d_Model_property_98 (tgt := 102) (by decide) (fun hz => absurd hz (by decide)) (fun _ => ?_)
          exact end_v hx hb hr hlocks hS (u := ()) (at_end (hP.sub (ws' := [(h, .inr (8, [.int 1, .ref m_bytes, .int 0, .ref m_w, .int 0, .int 0, .ref m_saved, .int 0, .ref m_line, .ref m_met, .ref m_waiting, .ref m_nextParent, .int 0, .ref m_kind, .ref m_number, .int 0, .ref m_begin, .ref m_table, .ref m_handlers, .ref m_base, .ref m_locals, .ref m_self, .ref m_found, .ref m_place, .ref m_next, .int 0, .ref m_saidKind, .ref m_saidNumber, .int 0, .int 0, .int (-1)]))]) [0] rfl) (hD.sub (ws' := [(h, .inr (8, [.int 1, .ref m_bytes, .int 0, .ref m_w, .int 0, .int 0, .ref m_saved, .int 0, .ref m_line, .ref m_met, .ref m_waiting, .ref m_nextParent, .int 0, .ref m_kind, .ref m_number, .int 0, .ref m_begin, .ref m_table, .ref m_handlers, .ref m_base, .ref m_locals, .ref m_self, .ref m_found, .ref m_place, .ref m_next, .int 0, .ref m_saidKind, .ref m_saidNumber, .int 0, .int 0, .int (-1)]))]) [0] (by decide) rfl)) (trivial) (Nat.le_of_ble_eq_true rfl) (Nat.le_of_ble_eq_true rfl) d_Model_property_101
        · refine lv_iload hx hb d_Model_property_38 (lv_at hl 4 rfl) ?_
          refine lv_iconst (v := 0) hx hb d_Model_property_40 (by decide) ?_
          refine lv_sipush (v := 299) hx hb d_Model_property_41 (by decide) ?_
          refine mv_i (va_runS (As := [.int vl, .int 0, .int 299]) (rest := []) ⟨hx, hb, hml, hown, hts⟩ (c_Model_outside l D cI cZ cJ vl 0 299 _ ) (va_cwS 3 hts (gInS k_2 k_3 k_4 k_1) rfl rfl rfl (by decide +kernel) ⟨Nat.le_of_ble_eq_true rfl, Nat.le_of_ble_eq_true rfl⟩) (pre_S (hP.sub [] rfl) (hK.sub [0, 1, 2] rfl) (hD.sub [] (by decide) rfl) hT) rfl rfl hl.1 rfl (lv_room (Nat.le_of_ble_eq_true rfl)) d_Model_property_44 ⟨Nat.le_of_ble_eq_true rfl, Nat.le_of_ble_eq_true rfl⟩) hP hD hS hA [] [0, 1] rfl rfl (by decide) (by decide) (wr := [(h, .inr (8, [.int 0, .ref m_bytes, .int 0, .ref m_w, .int 0, .int 0, .ref m_saved, .int 0, .ref m_line, .ref m_met, .ref m_waiting, .ref m_nextParent, .int 0, .ref m_kind, .ref m_number, .int 0, .ref m_begin, .ref m_table, .ref m_handlers, .ref m_base, .ref m_locals, .ref m_self, .ref m_found, .ref m_place, .ref m_next, .int 0, .ref m_saidKind, .ref m_saidNumber, .int 0, .int 0, .int (-1)])), (m_w, .inl (cI, 5568, .inl (fun _ => 0)))]) (wn := fun _ => []) (fun _ _ h9 => h9) (fun r15 _ H locs hp16 hP hD hS => ?_)
          have hP : va_P D cL [(h, .inr (8, [.int 0, .ref m_bytes, .int 0, .ref m_w, .int 0, .int 0, .ref m_saved, .int 0, .ref m_line, .ref m_met, .ref m_waiting, .ref m_nextParent, .int 0, .ref m_kind, .ref m_number, .int 0, .ref m_begin, .ref m_table, .ref m_handlers, .ref m_base, .ref m_locals, .ref m_self, .ref m_found, .ref m_place, .ref m_next, .int 0, .ref m_saidKind, .ref m_saidNumber, .int 0, .int 0, .int (-1)])), (m_w, .inl (cI, 5568, .inl (fun _ => 0)))] H := hP
          have hD : va_D A [(h, .inr (8, [.int 0, .ref m_bytes, .int 0, .ref m_w, .int 0, .int 0, .ref m_saved, .int 0, .ref m_line, .ref m_met, .ref m_waiting, .ref m_nextParent, .int 0, .ref m_kind, .ref m_number, .int 0, .ref m_begin, .ref m_table, .ref m_handlers, .ref m_base, .ref m_locals, .ref m_self, .ref m_found, .ref m_place, .ref m_next, .int 0, .ref m_saidKind, .ref m_saidNumber, .int 0, .int 0, .int (-1)])), (m_w, .inl (cI, 5568, .inl (fun _ => 0)))] := hD
          refine lv_if_ne hx hb d_Model_property_47 (tgt := 54) (by decide) (fun hc17 => ?_) (fun hc17 => ?_)
          · refine lv_iconst (v := 0) hx hb d_Model_property_54 (by decide) ?_
            refine lv_istore (lv' := [(5, .int 0), (0, .ref h), (1, .int oo), (2, .int p_), (3, .int kd), (4, .int vl)]) hx hb d_Model_property_55 hl (by decide) rfl (fun ls hl => ?_)
            refine lv_aload_n hx hb d_Model_property_57 rfl (lv_at hl 1 rfl) ?_
            refine lv_aload_n hx hb d_Model_property_58 rfl (lv_at hl 1 rfl) ?_
            refine lv_iload_n hx hb d_Model_property_59 rfl (lv_at hl 2 rfl) ?_
            refine mv_i (va_runV (C := "TaleMachineModel") (As := [.int oo]) (rest := [.ref h]) ⟨hx, hb, hml, hown, hts⟩ (c_Model_isThere l D cI cZ cJ _ _ _ _ _ _ _ _ _ _ _ _ _ _ _ _ _ _ _ _ _ _ _ ) (cwV 1 hts (gInV k_7 k_8 k_9 k_4 k_6) rfl rfl rfl (by decide +kernel) ⟨Nat.le_of_ble_eq_true rfl, Nat.le_of_ble_eq_true rfl⟩) (pre_V (va_recv hK hP (q := ("TaleMachineModel", F_Model, 31)) rfl (q0 := 0) rfl) (hP.sub [0, 1] rfl) (hK.sub [0, 1, 2] rfl) (hD.sub [0, 1] (by decide) rfl) hT) rfl rfl hl.1 rfl (lv_room (Nat.le_of_ble_eq_true rfl)) d_Model_property_60 ⟨Nat.le_of_ble_eq_true rfl, Nat.le_of_ble_eq_true rfl⟩) hP hD hS hA [0, 1] [] rfl rfl (by decide) (by decide) (wr := []) (wn := fun _ => [(h, .inr (8, [.int 0, .ref m_bytes, .int 0, .ref m_w, .int 0, .int 0, .ref m_saved, .int 0, .ref m_line, .ref m_met, .ref m_waiting, .ref m_nextParent, .int 0, .ref m_kind, .ref m_number, .int 0, .ref m_begin, .ref m_table, .ref m_handlers, .ref m_base, .ref m_locals, .ref m_self, .ref m_found, .ref m_place, .ref m_next, .int 0, .ref m_saidKind, .ref m_saidNumber, .int 0, .int 0, .int (-1)])), (m_w, .inl (cI, 5568, .inl (fun _ => 0)))]) (fun _ _ h9 => h9) (fun r18 _ H locs hp19 hP hD hS => ?_)
            have hP : va_P D cL [(h, .inr (8, [.int 0, .ref m_bytes, .int 0, .ref m_w, .int 0, .int 0, .ref m_saved, .int 0, .ref m_line, .ref m_met, .ref m_waiting, .ref m_nextParent, .int 0, .ref m_kind, .ref m_number, .int 0, .ref m_begin, .ref m_table, .ref m_handlers, .ref m_base, .ref m_locals, .ref m_self, .ref m_found, .ref m_place, .ref m_next, .int 0, .ref m_saidKind, .ref m_saidNumber, .int 0, .int 0, .int (-1)])), (m_w, .inl (cI, 5568, .inl (fun _ => 0)))] H := hP
            have hD : va_D A [(h, .inr (8, [.int 0, .ref m_bytes, .int 0, .ref m_w, .int 0, .int 0, .ref m_saved, .int 0, .ref m_line, .ref m_met, .ref m_waiting, .ref m_nextParent, .int 0, .ref m_kind, .ref m_number, .int 0, .ref m_begin, .ref m_table, .ref m_handlers, .ref m_base, .ref m_locals, .ref m_self, .ref m_found, .ref m_place, .ref m_next, .int 0, .ref m_saidKind, .ref m_saidNumber, .int 0, .int 0, .int (-1)])), (m_w, .inl (cI, 5568, .inl (fun _ => 0)))] := hD
            obtain rfl : r18 = 0 := hp19
            refine lv_if_ne hx hb d_Model_property_63 (tgt := 70) (by decide) (fun hz => absurd (by decide) hz) (fun _ => ?_)
            refine lv_iconst (v := 1) hx hb d_Model_property_66 (by decide) ?_
            refine lv_goto hx hb d_Model_property_67 (tgt := 91) (by decide) ?_
            refine va_put (D := D) (ci := 8) (v := .int 1) (ty := .int) (C := "TaleMachineModel") (T := F_Model) (N := 31) hx hb hts in_Model t_Model t_Model_ok n_Model hown hK hP hD hS 0 rfl rfl 0 (by decide) (hts _ k_0) (fun _ h9 => h9) rfl (by decide +kernel) rfl rfl (Nat.le_of_ble_eq_true rfl) d_Model_property_91 (fun H locs hP hD hS => ?_)
            have hP : va_P D cL [(h, .inr (8, [.int 1, .ref m_bytes, .int 0, .ref m_w, .int 0, .int 0, .ref m_saved, .int 0, .ref m_line, .ref m_met, .ref m_waiting, .ref m_nextParent, .int 0, .ref m_kind, .ref m_number, .int 0, .ref m_begin, .ref m_table, .ref m_handlers, .ref m_base, .ref m_locals, .ref m_self, .ref m_found, .ref m_place, .ref m_next, .int 0, .ref m_saidKind, .ref m_saidNumber, .int 0, .int 0, .int (-1)])), (m_w, .inl (cI, 5568, .inl (fun _ => 0)))] H := hP
            have hD : va_D A [(h, .inr (8, [.int 1, .ref m_bytes, .int 0, .ref m_w, .int 0, .int 0, .ref m_saved, .int 0, .ref m_line, .ref m_met, .ref m_waiting, .ref m_nextParent, .int 0, .ref m_kind, .ref m_number, .int 0, .ref m_begin, .ref m_table, .ref m_handlers, .ref m_base, .ref m_locals, .ref m_self, .ref m_found, .ref m_place, .ref m_next, .int 0, .ref m_saidKind, .ref m_saidNumber, .int 0, .int 0, .int (-1)])), (m_w, .inl (cI, 5568, .inl (fun _ => 0)))] := hD
            refine lv_aload_n hx hb d_Model_property_94 rfl (lv_at hl 1 rfl) ?_
            refine va_get (D := D) (ci := 8) (v := .int 1) (C := "TaleMachineModel") (T := F_Model) (N := 31) hx hb hts in_Model hown hK hP 0 rfl rfl 0 (by decide) (hts _ k_0) (fun _ h9 => h9) rfl d_Model_property_95 ?_
            refine lv_if_le hx hb d_Model_property_98 (tgt := 102) (by decide) (fun hz => absurd hz (by decide)) (fun _ => ?_)
            exact end_v hx hb hr hlocks hS (u := ()) (at_end (hP.sub (ws' := [(h, .inr (8, [.int 1, .ref m_bytes, .int 0, .ref m_w, .int 0, .int 0, .ref m_saved, .int 0, .ref m_line, .ref m_met, .ref m_waiting, .ref m_nextParent, .int 0, .ref m_kind, .ref m_number, .int 0, .ref m_begin, .ref m_table, .ref m_handlers, .ref m_base, .ref m_locals, .ref m_self, .ref m_found, .ref m_place, .ref m_next, .int 0, .ref m_saidKind, .ref m_saidNumber, .int 0, .int 0, .int (-1)]))]) [0] rfl) (hD.sub (ws' := [(h, .inr (8, [.int 1, .ref m_bytes, .int 0, .ref m_w, .int 0, .int 0, .ref m_saved, .int 0, .ref m_line, .ref m_met, .ref m_waiting, .ref m_nextParent, .int 0, .ref m_kind, .ref m_number, .int 0, .ref m_begin, .ref m_table, .ref m_handlers, .ref m_base, .ref m_locals, .ref m_self, .ref m_found, .ref m_place, .ref m_next, .int 0, .ref m_saidKind, .ref m_saidNumber, .int 0, .int 0, .int (-1)]))]) [0] (by decide) rfl)) (trivial) (Nat.le_of_ble_eq_true rfl) (Nat.le_of_ble_eq_true rfl) d_Model_property_101
          · refine lv_iconst (v := 1) hx hb d_Model_property_50 (by decide) ?_
            refine lv_goto hx hb d_Model_property_51 (tgt := 55) (by decide) ?_
            refine lv_istore (lv' := [(5, .int 1), (0, .ref h), (1, .int oo), (2, .int p_), (3, .int kd), (4, .int vl)]) hx hb d_Model_property_55 hl (by decide) rfl (fun ls hl => ?_)
            refine lv_aload_n hx hb d_Model_property_57 rfl (lv_at hl 1 rfl) ?_
            refine lv_aload_n hx hb d_Model_property_58 rfl (lv_at hl 1 rfl) ?_
            refine lv_iload_n hx hb d_Model_property_59 rfl (lv_at hl 2 rfl) ?_
            refine mv_i (va_runV (C := "TaleMachineModel") (As := [.int oo]) (rest := [.ref h]) ⟨hx, hb, hml, hown, hts⟩ (c_Model_isThere l D cI cZ cJ _ _ _ _ _ _ _ _ _ _ _ _ _ _ _ _ _ _ _ _ _ _ _ ) (cwV 1 hts (gInV k_7 k_8 k_9 k_4 k_6) rfl rfl rfl (by decide +kernel) ⟨Nat.le_of_ble_eq_true rfl, Nat.le_of_ble_eq_true rfl⟩) (pre_V (va_recv hK hP (q := ("TaleMachineModel", F_Model, 31)) rfl (q0 := 0) rfl) (hP.sub [0, 1] rfl) (hK.sub [0, 1, 2] rfl) (hD.sub [0, 1] (by decide) rfl) hT) rfl rfl hl.1 rfl (lv_room (Nat.le_of_ble_eq_true rfl)) d_Model_property_60 ⟨Nat.le_of_ble_eq_true rfl, Nat.le_of_ble_eq_true rfl⟩) hP hD hS hA [0, 1] [] rfl rfl (by decide) (by decide) (wr := []) (wn := fun _ => [(h, .inr (8, [.int 0, .ref m_bytes, .int 0, .ref m_w, .int 0, .int 0, .ref m_saved, .int 0, .ref m_line, .ref m_met, .ref m_waiting, .ref m_nextParent, .int 0, .ref m_kind, .ref m_number, .int 0, .ref m_begin, .ref m_table, .ref m_handlers, .ref m_base, .ref m_locals, .ref m_self, .ref m_found, .ref m_place, .ref m_next, .int 0, .ref m_saidKind, .ref m_saidNumber, .int 0, .int 0, .int (-1)])), (m_w, .inl (cI, 5568, .inl (fun _ => 0)))]) (fun _ _ h9 => h9) (fun r20 _ H locs hp21 hP hD hS => ?_)
            have hP : va_P D cL [(h, .inr (8, [.int 0, .ref m_bytes, .int 0, .ref m_w, .int 0, .int 0, .ref m_saved, .int 0, .ref m_line, .ref m_met, .ref m_waiting, .ref m_nextParent, .int 0, .ref m_kind, .ref m_number, .int 0, .ref m_begin, .ref m_table, .ref m_handlers, .ref m_base, .ref m_locals, .ref m_self, .ref m_found, .ref m_place, .ref m_next, .int 0, .ref m_saidKind, .ref m_saidNumber, .int 0, .int 0, .int (-1)])), (m_w, .inl (cI, 5568, .inl (fun _ => 0)))] H := hP
            have hD : va_D A [(h, .inr (8, [.int 0, .ref m_bytes, .int 0, .ref m_w, .int 0, .int 0, .ref m_saved, .int 0, .ref m_line, .ref m_met, .ref m_waiting, .ref m_nextParent, .int 0, .ref m_kind, .ref m_number, .int 0, .ref m_begin, .ref m_table, .ref m_handlers, .ref m_base, .ref m_locals, .ref m_self, .ref m_found, .ref m_place, .ref m_next, .int 0, .ref m_saidKind, .ref m_saidNumber, .int 0, .int 0, .int (-1)])), (m_w, .inl (cI, 5568, .inl (fun _ => 0)))] := hD
            obtain rfl : r20 = 0 := hp21
            refine lv_if_ne hx hb d_Model_property_63 (tgt := 70) (by decide) (fun hz => absurd (by decide) hz) (fun _ => ?_)
            refine lv_iconst (v := 1) hx hb d_Model_property_66 (by decide) ?_
            refine lv_goto hx hb d_Model_property_67 (tgt := 91) (by decide) ?_
            refine va_put (D := D) (ci := 8) (v := .int 1) (ty := .int) (C := "TaleMachineModel") (T := F_Model) (N := 31) hx hb hts in_Model t_Model t_Model_ok n_Model hown hK hP hD hS 0 rfl rfl 0 (by decide) (hts _ k_0) (fun _ h9 => h9) rfl (by decide +kernel) rfl rfl (Nat.le_of_ble_eq_true rfl) d_Model_property_91 (fun H locs hP hD hS => ?_)
            have hP : va_P D cL [(h, .inr (8, [.int 1, .ref m_bytes, .int 0, .ref m_w, .int 0, .int 0, .ref m_saved, .int 0, .ref m_line, .ref m_met, .ref m_waiting, .ref m_nextParent, .int 0, .ref m_kind, .ref m_number, .int 0, .ref m_begin, .ref m_table, .ref m_handlers, .ref m_base, .ref m_locals, .ref m_self, .ref m_found, .ref m_place, .ref m_next, .int 0, .ref m_saidKind, .ref m_saidNumber, .int 0, .int 0, .int (-1)])), (m_w, .inl (cI, 5568, .inl (fun _ => 0)))] H := hP
            have hD : va_D A [(h, .inr (8, [.int 1, .ref m_bytes, .int 0, .ref m_w, .int 0, .int 0, .ref m_saved, .int 0, .ref m_line, .ref m_met, .ref m_waiting, .ref m_nextParent, .int 0, .ref m_kind, .ref m_number, .int 0, .ref m_begin, .ref m_table, .ref m_handlers, .ref m_base, .ref m_locals, .ref m_self, .ref m_found, .ref m_place, .ref m_next, .int 0, .ref m_saidKind, .ref m_saidNumber, .int 0, .int 0, .int (-1)])), (m_w, .inl (cI, 5568, .inl (fun _ => 0)))] := hD
            refine lv_aload_n hx hb d_Model_property_94 rfl (lv_at hl 1 rfl) ?_
            refine va_get (D := D) (ci := 8) (v := .int 1) (C := "TaleMachineModel") (T := F_Model) (N := 31) hx hb hts in_Model hown hK hP 0 rfl rfl 0 (by decide) (hts _ k_0) (fun _ h9 => h9) rfl d_Model_property_95 ?_
            refine lv_if_le hx hb d_Model_property_98 (tgt := 102) (by decide) (fun hz => absurd hz (by decide)) (fun _ => ?_)
            exact end_v hx hb hr hlocks hS (u := ()) (at_end (hP.sub (ws' := [(h, .inr (8, [.int 1, .ref m_bytes, .int 0, .ref m_w, .int 0, .int 0, .ref m_saved, .int 0, .ref m_line, .ref m_met, .ref m_waiting, .ref m_nextParent, .int 0, .ref m_kind, .ref m_number, .int 0, .ref m_begin, .ref m_table, .ref m_handlers, .ref m_base, .ref m_locals, .ref m_self, .ref m_found, .ref m_place, .ref m_next, .int 0, .ref m_saidKind, .ref m_saidNumber, .int 0, .int 0, .int (-1)]))]) [0] rfl) (hD.sub (ws' := [(h, .inr (8, [.int 1, .ref m_bytes, .int 0, .ref m_w, .int 0, .int 0, .ref m_saved, .int 0, .ref m_line, .ref m_met, .ref m_waiting, .ref m_nextParent, .int 0, .ref m_kind, .ref m_number, .int 0, .ref m_begin, .ref m_table, .ref m_handlers, .ref m_base, .ref m_locals, .ref m_self, .ref m_found, .ref m_place, .ref m_next, .int 0, .ref m_saidKind, .ref m_saidNumber, .int 0, .int 0, .int (-1)]))]) [0] (by decide) rfl)) (trivial) (Nat.le_of_ble_eq_true rfl) (Nat.le_of_ble_eq_true rfl) d_Model_property_101
      · refine lv_aload_n hx hb d_Model_property_24 rfl (lv_at hl 0 rfl) ?_
        refine lv_iload hx hb d_Model_property_25 (lv_at hl 4 rfl) ?_
        refine mv_i (va_runV (C := "TaleMachineModel") (As := [.int vl]) (rest := []) ⟨hx, hb, hml, hown, hts⟩ (c_Model_isThere l D cI cZ cJ _ _ _ _ _ _ _ _ _ _ _ _ _ _ _ _ _ _ _ _ _ vl _ ) (cwV 1 hts (gInV k_7 k_8 k_9 k_4 k_6) rfl rfl rfl (by decide +kernel) ⟨Nat.le_of_ble_eq_true rfl, Nat.le_of_ble_eq_true rfl⟩) (pre_V (va_recv hK hP (q := ("TaleMachineModel", F_Model, 31)) rfl (q0 := 0) rfl) (hP.sub [0, 1] rfl) (hK.sub [0, 1, 2] rfl) (hD.sub [0, 1] (by decide) rfl) hT) rfl rfl hl.1 rfl (lv_room (Nat.le_of_ble_eq_true rfl)) d_Model_property_27 ⟨Nat.le_of_ble_eq_true rfl, Nat.le_of_ble_eq_true rfl⟩) hP hD hS hA [0, 1] [] rfl rfl (by decide) (by decide) (wr := []) (wn := fun _ => [(h, .inr (8, [.int 0, .ref m_bytes, .int 0, .ref m_w, .int 0, .int 0, .ref m_saved, .int 0, .ref m_line, .ref m_met, .ref m_waiting, .ref m_nextParent, .int 0, .ref m_kind, .ref m_number, .int 0, .ref m_begin, .ref m_table, .ref m_handlers, .ref m_base, .ref m_locals, .ref m_self, .ref m_found, .ref m_place, .ref m_next, .int 0, .ref m_saidKind, .ref m_saidNumber, .int 0, .int 0, .int (-1)])), (m_w, .inl (cI, 5568, .inl (fun _ => 0)))]) (fun _ _ h9 => h9) (fun r22 _ H locs hp23 hP hD hS => ?_)
        have hP : va_P D cL [(h, .inr (8, [.int 0, .ref m_bytes, .int 0, .ref m_w, .int 0, .int 0, .ref m_saved, .int 0, .ref m_line, .ref m_met, .ref m_waiting, .ref m_nextParent, .int 0, .ref m_kind, .ref m_number, .int 0, .ref m_begin, .ref m_table, .ref m_handlers, .ref m_base, .ref m_locals, .ref m_self, .ref m_found, .ref m_place, .ref m_next, .int 0, .ref m_saidKind, .ref m_saidNumber, .int 0, .int 0, .int (-1)])), (m_w, .inl (cI, 5568, .inl (fun _ => 0)))] H := hP
        have hD : va_D A [(h, .inr (8, [.int 0, .ref m_bytes, .int 0, .ref m_w, .int 0, .int 0, .ref m_saved, .int 0, .ref m_line, .ref m_met, .ref m_waiting, .ref m_nextParent, .int 0, .ref m_kind, .ref m_number, .int 0, .ref m_begin, .ref m_table, .ref m_handlers, .ref m_base, .ref m_locals, .ref m_self, .ref m_found, .ref m_place, .ref m_next, .int 0, .ref m_saidKind, .ref m_saidNumber, .int 0, .int 0, .int (-1)])), (m_w, .inl (cI, 5568, .inl (fun _ => 0)))] := hD
        obtain rfl : r22 = 0 := hp23
        refine lv_if_eq hx hb d_Model_property_30 (tgt := 54) (by decide) (fun _ => ?_) (fun hz => absurd (by decide) hz)
        refine lv_iconst (v := 0) hx hb d_Model_property_54 (by decide) ?_
        refine lv_istore (lv' := [(5, .int 0), (0, .ref h), (1, .int oo), (2, .int p_), (3, .int kd), (4, .int vl)]) hx hb d_Model_property_55 hl (by decide) rfl (fun ls hl => ?_)
        refine lv_aload_n hx hb d_Model_property_57 rfl (lv_at hl 1 rfl) ?_
        refine lv_aload_n hx hb d_Model_property_58 rfl (lv_at hl 1 rfl) ?_
        refine lv_iload_n hx hb d_Model_property_59 rfl (lv_at hl 2 rfl) ?_
        refine mv_i (va_runV (C := "TaleMachineModel") (As := [.int oo]) (rest := [.ref h]) ⟨hx, hb, hml, hown, hts⟩ (c_Model_isThere l D cI cZ cJ _ _ _ _ _ _ _ _ _ _ _ _ _ _ _ _ _ _ _ _ _ _ _ ) (cwV 1 hts (gInV k_7 k_8 k_9 k_4 k_6) rfl rfl rfl (by decide +kernel) ⟨Nat.le_of_ble_eq_true rfl, Nat.le_of_ble_eq_true rfl⟩) (pre_V (va_recv hK hP (q := ("TaleMachineModel", F_Model, 31)) rfl (q0 := 0) rfl) (hP.sub [0, 1] rfl) (hK.sub [0, 1, 2] rfl) (hD.sub [0, 1] (by decide) rfl) hT) rfl rfl hl.1 rfl (lv_room (Nat.le_of_ble_eq_true rfl)) d_Model_property_60 ⟨Nat.le_of_ble_eq_true rfl, Nat.le_of_ble_eq_true rfl⟩) hP hD hS hA [0, 1] [] rfl rfl (by decide) (by decide) (wr := []) (wn := fun _ => [(h, .inr (8, [.int 0, .ref m_bytes, .int 0, .ref m_w, .int 0, .int 0, .ref m_saved, .int 0, .ref m_line, .ref m_met, .ref m_waiting, .ref m_nextParent, .int 0, .ref m_kind, .ref m_number, .int 0, .ref m_begin, .ref m_table, .ref m_handlers, .ref m_base, .ref m_locals, .ref m_self, .ref m_found, .ref m_place, .ref m_next, .int 0, .ref m_saidKind, .ref m_saidNumber, .int 0, .int 0, .int (-1)])), (m_w, .inl (cI, 5568, .inl (fun _ => 0)))]) (fun _ _ h9 => h9) (fun r24 _ H locs hp25 hP hD hS => ?_)
        have hP : va_P D cL [(h, .inr (8, [.int 0, .ref m_bytes, .int 0, .ref m_w, .int 0, .int 0, .ref m_saved, .int 0, .ref m_line, .ref m_met, .ref m_waiting, .ref m_nextParent, .int 0, .ref m_kind, .ref m_number, .int 0, .ref m_begin, .ref m_table, .ref m_handlers, .ref m_base, .ref m_locals, .ref m_self, .ref m_found, .ref m_place, .ref m_next, .int 0, .ref m_saidKind, .ref m_saidNumber, .int 0, .int 0, .int (-1)])), (m_w, .inl (cI, 5568, .inl (fun _ => 0)))] H := hP
        have hD : va_D A [(h, .inr (8, [.int 0, .ref m_bytes, .int 0, .ref m_w, .int 0, .int 0, .ref m_saved, .int 0, .ref m_line, .ref m_met, .ref m_waiting, .ref m_nextParent, .int 0, .ref m_kind, .ref m_number, .int 0, .ref m_begin, .ref m_table, .ref m_handlers, .ref m_base, .ref m_locals, .ref m_self, .ref m_found, .ref m_place, .ref m_next, .int 0, .ref m_saidKind, .ref m_saidNumber, .int 0, .int 0, .int (-1)])), (m_w, .inl (cI, 5568, .inl (fun _ => 0)))] := hD
        obtain rfl : r24 = 0 := hp25
        refine lv_if_ne hx hb d_Model_property_63 (tgt := 70) (by decide) (fun hz => absurd (by decide) hz) (fun _ => ?_)
        refine lv_iconst (v := 1) hx hb d_Model_property_66 (by decide) ?_
        refine lv_goto hx hb d_Model_property_67 (tgt := 91) (by decide) ?_
        refine va_put (D := D) (ci := 8) (v := .int 1) (ty := .int) (C := "TaleMachineModel") (T := F_Model) (N := 31) hx hb hts in_Model t_Model t_Model_ok n_Model hown hK hP hD hS 0 rfl rfl 0 (by decide) (hts _ k_0) (fun _ h9 => h9) rfl (by decide +kernel) rfl rfl (Nat.le_of_ble_eq_true rfl) d_Model_property_91 (fun H locs hP hD hS => ?_)
        have hP : va_P D cL [(h, .inr (8, [.int 1, .ref m_bytes, .int 0, .ref m_w, .int 0, .int 0, .ref m_saved, .int 0, .ref m_line, .ref m_met, .ref m_waiting, .ref m_nextParent, .int 0, .ref m_kind, .ref m_number, .int 0, .ref m_begin, .ref m_table, .ref m_handlers, .ref m_base, .ref m_locals, .ref m_self, .ref m_found, .ref m_place, .ref m_next, .int 0, .ref m_saidKind, .ref m_saidNumber, .int 0, .int 0, .int (-1)])), (m_w, .inl (cI, 5568, .inl (fun _ => 0)))] H := hP
        have hD : va_D A [(h, .inr (8, [.int 1, .ref m_bytes, .int 0, .ref m_w, .int 0, .int 0, .ref m_saved, .int 0, .ref m_line, .ref m_met, .ref m_waiting, .ref m_nextParent, .int 0, .ref m_kind, .ref m_number, .int 0, .ref m_begin, .ref m_table, .ref m_handlers, .ref m_base, .ref m_locals, .ref m_self, .ref m_found, .ref m_place, .ref m_next, .int 0, .ref m_saidKind, .ref m_saidNumber, .int 0, .int 0, .int (-1)])), (m_w, .inl (cI, 5568, .inl (fun _ => 0)))] := hD
        refine lv_aload_n hx hb d_Model_property_94 rfl (lv_at hl 1 rfl) ?_
        refine va_get (D := D) (ci := 8) (v := .int 1) (C := "TaleMachineModel") (T := F_Model) (N := 31) hx hb hts in_Model hown hK hP 0 rfl rfl 0 (by decide) (hts _ k_0) (fun _ h9 => h9) rfl d_Model_property_95 ?_
        refine lv_if_le hx hb d_Model_property_98 (tgt := 102) (by decide) (fun hz => absurd hz (by decide)) (fun _ => ?_)
        exact end_v hx hb hr hlocks hS (u := ()) (at_end (hP.sub (ws' := [(h, .inr (8, [.int 1, .ref m_bytes, .int 0, .ref m_w, .int 0, .int 0, .ref m_saved, .int 0, .ref m_line, .ref m_met, .ref m_waiting, .ref m_nextParent, .int 0, .ref m_kind, .ref m_number, .int 0, .ref m_begin, .ref m_table, .ref m_handlers, .ref m_base, .ref m_locals, .ref m_self, .ref m_found, .ref m_place, .ref m_next, .int 0, .ref m_saidKind, .ref m_saidNumber, .int 0, .int 0, .int (-1)]))]) [0] rfl) (hD.sub (ws' := [(h, .inr (8, [.int 1, .ref m_bytes, .int 0, .ref m_w, .int 0, .int 0, .ref m_saved, .int 0, .ref m_line, .ref m_met, .ref m_waiting, .ref m_nextParent, .int 0, .ref m_kind, .ref m_number, .int 0, .ref m_begin, .ref m_table, .ref m_handlers, .ref m_base, .ref m_locals, .ref m_self, .ref m_found, .ref m_place, .ref m_next, .int 0, .ref m_saidKind, .ref m_saidNumber, .int 0, .int 0, .int (-1)]))]) [0] (by decide) rfl)) (trivial) (Nat.le_of_ble_eq_true rfl) (Nat.le_of_ble_eq_true rfl) d_Model_property_101

set_option maxHeartbeats 4000000 in
set_option maxRecDepth 100000 in
theorem c_Model_show_0 (l : Launch) (D : va_G) (cI cZ cJ : ClassId) (h m_bytes m_w m_saved m_line m_met m_waiting m_nextParent m_kind m_number m_begin m_table m_handlers m_base m_locals m_self m_found m_place m_next m_saidKind m_saidNumber : Nat) (sz : Nat)  : Met l y_Model_show (.code y_Model_show prog_10_method_52_code 4 (some .int) :: AW) ({ frames := 1, cells := 0, slots := 0, locals := 22 }) (va_Pc [.ref h, .int 0] (pre_ D [(h, .inr (8, [.int 0, .ref m_bytes, .int 0, .ref m_w, .int 0, .int 0, .ref m_saved, .int 0, .ref m_line, .ref m_met, .ref m_waiting, .ref m_nextParent, .int 0, .ref m_kind, .ref m_number, .int 0, .ref m_begin, .ref m_table, .ref m_handlers, .ref m_base, .ref m_locals, .ref m_self, .ref m_found, .ref m_place, .ref m_next, .int 0, .ref m_saidKind, .ref m_saidNumber, .int 0, .int 0, .int (-1)])), (m_w, .inl (cI, 5568, .inl (fun _ => 0)))] [(cI, .int), (cZ, .boolean), (cJ, .long)] sz)) (va_Qi (fun (r : Int32) (u : Unit) => r = 0) (fun _ t => post_ D (va_A [(h, .inr (8, [.int 0, .ref m_bytes, .int 0, .ref m_w, .int 0, .int 0, .ref m_saved, .int 0, .ref m_line, .ref m_met, .ref m_waiting, .ref m_nextParent, .int 0, .ref m_kind, .ref m_number, .int 0, .ref m_begin, .ref m_table, .ref m_handlers, .ref m_base, .ref m_locals, .ref m_self, .ref m_found, .ref m_place, .ref m_next, .int 0, .ref m_saidKind, .ref m_saidNumber, .int 0, .int 0, .int (-1)])), (m_w, .inl (cI, 5568, .inl (fun _ => 0)))] sz) [(h, .inr (8, [.int 0, .ref m_bytes, .int 0, .ref m_w, .int 0, .int 0, .ref m_saved, .int 0, .ref m_line, .ref m_met, .ref m_waiting, .ref m_nextParent, .int 0, .ref m_kind, .ref m_number, .int 0, .ref m_begin, .ref m_table, .ref m_handlers, .ref m_base, .ref m_locals, .ref m_self, .ref m_found, .ref m_place, .ref m_next, .int 0, .ref m_saidKind, .ref m_saidNumber, .int 0, .int 0, .int (-1)]))] t) (va_A [(h, .inr (8, [.int 0, .ref m_bytes, .int 0, .ref m_w, .int 0, .int 0, .ref m_saved, .int 0, .ref m_line, .ref m_met, .ref m_waiting, .ref m_nextParent, .int 0, .ref m_kind, .ref m_number, .int 0, .ref m_begin, .ref m_table, .ref m_handlers, .ref m_base, .ref m_locals, .ref m_self, .ref m_found, .ref m_place, .ref m_next, .int 0, .ref m_saidKind, .ref m_saidNumber, .int 0, .int 0, .int (-1)])), (m_w, .inl (cI, 5568, .inl (fun _ => 0)))] sz)) 0 0 (va_A [(h, .inr (8, [.int 0, .ref m_bytes, .int 0, .ref m_w, .int 0, .int 0, .ref m_saved, .int 0, .ref m_line, .ref m_met, .ref m_waiting, .ref m_nextParent, .int 0, .ref m_kind, .ref m_number, .int 0, .ref m_begin, .ref m_table, .ref m_handlers, .ref m_base, .ref m_locals, .ref m_self, .ref m_found, .ref m_place, .ref m_next, .int 0, .ref m_saidKind, .ref m_saidNumber, .int 0, .int 0, .int (-1)])), (m_w, .inl (cI, 5568, .inl (fun _ => 0)))] sz) := by
  refine Met.ofW (cc := prog_10_method_52_code) (maxL := 4) (ret := (some .int)) (by decide) rfl ?_
  intro p e s m args below meth c s₁ B hml hv
  obtain ⟨rfl, rfl, hP, hK, hD0, hT⟩ := hv
  have hx := B.exec
  have hb := B.bytes
  have hr := B.returns
  have hts0 := atoms_spec (ws := .code y_Model_show prog_10_method_52_code 4 (some .int) :: AW) B.pre
  have hts : ∀ w ∈ AW, w.before [.ref h, .int 0].toArray s = true := fun w h => hts0 w (List.mem_cons_of_mem _ h)
  have hown : s.vm.findClass "TaleMachineModel" = some m.cls := findClass_of_methodNamed B.named
  have hlocks := B.notSynchronized
  have hD := hD0.self (sz := s.heap.size)
  generalize hAe : va_A [(h, .inr (8, [.int 0, .ref m_bytes, .int 0, .ref m_w, .int 0, .int 0, .ref m_saved, .int 0, .ref m_line, .ref m_met, .ref m_waiting, .ref m_nextParent, .int 0, .ref m_kind, .ref m_number, .int 0, .ref m_begin, .ref m_table, .ref m_handlers, .ref m_base, .ref m_locals, .ref m_self, .ref m_found, .ref m_place, .ref m_next, .int 0, .ref m_saidKind, .ref m_saidNumber, .int 0, .int 0, .int (-1)])), (m_w, .inl (cI, 5568, .inl (fun _ => 0)))] s.heap.size = A at hD ⊢
  have hA : ∀ q : Nat, s.heap.size ≤ q → A q := fun q h => by rw [← hAe]; exact Or.inr h
  have hS : va_S A s.heap s.heap [] := va_S.rf
  have hl := lv_entry ([.ref h, .int 0]) (n := 4) (Nat.le_of_ble_eq_true rfl)
  rw [lg_entry_eq]
  generalize (lg_sl ([.ref h, .int 0]) ++ List.replicate (4 - (lg_sl ([.ref h, .int 0])).length) Slot.unset).toArray = ls at hl ⊢
  have hl : lv_has ls 4 [(0, .ref h), (1, .int 0)] := hl
  refine lv_iload_n hx hb d_Model_show_0 rfl (lv_at hl 1 rfl) ?_
  refine lv_iconst (v := 0) hx hb d_Model_show_1 (by decide) ?_
  refine lv_iconst (v := 5) hx hb d_Model_show_2 (by decide) ?_
  refine mv_i (va_runS (As := [.int 0, .int 0, .int 5]) (rest := []) ⟨hx, hb, hml, hown, hts⟩ (c_Model_outside l D cI cZ cJ 0 0 5 _ ) (va_cwS 3 hts (gInS k_2 k_3 k_4 k_1) rfl rfl rfl (by decide +kernel) ⟨Nat.le_of_ble_eq_true rfl, Nat.le_of_ble_eq_true rfl⟩) (pre_S (hP.sub [] rfl) (hK.sub [0, 1, 2] rfl) (hD.sub [] (by decide) rfl) hT) rfl rfl hl.1 rfl (lv_room (Nat.le_of_ble_eq_true rfl)) d_Model_show_3 ⟨Nat.le_of_ble_eq_true rfl, Nat.le_of_ble_eq_true rfl⟩) hP hD hS hA [] [0, 1] rfl rfl (by decide) (by decide) (wr := [(h, .inr (8, [.int 0, .ref m_bytes, .int 0, .ref m_w, .int 0, .int 0, .ref m_saved, .int 0, .ref m_line, .ref m_met, .ref m_waiting, .ref m_nextParent, .int 0, .ref m_kind, .ref m_number, .int 0, .ref m_begin, .ref m_table, .ref m_handlers, .ref m_base, .ref m_locals, .ref m_self, .ref m_found, .ref m_place, .ref m_next, .int 0, .ref m_saidKind, .ref m_saidNumber, .int 0, .int 0, .int (-1)])), (m_w, .inl (cI, 5568, .inl (fun _ => 0)))]) (wn := fun _ => []) (fun _ _ h9 => h9) (fun r1 _ H locs hp2 hP hD hS => ?_)
  have hP : va_P D cL [(h, .inr (8, [.int 0, .ref m_bytes, .int 0, .ref m_w, .int 0, .int 0, .ref m_saved, .int 0, .ref m_line, .ref m_met, .ref m_waiting, .ref m_nextParent, .int 0, .ref m_kind, .ref m_number, .int 0, .ref m_begin, .ref m_table, .ref m_handlers, .ref m_base, .ref m_locals, .ref m_self, .ref m_found, .ref m_place, .ref m_next, .int 0, .ref m_saidKind, .ref m_saidNumber, .int 0, .int 0, .int (-1)])), (m_w, .inl (cI, 5568, .inl (fun _ => 0)))] H := hP
  have hD : va_D A [(h, .inr (8, [.int 0, .ref m_bytes, .int 0, .ref m_w, .int 0, .int 0, .ref m_saved, .int 0, .ref m_line, .ref m_met, .ref m_waiting, .ref m_nextParent, .int 0, .ref m_kind, .ref m_number, .int 0, .ref m_begin, .ref m_table, .ref m_handlers, .ref m_base, .ref m_locals, .ref m_self, .ref m_found, .ref m_place, .ref m_next, .int 0, .ref m_saidKind, .ref m_saidNumber, .int 0, .int 0, .int (-1)])), (m_w, .inl (cI, 5568, .inl (fun _ => 0)))] := hD
  refine lv_if_ne hx hb d_Model_show_6 (tgt := 26) (by decide) (fun hz => absurd (by rcases hp2.1 with h | h; exact h; exact absurd (hp2.2.mp h) (by decide)) hz) (fun _ => ?_)
  refine lv_aload_n hx hb d_Model_show_9 rfl (lv_at hl 0 rfl) ?_
  refine va_get (D := D) (ci := 8) (v := .int 0) (C := "TaleMachineModel") (T := F_Model) (N := 31) hx hb hts in_Model hown hK hP 0 rfl rfl 15 (by decide) (hts _ k_34) (fun _ h9 => h9) rfl d_Model_show_10 ?_
  refine lv_if_ne hx hb d_Model_show_13 (tgt := 32) (by decide) (fun hz => absurd (by decide) hz) (fun _ => ?_)
  refine lv_iload_n hx hb d_Model_show_16 rfl (lv_at hl 1 rfl) ?_
  refine lv_iconst (v := 1) hx hb d_Model_show_17 (by decide) ?_
  refine lv_icmp_eq hx hb d_Model_show_18 (tgt := 26) (by decide) (fun hz => absurd hz (by decide)) (fun _ => ?_)
  refine lv_iload_n hx hb d_Model_show_21 rfl (lv_at hl 1 rfl) ?_
  refine lv_iconst (v := 2) hx hb d_Model_show_22 (by decide) ?_
  refine lv_icmp_ne hx hb d_Model_show_23 (tgt := 32) (by decide) (fun _ => ?_) (fun hz => absurd hz (by decide))
  refine lv_aload_n hx hb d_Model_show_32 rfl (lv_at hl 0 rfl) ?_
  refine lv_iconst (v := 0) hx hb d_Model_show_33 (by decide) ?_
  refine va_put (D := D) (ci := 8) (v := .int 0) (ty := .int) (C := "TaleMachineModel") (T := F_Model) (N := 31) hx hb hts in_Model t_Model t_Model_ok n_Model hown hK hP hD hS 0 rfl rfl 0 (by decide) (hts _ k_0) (fun _ h9 => h9) rfl (by decide +kernel) rfl rfl (Nat.le_of_ble_eq_true rfl) d_Model_show_34 (fun H locs hP hD hS => ?_)
  have hP : va_P D cL [(h, .inr (8, [.int 0, .ref m_bytes, .int 0, .ref m_w, .int 0, .int 0, .ref m_saved, .int 0, .ref m_line, .ref m_met, .ref m_waiting, .ref m_nextParent, .int 0, .ref m_kind, .ref m_number, .int 0, .ref m_begin, .ref m_table, .ref m_handlers, .ref m_base, .ref m_locals, .ref m_self, .ref m_found, .ref m_place, .ref m_next, .int 0, .ref m_saidKind, .ref m_saidNumber, .int 0, .int 0, .int (-1)])), (m_w, .inl (cI, 5568, .inl (fun _ => 0)))] H := hP
  have hD : va_D A [(h, .inr (8, [.int 0, .ref m_bytes, .int 0, .ref m_w, .int 0, .int 0, .ref m_saved, .int 0, .ref m_line, .ref m_met, .ref m_waiting, .ref m_nextParent, .int 0, .ref m_kind, .ref m_number, .int 0, .ref m_begin, .ref m_table, .ref m_handlers, .ref m_base, .ref m_locals, .ref m_self, .ref m_found, .ref m_place, .ref m_next, .int 0, .ref m_saidKind, .ref m_saidNumber, .int 0, .int 0, .int (-1)])), (m_w, .inl (cI, 5568, .inl (fun _ => 0)))] := hD
  refine lv_iconst (v := 0) hx hb d_Model_show_37 (by decide) ?_
  refine lv_istore_n (lv' := [(2, .int 0), (0, .ref h), (1, .int 0)]) hx hb d_Model_show_38 rfl hl (by decide) rfl (fun ls hl => ?_)
  refine lv_iconst (v := 0) hx hb d_Model_show_39 (by decide) ?_
  refine lv_istore_n (lv' := [(3, .int 0), (2, .int 0), (0, .ref h), (1, .int 0)]) hx hb d_Model_show_40 rfl hl (by decide) rfl (fun ls hl => ?_)
  refine lp_W (I := fun k3 H locs ls => va_P D cL [(h, .inr (8, [.int 0, .ref m_bytes, .int 0, .ref m_w, .int 0, .int 0, .ref m_saved, .int 0, .ref m_line, .ref m_met, .ref m_waiting, .ref m_nextParent, .int 0, .ref m_kind, .ref m_number, .int 0, .ref m_begin, .ref m_table, .ref m_handlers, .ref m_base, .ref m_locals, .ref m_self, .ref m_found, .ref m_place, .ref m_next, .int 0, .ref m_saidKind, .ref m_saidNumber, .int 0, .int 0, .int (-1)])), (m_w, .inl (cI, 5568, .inl (fun _ => 0)))] H ∧ va_D A [(h, .inr (8, [.int 0, .ref m_bytes, .int 0, .ref m_w, .int 0, .int 0, .ref m_saved, .int 0, .ref m_line, .ref m_met, .ref m_waiting, .ref m_nextParent, .int 0, .ref m_kind, .ref m_number, .int 0, .ref m_begin, .ref m_table, .ref m_handlers, .ref m_base, .ref m_locals, .ref m_self, .ref m_found, .ref m_place, .ref m_next, .int 0, .ref m_saidKind, .ref m_saidNumber, .int 0, .int 0, .int (-1)])), (m_w, .inl (cI, 5568, .inl (fun _ => 0)))] ∧ va_S A s.heap H locs ∧ lv_has ls 4 [(3, .int (nI k3)), (2, .int 0), (0, .ref h), (1, .int 0)]) (a := 0) (b := 32) (by decide) ?_ _ _ _ ⟨hP, hD, hS, hl⟩
  intro k3 H locs ls hkak3 hkbk3 hI ih4
  obtain ⟨hP, hD, hS, hl⟩ := hI
  rcases Nat.lt_or_ge k3 32 with hkk3 | hkk3
  · refine lv_iload_n hx hb d_Model_show_41 rfl (lv_at hl 0 rfl) ?_
    refine lv_bipush (v := 32) hx hb d_Model_show_42 (by decide) ?_
    refine lv_icmp_ge hx hb d_Model_show_44 (tgt := 65) (by decide) (fun hz => absurd hz (nI_ge hkk3 (by decide))) (fun _ => ?_)
    refine lv_iload_n hx hb d_Model_show_47 rfl (lv_at hl 1 rfl) ?_
    refine lv_aload_n hx hb d_Model_show_48 rfl (lv_at hl 2 rfl) ?_
    refine va_get (D := D) (ci := 8) (v := .ref m_w) (C := "TaleMachineModel") (T := F_Model) (N := 31) hx hb hts in_Model hown hK hP 0 rfl rfl 3 (by decide) (hts _ k_5) (fun _ h9 => h9) rfl d_Model_show_49 ?_
    refine lv_bipush (v := 29) hx hb d_Model_show_52 (by decide) ?_
    refine lv_iload_n hx hb d_Model_show_54 rfl (lv_at hl 0 rfl) ?_
    refine lv_imul hx hb d_Model_show_55 ?_
    refine lv_topi (fun z5 hz5 => ?_)
    obtain rfl : z5 = (29 * (nI k3)) := hz5.trans (rfl)
    refine va_iald hx hb hK hP 1 0 rfl rfl (i := (29 * (nI k3))) (md_ixk hkk3) d_Model_show_56 ?_
    refine lv_topi (fun z6 hz6 => ?_)
    obtain rfl : z6 = 0 := hz6
    refine lv_iadd hx hb d_Model_show_57 ?_
    refine lv_topi (fun z7 hz7 => ?_)
    obtain rfl : z7 = 0 := hz7.trans (by decide)
    refine lv_istore_n (lv' := [(2, .int 0), (3, .int (nI k3)), (0, .ref h), (1, .int 0)]) hx hb d_Model_show_58 rfl hl (by decide) rfl (fun ls hl => ?_)
    refine lv_iinc (v := (nI (k3 + 1))) (lv' := [(3, .int (nI (k3 + 1))), (2, .int 0), (0, .ref h), (1, .int 0)]) hx hb d_Model_show_59 hl (k := 1) rfl (nI_1 k3) (by decide) rfl (fun ls hl => ?_)
    refine lv_goto hx hb d_Model_show_62 (tgt := 41) (by decide) ?_
    exact ih4 hkk3 _ _ _ ⟨hP, hD, hS, lv_sub hl [0, 1, 2, 3] rfl⟩
  · obtain rfl : k3 = 32 := by omega
    have hl : lv_has ls 4 [(3, .int 32), (2, .int 0), (0, .ref h), (1, .int 0)] := hl
    refine lv_iload_n hx hb d_Model_show_41 rfl (lv_at hl 0 rfl) ?_
    refine lv_bipush (v := 32) hx hb d_Model_show_42 (by decide) ?_
    refine lv_icmp_ge hx hb d_Model_show_44 (tgt := 65) (by decide) (fun _ => ?_) (fun hz => absurd (by decide) hz)
    refine lv_iload_n hx hb d_Model_show_65 rfl (lv_at hl 3 rfl) ?_
    refine lv_tableIn hx hb d_Model_show_66 (x := 0) (off := 34) (tgt := 100) (by decide) (by decide) rfl (by decide) ?_
    refine lv_aload_n hx hb d_Model_show_100 rfl (lv_at hl 2 rfl) ?_
    refine va_get (D := D) (ci := 8) (v := .int 0) (C := "TaleMachineModel") (T := F_Model) (N := 31) hx hb hts in_Model hown hK hP 0 rfl rfl 15 (by decide) (hts _ k_34) (fun _ h9 => h9) rfl d_Model_show_101 ?_
    exact end_i hx hb hr hlocks hS (u := ()) (r := 0) (at_end (hP.sub (ws' := [(h, .inr (8, [.int 0, .ref m_bytes, .int 0, .ref m_w, .int 0, .int 0, .ref m_saved, .int 0, .ref m_line, .ref m_met, .ref m_waiting, .ref m_nextParent, .int 0, .ref m_kind, .ref m_number, .int 0, .ref m_begin, .ref m_table, .ref m_handlers, .ref m_base, .ref m_locals, .ref m_self, .ref m_found, .ref m_place, .ref m_next, .int 0, .ref m_saidKind, .ref m_saidNumber, .int 0, .int 0, .int (-1)]))]) [0] rfl) (hD.sub (ws' := [(h, .inr (8, [.int 0, .ref m_bytes, .int 0, .ref m_w, .int 0, .int 0, .ref m_saved, .int 0, .ref m_line, .ref m_met, .ref m_waiting, .ref m_nextParent, .int 0, .ref m_kind, .ref m_number, .int 0, .ref m_begin, .ref m_table, .ref m_handlers, .ref m_base, .ref m_locals, .ref m_self, .ref m_found, .ref m_place, .ref m_next, .int 0, .ref m_saidKind, .ref m_saidNumber, .int 0, .int 0, .int (-1)]))]) [0] (by decide) rfl)) (rfl) (Nat.le_of_ble_eq_true rfl) (Nat.le_of_ble_eq_true rfl) d_Model_show_104

set_option maxHeartbeats 4000000 in
set_option maxRecDepth 100000 in
theorem c_Model_show_3 (l : Launch) (D : va_G) (cI cZ cJ : ClassId) (h m_bytes m_w m_saved m_line m_met m_waiting m_nextParent m_kind m_number m_begin m_table m_handlers m_base m_locals m_self m_found m_place m_next m_saidKind m_saidNumber : Nat) (sz : Nat)  : Met l y_Model_show (.code y_Model_show prog_10_method_52_code 4 (some .int) :: AW) ({ frames := 1, cells := 0, slots := 0, locals := 22 }) (va_Pc [.ref h, .int 3] (pre_ D [(h, .inr (8, [.int 0, .ref m_bytes, .int 0, .ref m_w, .int 0, .int 0, .ref m_saved, .int 0, .ref m_line, .ref m_met, .ref m_waiting, .ref m_nextParent, .int 0, .ref m_kind, .ref m_number, .int 0, .ref m_begin, .ref m_table, .ref m_handlers, .ref m_base, .ref m_locals, .ref m_self, .ref m_found, .ref m_place, .ref m_next, .int 0, .ref m_saidKind, .ref m_saidNumber, .int 0, .int 0, .int (-1)])), (m_w, .inl (cI, 5568, .inl (fun _ => 0)))] [(cI, .int), (cZ, .boolean), (cJ, .long)] sz)) (va_Qi (fun (r : Int32) (u : Unit) => r = 0) (fun _ t => post_ D (va_A [(h, .inr (8, [.int 0, .ref m_bytes, .int 0, .ref m_w, .int 0, .int 0, .ref m_saved, .int 0, .ref m_line, .ref m_met, .ref m_waiting, .ref m_nextParent, .int 0, .ref m_kind, .ref m_number, .int 0, .ref m_begin, .ref m_table, .ref m_handlers, .ref m_base, .ref m_locals, .ref m_self, .ref m_found, .ref m_place, .ref m_next, .int 0, .ref m_saidKind, .ref m_saidNumber, .int 0, .int 0, .int (-1)])), (m_w, .inl (cI, 5568, .inl (fun _ => 0)))] sz) [(h, .inr (8, [.int 0, .ref m_bytes, .int 0, .ref m_w, .int 0, .int 0, .ref m_saved, .int 0, .ref m_line, .ref m_met, .ref m_waiting, .ref m_nextParent, .int 0, .ref m_kind, .ref m_number, .int 0, .ref m_begin, .ref m_table, .ref m_handlers, .ref m_base, .ref m_locals, .ref m_self, .ref m_found, .ref m_place, .ref m_next, .int 0, .ref m_saidKind, .ref m_saidNumber, .int 0, .int 0, .int (-1)]))] t) (va_A [(h, .inr (8, [.int 0, .ref m_bytes, .int 0, .ref m_w, .int 0, .int 0, .ref m_saved, .int 0, .ref m_line, .ref m_met, .ref m_waiting, .ref m_nextParent, .int 0, .ref m_kind, .ref m_number, .int 0, .ref m_begin, .ref m_table, .ref m_handlers, .ref m_base, .ref m_locals, .ref m_self, .ref m_found, .ref m_place, .ref m_next, .int 0, .ref m_saidKind, .ref m_saidNumber, .int 0, .int 0, .int (-1)])), (m_w, .inl (cI, 5568, .inl (fun _ => 0)))] sz)) 0 0 (va_A [(h, .inr (8, [.int 0, .ref m_bytes, .int 0, .ref m_w, .int 0, .int 0, .ref m_saved, .int 0, .ref m_line, .ref m_met, .ref m_waiting, .ref m_nextParent, .int 0, .ref m_kind, .ref m_number, .int 0, .ref m_begin, .ref m_table, .ref m_handlers, .ref m_base, .ref m_locals, .ref m_self, .ref m_found, .ref m_place, .ref m_next, .int 0, .ref m_saidKind, .ref m_saidNumber, .int 0, .int 0, .int (-1)])), (m_w, .inl (cI, 5568, .inl (fun _ => 0)))] sz) := by
  refine Met.ofW (cc := prog_10_method_52_code) (maxL := 4) (ret := (some .int)) (by decide) rfl ?_
  intro p e s m args below meth c s₁ B hml hv
  obtain ⟨rfl, rfl, hP, hK, hD0, hT⟩ := hv
  have hx := B.exec
  have hb := B.bytes
  have hr := B.returns
  have hts0 := atoms_spec (ws := .code y_Model_show prog_10_method_52_code 4 (some .int) :: AW) B.pre
  have hts : ∀ w ∈ AW, w.before [.ref h, .int 3].toArray s = true := fun w h => hts0 w (List.mem_cons_of_mem _ h)
  have hown : s.vm.findClass "TaleMachineModel" = some m.cls := findClass_of_methodNamed B.named
  have hlocks := B.notSynchronized
  have hD := hD0.self (sz := s.heap.size)
  generalize hAe : va_A [(h, .inr (8, [.int 0, .ref m_bytes, .int 0, .ref m_w, .int 0, .int 0, .ref m_saved, .int 0, .ref m_line, .ref m_met, .ref m_waiting, .ref m_nextParent, .int 0, .ref m_kind, .ref m_number, .int 0, .ref m_begin, .ref m_table, .ref m_handlers, .ref m_base, .ref m_locals, .ref m_self, .ref m_found, .ref m_place, .ref m_next, .int 0, .ref m_saidKind, .ref m_saidNumber, .int 0, .int 0, .int (-1)])), (m_w, .inl (cI, 5568, .inl (fun _ => 0)))] s.heap.size = A at hD ⊢
  have hA : ∀ q : Nat, s.heap.size ≤ q → A q := fun q h => by rw [← hAe]; exact Or.inr h
  have hS : va_S A s.heap s.heap [] := va_S.rf
  have hl := lv_entry ([.ref h, .int 3]) (n := 4) (Nat.le_of_ble_eq_true rfl)
  rw [lg_entry_eq]
  generalize (lg_sl ([.ref h, .int 3]) ++ List.replicate (4 - (lg_sl ([.ref h, .int 3])).length) Slot.unset).toArray = ls at hl ⊢
  have hl : lv_has ls 4 [(0, .ref h), (1, .int 3)] := hl
  refine lv_iload_n hx hb d_Model_show_0 rfl (lv_at hl 1 rfl) ?_
  refine lv_iconst (v := 0) hx hb d_Model_show_1 (by decide) ?_
  refine lv_iconst (v := 5) hx hb d_Model_show_2 (by decide) ?_
  refine mv_i (va_runS (As := [.int 3, .int 0, .int 5]) (rest := []) ⟨hx, hb, hml, hown, hts⟩ (c_Model_outside l D cI cZ cJ 3 0 5 _ ) (va_cwS 3 hts (gInS k_2 k_3 k_4 k_1) rfl rfl rfl (by decide +kernel) ⟨Nat.le_of_ble_eq_true rfl, Nat.le_of_ble_eq_true rfl⟩) (pre_S (hP.sub [] rfl) (hK.sub [0, 1, 2] rfl) (hD.sub [] (by decide) rfl) hT) rfl rfl hl.1 rfl (lv_room (Nat.le_of_ble_eq_true rfl)) d_Model_show_3 ⟨Nat.le_of_ble_eq_true rfl, Nat.le_of_ble_eq_true rfl⟩) hP hD hS hA [] [0, 1] rfl rfl (by decide) (by decide) (wr := [(h, .inr (8, [.int 0, .ref m_bytes, .int 0, .ref m_w, .int 0, .int 0, .ref m_saved, .int 0, .ref m_line, .ref m_met, .ref m_waiting, .ref m_nextParent, .int 0, .ref m_kind, .ref m_number, .int 0, .ref m_begin, .ref m_table, .ref m_handlers, .ref m_base, .ref m_locals, .ref m_self, .ref m_found, .ref m_place, .ref m_next, .int 0, .ref m_saidKind, .ref m_saidNumber, .int 0, .int 0, .int (-1)])), (m_w, .inl (cI, 5568, .inl (fun _ => 0)))]) (wn := fun _ => []) (fun _ _ h9 => h9) (fun r1 _ H locs hp2 hP hD hS => ?_)
  have hP : va_P D cL [(h, .inr (8, [.int 0, .ref m_bytes, .int 0, .ref m_w, .int 0, .int 0, .ref m_saved, .int 0, .ref m_line, .ref m_met, .ref m_waiting, .ref m_nextParent, .int 0, .ref m_kind, .ref m_number, .int 0, .ref m_begin, .ref m_table, .ref m_handlers, .ref m_base, .ref m_locals, .ref m_self, .ref m_found, .ref m_place, .ref m_next, .int 0, .ref m_saidKind, .ref m_saidNumber, .int 0, .int 0, .int (-1)])), (m_w, .inl (cI, 5568, .inl (fun _ => 0)))] H := hP
  have hD : va_D A [(h, .inr (8, [.int 0, .ref m_bytes, .int 0, .ref m_w, .int 0, .int 0, .ref m_saved, .int 0, .ref m_line, .ref m_met, .ref m_waiting, .ref m_nextParent, .int 0, .ref m_kind, .ref m_number, .int 0, .ref m_begin, .ref m_table, .ref m_handlers, .ref m_base, .ref m_locals, .ref m_self, .ref m_found, .ref m_place, .ref m_next, .int 0, .ref m_saidKind, .ref m_saidNumber, .int 0, .int 0, .int (-1)])), (m_w, .inl (cI, 5568, .inl (fun _ => 0)))] := hD
  refine lv_if_ne hx hb d_Model_show_6 (tgt := 26) (by decide) (fun hz => absurd (by rcases hp2.1 with h | h; exact h; exact absurd (hp2.2.mp h) (by decide)) hz) (fun _ => ?_)
  refine lv_aload_n hx hb d_Model_show_9 rfl (lv_at hl 0 rfl) ?_
  refine va_get (D := D) (ci := 8) (v := .int 0) (C := "TaleMachineModel") (T := F_Model) (N := 31) hx hb hts in_Model hown hK hP 0 rfl rfl 15 (by decide) (hts _ k_34) (fun _ h9 => h9) rfl d_Model_show_10 ?_
  refine lv_if_ne hx hb d_Model_show_13 (tgt := 32) (by decide) (fun hz => absurd (by decide) hz) (fun _ => ?_)
  refine lv_iload_n hx hb d_Model_show_16 rfl (lv_at hl 1 rfl) ?_
  refine lv_iconst (v := 1) hx hb d_Model_show_17 (by decide) ?_
  refine lv_icmp_eq hx hb d_Model_show_18 (tgt := 26) (by decide) (fun hz => absurd hz (by decide)) (fun _ => ?_)
  refine lv_iload_n hx hb d_Model_show_21 rfl (lv_at hl 1 rfl) ?_
  refine lv_iconst (v := 2) hx hb d_Model_show_22 (by decide) ?_
  refine lv_icmp_ne hx hb d_Model_show_23 (tgt := 32) (by decide) (fun _ => ?_) (fun hz => absurd hz (by decide))
  refine lv_aload_n hx hb d_Model_show_32 rfl (lv_at hl 0 rfl) ?_
  refine lv_iconst (v := 0) hx hb d_Model_show_33 (by decide) ?_
  refine va_put (D := D) (ci := 8) (v := .int 0) (ty := .int) (C := "TaleMachineModel") (T := F_Model) (N := 31) hx hb hts in_Model t_Model t_Model_ok n_Model hown hK hP hD hS 0 rfl rfl 0 (by decide) (hts _ k_0) (fun _ h9 => h9) rfl (by decide +kernel) rfl rfl (Nat.le_of_ble_eq_true rfl) d_Model_show_34 (fun H locs hP hD hS => ?_)
  have hP : va_P D cL [(h, .inr (8, [.int 0, .ref m_bytes, .int 0, .ref m_w, .int 0, .int 0, .ref m_saved, .int 0, .ref m_line, .ref m_met, .ref m_waiting, .ref m_nextParent, .int 0, .ref m_kind, .ref m_number, .int 0, .ref m_begin, .ref m_table, .ref m_handlers, .ref m_base, .ref m_locals, .ref m_self, .ref m_found, .ref m_place, .ref m_next, .int 0, .ref m_saidKind, .ref m_saidNumber, .int 0, .int 0, .int (-1)])), (m_w, .inl (cI, 5568, .inl (fun _ => 0)))] H := hP
  have hD : va_D A [(h, .inr (8, [.int 0, .ref m_bytes, .int 0, .ref m_w, .int 0, .int 0, .ref m_saved, .int 0, .ref m_line, .ref m_met, .ref m_waiting, .ref m_nextParent, .int 0, .ref m_kind, .ref m_number, .int 0, .ref m_begin, .ref m_table, .ref m_handlers, .ref m_base, .ref m_locals, .ref m_self, .ref m_found, .ref m_place, .ref m_next, .int 0, .ref m_saidKind, .ref m_saidNumber, .int 0, .int 0, .int (-1)])), (m_w, .inl (cI, 5568, .inl (fun _ => 0)))] := hD
  refine lv_iconst (v := 0) hx hb d_Model_show_37 (by decide) ?_
  refine lv_istore_n (lv' := [(2, .int 0), (0, .ref h), (1, .int 3)]) hx hb d_Model_show_38 rfl hl (by decide) rfl (fun ls hl => ?_)
  refine lv_iconst (v := 0) hx hb d_Model_show_39 (by decide) ?_
  refine lv_istore_n (lv' := [(3, .int 0), (2, .int 0), (0, .ref h), (1, .int 3)]) hx hb d_Model_show_40 rfl hl (by decide) rfl (fun ls hl => ?_)
  refine lp_W (I := fun k3 H locs ls => va_P D cL [(h, .inr (8, [.int 0, .ref m_bytes, .int 0, .ref m_w, .int 0, .int 0, .ref m_saved, .int 0, .ref m_line, .ref m_met, .ref m_waiting, .ref m_nextParent, .int 0, .ref m_kind, .ref m_number, .int 0, .ref m_begin, .ref m_table, .ref m_handlers, .ref m_base, .ref m_locals, .ref m_self, .ref m_found, .ref m_place, .ref m_next, .int 0, .ref m_saidKind, .ref m_saidNumber, .int 0, .int 0, .int (-1)])), (m_w, .inl (cI, 5568, .inl (fun _ => 0)))] H ∧ va_D A [(h, .inr (8, [.int 0, .ref m_bytes, .int 0, .ref m_w, .int 0, .int 0, .ref m_saved, .int 0, .ref m_line, .ref m_met, .ref m_waiting, .ref m_nextParent, .int 0, .ref m_kind, .ref m_number, .int 0, .ref m_begin, .ref m_table, .ref m_handlers, .ref m_base, .ref m_locals, .ref m_self, .ref m_found, .ref m_place, .ref m_next, .int 0, .ref m_saidKind, .ref m_saidNumber, .int 0, .int 0, .int (-1)])), (m_w, .inl (cI, 5568, .inl (fun _ => 0)))] ∧ va_S A s.heap H locs ∧ lv_has ls 4 [(3, .int (nI k3)), (2, .int 0), (0, .ref h), (1, .int 3)]) (a := 0) (b := 32) (by decide) ?_ _ _ _ ⟨hP, hD, hS, hl⟩
  intro k3 H locs ls hkak3 hkbk3 hI ih4
  obtain ⟨hP, hD, hS, hl⟩ := hI
  rcases Nat.lt_or_ge k3 32 with hkk3 | hkk3
  · refine lv_iload_n hx hb d_Model_show_41 rfl (lv_at hl 0 rfl) ?_
    refine lv_bipush (v := 32) hx hb d_Model_show_42 (by decide) ?_
    refine lv_icmp_ge hx hb d_Model_show_44 (tgt := 65) (by decide) (fun hz => absurd hz (nI_ge hkk3 (by decide))) (fun _ => ?_)
    refine lv_iload_n hx hb d_Model_show_47 rfl (lv_at hl 1 rfl) ?_
    refine lv_aload_n hx hb d_Model_show_48 rfl (lv_at hl 2 rfl) ?_
    refine va_get (D := D) (ci := 8) (v := .ref m_w) (C := "TaleMachineModel") (T := F_Model) (N := 31) hx hb hts in_Model hown hK hP 0 rfl rfl 3 (by decide) (hts _ k_5) (fun _ h9 => h9) rfl d_Model_show_49 ?_
    refine lv_bipush (v := 29) hx hb d_Model_show_52 (by decide) ?_
    refine lv_iload_n hx hb d_Model_show_54 rfl (lv_at hl 0 rfl) ?_
    refine lv_imul hx hb d_Model_show_55 ?_
    refine lv_topi (fun z5 hz5 => ?_)
    obtain rfl : z5 = (29 * (nI k3)) := hz5.trans (rfl)
    refine va_iald hx hb hK hP 1 0 rfl rfl (i := (29 * (nI k3))) (md_ixk hkk3) d_Model_show_56 ?_
    refine lv_topi (fun z6 hz6 => ?_)
    obtain rfl : z6 = 0 := hz6
    refine lv_iadd hx hb d_Model_show_57 ?_
    refine lv_topi (fun z7 hz7 => ?_)
    obtain rfl : z7 = 0 := hz7.trans (by decide)
    refine lv_istore_n (lv' := [(2, .int 0), (3, .int (nI k3)), (0, .ref h), (1, .int 3)]) hx hb d_Model_show_58 rfl hl (by decide) rfl (fun ls hl => ?_)
    refine lv_iinc (v := (nI (k3 + 1))) (lv' := [(3, .int (nI (k3 + 1))), (2, .int 0), (0, .ref h), (1, .int 3)]) hx hb d_Model_show_59 hl (k := 1) rfl (nI_1 k3) (by decide) rfl (fun ls hl => ?_)
    refine lv_goto hx hb d_Model_show_62 (tgt := 41) (by decide) ?_
    exact ih4 hkk3 _ _ _ ⟨hP, hD, hS, lv_sub hl [0, 1, 2, 3] rfl⟩
  · obtain rfl : k3 = 32 := by omega
    have hl : lv_has ls 4 [(3, .int 32), (2, .int 0), (0, .ref h), (1, .int 3)] := hl
    refine lv_iload_n hx hb d_Model_show_41 rfl (lv_at hl 0 rfl) ?_
    refine lv_bipush (v := 32) hx hb d_Model_show_42 (by decide) ?_
    refine lv_icmp_ge hx hb d_Model_show_44 (tgt := 65) (by decide) (fun _ => ?_) (fun hz => absurd (by decide) hz)
    refine lv_iload_n hx hb d_Model_show_65 rfl (lv_at hl 3 rfl) ?_
    refine lv_tableIn hx hb d_Model_show_66 (x := 3) (off := 63) (tgt := 129) (by decide) (by decide) rfl (by decide) ?_
    refine lv_aload_n hx hb d_Model_show_129 rfl (lv_at hl 2 rfl) ?_
    refine va_get (D := D) (ci := 8) (v := .int 0) (C := "TaleMachineModel") (T := F_Model) (N := 31) hx hb hts in_Model hown hK hP 0 rfl rfl 5 (by decide) (hts _ k_40) (fun _ h9 => h9) rfl d_Model_show_130 ?_
    exact end_i hx hb hr hlocks hS (u := ()) (r := 0) (at_end (hP.sub (ws' := [(h, .inr (8, [.int 0, .ref m_bytes, .int 0, .ref m_w, .int 0, .int 0, .ref m_saved, .int 0, .ref m_line, .ref m_met, .ref m_waiting, .ref m_nextParent, .int 0, .ref m_kind, .ref m_number, .int 0, .ref m_begin, .ref m_table, .ref m_handlers, .ref m_base, .ref m_locals, .ref m_self, .ref m_found, .ref m_place, .ref m_next, .int 0, .ref m_saidKind, .ref m_saidNumber, .int 0, .int 0, .int (-1)]))]) [0] rfl) (hD.sub (ws' := [(h, .inr (8, [.int 0, .ref m_bytes, .int 0, .ref m_w, .int 0, .int 0, .ref m_saved, .int 0, .ref m_line, .ref m_met, .ref m_waiting, .ref m_nextParent, .int 0, .ref m_kind, .ref m_number, .int 0, .ref m_begin, .ref m_table, .ref m_handlers, .ref m_base, .ref m_locals, .ref m_self, .ref m_found, .ref m_place, .ref m_next, .int 0, .ref m_saidKind, .ref m_saidNumber, .int 0, .int 0, .int (-1)]))]) [0] (by decide) rfl)) (rfl) (Nat.le_of_ble_eq_true rfl) (Nat.le_of_ble_eq_true rfl) d_Model_show_133

set_option maxHeartbeats 4000000 in
set_option maxRecDepth 100000 in
theorem c_Model_show_4 (l : Launch) (D : va_G) (cI cZ cJ : ClassId) (h m_bytes m_w m_saved m_line m_met m_waiting m_nextParent m_kind m_number m_begin m_table m_handlers m_base m_locals m_self m_found m_place m_next m_saidKind m_saidNumber : Nat) (sz : Nat)  : Met l y_Model_show (.code y_Model_show prog_10_method_52_code 4 (some .int) :: AW) ({ frames := 1, cells := 0, slots := 0, locals := 22 }) (va_Pc [.ref h, .int 4] (pre_ D [(h, .inr (8, [.int 0, .ref m_bytes, .int 0, .ref m_w, .int 0, .int 0, .ref m_saved, .int 0, .ref m_line, .ref m_met, .ref m_waiting, .ref m_nextParent, .int 0, .ref m_kind, .ref m_number, .int 0, .ref m_begin, .ref m_table, .ref m_handlers, .ref m_base, .ref m_locals, .ref m_self, .ref m_found, .ref m_place, .ref m_next, .int 0, .ref m_saidKind, .ref m_saidNumber, .int 0, .int 0, .int (-1)])), (m_w, .inl (cI, 5568, .inl (fun _ => 0)))] [(cI, .int), (cZ, .boolean), (cJ, .long)] sz)) (va_Qi (fun (r : Int32) (u : Unit) => r = 0) (fun _ t => post_ D (va_A [(h, .inr (8, [.int 0, .ref m_bytes, .int 0, .ref m_w, .int 0, .int 0, .ref m_saved, .int 0, .ref m_line, .ref m_met, .ref m_waiting, .ref m_nextParent, .int 0, .ref m_kind, .ref m_number, .int 0, .ref m_begin, .ref m_table, .ref m_handlers, .ref m_base, .ref m_locals, .ref m_self, .ref m_found, .ref m_place, .ref m_next, .int 0, .ref m_saidKind, .ref m_saidNumber, .int 0, .int 0, .int (-1)])), (m_w, .inl (cI, 5568, .inl (fun _ => 0)))] sz) [(h, .inr (8, [.int 0, .ref m_bytes, .int 0, .ref m_w, .int 0, .int 0, .ref m_saved, .int 0, .ref m_line, .ref m_met, .ref m_waiting, .ref m_nextParent, .int 0, .ref m_kind, .ref m_number, .int 0, .ref m_begin, .ref m_table, .ref m_handlers, .ref m_base, .ref m_locals, .ref m_self, .ref m_found, .ref m_place, .ref m_next, .int 0, .ref m_saidKind, .ref m_saidNumber, .int 0, .int 0, .int (-1)]))] t) (va_A [(h, .inr (8, [.int 0, .ref m_bytes, .int 0, .ref m_w, .int 0, .int 0, .ref m_saved, .int 0, .ref m_line, .ref m_met, .ref m_waiting, .ref m_nextParent, .int 0, .ref m_kind, .ref m_number, .int 0, .ref m_begin, .ref m_table, .ref m_handlers, .ref m_base, .ref m_locals, .ref m_self, .ref m_found, .ref m_place, .ref m_next, .int 0, .ref m_saidKind, .ref m_saidNumber, .int 0, .int 0, .int (-1)])), (m_w, .inl (cI, 5568, .inl (fun _ => 0)))] sz)) 0 0 (va_A [(h, .inr (8, [.int 0, .ref m_bytes, .int 0, .ref m_w, .int 0, .int 0, .ref m_saved, .int 0, .ref m_line, .ref m_met, .ref m_waiting, .ref m_nextParent, .int 0, .ref m_kind, .ref m_number, .int 0, .ref m_begin, .ref m_table, .ref m_handlers, .ref m_base, .ref m_locals, .ref m_self, .ref m_found, .ref m_place, .ref m_next, .int 0, .ref m_saidKind, .ref m_saidNumber, .int 0, .int 0, .int (-1)])), (m_w, .inl (cI, 5568, .inl (fun _ => 0)))] sz) := by
  refine Met.ofW (cc := prog_10_method_52_code) (maxL := 4) (ret := (some .int)) (by decide) rfl ?_
  intro p e s m args below meth c s₁ B hml hv
  obtain ⟨rfl, rfl, hP, hK, hD0, hT⟩ := hv
  have hx := B.exec
  have hb := B.bytes
  have hr := B.returns
  have hts0 := atoms_spec (ws := .code y_Model_show prog_10_method_52_code 4 (some .int) :: AW) B.pre
  have hts : ∀ w ∈ AW, w.before [.ref h, .int 4].toArray s = true := fun w h => hts0 w (List.mem_cons_of_mem _ h)
  have hown : s.vm.findClass "TaleMachineModel" = some m.cls := findClass_of_methodNamed B.named
  have hlocks := B.notSynchronized
  have hD := hD0.self (sz := s.heap.size)
  generalize hAe : va_A [(h, .inr (8, [.int 0, .ref m_bytes, .int 0, .ref m_w, .int 0, .int 0, .ref m_saved, .int 0, .ref m_line, .ref m_met, .ref m_waiting, .ref m_nextParent, .int 0, .ref m_kind, .ref m_number, .int 0, .ref m_begin, .ref m_table, .ref m_handlers, .ref m_base, .ref m_locals, .ref m_self, .ref m_found, .ref m_place, .ref m_next, .int 0, .ref m_saidKind, .ref m_saidNumber, .int 0, .int 0, .int (-1)])), (m_w, .inl (cI, 5568, .inl (fun _ => 0)))] s.heap.size = A at hD ⊢
  have hA : ∀ q : Nat, s.heap.size ≤ q → A q := fun q h => by rw [← hAe]; exact Or.inr h
  have hS : va_S A s.heap s.heap [] := va_S.rf
  have hl := lv_entry ([.ref h, .int 4]) (n := 4) (Nat.le_of_ble_eq_true rfl)
  rw [lg_entry_eq]
  generalize (lg_sl ([.ref h, .int 4]) ++ List.replicate (4 - (lg_sl ([.ref h, .int 4])).length) Slot.unset).toArray = ls at hl ⊢
  have hl : lv_has ls 4 [(0, .ref h), (1, .int 4)] := hl
  refine lv_iload_n hx hb d_Model_show_0 rfl (lv_at hl 1 rfl) ?_
  refine lv_iconst (v := 0) hx hb d_Model_show_1 (by decide) ?_
  refine lv_iconst (v := 5) hx hb d_Model_show_2 (by decide) ?_
  refine mv_i (va_runS (As := [.int 4, .int 0, .int 5]) (rest := []) ⟨hx, hb, hml, hown, hts⟩ (c_Model_outside l D cI cZ cJ 4 0 5 _ ) (va_cwS 3 hts (gInS k_2 k_3 k_4 k_1) rfl rfl rfl (by decide +kernel) ⟨Nat.le_of_ble_eq_true rfl, Nat.le_of_ble_eq_true rfl⟩) (pre_S (hP.sub [] rfl) (hK.sub [0, 1, 2] rfl) (hD.sub [] (by decide) rfl) hT) rfl rfl hl.1 rfl (lv_room (Nat.le_of_ble_eq_true rfl)) d_Model_show_3 ⟨Nat.le_of_ble_eq_true rfl, Nat.le_of_ble_eq_true rfl⟩) hP hD hS hA [] [0, 1] rfl rfl (by decide) (by decide) (wr := [(h, .inr (8, [.int 0, .ref m_bytes, .int 0, .ref m_w, .int 0, .int 0, .ref m_saved, .int 0, .ref m_line, .ref m_met, .ref m_waiting, .ref m_nextParent, .int 0, .ref m_kind, .ref m_number, .int 0, .ref m_begin, .ref m_table, .ref m_handlers, .ref m_base, .ref m_locals, .ref m_self, .ref m_found, .ref m_place, .ref m_next, .int 0, .ref m_saidKind, .ref m_saidNumber, .int 0, .int 0, .int (-1)])), (m_w, .inl (cI, 5568, .inl (fun _ => 0)))]) (wn := fun _ => []) (fun _ _ h9 => h9) (fun r1 _ H locs hp2 hP hD hS => ?_)
  have hP : va_P D cL [(h, .inr (8, [.int 0, .ref m_bytes, .int 0, .ref m_w, .int 0, .int 0, .ref m_saved, .int 0, .ref m_line, .ref m_met, .ref m_waiting, .ref m_nextParent, .int 0, .ref m_kind, .ref m_number, .int 0, .ref m_begin, .ref m_table, .ref m_handlers, .ref m_base, .ref m_locals, .ref m_self, .ref m_found, .ref m_place, .ref m_next, .int 0, .ref m_saidKind, .ref m_saidNumber, .int 0, .int 0, .int (-1)])), (m_w, .inl (cI, 5568, .inl (fun _ => 0)))] H := hP
  have hD : va_D A [(h, .inr (8, [.int 0, .ref m_bytes, .int 0, .ref m_w, .int 0, .int 0, .ref m_saved, .int 0, .ref m_line, .ref m_met, .ref m_waiting, .ref m_nextParent, .int 0, .ref m_kind, .ref m_number, .int 0, .ref m_begin, .ref m_table, .ref m_handlers, .ref m_base, .ref m_locals, .ref m_self, .ref m_found, .ref m_place, .ref m_next, .int 0, .ref m_saidKind, .ref m_saidNumber, .int 0, .int 0, .int (-1)])), (m_w, .inl (cI, 5568, .inl (fun _ => 0)))] := hD
  refine lv_if_ne hx hb d_Model_show_6 (tgt := 26) (by decide) (fun hz => absurd (by rcases hp2.1 with h | h; exact h; exact absurd (hp2.2.mp h) (by decide)) hz) (fun _ => ?_)
  refine lv_aload_n hx hb d_Model_show_9 rfl (lv_at hl 0 rfl) ?_
  refine va_get (D := D) (ci := 8) (v := .int 0) (C := "TaleMachineModel") (T := F_Model) (N := 31) hx hb hts in_Model hown hK hP 0 rfl rfl 15 (by decide) (hts _ k_34) (fun _ h9 => h9) rfl d_Model_show_10 ?_
  refine lv_if_ne hx hb d_Model_show_13 (tgt := 32) (by decide) (fun hz => absurd (by decide) hz) (fun _ => ?_)
  refine lv_iload_n hx hb d_Model_show_16 rfl (lv_at hl 1 rfl) ?_
  refine lv_iconst (v := 1) hx hb d_Model_show_17 (by decide) ?_
  refine lv_icmp_eq hx hb d_Model_show_18 (tgt := 26) (by decide) (fun hz => absurd hz (by decide)) (fun _ => ?_)
  refine lv_iload_n hx hb d_Model_show_21 rfl (lv_at hl 1 rfl) ?_
  refine lv_iconst (v := 2) hx hb d_Model_show_22 (by decide) ?_
  refine lv_icmp_ne hx hb d_Model_show_23 (tgt := 32) (by decide) (fun _ => ?_) (fun hz => absurd hz (by decide))
  refine lv_aload_n hx hb d_Model_show_32 rfl (lv_at hl 0 rfl) ?_
  refine lv_iconst (v := 0) hx hb d_Model_show_33 (by decide) ?_
  refine va_put (D := D) (ci := 8) (v := .int 0) (ty := .int) (C := "TaleMachineModel") (T := F_Model) (N := 31) hx hb hts in_Model t_Model t_Model_ok n_Model hown hK hP hD hS 0 rfl rfl 0 (by decide) (hts _ k_0) (fun _ h9 => h9) rfl (by decide +kernel) rfl rfl (Nat.le_of_ble_eq_true rfl) d_Model_show_34 (fun H locs hP hD hS => ?_)
  have hP : va_P D cL [(h, .inr (8, [.int 0, .ref m_bytes, .int 0, .ref m_w, .int 0, .int 0, .ref m_saved, .int 0, .ref m_line, .ref m_met, .ref m_waiting, .ref m_nextParent, .int 0, .ref m_kind, .ref m_number, .int 0, .ref m_begin, .ref m_table, .ref m_handlers, .ref m_base, .ref m_locals, .ref m_self, .ref m_found, .ref m_place, .ref m_next, .int 0, .ref m_saidKind, .ref m_saidNumber, .int 0, .int 0, .int (-1)])), (m_w, .inl (cI, 5568, .inl (fun _ => 0)))] H := hP
  have hD : va_D A [(h, .inr (8, [.int 0, .ref m_bytes, .int 0, .ref m_w, .int 0, .int 0, .ref m_saved, .int 0, .ref m_line, .ref m_met, .ref m_waiting, .ref m_nextParent, .int 0, .ref m_kind, .ref m_number, .int 0, .ref m_begin, .ref m_table, .ref m_handlers, .ref m_base, .ref m_locals, .ref m_self, .ref m_found, .ref m_place, .ref m_next, .int 0, .ref m_saidKind, .ref m_saidNumber, .int 0, .int 0, .int (-1)])), (m_w, .inl (cI, 5568, .inl (fun _ => 0)))] := hD
  refine lv_iconst (v := 0) hx hb d_Model_show_37 (by decide) ?_
  refine lv_istore_n (lv' := [(2, .int 0), (0, .ref h), (1, .int 4)]) hx hb d_Model_show_38 rfl hl (by decide) rfl (fun ls hl => ?_)
  refine lv_iconst (v := 0) hx hb d_Model_show_39 (by decide) ?_
  refine lv_istore_n (lv' := [(3, .int 0), (2, .int 0), (0, .ref h), (1, .int 4)]) hx hb d_Model_show_40 rfl hl (by decide) rfl (fun ls hl => ?_)
  refine lp_W (I := fun k3 H locs ls => va_P D cL [(h, .inr (8, [.int 0, .ref m_bytes, .int 0, .ref m_w, .int 0, .int 0, .ref m_saved, .int 0, .ref m_line, .ref m_met, .ref m_waiting, .ref m_nextParent, .int 0, .ref m_kind, .ref m_number, .int 0, .ref m_begin, .ref m_table, .ref m_handlers, .ref m_base, .ref m_locals, .ref m_self, .ref m_found, .ref m_place, .ref m_next, .int 0, .ref m_saidKind, .ref m_saidNumber, .int 0, .int 0, .int (-1)])), (m_w, .inl (cI, 5568, .inl (fun _ => 0)))] H ∧ va_D A [(h, .inr (8, [.int 0, .ref m_bytes, .int 0, .ref m_w, .int 0, .int 0, .ref m_saved, .int 0, .ref m_line, .ref m_met, .ref m_waiting, .ref m_nextParent, .int 0, .ref m_kind, .ref m_number, .int 0, .ref m_begin, .ref m_table, .ref m_handlers, .ref m_base, .ref m_locals, .ref m_self, .ref m_found, .ref m_place, .ref m_next, .int 0, .ref m_saidKind, .ref m_saidNumber, .int 0, .int 0, .int (-1)])), (m_w, .inl (cI, 5568, .inl (fun _ => 0)))] ∧ va_S A s.heap H locs ∧ lv_has ls 4 [(3, .int (nI k3)), (2, .int 0), (0, .ref h), (1, .int 4)]) (a := 0) (b := 32) (by decide) ?_ _ _ _ ⟨hP, hD, hS, hl⟩
  intro k3 H locs ls hkak3 hkbk3 hI ih4
  obtain ⟨hP, hD, hS, hl⟩ := hI
  rcases Nat.lt_or_ge k3 32 with hkk3 | hkk3
  · refine lv_iload_n hx hb d_Model_show_41 rfl (lv_at hl 0 rfl) ?_
    refine lv_bipush (v := 32) hx hb d_Model_show_42 (by decide) ?_
    refine lv_icmp_ge hx hb d_Model_show_44 (tgt := 65) (by decide) (fun hz => absurd hz (nI_ge hkk3 (by decide))) (fun _ => ?_)
    refine lv_iload_n hx hb d_Model_show_47 rfl (lv_at hl 1 rfl) ?_
    refine lv_aload_n hx hb d_Model_show_48 rfl (lv_at hl 2 rfl) ?_
    refine va_get (D := D) (ci := 8) (v := .ref m_w) (C := "TaleMachineModel") (T := F_Model) (N := 31) hx hb hts in_Model hown hK hP 0 rfl rfl 3 (by decide) (hts _ k_5) (fun _ h9 => h9) rfl d_Model_show_49 ?_
    refine lv_bipush (v := 29) hx hb d_Model_show_52 (by decide) ?_
    refine lv_iload_n hx hb d_Model_show_54 rfl (lv_at hl 0 rfl) ?_
    refine lv_imul hx hb d_Model_show_55 ?_
    refine lv_topi (fun z5 hz5 => ?_)
    obtain rfl : z5 = (29 * (nI k3)) := hz5.trans (rfl)
    refine va_iald hx hb hK hP 1 0 rfl rfl (i := (29 * (nI k3))) (md_ixk hkk3) d_Model_show_56 ?_
    refine lv_topi (fun z6 hz6 => ?_)
    obtain rfl : z6 = 0 := hz6
    refine lv_iadd hx hb d_Model_show_57 ?_
    refine lv_topi (fun z7 hz7 => ?_)
    obtain rfl : z7 = 0 := hz7.trans (by decide)
    refine lv_istore_n (lv' := [(2, .int 0), (3, .int (nI k3)), (0, .ref h), (1, .int 4)]) hx hb d_Model_show_58 rfl hl (by decide) rfl (fun ls hl => ?_)
    refine lv_iinc (v := (nI (k3 + 1))) (lv' := [(3, .int (nI (k3 + 1))), (2, .int 0), (0, .ref h), (1, .int 4)]) hx hb d_Model_show_59 hl (k := 1) rfl (nI_1 k3) (by decide) rfl (fun ls hl => ?_)
    refine lv_goto hx hb d_Model_show_62 (tgt := 41) (by decide) ?_
    exact ih4 hkk3 _ _ _ ⟨hP, hD, hS, lv_sub hl [0, 1, 2, 3] rfl⟩
  · obtain rfl : k3 = 32 := by omega
    have hl : lv_has ls 4 [(3, .int 32), (2, .int 0), (0, .ref h), (1, .int 4)] := hl
    refine lv_iload_n hx hb d_Model_show_41 rfl (lv_at hl 0 rfl) ?_
    refine lv_bipush (v := 32) hx hb d_Model_show_42 (by decide) ?_
    refine lv_icmp_ge hx hb d_Model_show_44 (tgt := 65) (by decide) (fun _ => ?_) (fun hz => absurd (by decide) hz)
    refine lv_iload_n hx hb d_Model_show_65 rfl (lv_at hl 3 rfl) ?_
    refine lv_tableIn hx hb d_Model_show_66 (x := 4) (off := 68) (tgt := 134) (by decide) (by decide) rfl (by decide) ?_
    refine lv_iload_n hx hb d_Model_show_134 rfl (lv_at hl 1 rfl) ?_
    exact end_i hx hb hr hlocks hS (u := ()) (r := 0) (at_end (hP.sub (ws' := [(h, .inr (8, [.int 0, .ref m_bytes, .int 0, .ref m_w, .int 0, .int 0, .ref m_saved, .int 0, .ref m_line, .ref m_met, .ref m_waiting, .ref m_nextParent, .int 0, .ref m_kind, .ref m_number, .int 0, .ref m_begin, .ref m_table, .ref m_handlers, .ref m_base, .ref m_locals, .ref m_self, .ref m_found, .ref m_place, .ref m_next, .int 0, .ref m_saidKind, .ref m_saidNumber, .int 0, .int 0, .int (-1)]))]) [0] rfl) (hD.sub (ws' := [(h, .inr (8, [.int 0, .ref m_bytes, .int 0, .ref m_w, .int 0, .int 0, .ref m_saved, .int 0, .ref m_line, .ref m_met, .ref m_waiting, .ref m_nextParent, .int 0, .ref m_kind, .ref m_number, .int 0, .ref m_begin, .ref m_table, .ref m_handlers, .ref m_base, .ref m_locals, .ref m_self, .ref m_found, .ref m_place, .ref m_next, .int 0, .ref m_saidKind, .ref m_saidNumber, .int 0, .int 0, .int (-1)]))]) [0] (by decide) rfl)) (rfl) (Nat.le_of_ble_eq_true rfl) (Nat.le_of_ble_eq_true rfl) d_Model_show_135

set_option maxHeartbeats 4000000 in
set_option maxRecDepth 100000 in
theorem c_Model_show_5 (l : Launch) (D : va_G) (cI cZ cJ : ClassId) (h m_bytes m_w m_saved m_line m_met m_waiting m_nextParent m_kind m_number m_begin m_table m_handlers m_base m_locals m_self m_found m_place m_next m_saidKind m_saidNumber : Nat) (sz : Nat)  : Met l y_Model_show (.code y_Model_show prog_10_method_52_code 4 (some .int) :: AW) ({ frames := 1, cells := 0, slots := 0, locals := 22 }) (va_Pc [.ref h, .int 5] (pre_ D [(h, .inr (8, [.int 0, .ref m_bytes, .int 0, .ref m_w, .int 0, .int 0, .ref m_saved, .int 0, .ref m_line, .ref m_met, .ref m_waiting, .ref m_nextParent, .int 0, .ref m_kind, .ref m_number, .int 0, .ref m_begin, .ref m_table, .ref m_handlers, .ref m_base, .ref m_locals, .ref m_self, .ref m_found, .ref m_place, .ref m_next, .int 0, .ref m_saidKind, .ref m_saidNumber, .int 0, .int 0, .int (-1)])), (m_w, .inl (cI, 5568, .inl (fun _ => 0)))] [(cI, .int), (cZ, .boolean), (cJ, .long)] sz)) (va_Qi (fun (r : Int32) (u : Unit) => r = 0) (fun _ t => post_ D (va_A [(h, .inr (8, [.int 0, .ref m_bytes, .int 0, .ref m_w, .int 0, .int 0, .ref m_saved, .int 0, .ref m_line, .ref m_met, .ref m_waiting, .ref m_nextParent, .int 0, .ref m_kind, .ref m_number, .int 0, .ref m_begin, .ref m_table, .ref m_handlers, .ref m_base, .ref m_locals, .ref m_self, .ref m_found, .ref m_place, .ref m_next, .int 0, .ref m_saidKind, .ref m_saidNumber, .int 0, .int 0, .int (-1)])), (m_w, .inl (cI, 5568, .inl (fun _ => 0)))] sz) [(h, .inr (8, [.int 0, .ref m_bytes, .int 0, .ref m_w, .int 0, .int 0, .ref m_saved, .int 0, .ref m_line, .ref m_met, .ref m_waiting, .ref m_nextParent, .int 0, .ref m_kind, .ref m_number, .int 0, .ref m_begin, .ref m_table, .ref m_handlers, .ref m_base, .ref m_locals, .ref m_self, .ref m_found, .ref m_place, .ref m_next, .int 0, .ref m_saidKind, .ref m_saidNumber, .int 0, .int 0, .int (-1)]))] t) (va_A [(h, .inr (8, [.int 0, .ref m_bytes, .int 0, .ref m_w, .int 0, .int 0, .ref m_saved, .int 0, .ref m_line, .ref m_met, .ref m_waiting, .ref m_nextParent, .int 0, .ref m_kind, .ref m_number, .int 0, .ref m_begin, .ref m_table, .ref m_handlers, .ref m_base, .ref m_locals, .ref m_self, .ref m_found, .ref m_place, .ref m_next, .int 0, .ref m_saidKind, .ref m_saidNumber, .int 0, .int 0, .int (-1)])), (m_w, .inl (cI, 5568, .inl (fun _ => 0)))] sz)) 0 0 (va_A [(h, .inr (8, [.int 0, .ref m_bytes, .int 0, .ref m_w, .int 0, .int 0, .ref m_saved, .int 0, .ref m_line, .ref m_met, .ref m_waiting, .ref m_nextParent, .int 0, .ref m_kind, .ref m_number, .int 0, .ref m_begin, .ref m_table, .ref m_handlers, .ref m_base, .ref m_locals, .ref m_self, .ref m_found, .ref m_place, .ref m_next, .int 0, .ref m_saidKind, .ref m_saidNumber, .int 0, .int 0, .int (-1)])), (m_w, .inl (cI, 5568, .inl (fun _ => 0)))] sz) := by
  refine Met.ofW (cc := prog_10_method_52_code) (maxL := 4) (ret := (some .int)) (by decide) rfl ?_
  intro p e s m args below meth c s₁ B hml hv
  obtain ⟨rfl, rfl, hP, hK, hD0, hT⟩ := hv
  have hx := B.exec
  have hb := B.bytes
  have hr := B.returns
  have hts0 := atoms_spec (ws := .code y_Model_show prog_10_method_52_code 4 (some .int) :: AW) B.pre
  have hts : ∀ w ∈ AW, w.before [.ref h, .int 5].toArray s = true := fun w h => hts0 w (List.mem_cons_of_mem _ h)
  have hown : s.vm.findClass "TaleMachineModel" = some m.cls := findClass_of_methodNamed B.named
  have hlocks := B.notSynchronized
  have hD := hD0.self (sz := s.heap.size)
  generalize hAe : va_A [(h, .inr (8, [.int 0, .ref m_bytes, .int 0, .ref m_w, .int 0, .int 0, .ref m_saved, .int 0, .ref m_line, .ref m_met, .ref m_waiting, .ref m_nextParent, .int 0, .ref m_kind, .ref m_number, .int 0, .ref m_begin, .ref m_table, .ref m_handlers, .ref m_base, .ref m_locals, .ref m_self, .ref m_found, .ref m_place, .ref m_next, .int 0, .ref m_saidKind, .ref m_saidNumber, .int 0, .int 0, .int (-1)])), (m_w, .inl (cI, 5568, .inl (fun _ => 0)))] s.heap.size = A at hD ⊢
  have hA : ∀ q : Nat, s.heap.size ≤ q → A q := fun q h => by rw [← hAe]; exact Or.inr h
  have hS : va_S A s.heap s.heap [] := va_S.rf
  have hl := lv_entry ([.ref h, .int 5]) (n := 4) (Nat.le_of_ble_eq_true rfl)
  rw [lg_entry_eq]
  generalize (lg_sl ([.ref h, .int 5]) ++ List.replicate (4 - (lg_sl ([.ref h, .int 5])).length) Slot.unset).toArray = ls at hl ⊢
  have hl : lv_has ls 4 [(0, .ref h), (1, .int 5)] := hl
  refine lv_iload_n hx hb d_Model_show_0 rfl (lv_at hl 1 rfl) ?_
  refine lv_iconst (v := 0) hx hb d_Model_show_1 (by decide) ?_
  refine lv_iconst (v := 5) hx hb d_Model_show_2 (by decide) ?_
  refine mv_i (va_runS (As := [.int 5, .int 0, .int 5]) (rest := []) ⟨hx, hb, hml, hown, hts⟩ (c_Model_outside l D cI cZ cJ 5 0 5 _ ) (va_cwS 3 hts (gInS k_2 k_3 k_4 k_1) rfl rfl rfl (by decide +kernel) ⟨Nat.le_of_ble_eq_true rfl, Nat.le_of_ble_eq_true rfl⟩) (pre_S (hP.sub [] rfl) (hK.sub [0, 1, 2] rfl) (hD.sub [] (by decide) rfl) hT) rfl rfl hl.1 rfl (lv_room (Nat.le_of_ble_eq_true rfl)) d_Model_show_3 ⟨Nat.le_of_ble_eq_true rfl, Nat.le_of_ble_eq_true rfl⟩) hP hD hS hA [] [0, 1] rfl rfl (by decide) (by decide) (wr := [(h, .inr (8, [.int 0, .ref m_bytes, .int 0, .ref m_w, .int 0, .int 0, .ref m_saved, .int 0, .ref m_line, .ref m_met, .ref m_waiting, .ref m_nextParent, .int 0, .ref m_kind, .ref m_number, .int 0, .ref m_begin, .ref m_table, .ref m_handlers, .ref m_base, .ref m_locals, .ref m_self, .ref m_found, .ref m_place, .ref m_next, .int 0, .ref m_saidKind, .ref m_saidNumber, .int 0, .int 0, .int (-1)])), (m_w, .inl (cI, 5568, .inl (fun _ => 0)))]) (wn := fun _ => []) (fun _ _ h9 => h9) (fun r1 _ H locs hp2 hP hD hS => ?_)
  have hP : va_P D cL [(h, .inr (8, [.int 0, .ref m_bytes, .int 0, .ref m_w, .int 0, .int 0, .ref m_saved, .int 0, .ref m_line, .ref m_met, .ref m_waiting, .ref m_nextParent, .int 0, .ref m_kind, .ref m_number, .int 0, .ref m_begin, .ref m_table, .ref m_handlers, .ref m_base, .ref m_locals, .ref m_self, .ref m_found, .ref m_place, .ref m_next, .int 0, .ref m_saidKind, .ref m_saidNumber, .int 0, .int 0, .int (-1)])), (m_w, .inl (cI, 5568, .inl (fun _ => 0)))] H := hP
  have hD : va_D A [(h, .inr (8, [.int 0, .ref m_bytes, .int 0, .ref m_w, .int 0, .int 0, .ref m_saved, .int 0, .ref m_line, .ref m_met, .ref m_waiting, .ref m_nextParent, .int 0, .ref m_kind, .ref m_number, .int 0, .ref m_begin, .ref m_table, .ref m_handlers, .ref m_base, .ref m_locals, .ref m_self, .ref m_found, .ref m_place, .ref m_next, .int 0, .ref m_saidKind, .ref m_saidNumber, .int 0, .int 0, .int (-1)])), (m_w, .inl (cI, 5568, .inl (fun _ => 0)))] := hD
  refine lv_if_ne hx hb d_Model_show_6 (tgt := 26) (by decide) (fun hz => absurd (by rcases hp2.1 with h | h; exact h; exact absurd (hp2.2.mp h) (by decide)) hz) (fun _ => ?_)
  refine lv_aload_n hx hb d_Model_show_9 rfl (lv_at hl 0 rfl) ?_
  refine va_get (D := D) (ci := 8) (v := .int 0) (C := "TaleMachineModel") (T := F_Model) (N := 31) hx hb hts in_Model hown hK hP 0 rfl rfl 15 (by decide) (hts _ k_34) (fun _ h9 => h9) rfl d_Model_show_10 ?_
  refine lv_if_ne hx hb d_Model_show_13 (tgt := 32) (by decide) (fun hz => absurd (by decide) hz) (fun _ => ?_)
  refine lv_iload_n hx hb d_Model_show_16 rfl (lv_at hl 1 rfl) ?_
  refine lv_iconst (v := 1) hx hb d_Model_show_17 (by decide) ?_
  refine lv_icmp_eq hx hb d_Model_show_18 (tgt := 26) (by decide) (fun hz => absurd hz (by decide)) (fun _ => ?_)
  refine lv_iload_n hx hb d_Model_show_21 rfl (lv_at hl 1 rfl) ?_
  refine lv_iconst (v := 2) hx hb d_Model_show_22 (by decide) ?_
  refine lv_icmp_ne hx hb d_Model_show_23 (tgt := 32) (by decide) (fun _ => ?_) (fun hz => absurd hz (by decide))
  refine lv_aload_n hx hb d_Model_show_32 rfl (lv_at hl 0 rfl) ?_
  refine lv_iconst (v := 0) hx hb d_Model_show_33 (by decide) ?_
  refine va_put (D := D) (ci := 8) (v := .int 0) (ty := .int) (C := "TaleMachineModel") (T := F_Model) (N := 31) hx hb hts in_Model t_Model t_Model_ok n_Model hown hK hP hD hS 0 rfl rfl 0 (by decide) (hts _ k_0) (fun _ h9 => h9) rfl (by decide +kernel) rfl rfl (Nat.le_of_ble_eq_true rfl) d_Model_show_34 (fun H locs hP hD hS => ?_)
  have hP : va_P D cL [(h, .inr (8, [.int 0, .ref m_bytes, .int 0, .ref m_w, .int 0, .int 0, .ref m_saved, .int 0, .ref m_line, .ref m_met, .ref m_waiting, .ref m_nextParent, .int 0, .ref m_kind, .ref m_number, .int 0, .ref m_begin, .ref m_table, .ref m_handlers, .ref m_base, .ref m_locals, .ref m_self, .ref m_found, .ref m_place, .ref m_next, .int 0, .ref m_saidKind, .ref m_saidNumber, .int 0, .int 0, .int (-1)])), (m_w, .inl (cI, 5568, .inl (fun _ => 0)))] H := hP
  have hD : va_D A [(h, .inr (8, [.int 0, .ref m_bytes, .int 0, .ref m_w, .int 0, .int 0, .ref m_saved, .int 0, .ref m_line, .ref m_met, .ref m_waiting, .ref m_nextParent, .int 0, .ref m_kind, .ref m_number, .int 0, .ref m_begin, .ref m_table, .ref m_handlers, .ref m_base, .ref m_locals, .ref m_self, .ref m_found, .ref m_place, .ref m_next, .int 0, .ref m_saidKind, .ref m_saidNumber, .int 0, .int 0, .int (-1)])), (m_w, .inl (cI, 5568, .inl (fun _ => 0)))] := hD
  refine lv_iconst (v := 0) hx hb d_Model_show_37 (by decide) ?_
  refine lv_istore_n (lv' := [(2, .int 0), (0, .ref h), (1, .int 5)]) hx hb d_Model_show_38 rfl hl (by decide) rfl (fun ls hl => ?_)
  refine lv_iconst (v := 0) hx hb d_Model_show_39 (by decide) ?_
  refine lv_istore_n (lv' := [(3, .int 0), (2, .int 0), (0, .ref h), (1, .int 5)]) hx hb d_Model_show_40 rfl hl (by decide) rfl (fun ls hl => ?_)
  refine lp_W (I := fun k3 H locs ls => va_P D cL [(h, .inr (8, [.int 0, .ref m_bytes, .int 0, .ref m_w, .int 0, .int 0, .ref m_saved, .int 0, .ref m_line, .ref m_met, .ref m_waiting, .ref m_nextParent, .int 0, .ref m_kind, .ref m_number, .int 0, .ref m_begin, .ref m_table, .ref m_handlers, .ref m_base, .ref m_locals, .ref m_self, .ref m_found, .ref m_place, .ref m_next, .int 0, .ref m_saidKind, .ref m_saidNumber, .int 0, .int 0, .int (-1)])), (m_w, .inl (cI, 5568, .inl (fun _ => 0)))] H ∧ va_D A [(h, .inr (8, [.int 0, .ref m_bytes, .int 0, .ref m_w, .int 0, .int 0, .ref m_saved, .int 0, .ref m_line, .ref m_met, .ref m_waiting, .ref m_nextParent, .int 0, .ref m_kind, .ref m_number, .int 0, .ref m_begin, .ref m_table, .ref m_handlers, .ref m_base, .ref m_locals, .ref m_self, .ref m_found, .ref m_place, .ref m_next, .int 0, .ref m_saidKind, .ref m_saidNumber, .int 0, .int 0, .int (-1)])), (m_w, .inl (cI, 5568, .inl (fun _ => 0)))] ∧ va_S A s.heap H locs ∧ lv_has ls 4 [(3, .int (nI k3)), (2, .int 0), (0, .ref h), (1, .int 5)]) (a := 0) (b := 32) (by decide) ?_ _ _ _ ⟨hP, hD, hS, hl⟩
  intro k3 H locs ls hkak3 hkbk3 hI ih4
  obtain ⟨hP, hD, hS, hl⟩ := hI
  rcases Nat.lt_or_ge k3 32 with hkk3 | hkk3
  · refine lv_iload_n hx hb d_Model_show_41 rfl (lv_at hl 0 rfl) ?_
    refine lv_bipush (v := 32) hx hb d_Model_show_42 (by decide) ?_
    refine lv_icmp_ge hx hb d_Model_show_44 (tgt := 65) (by decide) (fun hz => absurd hz (nI_ge hkk3 (by decide))) (fun _ => ?_)
    refine lv_iload_n hx hb d_Model_show_47 rfl (lv_at hl 1 rfl) ?_
    refine lv_aload_n hx hb d_Model_show_48 rfl (lv_at hl 2 rfl) ?_
    refine va_get (D := D) (ci := 8) (v := .ref m_w) (C := "TaleMachineModel") (T := F_Model) (N := 31) hx hb hts in_Model hown hK hP 0 rfl rfl 3 (by decide) (hts _ k_5) (fun _ h9 => h9) rfl d_Model_show_49 ?_
    refine lv_bipush (v := 29) hx hb d_Model_show_52 (by decide) ?_
    refine lv_iload_n hx hb d_Model_show_54 rfl (lv_at hl 0 rfl) ?_
    refine lv_imul hx hb d_Model_show_55 ?_
    refine lv_topi (fun z5 hz5 => ?_)
    obtain rfl : z5 = (29 * (nI k3)) := hz5.trans (rfl)
    refine va_iald hx hb hK hP 1 0 rfl rfl (i := (29 * (nI k3))) (md_ixk hkk3) d_Model_show_56 ?_
    refine lv_topi (fun z6 hz6 => ?_)
    obtain rfl : z6 = 0 := hz6
    refine lv_iadd hx hb d_Model_show_57 ?_
    refine lv_topi (fun z7 hz7 => ?_)
    obtain rfl : z7 = 0 := hz7.trans (by decide)
    refine lv_istore_n (lv' := [(2, .int 0), (3, .int (nI k3)), (0, .ref h), (1, .int 5)]) hx hb d_Model_show_58 rfl hl (by decide) rfl (fun ls hl => ?_)
    refine lv_iinc (v := (nI (k3 + 1))) (lv' := [(3, .int (nI (k3 + 1))), (2, .int 0), (0, .ref h), (1, .int 5)]) hx hb d_Model_show_59 hl (k := 1) rfl (nI_1 k3) (by decide) rfl (fun ls hl => ?_)
    refine lv_goto hx hb d_Model_show_62 (tgt := 41) (by decide) ?_
    exact ih4 hkk3 _ _ _ ⟨hP, hD, hS, lv_sub hl [0, 1, 2, 3] rfl⟩
  · obtain rfl : k3 = 32 := by omega
    have hl : lv_has ls 4 [(3, .int 32), (2, .int 0), (0, .ref h), (1, .int 5)] := hl
    refine lv_iload_n hx hb d_Model_show_41 rfl (lv_at hl 0 rfl) ?_
    refine lv_bipush (v := 32) hx hb d_Model_show_42 (by decide) ?_
    refine lv_icmp_ge hx hb d_Model_show_44 (tgt := 65) (by decide) (fun _ => ?_) (fun hz => absurd (by decide) hz)
    refine lv_iload_n hx hb d_Model_show_65 rfl (lv_at hl 3 rfl) ?_
    refine lv_tableOut hx hb d_Model_show_66 (tgt := 136) (by decide) (by decide) ?_
    refine lv_aload_n hx hb d_Model_show_136 rfl (lv_at hl 2 rfl) ?_
    refine va_get (D := D) (ci := 8) (v := .int 0) (C := "TaleMachineModel") (T := F_Model) (N := 31) hx hb hts in_Model hown hK hP 0 rfl rfl 25 (by decide) (hts _ k_39) (fun _ h9 => h9) rfl d_Model_show_137 ?_
    exact end_i hx hb hr hlocks hS (u := ()) (r := 0) (at_end (hP.sub (ws' := [(h, .inr (8, [.int 0, .ref m_bytes, .int 0, .ref m_w, .int 0, .int 0, .ref m_saved, .int 0, .ref m_line, .ref m_met, .ref m_waiting, .ref m_nextParent, .int 0, .ref m_kind, .ref m_number, .int 0, .ref m_begin, .ref m_table, .ref m_handlers, .ref m_base, .ref m_locals, .ref m_self, .ref m_found, .ref m_place, .ref m_next, .int 0, .ref m_saidKind, .ref m_saidNumber, .int 0, .int 0, .int (-1)]))]) [0] rfl) (hD.sub (ws' := [(h, .inr (8, [.int 0, .ref m_bytes, .int 0, .ref m_w, .int 0, .int 0, .ref m_saved, .int 0, .ref m_line, .ref m_met, .ref m_waiting, .ref m_nextParent, .int 0, .ref m_kind, .ref m_number, .int 0, .ref m_begin, .ref m_table, .ref m_handlers, .ref m_base, .ref m_locals, .ref m_self, .ref m_found, .ref m_place, .ref m_next, .int 0, .ref m_saidKind, .ref m_saidNumber, .int 0, .int 0, .int (-1)]))]) [0] (by decide) rfl)) (rfl) (Nat.le_of_ble_eq_true rfl) (Nat.le_of_ble_eq_true rfl) d_Model_show_140

set_option maxHeartbeats 4000000 in
set_option maxRecDepth 100000 in
theorem c_Model_show_x (l : Launch) (D : va_G) (cI cZ cJ : ClassId) (h m_bytes m_w m_saved m_line m_met m_waiting m_nextParent m_kind m_number m_begin m_table m_handlers m_base m_locals m_self m_found m_place m_next m_saidKind m_saidNumber : Nat) (wh : Int32) (sz : Nat) (hw : (wh < 0 ∨ 5 < wh) ∨ wh = 1 ∨ wh = 2) : Met l y_Model_show (.code y_Model_show prog_10_method_52_code 4 (some .int) :: AW) ({ frames := 1, cells := 0, slots := 0, locals := 22 }) (va_Pc [.ref h, .int wh] (pre_ D [(h, .inr (8, [.int 0, .ref m_bytes, .int 0, .ref m_w, .int 0, .int 0, .ref m_saved, .int 0, .ref m_line, .ref m_met, .ref m_waiting, .ref m_nextParent, .int 0, .ref m_kind, .ref m_number, .int 0, .ref m_begin, .ref m_table, .ref m_handlers, .ref m_base, .ref m_locals, .ref m_self, .ref m_found, .ref m_place, .ref m_next, .int 0, .ref m_saidKind, .ref m_saidNumber, .int 0, .int 0, .int (-1)]))] [(cI, .int), (cZ, .boolean), (cJ, .long)] sz)) (va_Qi (fun (r : Int32) (u : Unit) => r = 0) (fun _ t => post_ D (va_A [(h, .inr (8, [.int 0, .ref m_bytes, .int 0, .ref m_w, .int 0, .int 0, .ref m_saved, .int 0, .ref m_line, .ref m_met, .ref m_waiting, .ref m_nextParent, .int 0, .ref m_kind, .ref m_number, .int 0, .ref m_begin, .ref m_table, .ref m_handlers, .ref m_base, .ref m_locals, .ref m_self, .ref m_found, .ref m_place, .ref m_next, .int 0, .ref m_saidKind, .ref m_saidNumber, .int 0, .int 0, .int (-1)]))] sz) [(h, .inr (8, [.int 1, .ref m_bytes, .int 0, .ref m_w, .int 0, .int 0, .ref m_saved, .int 0, .ref m_line, .ref m_met, .ref m_waiting, .ref m_nextParent, .int 0, .ref m_kind, .ref m_number, .int 0, .ref m_begin, .ref m_table, .ref m_handlers, .ref m_base, .ref m_locals, .ref m_self, .ref m_found, .ref m_place, .ref m_next, .int 0, .ref m_saidKind, .ref m_saidNumber, .int 0, .int 0, .int (-1)]))] t) (va_A [(h, .inr (8, [.int 0, .ref m_bytes, .int 0, .ref m_w, .int 0, .int 0, .ref m_saved, .int 0, .ref m_line, .ref m_met, .ref m_waiting, .ref m_nextParent, .int 0, .ref m_kind, .ref m_number, .int 0, .ref m_begin, .ref m_table, .ref m_handlers, .ref m_base, .ref m_locals, .ref m_self, .ref m_found, .ref m_place, .ref m_next, .int 0, .ref m_saidKind, .ref m_saidNumber, .int 0, .int 0, .int (-1)]))] sz)) 0 0 (va_A [(h, .inr (8, [.int 0, .ref m_bytes, .int 0, .ref m_w, .int 0, .int 0, .ref m_saved, .int 0, .ref m_line, .ref m_met, .ref m_waiting, .ref m_nextParent, .int 0, .ref m_kind, .ref m_number, .int 0, .ref m_begin, .ref m_table, .ref m_handlers, .ref m_base, .ref m_locals, .ref m_self, .ref m_found, .ref m_place, .ref m_next, .int 0, .ref m_saidKind, .ref m_saidNumber, .int 0, .int 0, .int (-1)]))] sz) := by
  refine Met.ofW (cc := prog_10_method_52_code) (maxL := 4) (ret := (some .int)) (by decide) rfl ?_
  intro p e s m args below meth c s₁ B hml hv
  obtain ⟨rfl, rfl, hP, hK, hD0, hT⟩ := hv
  have hx := B.exec
  have hb := B.bytes
  have hr := B.returns
  have hts0 := atoms_spec (ws := .code y_Model_show prog_10_method_52_code 4 (some .int) :: AW) B.pre
  have hts : ∀ w ∈ AW, w.before [.ref h, .int wh].toArray s = true := fun w h => hts0 w (List.mem_cons_of_mem _ h)
  have hown : s.vm.findClass "TaleMachineModel" = some m.cls := findClass_of_methodNamed B.named
  have hlocks := B.notSynchronized
  have hD := hD0.self (sz := s.heap.size)
  generalize hAe : va_A [(h, .inr (8, [.int 0, .ref m_bytes, .int 0, .ref m_w, .int 0, .int 0, .ref m_saved, .int 0, .ref m_line, .ref m_met, .ref m_waiting, .ref m_nextParent, .int 0, .ref m_kind, .ref m_number, .int 0, .ref m_begin, .ref m_table, .ref m_handlers, .ref m_base, .ref m_locals, .ref m_self, .ref m_found, .ref m_place, .ref m_next, .int 0, .ref m_saidKind, .ref m_saidNumber, .int 0, .int 0, .int (-1)]))] s.heap.size = A at hD ⊢
  have hA : ∀ q : Nat, s.heap.size ≤ q → A q := fun q h => by rw [← hAe]; exact Or.inr h
  have hS : va_S A s.heap s.heap [] := va_S.rf
  have hl := lv_entry ([.ref h, .int wh]) (n := 4) (Nat.le_of_ble_eq_true rfl)
  rw [lg_entry_eq]
  generalize (lg_sl ([.ref h, .int wh]) ++ List.replicate (4 - (lg_sl ([.ref h, .int wh])).length) Slot.unset).toArray = ls at hl ⊢
  have hl : lv_has ls 4 [(0, .ref h), (1, .int wh)] := hl
  refine lv_iload_n hx hb d_Model_show_0 rfl (lv_at hl 1 rfl) ?_
  refine lv_iconst (v := 0) hx hb d_Model_show_1 (by decide) ?_
  refine lv_iconst (v := 5) hx hb d_Model_show_2 (by decide) ?_
  refine mv_i (va_runS (As := [.int wh, .int 0, .int 5]) (rest := []) ⟨hx, hb, hml, hown, hts⟩ (c_Model_outside l D cI cZ cJ wh 0 5 _ ) (va_cwS 3 hts (gInS k_2 k_3 k_4 k_1) rfl rfl rfl (by decide +kernel) ⟨Nat.le_of_ble_eq_true rfl, Nat.le_of_ble_eq_true rfl⟩) (pre_S (hP.sub [] rfl) (hK.sub [0, 1, 2] rfl) (hD.sub [] (by decide) rfl) hT) rfl rfl hl.1 rfl (lv_room (Nat.le_of_ble_eq_true rfl)) d_Model_show_3 ⟨Nat.le_of_ble_eq_true rfl, Nat.le_of_ble_eq_true rfl⟩) hP hD hS hA [] [0] rfl rfl (by decide) (by decide) (wr := [(h, .inr (8, [.int 0, .ref m_bytes, .int 0, .ref m_w, .int 0, .int 0, .ref m_saved, .int 0, .ref m_line, .ref m_met, .ref m_waiting, .ref m_nextParent, .int 0, .ref m_kind, .ref m_number, .int 0, .ref m_begin, .ref m_table, .ref m_handlers, .ref m_base, .ref m_locals, .ref m_self, .ref m_found, .ref m_place, .ref m_next, .int 0, .ref m_saidKind, .ref m_saidNumber, .int 0, .int 0, .int (-1)]))]) (wn := fun _ => []) (fun _ _ h9 => h9) (fun r1 _ H locs hp2 hP hD hS => ?_)
  have hP : va_P D cL [(h, .inr (8, [.int 0, .ref m_bytes, .int 0, .ref m_w, .int 0, .int 0, .ref m_saved, .int 0, .ref m_line, .ref m_met, .ref m_waiting, .ref m_nextParent, .int 0, .ref m_kind, .ref m_number, .int 0, .ref m_begin, .ref m_table, .ref m_handlers, .ref m_base, .ref m_locals, .ref m_self, .ref m_found, .ref m_place, .ref m_next, .int 0, .ref m_saidKind, .ref m_saidNumber, .int 0, .int 0, .int (-1)]))] H := hP
  have hD : va_D A [(h, .inr (8, [.int 0, .ref m_bytes, .int 0, .ref m_w, .int 0, .int 0, .ref m_saved, .int 0, .ref m_line, .ref m_met, .ref m_waiting, .ref m_nextParent, .int 0, .ref m_kind, .ref m_number, .int 0, .ref m_begin, .ref m_table, .ref m_handlers, .ref m_base, .ref m_locals, .ref m_self, .ref m_found, .ref m_place, .ref m_next, .int 0, .ref m_saidKind, .ref m_saidNumber, .int 0, .int 0, .int (-1)]))] := hD
  refine lv_if_ne hx hb d_Model_show_6 (tgt := 26) (by decide) (fun hc3 => ?_) (fun hc3 => ?_)
  · refine lv_aload_n hx hb d_Model_show_26 rfl (lv_at hl 0 rfl) ?_
    refine lv_iconst (v := 1) hx hb d_Model_show_27 (by decide) ?_
    refine mv_i (va_runV (C := "TaleMachineModel") (As := [.int 1]) (rest := []) ⟨hx, hb, hml, hown, hts⟩ (c_Model_refuse l D cI cZ cJ _ _ _ _ _ _ _ _ _ _ _ _ _ _ _ _ _ _ _ _ _ 1 _ ) (cwV 1 hts (gInV k_36 k_37 k_38 k_4 k_35) rfl rfl rfl (by decide +kernel) ⟨Nat.le_of_ble_eq_true rfl, Nat.le_of_ble_eq_true rfl⟩) (pre_V (va_recv hK hP (q := ("TaleMachineModel", F_Model, 31)) rfl (q0 := 0) rfl) (hP.sub [0] rfl) (hK.sub [0, 1, 2] rfl) (hD.sub [0] (by decide) rfl) hT) rfl rfl hl.1 rfl (lv_room (Nat.le_of_ble_eq_true rfl)) d_Model_show_28 ⟨Nat.le_of_ble_eq_true rfl, Nat.le_of_ble_eq_true rfl⟩) hP hD hS hA [0] [] rfl rfl (by decide) (by decide) (wr := []) (wn := fun _ => [(h, .inr (8, [.int 1, .ref m_bytes, .int 0, .ref m_w, .int 0, .int 0, .ref m_saved, .int 0, .ref m_line, .ref m_met, .ref m_waiting, .ref m_nextParent, .int 0, .ref m_kind, .ref m_number, .int 0, .ref m_begin, .ref m_table, .ref m_handlers, .ref m_base, .ref m_locals, .ref m_self, .ref m_found, .ref m_place, .ref m_next, .int 0, .ref m_saidKind, .ref m_saidNumber, .int 0, .int 0, .int (-1)]))]) (fun _ _ h9 => h9) (fun r4 _ H locs hp5 hP hD hS => ?_)
    have hP : va_P D cL [(h, .inr (8, [.int 1, .ref m_bytes, .int 0, .ref m_w, .int 0, .int 0, .ref m_saved, .int 0, .ref m_line, .ref m_met, .ref m_waiting, .ref m_nextParent, .int 0, .ref m_kind, .ref m_number, .int 0, .ref m_begin, .ref m_table, .ref m_handlers, .ref m_base, .ref m_locals, .ref m_self, .ref m_found, .ref m_place, .ref m_next, .int 0, .ref m_saidKind, .ref m_saidNumber, .int 0, .int 0, .int (-1)]))] H := hP
    have hD : va_D A [(h, .inr (8, [.int 1, .ref m_bytes, .int 0, .ref m_w, .int 0, .int 0, .ref m_saved, .int 0, .ref m_line, .ref m_met, .ref m_waiting, .ref m_nextParent, .int 0, .ref m_kind, .ref m_number, .int 0, .ref m_begin, .ref m_table, .ref m_handlers, .ref m_base, .ref m_locals, .ref m_self, .ref m_found, .ref m_place, .ref m_next, .int 0, .ref m_saidKind, .ref m_saidNumber, .int 0, .int 0, .int (-1)]))] := hD
    obtain rfl : r4 = 0 := hp5
    exact end_i hx hb hr hlocks hS (u := ()) (r := 0) (at_end (hP.sub (ws' := [(h, .inr (8, [.int 1, .ref m_bytes, .int 0, .ref m_w, .int 0, .int 0, .ref m_saved, .int 0, .ref m_line, .ref m_met, .ref m_waiting, .ref m_nextParent, .int 0, .ref m_kind, .ref m_number, .int 0, .ref m_begin, .ref m_table, .ref m_handlers, .ref m_base, .ref m_locals, .ref m_self, .ref m_found, .ref m_place, .ref m_next, .int 0, .ref m_saidKind, .ref m_saidNumber, .int 0, .int 0, .int (-1)]))]) [0] rfl) (hD.sub (ws' := [(h, .inr (8, [.int 1, .ref m_bytes, .int 0, .ref m_w, .int 0, .int 0, .ref m_saved, .int 0, .ref m_line, .ref m_met, .ref m_waiting, .ref m_nextParent, .int 0, .ref m_kind, .ref m_number, .int 0, .ref m_begin, .ref m_table, .ref m_handlers, .ref m_base, .ref m_locals, .ref m_self, .ref m_found, .ref m_place, .ref m_next, .int 0, .ref m_saidKind, .ref m_saidNumber, .int 0, .int 0, .int (-1)]))]) [0] (by decide) rfl)) (rfl) (Nat.le_of_ble_eq_true rfl) (Nat.le_of_ble_eq_true rfl) d_Model_show_31
  · refine lv_aload_n hx hb d_Model_show_9 rfl (lv_at hl 0 rfl) ?_
    refine va_get (D := D) (ci := 8) (v := .int 0) (C := "TaleMachineModel") (T := F_Model) (N := 31) hx hb hts in_Model hown hK hP 0 rfl rfl 15 (by decide) (hts _ k_34) (fun _ h9 => h9) rfl d_Model_show_10 ?_
    refine lv_if_ne hx hb d_Model_show_13 (tgt := 32) (by decide) (fun hz => absurd (by decide) hz) (fun _ => ?_)
    refine lv_iload_n hx hb d_Model_show_16 rfl (lv_at hl 1 rfl) ?_
    refine lv_iconst (v := 1) hx hb d_Model_show_17 (by decide) ?_
    refine lv_icmp_eq hx hb d_Model_show_18 (tgt := 26) (by decide) (fun hc6 => ?_) (fun hc6 => ?_)
    · refine lv_aload_n hx hb d_Model_show_26 rfl (lv_at hl 0 rfl) ?_
      refine lv_iconst (v := 1) hx hb d_Model_show_27 (by decide) ?_
      refine mv_i (va_runV (C := "TaleMachineModel") (As := [.int 1]) (rest := []) ⟨hx, hb, hml, hown, hts⟩ (c_Model_refuse l D cI cZ cJ _ _ _ _ _ _ _ _ _ _ _ _ _ _ _ _ _ _ _ _ _ 1 _ ) (cwV 1 hts (gInV k_36 k_37 k_38 k_4 k_35) rfl rfl rfl (by decide +kernel) ⟨Nat.le_of_ble_eq_true rfl, Nat.le_of_ble_eq_true rfl⟩) (pre_V (va_recv hK hP (q := ("TaleMachineModel", F_Model, 31)) rfl (q0 := 0) rfl) (hP.sub [0] rfl) (hK.sub [0, 1, 2] rfl) (hD.sub [0] (by decide) rfl) hT) rfl rfl hl.1 rfl (lv_room (Nat.le_of_ble_eq_true rfl)) d_Model_show_28 ⟨Nat.le_of_ble_eq_true rfl, Nat.le_of_ble_eq_true rfl⟩) hP hD hS hA [0] [] rfl rfl (by decide) (by decide) (wr := []) (wn := fun _ => [(h, .inr (8, [.int 1, .ref m_bytes, .int 0, .ref m_w, .int 0, .int 0, .ref m_saved, .int 0, .ref m_line, .ref m_met, .ref m_waiting, .ref m_nextParent, .int 0, .ref m_kind, .ref m_number, .int 0, .ref m_begin, .ref m_table, .ref m_handlers, .ref m_base, .ref m_locals, .ref m_self, .ref m_found, .ref m_place, .ref m_next, .int 0, .ref m_saidKind, .ref m_saidNumber, .int 0, .int 0, .int (-1)]))]) (fun _ _ h9 => h9) (fun r7 _ H locs hp8 hP hD hS => ?_)
      have hP : va_P D cL [(h, .inr (8, [.int 1, .ref m_bytes, .int 0, .ref m_w, .int 0, .int 0, .ref m_saved, .int 0, .ref m_line, .ref m_met, .ref m_waiting, .ref m_nextParent, .int 0, .ref m_kind, .ref m_number, .int 0, .ref m_begin, .ref m_table, .ref m_handlers, .ref m_base, .ref m_locals, .ref m_self, .ref m_found, .ref m_place, .ref m_next, .int 0, .ref m_saidKind, .ref m_saidNumber, .int 0, .int 0, .int (-1)]))] H := hP
      have hD : va_D A [(h, .inr (8, [.int 1, .ref m_bytes, .int 0, .ref m_w, .int 0, .int 0, .ref m_saved, .int 0, .ref m_line, .ref m_met, .ref m_waiting, .ref m_nextParent, .int 0, .ref m_kind, .ref m_number, .int 0, .ref m_begin, .ref m_table, .ref m_handlers, .ref m_base, .ref m_locals, .ref m_self, .ref m_found, .ref m_place, .ref m_next, .int 0, .ref m_saidKind, .ref m_saidNumber, .int 0, .int 0, .int (-1)]))] := hD
      obtain rfl : r7 = 0 := hp8
      exact end_i hx hb hr hlocks hS (u := ()) (r := 0) (at_end (hP.sub (ws' := [(h, .inr (8, [.int 1, .ref m_bytes, .int 0, .ref m_w, .int 0, .int 0, .ref m_saved, .int 0, .ref m_line, .ref m_met, .ref m_waiting, .ref m_nextParent, .int 0, .ref m_kind, .ref m_number, .int 0, .ref m_begin, .ref m_table, .ref m_handlers, .ref m_base, .ref m_locals, .ref m_self, .ref m_found, .ref m_place, .ref m_next, .int 0, .ref m_saidKind, .ref m_saidNumber, .int 0, .int 0, .int (-1)]))]) [0] rfl) (hD.sub (ws' := [(h, .inr (8, [.int 1, .ref m_bytes, .int 0, .ref m_w, .int 0, .int 0, .ref m_saved, .int 0, .ref m_line, .ref m_met, .ref m_waiting, .ref m_nextParent, .int 0, .ref m_kind, .ref m_number, .int 0, .ref m_begin, .ref m_table, .ref m_handlers, .ref m_base, .ref m_locals, .ref m_self, .ref m_found, .ref m_place, .ref m_next, .int 0, .ref m_saidKind, .ref m_saidNumber, .int 0, .int 0, .int (-1)]))]) [0] (by decide) rfl)) (rfl) (Nat.le_of_ble_eq_true rfl) (Nat.le_of_ble_eq_true rfl) d_Model_show_31
    · refine lv_iload_n hx hb d_Model_show_21 rfl (lv_at hl 1 rfl) ?_
      refine lv_iconst (v := 2) hx hb d_Model_show_22 (by decide) ?_
      refine lv_icmp_ne hx hb d_Model_show_23 (tgt := 32) (by decide) (fun hz => absurd (by rcases hw with hh | hh | hh; exact absurd (hp2.2.mpr hh) (by rw [hc3]; decide); exact absurd hh hc6; exact hh) hz) (fun _ => ?_)
      refine lv_aload_n hx hb d_Model_show_26 rfl (lv_at hl 0 rfl) ?_
      refine lv_iconst (v := 1) hx hb d_Model_show_27 (by decide) ?_
      refine mv_i (va_runV (C := "TaleMachineModel") (As := [.int 1]) (rest := []) ⟨hx, hb, hml, hown, hts⟩ (c_Model_refuse l D cI cZ cJ _ _ _ _ _ _ _ _ _ _ _ _ _ _ _ _ _ _ _ _ _ 1 _ ) (cwV 1 hts (gInV k_36 k_37 k_38 k_4 k_35) rfl rfl rfl (by decide +kernel) ⟨Nat.le_of_ble_eq_true rfl, Nat.le_of_ble_eq_true rfl⟩) (pre_V (va_recv hK hP (q := ("TaleMachineModel", F_Model, 31)) rfl (q0 := 0) rfl) (hP.sub [0] rfl) (hK.sub [0, 1, 2] rfl) (hD.sub [0] (by decide) rfl) hT) rfl rfl hl.1 rfl (lv_room (Nat.le_of_ble_eq_true rfl)) d_Model_show_28 ⟨Nat.le_of_ble_eq_true rfl, Nat.le_of_ble_eq_true rfl⟩) hP hD hS hA [0] [] rfl rfl (by decide) (by decide) (wr := []) (wn := fun _ => [(h, .inr (8, [.int 1, .ref m_bytes, .int 0, .ref m_w, .int 0, .int 0, .ref m_saved, .int 0, .ref m_line, .ref m_met, .ref m_waiting, .ref m_nextParent, .int 0, .ref m_kind, .ref m_number, .int 0, .ref m_begin, .ref m_table, .ref m_handlers, .ref m_base, .ref m_locals, .ref m_self, .ref m_found, .ref m_place, .ref m_next, .int 0, .ref m_saidKind, .ref m_saidNumber, .int 0, .int 0, .int (-1)]))]) (fun _ _ h9 => h9) (fun r9 _ H locs hp10 hP hD hS => ?_)
      have hP : va_P D cL [(h, .inr (8, [.int 1, .ref m_bytes, .int 0, .ref m_w, .int 0, .int 0, .ref m_saved, .int 0, .ref m_line, .ref m_met, .ref m_waiting, .ref m_nextParent, .int 0, .ref m_kind, .ref m_number, .int 0, .ref m_begin, .ref m_table, .ref m_handlers, .ref m_base, .ref m_locals, .ref m_self, .ref m_found, .ref m_place, .ref m_next, .int 0, .ref m_saidKind, .ref m_saidNumber, .int 0, .int 0, .int (-1)]))] H := hP
      have hD : va_D A [(h, .inr (8, [.int 1, .ref m_bytes, .int 0, .ref m_w, .int 0, .int 0, .ref m_saved, .int 0, .ref m_line, .ref m_met, .ref m_waiting, .ref m_nextParent, .int 0, .ref m_kind, .ref m_number, .int 0, .ref m_begin, .ref m_table, .ref m_handlers, .ref m_base, .ref m_locals, .ref m_self, .ref m_found, .ref m_place, .ref m_next, .int 0, .ref m_saidKind, .ref m_saidNumber, .int 0, .int 0, .int (-1)]))] := hD
      obtain rfl : r9 = 0 := hp10
      exact end_i hx hb hr hlocks hS (u := ()) (r := 0) (at_end (hP.sub (ws' := [(h, .inr (8, [.int 1, .ref m_bytes, .int 0, .ref m_w, .int 0, .int 0, .ref m_saved, .int 0, .ref m_line, .ref m_met, .ref m_waiting, .ref m_nextParent, .int 0, .ref m_kind, .ref m_number, .int 0, .ref m_begin, .ref m_table, .ref m_handlers, .ref m_base, .ref m_locals, .ref m_self, .ref m_found, .ref m_place, .ref m_next, .int 0, .ref m_saidKind, .ref m_saidNumber, .int 0, .int 0, .int (-1)]))]) [0] rfl) (hD.sub (ws' := [(h, .inr (8, [.int 1, .ref m_bytes, .int 0, .ref m_w, .int 0, .int 0, .ref m_saved, .int 0, .ref m_line, .ref m_met, .ref m_waiting, .ref m_nextParent, .int 0, .ref m_kind, .ref m_number, .int 0, .ref m_begin, .ref m_table, .ref m_handlers, .ref m_base, .ref m_locals, .ref m_self, .ref m_found, .ref m_place, .ref m_next, .int 0, .ref m_saidKind, .ref m_saidNumber, .int 0, .int 0, .int (-1)]))]) [0] (by decide) rfl)) (rfl) (Nat.le_of_ble_eq_true rfl) (Nat.le_of_ble_eq_true rfl) d_Model_show_31
end
section
set_option maxHeartbeats 4000000 in
set_option maxRecDepth 100000 in
theorem c_fill (l : Launch) (D : va_G) (cI cZ cJ : ClassId) (ar nn : Nat) (fv : Nat → Int32) (vv : Int32) (sz : Nat) (hn : nn < 2 ^ 31) : Met l y_Arrays_fill (.code y_Arrays_fill prog_19_method_103_code 4 none :: AW) ({ frames := 0, cells := 0, slots := 0, locals := 0 }) (va_Pc [.ref ar, .int vv] (pre_ D [(ar, .inl (cI, nn, .inl fv))] [(cI, .int), (cZ, .boolean), (cJ, .long)] sz)) (va_Qv (fun (u : Unit) => True) (fun _ t => post_ D (va_A [(ar, .inl (cI, nn, .inl fv))] sz) [(ar, .inl (cI, nn, .inl (fun _ => vv)))] t) (va_A [(ar, .inl (cI, nn, .inl fv))] sz)) 0 0 (va_A [(ar, .inl (cI, nn, .inl fv))] sz) := by
  refine Met.ofW (cc := prog_19_method_103_code) (maxL := 4) (ret := none) (by decide) rfl ?_
  intro p e s m args below meth c s₁ B hml hv
  obtain ⟨rfl, rfl, hP, hK, hD0, hT⟩ := hv
  have hx := B.exec
  have hb := B.bytes
  have hr := B.returns
  have hlocks := B.notSynchronized
  have hD := hD0.self (sz := s.heap.size)
  generalize hAe : va_A [(ar, .inl (cI, nn, .inl fv))] s.heap.size = A at hD ⊢
  have hS : va_S A s.heap s.heap [] := va_S.rf
  have hl := lv_entry ([.ref ar, .int vv]) (n := 4) (Nat.le_of_ble_eq_true rfl)
  rw [lg_entry_eq]
  generalize (lg_sl ([.ref ar, .int vv]) ++ List.replicate (4 - (lg_sl ([.ref ar, .int vv])).length) Slot.unset).toArray = ls at hl ⊢
  have hl : lv_has ls 4 [(0, .ref ar), (1, .int vv)] := hl
  refine lv_iconst (v := 0) hx hb d_Arrays_fill_0 (by decide) ?_
  refine lv_istore_n (lv' := [(2, .int 0), (0, .ref ar), (1, .int vv)]) hx hb d_Arrays_fill_1 rfl hl (by decide) rfl (fun ls hl => ?_)
  refine lv_aload_n hx hb d_Arrays_fill_2 rfl (lv_at hl 1 rfl) ?_
  refine va_alen hx hb hK hP 0 0 rfl rfl (v := nI nn) rfl d_Arrays_fill_3 ?_
  refine lv_istore_n (lv' := [(3, .int (nI nn)), (2, .int 0), (0, .ref ar), (1, .int vv)]) hx hb d_Arrays_fill_4 rfl hl (by decide) rfl (fun ls hl => ?_)
  refine lp_W (I := fun k H locs ls => ∃ g : Nat → Int32, (∀ j, j < k → g j = vv) ∧ va_P D cL [(ar, .inl (cI, nn, .inl g))] H ∧ va_D A [(ar, .inl (cI, nn, .inl g))] ∧ va_S A s.heap H locs ∧ lv_has ls 4 [(3, .int (nI nn)), (2, .int (nI k)), (0, .ref ar), (1, .int vv)]) (a := 0) (b := nn) (Nat.zero_le _) ?_ _ _ _ ⟨fv, fun j h => absurd h (Nat.not_lt_zero j), hP, hD, hS, hl⟩
  intro k H locs ls hka hkb hI ih
  obtain ⟨g, hg, hP, hD, hS, hl⟩ := hI
  refine lv_iload_n hx hb d_Arrays_fill_5 rfl (lv_at hl 1 rfl) ?_
  refine lv_iload_n hx hb d_Arrays_fill_6 rfl (lv_at hl 0 rfl) ?_
  refine lv_icmp_ge hx hb d_Arrays_fill_7 (tgt := 20) (by decide) (fun hc => ?_) (fun hc => ?_)
  · have hkn : nn ≤ k := (nI_leI hn (by omega)).mp hc
    have hP9 := vs_ext (g := fun _ => vv) (fun j hj => hg j (by omega)) hP
    exact end_v hx hb hr hlocks hS (u := ()) (at_end hP9 (hD.set (p := 0) (e := .inl (cI, nn, .inl (fun _ => vv))) rfl)) trivial (Nat.le_of_ble_eq_true rfl) (Nat.le_of_ble_eq_true rfl) d_Arrays_fill_20
  · have hk : k < nn := Nat.lt_of_not_le (fun z => hc (nI_le z (by omega)))
    refine lv_aload_n hx hb d_Arrays_fill_10 rfl (lv_at hl 2 rfl) ?_
    refine lv_iload_n hx hb d_Arrays_fill_11 rfl (lv_at hl 1 rfl) ?_
    refine lv_iload_n hx hb d_Arrays_fill_12 rfl (lv_at hl 3 rfl) ?_
    refine va_iast hx hb hK hP hD hS 0 0 rfl rfl (i := nI k) (x := vv) (vp_in_nI hk hn) d_Arrays_fill_13 (fun H locs hP hD hS => ?_)
    have hP : va_P D cL [(ar, .inl (cI, nn, .inl (upd g (nI k).toNatClampNeg vv)))] H := hP
    have hD : va_D A [(ar, .inl (cI, nn, .inl (upd g (nI k).toNatClampNeg vv)))] := hD
    refine lv_iinc (v := nI (k + 1)) (lv' := [(2, .int (nI (k + 1))), (3, .int (nI nn)), (0, .ref ar), (1, .int vv)]) hx hb d_Arrays_fill_14 hl (k := 1) rfl (nI_1 k) (by decide) rfl (fun ls hl => ?_)
    refine lv_goto hx hb d_Arrays_fill_17 (tgt := 5) (by decide) ?_
    refine ih hk _ _ _ ⟨_, fun j hj => ?_, hP, hD, hS, lv_sub hl [1, 0, 2, 3] rfl⟩
    rw [nI_clamp (by omega)]
    by_cases hjk : j = k
    · rw [hjk]; exact pk_us
    · rw [pk_un hjk]; exact hg j (by omega)
end
section
set_option maxHeartbeats 4000000 in
set_option maxRecDepth 100000 in
theorem c_Script_init (l : Launch) (D : va_G) (cI cZ cJ : ClassId) (h : Nat) (sz : Nat)  : Met l y_Script_init (.code y_Script_init prog_4_method_1_code 1 none :: AW) ({ frames := 1, cells := 1, slots := 300, locals := 14 }) (va_Pc [.ref h] (pre_ D [(h, .inr (2, [.null, .int 0]))] [(cI, .int), (cZ, .boolean), (cJ, .long)] sz)) (va_Qv (fun (u : Nat) => True) (fun u t => match u with | by_ => post_ D (va_A [(h, .inr (2, [.null, .int 0]))] sz) [(h, .inr (2, [.ref by_, .int 0])), (by_, .inl (cI, 300, .inl (fun _ => 0)))] t) (va_A [(h, .inr (2, [.null, .int 0]))] sz)) 1 300 (va_A [(h, .inr (2, [.null, .int 0]))] sz) := by
  refine Met.ofW (cc := prog_4_method_1_code) (maxL := 1) (ret := none) (by decide) rfl ?_
  intro p e s m args below meth c s₁ B hml hv
  obtain ⟨rfl, rfl, hP, hK, hD0, hT⟩ := hv
  have hx := B.exec
  have hb := B.bytes
  have hr := B.returns
  have hts0 := atoms_spec (ws := .code y_Script_init prog_4_method_1_code 1 none :: AW) B.pre
  have hts : ∀ w ∈ AW, w.before [.ref h].toArray s = true := fun w h => hts0 w (List.mem_cons_of_mem _ h)
  have hown : s.vm.findClass "TaleMachine$Script" = some m.cls := findClass_of_methodNamed B.named
  have hlocks := B.notSynchronized
  have hin : meth.name = "<init>" := (name_of_methodNamed B.named B.method).1
  have hD := hD0.self (sz := s.heap.size)
  generalize hAe : va_A [(h, .inr (2, [.null, .int 0]))] s.heap.size = A at hD ⊢
  have hA : ∀ q : Nat, s.heap.size ≤ q → A q := fun q h => by rw [← hAe]; exact Or.inr h
  have hS : va_S A s.heap s.heap [] := va_S.rf
  have hl := lv_entry ([.ref h]) (n := 1) (Nat.le_of_ble_eq_true rfl)
  rw [lg_entry_eq]
  generalize (lg_sl ([.ref h]) ++ List.replicate (1 - (lg_sl ([.ref h])).length) Slot.unset).toArray = ls at hl ⊢
  have hl : lv_has ls 1 [(0, .ref h)] := hl
  refine lv_aload_n hx hb d_Script_init_0 rfl (lv_at hl 0 rfl) ?_
  refine W.objInit hx hb hown (hts _ k_41) (hts _ k_42) (hts _ k_43) rfl (by rw [hml]; exact hl.1) rfl d_Script_init_1 (Nat.le_of_ble_eq_true rfl) (Nat.le_of_ble_eq_true rfl) ?_
  refine W.eq (g2 := F0 m 4 ls []) rfl ?_
  refine lv_aload_n hx hb d_Script_init_4 rfl (lv_at hl 0 rfl) ?_
  refine lv_sipush (v := 300) hx hb d_Script_init_5 (by decide) ?_
  refine nw_i hx hb (hts _ k_44) hK 0 rfl hP hD hS hA (n := 300) (N' := 300) (by decide) (by decide) (by decide) (Nat.le_of_ble_eq_true rfl) (Nat.le_of_ble_eq_true rfl) d_Script_init_8 (fun q1 H hP hD hS => ?_)
  have hP : va_P D cL [(h, .inr (2, [.null, .int 0])), (q1, .inl (cI, 300, .inl (fun _ => 0)))] H := hP
  have hD : va_D A [(h, .inr (2, [.null, .int 0])), (q1, .inl (cI, 300, .inl (fun _ => 0)))] := hD
  refine W.widen (k := 1) (n := 300) (Nat.le_of_ble_eq_true rfl) (Nat.le_of_ble_eq_true rfl) ?_
  refine va_putF (D := D) (ci := 2) (v := .ref q1) (ty := .array .int) (C := "TaleMachine$Script") (T := F_Script) (N := 2) hx hb hts in_Script t_Script t_Script_ok n_Script hown hK hP hD hS 0 rfl rfl 0 (by decide) (hts _ k_45) (fun _ h9 => h9) rfl hin rfl (by decide +kernel) rfl rfl (Nat.le_of_ble_eq_true rfl) d_Script_init_10 (fun H locs hP hD hS => ?_)
  have hP : va_P D cL [(h, .inr (2, [.ref q1, .int 0])), (q1, .inl (cI, 300, .inl (fun _ => 0)))] H := hP
  have hD : va_D A [(h, .inr (2, [.ref q1, .int 0])), (q1, .inl (cI, 300, .inl (fun _ => 0)))] := hD
  exact end_v hx hb hr hlocks hS (u := q1) (at_end (hP.sub (ws' := [(h, .inr (2, [.ref q1, .int 0])), (q1, .inl (cI, 300, .inl (fun _ => 0)))]) [0, 1] rfl) (hD.sub (ws' := [(h, .inr (2, [.ref q1, .int 0])), (q1, .inl (cI, 300, .inl (fun _ => 0)))]) [0, 1] (by decide) rfl)) (trivial) (Nat.le_of_ble_eq_true rfl) (Nat.le_of_ble_eq_true rfl) d_Script_init_13

set_option maxHeartbeats 4000000 in
set_option maxRecDepth 100000 in
theorem c_Frame_init (l : Launch) (D : va_G) (cI cZ cJ : ClassId) (h : Nat) (sz : Nat)  : Met l y_Frame_init (.code y_Frame_init prog_2_method_1_code 1 none :: AW) ({ frames := 1, cells := 0, slots := 0, locals := 14 }) (va_Pc [.ref h] (pre_ D [(h, .inr (0, [.int 0, .int 0, .int 0, .int 0, .int 0, .int 0, .int 0, .int 0]))] [(cI, .int), (cZ, .boolean), (cJ, .long)] sz)) (va_Qv (fun (u : Unit) => True) (fun _ t => post_ D (va_A [(h, .inr (0, [.int 0, .int 0, .int 0, .int 0, .int 0, .int 0, .int 0, .int 0]))] sz) [(h, .inr (0, [.int 0, .int 0, .int 0, .int 0, .int 0, .int 0, .int 0, .int 0]))] t) (va_A [(h, .inr (0, [.int 0, .int 0, .int 0, .int 0, .int 0, .int 0, .int 0, .int 0]))] sz)) 0 0 (va_A [(h, .inr (0, [.int 0, .int 0, .int 0, .int 0, .int 0, .int 0, .int 0, .int 0]))] sz) := by
  refine Met.ofW (cc := prog_2_method_1_code) (maxL := 1) (ret := none) (by decide) rfl ?_
  intro p e s m args below meth c s₁ B hml hv
  obtain ⟨rfl, rfl, hP, hK, hD0, hT⟩ := hv
  have hx := B.exec
  have hb := B.bytes
  have hr := B.returns
  have hts0 := atoms_spec (ws := .code y_Frame_init prog_2_method_1_code 1 none :: AW) B.pre
  have hts : ∀ w ∈ AW, w.before [.ref h].toArray s = true := fun w h => hts0 w (List.mem_cons_of_mem _ h)
  have hown : s.vm.findClass "TaleMachine$Frame" = some m.cls := findClass_of_methodNamed B.named
  have hlocks := B.notSynchronized
  have hin : meth.name = "<init>" := (name_of_methodNamed B.named B.method).1
  have hD := hD0.self (sz := s.heap.size)
  generalize hAe : va_A [(h, .inr (0, [.int 0, .int 0, .int 0, .int 0, .int 0, .int 0, .int 0, .int 0]))] s.heap.size = A at hD ⊢
  have hA : ∀ q : Nat, s.heap.size ≤ q → A q := fun q h => by rw [← hAe]; exact Or.inr h
  have hS : va_S A s.heap s.heap [] := va_S.rf
  have hl := lv_entry ([.ref h]) (n := 1) (Nat.le_of_ble_eq_true rfl)
  rw [lg_entry_eq]
  generalize (lg_sl ([.ref h]) ++ List.replicate (1 - (lg_sl ([.ref h])).length) Slot.unset).toArray = ls at hl ⊢
  have hl : lv_has ls 1 [(0, .ref h)] := hl
  refine lv_aload_n hx hb d_Frame_init_0 rfl (lv_at hl 0 rfl) ?_
  refine W.objInit hx hb hown (hts _ k_46) (hts _ k_42) (hts _ k_43) rfl (by rw [hml]; exact hl.1) rfl d_Frame_init_1 (Nat.le_of_ble_eq_true rfl) (Nat.le_of_ble_eq_true rfl) ?_
  refine W.eq (g2 := F0 m 4 ls []) rfl ?_
  exact end_v hx hb hr hlocks hS (u := ()) (at_end (hP.sub (ws' := [(h, .inr (0, [.int 0, .int 0, .int 0, .int 0, .int 0, .int 0, .int 0, .int 0]))]) [0] rfl) (hD.sub (ws' := [(h, .inr (0, [.int 0, .int 0, .int 0, .int 0, .int 0, .int 0, .int 0, .int 0]))]) [0] (by decide) rfl)) (trivial) (Nat.le_of_ble_eq_true rfl) (Nat.le_of_ble_eq_true rfl) d_Frame_init_4

set_option maxHeartbeats 4000000 in
set_option maxRecDepth 100000 in
theorem c_Values_init_40 (l : Launch) (D : va_G) (cI cZ cJ : ClassId) (h : Nat) (sz : Nat)  : Met l y_Values_init (.code y_Values_init prog_7_method_1_code 2 none :: AW) ({ frames := 1, cells := 2, slots := 80, locals := 14 }) (va_Pc [.ref h, .int 40] (pre_ D [(h, .inr (5, [.null, .null, .int 0]))] [(cI, .int), (cZ, .boolean), (cJ, .long)] sz)) (va_Qv (fun (u : Nat × Nat) => True) (fun u t => match u with | (vk, vi) => post_ D (va_A [(h, .inr (5, [.null, .null, .int 0]))] sz) [(h, .inr (5, [.ref vk, .ref vi, .int 0]))] t) (va_A [(h, .inr (5, [.null, .null, .int 0]))] sz)) 2 80 (va_A [(h, .inr (5, [.null, .null, .int 0]))] sz) := by
  refine Met.ofW (cc := prog_7_method_1_code) (maxL := 2) (ret := none) (by decide) rfl ?_
  intro p e s m args below meth c s₁ B hml hv
  obtain ⟨rfl, rfl, hP, hK, hD0, hT⟩ := hv
  have hx := B.exec
  have hb := B.bytes
  have hr := B.returns
  have hts0 := atoms_spec (ws := .code y_Values_init prog_7_method_1_code 2 none :: AW) B.pre
  have hts : ∀ w ∈ AW, w.before [.ref h, .int 40].toArray s = true := fun w h => hts0 w (List.mem_cons_of_mem _ h)
  have hown : s.vm.findClass "TaleMachine$Values" = some m.cls := findClass_of_methodNamed B.named
  have hlocks := B.notSynchronized
  have hin : meth.name = "<init>" := (name_of_methodNamed B.named B.method).1
  have hD := hD0.self (sz := s.heap.size)
  generalize hAe : va_A [(h, .inr (5, [.null, .null, .int 0]))] s.heap.size = A at hD ⊢
  have hA : ∀ q : Nat, s.heap.size ≤ q → A q := fun q h => by rw [← hAe]; exact Or.inr h
  have hS : va_S A s.heap s.heap [] := va_S.rf
  have hl := lv_entry ([.ref h, .int 40]) (n := 2) (Nat.le_of_ble_eq_true rfl)
  rw [lg_entry_eq]
  generalize (lg_sl ([.ref h, .int 40]) ++ List.replicate (2 - (lg_sl ([.ref h, .int 40])).length) Slot.unset).toArray = ls at hl ⊢
  have hl : lv_has ls 2 [(0, .ref h), (1, .int 40)] := hl
  refine lv_aload_n hx hb d_Values_init_0 rfl (lv_at hl 0 rfl) ?_
  refine W.objInit hx hb hown (hts _ k_47) (hts _ k_42) (hts _ k_43) rfl (by rw [hml]; exact hl.1) rfl d_Values_init_1 (Nat.le_of_ble_eq_true rfl) (Nat.le_of_ble_eq_true rfl) ?_
  refine W.eq (g2 := F0 m 4 ls []) rfl ?_
  refine lv_aload_n hx hb d_Values_init_4 rfl (lv_at hl 0 rfl) ?_
  refine lv_iload_n hx hb d_Values_init_5 rfl (lv_at hl 1 rfl) ?_
  refine nw_i hx hb (hts _ k_44) hK 0 rfl hP hD hS hA (n := 40) (N' := 40) (by decide) (by decide) (by decide) (Nat.le_of_ble_eq_true rfl) (Nat.le_of_ble_eq_true rfl) d_Values_init_6 (fun q1 H hP hD hS => ?_)
  have hP : va_P D cL [(h, .inr (5, [.null, .null, .int 0])), (q1, .inl (cI, 40, .inl (fun _ => 0)))] H := hP
  have hD : va_D A [(h, .inr (5, [.null, .null, .int 0])), (q1, .inl (cI, 40, .inl (fun _ => 0)))] := hD
  refine W.widen (k := 1) (n := 40) (Nat.le_of_ble_eq_true rfl) (Nat.le_of_ble_eq_true rfl) ?_
  refine va_putF (D := D) (ci := 5) (v := .ref q1) (ty := .array .int) (C := "TaleMachine$Values") (T := F_Values) (N := 3) hx hb hts in_Values t_Values t_Values_ok n_Values hown hK hP hD hS 0 rfl rfl 0 (by decide) (hts _ k_48) (fun _ h9 => h9) rfl hin rfl (by decide +kernel) rfl rfl (Nat.le_of_ble_eq_true rfl) d_Values_init_8 (fun H locs hP hD hS => ?_)
  have hP : va_P D cL [(h, .inr (5, [.ref q1, .null, .int 0])), (q1, .inl (cI, 40, .inl (fun _ => 0)))] H := hP
  have hD : va_D A [(h, .inr (5, [.ref q1, .null, .int 0])), (q1, .inl (cI, 40, .inl (fun _ => 0)))] := hD
  refine lv_aload_n hx hb d_Values_init_11 rfl (lv_at hl 0 rfl) ?_
  refine lv_iload_n hx hb d_Values_init_12 rfl (lv_at hl 1 rfl) ?_
  refine nw_i hx hb (hts _ k_44) hK 0 rfl hP hD hS hA (n := 40) (N' := 40) (by decide) (by decide) (by decide) (Nat.le_of_ble_eq_true rfl) (Nat.le_of_ble_eq_true rfl) d_Values_init_13 (fun q2 H hP hD hS => ?_)
  have hP : va_P D cL [(h, .inr (5, [.ref q1, .null, .int 0])), (q1, .inl (cI, 40, .inl (fun _ => 0))), (q2, .inl (cI, 40, .inl (fun _ => 0)))] H := hP
  have hD : va_D A [(h, .inr (5, [.ref q1, .null, .int 0])), (q1, .inl (cI, 40, .inl (fun _ => 0))), (q2, .inl (cI, 40, .inl (fun _ => 0)))] := hD
  refine W.widen (k := 2) (n := 80) (Nat.le_of_ble_eq_true rfl) (Nat.le_of_ble_eq_true rfl) ?_
  refine va_putF (D := D) (ci := 5) (v := .ref q2) (ty := .array .int) (C := "TaleMachine$Values") (T := F_Values) (N := 3) hx hb hts in_Values t_Values t_Values_ok n_Values hown hK hP hD hS 0 rfl rfl 1 (by decide) (hts _ k_49) (fun _ h9 => h9) rfl hin rfl (by decide +kernel) rfl rfl (Nat.le_of_ble_eq_true rfl) d_Values_init_15 (fun H locs hP hD hS => ?_)
  have hP : va_P D cL [(h, .inr (5, [.ref q1, .ref q2, .int 0])), (q1, .inl (cI, 40, .inl (fun _ => 0))), (q2, .inl (cI, 40, .inl (fun _ => 0)))] H := hP
  have hD : va_D A [(h, .inr (5, [.ref q1, .ref q2, .int 0])), (q1, .inl (cI, 40, .inl (fun _ => 0))), (q2, .inl (cI, 40, .inl (fun _ => 0)))] := hD
  exact end_v hx hb hr hlocks hS (u := (q1, q2)) (at_end (hP.sub (ws' := [(h, .inr (5, [.ref q1, .ref q2, .int 0]))]) [0] rfl) (hD.sub (ws' := [(h, .inr (5, [.ref q1, .ref q2, .int 0]))]) [0] (by decide) rfl)) (trivial) (Nat.le_of_ble_eq_true rfl) (Nat.le_of_ble_eq_true rfl) d_Values_init_18

set_option maxHeartbeats 4000000 in
set_option maxRecDepth 100000 in
theorem c_Values_init_50 (l : Launch) (D : va_G) (cI cZ cJ : ClassId) (h : Nat) (sz : Nat)  : Met l y_Values_init (.code y_Values_init prog_7_method_1_code 2 none :: AW) ({ frames := 1, cells := 2, slots := 100, locals := 14 }) (va_Pc [.ref h, .int 50] (pre_ D [(h, .inr (5, [.null, .null, .int 0]))] [(cI, .int), (cZ, .boolean), (cJ, .long)] sz)) (va_Qv (fun (u : Nat × Nat) => True) (fun u t => match u with | (vk, vi) => post_ D (va_A [(h, .inr (5, [.null, .null, .int 0]))] sz) [(h, .inr (5, [.ref vk, .ref vi, .int 0]))] t) (va_A [(h, .inr (5, [.null, .null, .int 0]))] sz)) 2 100 (va_A [(h, .inr (5, [.null, .null, .int 0]))] sz) := by
  refine Met.ofW (cc := prog_7_method_1_code) (maxL := 2) (ret := none) (by decide) rfl ?_
  intro p e s m args below meth c s₁ B hml hv
  obtain ⟨rfl, rfl, hP, hK, hD0, hT⟩ := hv
  have hx := B.exec
  have hb := B.bytes
  have hr := B.returns
  have hts0 := atoms_spec (ws := .code y_Values_init prog_7_method_1_code 2 none :: AW) B.pre
  have hts : ∀ w ∈ AW, w.before [.ref h, .int 50].toArray s = true := fun w h => hts0 w (List.mem_cons_of_mem _ h)
  have hown : s.vm.findClass "TaleMachine$Values" = some m.cls := findClass_of_methodNamed B.named
  have hlocks := B.notSynchronized
  have hin : meth.name = "<init>" := (name_of_methodNamed B.named B.method).1
  have hD := hD0.self (sz := s.heap.size)
  generalize hAe : va_A [(h, .inr (5, [.null, .null, .int 0]))] s.heap.size = A at hD ⊢
  have hA : ∀ q : Nat, s.heap.size ≤ q → A q := fun q h => by rw [← hAe]; exact Or.inr h
  have hS : va_S A s.heap s.heap [] := va_S.rf
  have hl := lv_entry ([.ref h, .int 50]) (n := 2) (Nat.le_of_ble_eq_true rfl)
  rw [lg_entry_eq]
  generalize (lg_sl ([.ref h, .int 50]) ++ List.replicate (2 - (lg_sl ([.ref h, .int 50])).length) Slot.unset).toArray = ls at hl ⊢
  have hl : lv_has ls 2 [(0, .ref h), (1, .int 50)] := hl
  refine lv_aload_n hx hb d_Values_init_0 rfl (lv_at hl 0 rfl) ?_
  refine W.objInit hx hb hown (hts _ k_47) (hts _ k_42) (hts _ k_43) rfl (by rw [hml]; exact hl.1) rfl d_Values_init_1 (Nat.le_of_ble_eq_true rfl) (Nat.le_of_ble_eq_true rfl) ?_
  refine W.eq (g2 := F0 m 4 ls []) rfl ?_
  refine lv_aload_n hx hb d_Values_init_4 rfl (lv_at hl 0 rfl) ?_
  refine lv_iload_n hx hb d_Values_init_5 rfl (lv_at hl 1 rfl) ?_
  refine nw_i hx hb (hts _ k_44) hK 0 rfl hP hD hS hA (n := 50) (N' := 50) (by decide) (by decide) (by decide) (Nat.le_of_ble_eq_true rfl) (Nat.le_of_ble_eq_true rfl) d_Values_init_6 (fun q1 H hP hD hS => ?_)
  have hP : va_P D cL [(h, .inr (5, [.null, .null, .int 0])), (q1, .inl (cI, 50, .inl (fun _ => 0)))] H := hP
  have hD : va_D A [(h, .inr (5, [.null, .null, .int 0])), (q1, .inl (cI, 50, .inl (fun _ => 0)))] := hD
  refine W.widen (k := 1) (n := 50) (Nat.le_of_ble_eq_true rfl) (Nat.le_of_ble_eq_true rfl) ?_
  refine va_putF (D := D) (ci := 5) (v := .ref q1) (ty := .array .int) (C := "TaleMachine$Values") (T := F_Values) (N := 3) hx hb hts in_Values t_Values t_Values_ok n_Values hown hK hP hD hS 0 rfl rfl 0 (by decide) (hts _ k_48) (fun _ h9 => h9) rfl hin rfl (by decide +kernel) rfl rfl (Nat.le_of_ble_eq_true rfl) d_Values_init_8 (fun H locs hP hD hS => ?_)
  have hP : va_P D cL [(h, .inr (5, [.ref q1, .null, .int 0])), (q1, .inl (cI, 50, .inl (fun _ => 0)))] H := hP
  have hD : va_D A [(h, .inr (5, [.ref q1, .null, .int 0])), (q1, .inl (cI, 50, .inl (fun _ => 0)))] := hD
  refine lv_aload_n hx hb d_Values_init_11 rfl (lv_at hl 0 rfl) ?_
  refine lv_iload_n hx hb d_Values_init_12 rfl (lv_at hl 1 rfl) ?_
  refine nw_i hx hb (hts _ k_44) hK 0 rfl hP hD hS hA (n := 50) (N' := 50) (by decide) (by decide) (by decide) (Nat.le_of_ble_eq_true rfl) (Nat.le_of_ble_eq_true rfl) d_Values_init_13 (fun q2 H hP hD hS => ?_)
  have hP : va_P D cL [(h, .inr (5, [.ref q1, .null, .int 0])), (q1, .inl (cI, 50, .inl (fun _ => 0))), (q2, .inl (cI, 50, .inl (fun _ => 0)))] H := hP
  have hD : va_D A [(h, .inr (5, [.ref q1, .null, .int 0])), (q1, .inl (cI, 50, .inl (fun _ => 0))), (q2, .inl (cI, 50, .inl (fun _ => 0)))] := hD
  refine W.widen (k := 2) (n := 100) (Nat.le_of_ble_eq_true rfl) (Nat.le_of_ble_eq_true rfl) ?_
  refine va_putF (D := D) (ci := 5) (v := .ref q2) (ty := .array .int) (C := "TaleMachine$Values") (T := F_Values) (N := 3) hx hb hts in_Values t_Values t_Values_ok n_Values hown hK hP hD hS 0 rfl rfl 1 (by decide) (hts _ k_49) (fun _ h9 => h9) rfl hin rfl (by decide +kernel) rfl rfl (Nat.le_of_ble_eq_true rfl) d_Values_init_15 (fun H locs hP hD hS => ?_)
  have hP : va_P D cL [(h, .inr (5, [.ref q1, .ref q2, .int 0])), (q1, .inl (cI, 50, .inl (fun _ => 0))), (q2, .inl (cI, 50, .inl (fun _ => 0)))] H := hP
  have hD : va_D A [(h, .inr (5, [.ref q1, .ref q2, .int 0])), (q1, .inl (cI, 50, .inl (fun _ => 0))), (q2, .inl (cI, 50, .inl (fun _ => 0)))] := hD
  exact end_v hx hb hr hlocks hS (u := (q1, q2)) (at_end (hP.sub (ws' := [(h, .inr (5, [.ref q1, .ref q2, .int 0]))]) [0] rfl) (hD.sub (ws' := [(h, .inr (5, [.ref q1, .ref q2, .int 0]))]) [0] (by decide) rfl)) (trivial) (Nat.le_of_ble_eq_true rfl) (Nat.le_of_ble_eq_true rfl) d_Values_init_18

set_option maxHeartbeats 4000000 in
set_option maxRecDepth 100000 in
theorem c_Values_init_1 (l : Launch) (D : va_G) (cI cZ cJ : ClassId) (h : Nat) (sz : Nat)  : Met l y_Values_init (.code y_Values_init prog_7_method_1_code 2 none :: AW) ({ frames := 1, cells := 2, slots := 2, locals := 14 }) (va_Pc [.ref h, .int 1] (pre_ D [(h, .inr (5, [.null, .null, .int 0]))] [(cI, .int), (cZ, .boolean), (cJ, .long)] sz)) (va_Qv (fun (u : Nat × Nat) => True) (fun u t => match u with | (vk, vi) => post_ D (va_A [(h, .inr (5, [.null, .null, .int 0]))] sz) [(h, .inr (5, [.ref vk, .ref vi, .int 0]))] t) (va_A [(h, .inr (5, [.null, .null, .int 0]))] sz)) 2 2 (va_A [(h, .inr (5, [.null, .null, .int 0]))] sz) := by
  refine Met.ofW (cc := prog_7_method_1_code) (maxL := 2) (ret := none) (by decide) rfl ?_
  intro p e s m args below meth c s₁ B hml hv
  obtain ⟨rfl, rfl, hP, hK, hD0, hT⟩ := hv
  have hx := B.exec
  have hb := B.bytes
  have hr := B.returns
  have hts0 := atoms_spec (ws := .code y_Values_init prog_7_method_1_code 2 none :: AW) B.pre
  have hts : ∀ w ∈ AW, w.before [.ref h, .int 1].toArray s = true := fun w h => hts0 w (List.mem_cons_of_mem _ h)
  have hown : s.vm.findClass "TaleMachine$Values" = some m.cls := findClass_of_methodNamed B.named
  have hlocks := B.notSynchronized
  have hin : meth.name = "<init>" := (name_of_methodNamed B.named B.method).1
  have hD := hD0.self (sz := s.heap.size)
  generalize hAe : va_A [(h, .inr (5, [.null, .null, .int 0]))] s.heap.size = A at hD ⊢
  have hA : ∀ q : Nat, s.heap.size ≤ q → A q := fun q h => by rw [← hAe]; exact Or.inr h
  have hS : va_S A s.heap s.heap [] := va_S.rf
  have hl := lv_entry ([.ref h, .int 1]) (n := 2) (Nat.le_of_ble_eq_true rfl)
  rw [lg_entry_eq]
  generalize (lg_sl ([.ref h, .int 1]) ++ List.replicate (2 - (lg_sl ([.ref h, .int 1])).length) Slot.unset).toArray = ls at hl ⊢
  have hl : lv_has ls 2 [(0, .ref h), (1, .int 1)] := hl
  refine lv_aload_n hx hb d_Values_init_0 rfl (lv_at hl 0 rfl) ?_
  refine W.objInit hx hb hown (hts _ k_47) (hts _ k_42) (hts _ k_43) rfl (by rw [hml]; exact hl.1) rfl d_Values_init_1 (Nat.le_of_ble_eq_true rfl) (Nat.le_of_ble_eq_true rfl) ?_
  refine W.eq (g2 := F0 m 4 ls []) rfl ?_
  refine lv_aload_n hx hb d_Values_init_4 rfl (lv_at hl 0 rfl) ?_
  refine lv_iload_n hx hb d_Values_init_5 rfl (lv_at hl 1 rfl) ?_
  refine nw_i hx hb (hts _ k_44) hK 0 rfl hP hD hS hA (n := 1) (N' := 1) (by decide) (by decide) (by decide) (Nat.le_of_ble_eq_true rfl) (Nat.le_of_ble_eq_true rfl) d_Values_init_6 (fun q1 H hP hD hS => ?_)
  have hP : va_P D cL [(h, .inr (5, [.null, .null, .int 0])), (q1, .inl (cI, 1, .inl (fun _ => 0)))] H := hP
  have hD : va_D A [(h, .inr (5, [.null, .null, .int 0])), (q1, .inl (cI, 1, .inl (fun _ => 0)))] := hD
  refine W.widen (k := 1) (n := 1) (Nat.le_of_ble_eq_true rfl) (Nat.le_of_ble_eq_true rfl) ?_
  refine va_putF (D := D) (ci := 5) (v := .ref q1) (ty := .array .int) (C := "TaleMachine$Values") (T := F_Values) (N := 3) hx hb hts in_Values t_Values t_Values_ok n_Values hown hK hP hD hS 0 rfl rfl 0 (by decide) (hts _ k_48) (fun _ h9 => h9) rfl hin rfl (by decide +kernel) rfl rfl (Nat.le_of_ble_eq_true rfl) d_Values_init_8 (fun H locs hP hD hS => ?_)
  have hP : va_P D cL [(h, .inr (5, [.ref q1, .null, .int 0])), (q1, .inl (cI, 1, .inl (fun _ => 0)))] H := hP
  have hD : va_D A [(h, .inr (5, [.ref q1, .null, .int 0])), (q1, .inl (cI, 1, .inl (fun _ => 0)))] := hD
  refine lv_aload_n hx hb d_Values_init_11 rfl (lv_at hl 0 rfl) ?_
  refine lv_iload_n hx hb d_Values_init_12 rfl (lv_at hl 1 rfl) ?_
  refine nw_i hx hb (hts _ k_44) hK 0 rfl hP hD hS hA (n := 1) (N' := 1) (by decide) (by decide) (by decide) (Nat.le_of_ble_eq_true rfl) (Nat.le_of_ble_eq_true rfl) d_Values_init_13 (fun q2 H hP hD hS => ?_)
  have hP : va_P D cL [(h, .inr (5, [.ref q1, .null, .int 0])), (q1, .inl (cI, 1, .inl (fun _ => 0))), (q2, .inl (cI, 1, .inl (fun _ => 0)))] H := hP
  have hD : va_D A [(h, .inr (5, [.ref q1, .null, .int 0])), (q1, .inl (cI, 1, .inl (fun _ => 0))), (q2, .inl (cI, 1, .inl (fun _ => 0)))] := hD
  refine W.widen (k := 2) (n := 2) (Nat.le_of_ble_eq_true rfl) (Nat.le_of_ble_eq_true rfl) ?_
  refine va_putF (D := D) (ci := 5) (v := .ref q2) (ty := .array .int) (C := "TaleMachine$Values") (T := F_Values) (N := 3) hx hb hts in_Values t_Values t_Values_ok n_Values hown hK hP hD hS 0 rfl rfl 1 (by decide) (hts _ k_49) (fun _ h9 => h9) rfl hin rfl (by decide +kernel) rfl rfl (Nat.le_of_ble_eq_true rfl) d_Values_init_15 (fun H locs hP hD hS => ?_)
  have hP : va_P D cL [(h, .inr (5, [.ref q1, .ref q2, .int 0])), (q1, .inl (cI, 1, .inl (fun _ => 0))), (q2, .inl (cI, 1, .inl (fun _ => 0)))] H := hP
  have hD : va_D A [(h, .inr (5, [.ref q1, .ref q2, .int 0])), (q1, .inl (cI, 1, .inl (fun _ => 0))), (q2, .inl (cI, 1, .inl (fun _ => 0)))] := hD
  exact end_v hx hb hr hlocks hS (u := (q1, q2)) (at_end (hP.sub (ws' := [(h, .inr (5, [.ref q1, .ref q2, .int 0]))]) [0] rfl) (hD.sub (ws' := [(h, .inr (5, [.ref q1, .ref q2, .int 0]))]) [0] (by decide) rfl)) (trivial) (Nat.le_of_ble_eq_true rfl) (Nat.le_of_ble_eq_true rfl) d_Values_init_18

set_option maxHeartbeats 4000000 in
set_option maxRecDepth 100000 in
theorem c_State_init (l : Launch) (D : va_G) (cI cZ cJ : ClassId) (h : Nat) (sz : Nat)  : Met l y_State_init (.code y_State_init prog_5_method_1_code 1 none :: AW) ({ frames := 1, cells := 3, slots := 528, locals := 23 }) (va_Pc [.ref h] (pre_ D [(h, .inr (3, [.null, .null, .null]))] [(cI, .int), (cZ, .boolean), (cJ, .long)] sz)) (va_Qv (fun (u : Nat × Nat × Nat) => True) (fun u t => match u with | (kd, it, pa) => post_ D (va_A [(h, .inr (3, [.null, .null, .null]))] sz) [(h, .inr (3, [.ref kd, .ref it, .ref pa])), (pa, .inl (cI, 16, .inl (fun _ => -1)))] t) (va_A [(h, .inr (3, [.null, .null, .null]))] sz)) 3 528 (va_A [(h, .inr (3, [.null, .null, .null]))] sz) := by
  refine Met.ofW (cc := prog_5_method_1_code) (maxL := 1) (ret := none) (by decide) rfl ?_
  intro p e s m args below meth c s₁ B hml hv
  obtain ⟨rfl, rfl, hP, hK, hD0, hT⟩ := hv
  have hx := B.exec
  have hb := B.bytes
  have hr := B.returns
  have hts0 := atoms_spec (ws := .code y_State_init prog_5_method_1_code 1 none :: AW) B.pre
  have hts : ∀ w ∈ AW, w.before [.ref h].toArray s = true := fun w h => hts0 w (List.mem_cons_of_mem _ h)
  have hown : s.vm.findClass "TaleMachine$State" = some m.cls := findClass_of_methodNamed B.named
  have hlocks := B.notSynchronized
  have hin : meth.name = "<init>" := (name_of_methodNamed B.named B.method).1
  have hD := hD0.self (sz := s.heap.size)
  generalize hAe : va_A [(h, .inr (3, [.null, .null, .null]))] s.heap.size = A at hD ⊢
  have hA : ∀ q : Nat, s.heap.size ≤ q → A q := fun q h => by rw [← hAe]; exact Or.inr h
  have hS : va_S A s.heap s.heap [] := va_S.rf
  have hl := lv_entry ([.ref h]) (n := 1) (Nat.le_of_ble_eq_true rfl)
  rw [lg_entry_eq]
  generalize (lg_sl ([.ref h]) ++ List.replicate (1 - (lg_sl ([.ref h])).length) Slot.unset).toArray = ls at hl ⊢
  have hl : lv_has ls 1 [(0, .ref h)] := hl
  refine lv_aload_n hx hb d_State_init_0 rfl (lv_at hl 0 rfl) ?_
  refine W.objInit hx hb hown (hts _ k_50) (hts _ k_42) (hts _ k_43) rfl (by rw [hml]; exact hl.1) rfl d_State_init_1 (Nat.le_of_ble_eq_true rfl) (Nat.le_of_ble_eq_true rfl) ?_
  refine W.eq (g2 := F0 m 4 ls []) rfl ?_
  refine lv_aload_n hx hb d_State_init_4 rfl (lv_at hl 0 rfl) ?_
  refine lv_sipush (v := 256) hx hb d_State_init_5 (by decide) ?_
  refine nw_i hx hb (hts _ k_44) hK 0 rfl hP hD hS hA (n := 256) (N' := 256) (by decide) (by decide) (by decide) (Nat.le_of_ble_eq_true rfl) (Nat.le_of_ble_eq_true rfl) d_State_init_8 (fun q1 H hP hD hS => ?_)
  have hP : va_P D cL [(h, .inr (3, [.null, .null, .null])), (q1, .inl (cI, 256, .inl (fun _ => 0)))] H := hP
  have hD : va_D A [(h, .inr (3, [.null, .null, .null])), (q1, .inl (cI, 256, .inl (fun _ => 0)))] := hD
  refine W.widen (k := 1) (n := 256) (Nat.le_of_ble_eq_true rfl) (Nat.le_of_ble_eq_true rfl) ?_
  refine va_putF (D := D) (ci := 3) (v := .ref q1) (ty := .array .int) (C := "TaleMachine$State") (T := F_State) (N := 3) hx hb hts in_State t_State t_State_ok n_State hown hK hP hD hS 0 rfl rfl 0 (by decide) (hts _ k_51) (fun _ h9 => h9) rfl hin rfl (by decide +kernel) rfl rfl (Nat.le_of_ble_eq_true rfl) d_State_init_10 (fun H locs hP hD hS => ?_)
  have hP : va_P D cL [(h, .inr (3, [.ref q1, .null, .null])), (q1, .inl (cI, 256, .inl (fun _ => 0)))] H := hP
  have hD : va_D A [(h, .inr (3, [.ref q1, .null, .null])), (q1, .inl (cI, 256, .inl (fun _ => 0)))] := hD
  refine lv_aload_n hx hb d_State_init_13 rfl (lv_at hl 0 rfl) ?_
  refine lv_sipush (v := 256) hx hb d_State_init_14 (by decide) ?_
  refine nw_i hx hb (hts _ k_44) hK 0 rfl hP hD hS hA (n := 256) (N' := 256) (by decide) (by decide) (by decide) (Nat.le_of_ble_eq_true rfl) (Nat.le_of_ble_eq_true rfl) d_State_init_17 (fun q2 H hP hD hS => ?_)
  have hP : va_P D cL [(h, .inr (3, [.ref q1, .null, .null])), (q1, .inl (cI, 256, .inl (fun _ => 0))), (q2, .inl (cI, 256, .inl (fun _ => 0)))] H := hP
  have hD : va_D A [(h, .inr (3, [.ref q1, .null, .null])), (q1, .inl (cI, 256, .inl (fun _ => 0))), (q2, .inl (cI, 256, .inl (fun _ => 0)))] := hD
  refine W.widen (k := 2) (n := 512) (Nat.le_of_ble_eq_true rfl) (Nat.le_of_ble_eq_true rfl) ?_
  refine va_putF (D := D) (ci := 3) (v := .ref q2) (ty := .array .int) (C := "TaleMachine$State") (T := F_State) (N := 3) hx hb hts in_State t_State t_State_ok n_State hown hK hP hD hS 0 rfl rfl 1 (by decide) (hts _ k_52) (fun _ h9 => h9) rfl hin rfl (by decide +kernel) rfl rfl (Nat.le_of_ble_eq_true rfl) d_State_init_19 (fun H locs hP hD hS => ?_)
  have hP : va_P D cL [(h, .inr (3, [.ref q1, .ref q2, .null])), (q1, .inl (cI, 256, .inl (fun _ => 0))), (q2, .inl (cI, 256, .inl (fun _ => 0)))] H := hP
  have hD : va_D A [(h, .inr (3, [.ref q1, .ref q2, .null])), (q1, .inl (cI, 256, .inl (fun _ => 0))), (q2, .inl (cI, 256, .inl (fun _ => 0)))] := hD
  refine lv_aload_n hx hb d_State_init_22 rfl (lv_at hl 0 rfl) ?_
  refine lv_bipush (v := 16) hx hb d_State_init_23 (by decide) ?_
  refine nw_i hx hb (hts _ k_44) hK 0 rfl hP hD hS hA (n := 16) (N' := 16) (by decide) (by decide) (by decide) (Nat.le_of_ble_eq_true rfl) (Nat.le_of_ble_eq_true rfl) d_State_init_25 (fun q3 H hP hD hS => ?_)
  have hP : va_P D cL [(h, .inr (3, [.ref q1, .ref q2, .null])), (q1, .inl (cI, 256, .inl (fun _ => 0))), (q2, .inl (cI, 256, .inl (fun _ => 0))), (q3, .inl (cI, 16, .inl (fun _ => 0)))] H := hP
  have hD : va_D A [(h, .inr (3, [.ref q1, .ref q2, .null])), (q1, .inl (cI, 256, .inl (fun _ => 0))), (q2, .inl (cI, 256, .inl (fun _ => 0))), (q3, .inl (cI, 16, .inl (fun _ => 0)))] := hD
  refine W.widen (k := 3) (n := 528) (Nat.le_of_ble_eq_true rfl) (Nat.le_of_ble_eq_true rfl) ?_
  refine va_putF (D := D) (ci := 3) (v := .ref q3) (ty := .array .int) (C := "TaleMachine$State") (T := F_State) (N := 3) hx hb hts in_State t_State t_State_ok n_State hown hK hP hD hS 0 rfl rfl 2 (by decide) (hts _ k_53) (fun _ h9 => h9) rfl hin rfl (by decide +kernel) rfl rfl (Nat.le_of_ble_eq_true rfl) d_State_init_27 (fun H locs hP hD hS => ?_)
  have hP : va_P D cL [(h, .inr (3, [.ref q1, .ref q2, .ref q3])), (q1, .inl (cI, 256, .inl (fun _ => 0))), (q2, .inl (cI, 256, .inl (fun _ => 0))), (q3, .inl (cI, 16, .inl (fun _ => 0)))] H := hP
  have hD : va_D A [(h, .inr (3, [.ref q1, .ref q2, .ref q3])), (q1, .inl (cI, 256, .inl (fun _ => 0))), (q2, .inl (cI, 256, .inl (fun _ => 0))), (q3, .inl (cI, 16, .inl (fun _ => 0)))] := hD
  refine lv_aload_n hx hb d_State_init_30 rfl (lv_at hl 0 rfl) ?_
  refine va_get (D := D) (ci := 3) (v := .ref q1) (C := "TaleMachine$State") (T := F_State) (N := 3) hx hb hts in_State hown hK hP 0 rfl rfl 0 (by decide) (hts _ k_51) (fun _ h9 => h9) rfl d_State_init_31 ?_
  refine lv_iconst (v := (-1)) hx hb d_State_init_34 (by decide) ?_
  refine mv_v (va_runS (As := [.ref q1, .int (-1)]) (rest := []) ⟨hx, hb, hml, hown, hts⟩ (c_fill l D cI cZ cJ q1 256 (fun _ => 0) (-1) _ (by first | assumption | decide | omega)) (va_cwS 2 hts (gInS k_55 k_56 k_57 k_54) rfl rfl rfl (by decide +kernel) ⟨Nat.le_of_ble_eq_true rfl, Nat.le_of_ble_eq_true rfl⟩) (pre_S (hP.sub [1] rfl) (hK.sub [0, 1, 2] rfl) (hD.sub [1] (by decide) rfl) hT) rfl rfl hl.1 rfl (lv_room (Nat.le_of_ble_eq_true rfl)) d_State_init_35 ⟨Nat.le_of_ble_eq_true rfl, Nat.le_of_ble_eq_true rfl⟩) hP hD hS hA [1] [0, 2, 3] rfl rfl (by decide) (by decide) (wr := [(h, .inr (3, [.ref q1, .ref q2, .ref q3])), (q2, .inl (cI, 256, .inl (fun _ => 0))), (q3, .inl (cI, 16, .inl (fun _ => 0)))]) (wn := fun _ => [(q1, .inl (cI, 256, .inl (fun _ => -1)))]) (fun _ _ h9 => h9) (fun _ H locs hp5 hP hD hS => ?_)
  have hP : va_P D cL [(h, .inr (3, [.ref q1, .ref q2, .ref q3])), (q2, .inl (cI, 256, .inl (fun _ => 0))), (q3, .inl (cI, 16, .inl (fun _ => 0))), (q1, .inl (cI, 256, .inl (fun _ => -1)))] H := hP
  have hD : va_D A [(h, .inr (3, [.ref q1, .ref q2, .ref q3])), (q2, .inl (cI, 256, .inl (fun _ => 0))), (q3, .inl (cI, 16, .inl (fun _ => 0))), (q1, .inl (cI, 256, .inl (fun _ => -1)))] := hD
  refine lv_aload_n hx hb d_State_init_38 rfl (lv_at hl 0 rfl) ?_
  refine va_get (D := D) (ci := 3) (v := .ref q3) (C := "TaleMachine$State") (T := F_State) (N := 3) hx hb hts in_State hown hK hP 0 rfl rfl 2 (by decide) (hts _ k_53) (fun _ h9 => h9) rfl d_State_init_39 ?_
  refine lv_iconst (v := (-1)) hx hb d_State_init_42 (by decide) ?_
  refine mv_v (va_runS (As := [.ref q3, .int (-1)]) (rest := []) ⟨hx, hb, hml, hown, hts⟩ (c_fill l D cI cZ cJ q3 16 (fun _ => 0) (-1) _ (by first | assumption | decide | omega)) (va_cwS 2 hts (gInS k_55 k_56 k_57 k_54) rfl rfl rfl (by decide +kernel) ⟨Nat.le_of_ble_eq_true rfl, Nat.le_of_ble_eq_true rfl⟩) (pre_S (hP.sub [2] rfl) (hK.sub [0, 1, 2] rfl) (hD.sub [2] (by decide) rfl) hT) rfl rfl hl.1 rfl (lv_room (Nat.le_of_ble_eq_true rfl)) d_State_init_43 ⟨Nat.le_of_ble_eq_true rfl, Nat.le_of_ble_eq_true rfl⟩) hP hD hS hA [2] [0, 1, 3] rfl rfl (by decide) (by decide) (wr := [(h, .inr (3, [.ref q1, .ref q2, .ref q3])), (q2, .inl (cI, 256, .inl (fun _ => 0))), (q1, .inl (cI, 256, .inl (fun _ => -1)))]) (wn := fun _ => [(q3, .inl (cI, 16, .inl (fun _ => -1)))]) (fun _ _ h9 => h9) (fun _ H locs hp7 hP hD hS => ?_)
  have hP : va_P D cL [(h, .inr (3, [.ref q1, .ref q2, .ref q3])), (q2, .inl (cI, 256, .inl (fun _ => 0))), (q1, .inl (cI, 256, .inl (fun _ => -1))), (q3, .inl (cI, 16, .inl (fun _ => -1)))] H := hP
  have hD : va_D A [(h, .inr (3, [.ref q1, .ref q2, .ref q3])), (q2, .inl (cI, 256, .inl (fun _ => 0))), (q1, .inl (cI, 256, .inl (fun _ => -1))), (q3, .inl (cI, 16, .inl (fun _ => -1)))] := hD
  exact end_v hx hb hr hlocks hS (u := (q1, q2, q3)) (at_end (hP.sub (ws' := [(h, .inr (3, [.ref q1, .ref q2, .ref q3])), (q3, .inl (cI, 16, .inl (fun _ => -1)))]) [0, 3] rfl) (hD.sub (ws' := [(h, .inr (3, [.ref q1, .ref q2, .ref q3])), (q3, .inl (cI, 16, .inl (fun _ => -1)))]) [0, 3] (by decide) rfl)) (trivial) (Nat.le_of_ble_eq_true rfl) (Nat.le_of_ble_eq_true rfl) d_State_init_46

set_option maxHeartbeats 4000000 in
set_option maxRecDepth 100000 in
theorem c_World_init (l : Launch) (D : va_G) (cI cZ cJ : ClassId) (h : Nat) (sz : Nat)  : Met l y_World_init (.code y_World_init prog_8_method_1_code 1 none :: AW) ({ frames := 2, cells := 8, slots := 867, locals := 43 }) (va_Pc [.ref h] (pre_ D [(h, .inr (6, [.null, .int 0, .null, .null, .null, .int 0, .null, .int 0, .int 0]))] [(cI, .int), (cZ, .boolean), (cJ, .long)] sz)) (va_Qv (fun (u : Nat × Nat × Nat × Nat × Nat × Nat × Nat × Nat) => True) (fun u t => match u with | (st, fl, fn, li, rc, kd, it, pa) => post_ D (va_A [(h, .inr (6, [.null, .int 0, .null, .null, .null, .int 0, .null, .int 0, .int 0]))] sz) [(h, .inr (6, [.ref st, .int 0, .ref fl, .ref fn, .ref li, .int 0, .ref rc, .int 0, .int 0])), (st, .inr (3, [.ref kd, .ref it, .ref pa])), (pa, .inl (cI, 16, .inl (fun _ => -1))), (fl, .inl (cI, 256, .inl (fun _ => 0))), (fn, .inl (cI, 16, .inl (fun _ => 0)))] t) (va_A [(h, .inr (6, [.null, .int 0, .null, .null, .null, .int 0, .null, .int 0, .int 0]))] sz)) 8 867 (va_A [(h, .inr (6, [.null, .int 0, .null, .null, .null, .int 0, .null, .int 0, .int 0]))] sz) := by
  refine Met.ofW (cc := prog_8_method_1_code) (maxL := 1) (ret := none) (by decide) rfl ?_
  intro p e s m args below meth c s₁ B hml hv
  obtain ⟨rfl, rfl, hP, hK, hD0, hT⟩ := hv
  have hx := B.exec
  have hb := B.bytes
  have hr := B.returns
  have hts0 := atoms_spec (ws := .code y_World_init prog_8_method_1_code 1 none :: AW) B.pre
  have hts : ∀ w ∈ AW, w.before [.ref h].toArray s = true := fun w h => hts0 w (List.mem_cons_of_mem _ h)
  have hown : s.vm.findClass "TaleMachine$World" = some m.cls := findClass_of_methodNamed B.named
  have hlocks := B.notSynchronized
  have hin : meth.name = "<init>" := (name_of_methodNamed B.named B.method).1
  have hD := hD0.self (sz := s.heap.size)
  generalize hAe : va_A [(h, .inr (6, [.null, .int 0, .null, .null, .null, .int 0, .null, .int 0, .int 0]))] s.heap.size = A at hD ⊢
  have hA : ∀ q : Nat, s.heap.size ≤ q → A q := fun q h => by rw [← hAe]; exact Or.inr h
  have hS : va_S A s.heap s.heap [] := va_S.rf
  have hl := lv_entry ([.ref h]) (n := 1) (Nat.le_of_ble_eq_true rfl)
  rw [lg_entry_eq]
  generalize (lg_sl ([.ref h]) ++ List.replicate (1 - (lg_sl ([.ref h])).length) Slot.unset).toArray = ls at hl ⊢
  have hl : lv_has ls 1 [(0, .ref h)] := hl
  refine lv_aload_n hx hb d_World_init_0 rfl (lv_at hl 0 rfl) ?_
  refine W.objInit hx hb hown (hts _ k_58) (hts _ k_42) (hts _ k_43) rfl (by rw [hml]; exact hl.1) rfl d_World_init_1 (Nat.le_of_ble_eq_true rfl) (Nat.le_of_ble_eq_true rfl) ?_
  refine W.eq (g2 := F0 m 4 ls []) rfl ?_
  refine lv_aload_n hx hb d_World_init_4 rfl (lv_at hl 0 rfl) ?_
  refine va_new (ci := 3) (fs := [.null, .null, .null]) (C := "TaleMachine$State") (T := F_State) (N := 3) hx hb hts in_State t_State t_State_ok hown (hts _ k_59) (hts _ k_60) (hts _ k_61) hK hP hD hS hA rfl dv_State (Nat.le_of_ble_eq_true rfl) (Nat.le_of_ble_eq_true rfl) d_World_init_5 (fun q1 H hP hD hS => ?_)
  have hP : va_P D cL [(h, .inr (6, [.null, .int 0, .null, .null, .null, .int 0, .null, .int 0, .int 0])), (q1, .inr (3, [.null, .null, .null]))] H := hP
  have hD : va_D A [(h, .inr (6, [.null, .int 0, .null, .null, .null, .int 0, .null, .int 0, .int 0])), (q1, .inr (3, [.null, .null, .null]))] := hD
  refine W.widen (k := 1) (n := 3) (Nat.le_of_ble_eq_true rfl) (Nat.le_of_ble_eq_true rfl) ?_
  refine lv_dup hx hb d_World_init_8 rfl ?_
  refine mv_v (va_runI (As := []) (rest := [.ref q1, .ref h]) ⟨hx, hb, hml, hown, hts⟩ (c_State_init l D cI cZ cJ q1 _ ) (cwI 0 hts (gIn k_62) rfl rfl rfl (hts _ k_61) (hts _ k_63) (hts _ k_64) rfl (by decide +kernel) ⟨Nat.le_of_ble_eq_true rfl, Nat.le_of_ble_eq_true rfl⟩) (pre_S (hP.sub [1] rfl) (hK.sub [0, 1, 2] rfl) (hD.sub [1] (by decide) rfl) hT) rfl rfl hl.1 rfl (lv_room (Nat.le_of_ble_eq_true rfl)) d_World_init_9 ⟨Nat.le_of_ble_eq_true rfl, Nat.le_of_ble_eq_true rfl⟩) hP hD hS hA [1] [0] rfl rfl (by decide) (by decide) (wr := [(h, .inr (6, [.null, .int 0, .null, .null, .null, .int 0, .null, .int 0, .int 0]))]) (wn := fun u => match u with | (kd, it, pa) => [(q1, .inr (3, [.ref kd, .ref it, .ref pa])), (pa, .inl (cI, 16, .inl (fun _ => -1)))]) (fun _ _ h9 => h9) (fun u H locs hp6 hP hD hS => ?_)
  obtain ⟨a2, a3, a4⟩ := u
  have hP : va_P D cL [(h, .inr (6, [.null, .int 0, .null, .null, .null, .int 0, .null, .int 0, .int 0])), (q1, .inr (3, [.ref a2, .ref a3, .ref a4])), (a4, .inl (cI, 16, .inl (fun _ => -1)))] H := hP
  have hD : va_D A [(h, .inr (6, [.null, .int 0, .null, .null, .null, .int 0, .null, .int 0, .int 0])), (q1, .inr (3, [.ref a2, .ref a3, .ref a4])), (a4, .inl (cI, 16, .inl (fun _ => -1)))] := hD
  refine W.widen (k := 4) (n := 531) (Nat.le_of_ble_eq_true rfl) (Nat.le_of_ble_eq_true rfl) ?_
  refine va_putF (D := D) (ci := 6) (v := .ref q1) (ty := .object "TaleMachine$State") (C := "TaleMachine$World") (T := F_World) (N := 9) hx hb hts in_World t_World t_World_ok n_World hown hK hP hD hS 0 rfl rfl 0 (by decide) (hts _ k_65) (fun _ h9 => h9) rfl hin rfl (by decide +kernel) rfl rfl (Nat.le_of_ble_eq_true rfl) d_World_init_12 (fun H locs hP hD hS => ?_)
  have hP : va_P D cL [(h, .inr (6, [.ref q1, .int 0, .null, .null, .null, .int 0, .null, .int 0, .int 0])), (q1, .inr (3, [.ref a2, .ref a3, .ref a4])), (a4, .inl (cI, 16, .inl (fun _ => -1)))] H := hP
  have hD : va_D A [(h, .inr (6, [.ref q1, .int 0, .null, .null, .null, .int 0, .null, .int 0, .int 0])), (q1, .inr (3, [.ref a2, .ref a3, .ref a4])), (a4, .inl (cI, 16, .inl (fun _ => -1)))] := hD
  refine lv_aload_n hx hb d_World_init_15 rfl (lv_at hl 0 rfl) ?_
  refine lv_sipush (v := 256) hx hb d_World_init_16 (by decide) ?_
  refine nw_i hx hb (hts _ k_44) hK 0 rfl hP hD hS hA (n := 256) (N' := 256) (by decide) (by decide) (by decide) (Nat.le_of_ble_eq_true rfl) (Nat.le_of_ble_eq_true rfl) d_World_init_19 (fun q7 H hP hD hS => ?_)
  have hP : va_P D cL [(h, .inr (6, [.ref q1, .int 0, .null, .null, .null, .int 0, .null, .int 0, .int 0])), (q1, .inr (3, [.ref a2, .ref a3, .ref a4])), (a4, .inl (cI, 16, .inl (fun _ => -1))), (q7, .inl (cI, 256, .inl (fun _ => 0)))] H := hP
  have hD : va_D A [(h, .inr (6, [.ref q1, .int 0, .null, .null, .null, .int 0, .null, .int 0, .int 0])), (q1, .inr (3, [.ref a2, .ref a3, .ref a4])), (a4, .inl (cI, 16, .inl (fun _ => -1))), (q7, .inl (cI, 256, .inl (fun _ => 0)))] := hD
  refine W.widen (k := 5) (n := 787) (Nat.le_of_ble_eq_true rfl) (Nat.le_of_ble_eq_true rfl) ?_
  refine va_putF (D := D) (ci := 6) (v := .ref q7) (ty := .array .int) (C := "TaleMachine$World") (T := F_World) (N := 9) hx hb hts in_World t_World t_World_ok n_World hown hK hP hD hS 0 rfl rfl 2 (by decide) (hts _ k_66) (fun _ h9 => h9) rfl hin rfl (by decide +kernel) rfl rfl (Nat.le_of_ble_eq_true rfl) d_World_init_21 (fun H locs hP hD hS => ?_)
  have hP : va_P D cL [(h, .inr (6, [.ref q1, .int 0, .ref q7, .null, .null, .int 0, .null, .int 0, .int 0])), (q1, .inr (3, [.ref a2, .ref a3, .ref a4])), (a4, .inl (cI, 16, .inl (fun _ => -1))), (q7, .inl (cI, 256, .inl (fun _ => 0)))] H := hP
  have hD : va_D A [(h, .inr (6, [.ref q1, .int 0, .ref q7, .null, .null, .int 0, .null, .int 0, .int 0])), (q1, .inr (3, [.ref a2, .ref a3, .ref a4])), (a4, .inl (cI, 16, .inl (fun _ => -1))), (q7, .inl (cI, 256, .inl (fun _ => 0)))] := hD
  refine lv_aload_n hx hb d_World_init_24 rfl (lv_at hl 0 rfl) ?_
  refine lv_bipush (v := 16) hx hb d_World_init_25 (by decide) ?_
  refine nw_i hx hb (hts _ k_44) hK 0 rfl hP hD hS hA (n := 16) (N' := 16) (by decide) (by decide) (by decide) (Nat.le_of_ble_eq_true rfl) (Nat.le_of_ble_eq_true rfl) d_World_init_27 (fun q8 H hP hD hS => ?_)
  have hP : va_P D cL [(h, .inr (6, [.ref q1, .int 0, .ref q7, .null, .null, .int 0, .null, .int 0, .int 0])), (q1, .inr (3, [.ref a2, .ref a3, .ref a4])), (a4, .inl (cI, 16, .inl (fun _ => -1))), (q7, .inl (cI, 256, .inl (fun _ => 0))), (q8, .inl (cI, 16, .inl (fun _ => 0)))] H := hP
  have hD : va_D A [(h, .inr (6, [.ref q1, .int 0, .ref q7, .null, .null, .int 0, .null, .int 0, .int 0])), (q1, .inr (3, [.ref a2, .ref a3, .ref a4])), (a4, .inl (cI, 16, .inl (fun _ => -1))), (q7, .inl (cI, 256, .inl (fun _ => 0))), (q8, .inl (cI, 16, .inl (fun _ => 0)))] := hD
  refine W.widen (k := 6) (n := 803) (Nat.le_of_ble_eq_true rfl) (Nat.le_of_ble_eq_true rfl) ?_
  refine va_putF (D := D) (ci := 6) (v := .ref q8) (ty := .array .int) (C := "TaleMachine$World") (T := F_World) (N := 9) hx hb hts in_World t_World t_World_ok n_World hown hK hP hD hS 0 rfl rfl 3 (by decide) (hts _ k_67) (fun _ h9 => h9) rfl hin rfl (by decide +kernel) rfl rfl (Nat.le_of_ble_eq_true rfl) d_World_init_29 (fun H locs hP hD hS => ?_)
  have hP : va_P D cL [(h, .inr (6, [.ref q1, .int 0, .ref q7, .ref q8, .null, .int 0, .null, .int 0, .int 0])), (q1, .inr (3, [.ref a2, .ref a3, .ref a4])), (a4, .inl (cI, 16, .inl (fun _ => -1))), (q7, .inl (cI, 256, .inl (fun _ => 0))), (q8, .inl (cI, 16, .inl (fun _ => 0)))] H := hP
  have hD : va_D A [(h, .inr (6, [.ref q1, .int 0, .ref q7, .ref q8, .null, .int 0, .null, .int 0, .int 0])), (q1, .inr (3, [.ref a2, .ref a3, .ref a4])), (a4, .inl (cI, 16, .inl (fun _ => -1))), (q7, .inl (cI, 256, .inl (fun _ => 0))), (q8, .inl (cI, 16, .inl (fun _ => 0)))] := hD
  refine lv_aload_n hx hb d_World_init_32 rfl (lv_at hl 0 rfl) ?_
  refine lv_bipush (v := 32) hx hb d_World_init_33 (by decide) ?_
  refine nw_i hx hb (hts _ k_44) hK 0 rfl hP hD hS hA (n := 32) (N' := 32) (by decide) (by decide) (by decide) (Nat.le_of_ble_eq_true rfl) (Nat.le_of_ble_eq_true rfl) d_World_init_35 (fun q9 H hP hD hS => ?_)
  have hP : va_P D cL [(h, .inr (6, [.ref q1, .int 0, .ref q7, .ref q8, .null, .int 0, .null, .int 0, .int 0])), (q1, .inr (3, [.ref a2, .ref a3, .ref a4])), (a4, .inl (cI, 16, .inl (fun _ => -1))), (q7, .inl (cI, 256, .inl (fun _ => 0))), (q8, .inl (cI, 16, .inl (fun _ => 0))), (q9, .inl (cI, 32, .inl (fun _ => 0)))] H := hP
  have hD : va_D A [(h, .inr (6, [.ref q1, .int 0, .ref q7, .ref q8, .null, .int 0, .null, .int 0, .int 0])), (q1, .inr (3, [.ref a2, .ref a3, .ref a4])), (a4, .inl (cI, 16, .inl (fun _ => -1))), (q7, .inl (cI, 256, .inl (fun _ => 0))), (q8, .inl (cI, 16, .inl (fun _ => 0))), (q9, .inl (cI, 32, .inl (fun _ => 0)))] := hD
  refine W.widen (k := 7) (n := 835) (Nat.le_of_ble_eq_true rfl) (Nat.le_of_ble_eq_true rfl) ?_
  refine va_putF (D := D) (ci := 6) (v := .ref q9) (ty := .array .int) (C := "TaleMachine$World") (T := F_World) (N := 9) hx hb hts in_World t_World t_World_ok n_World hown hK hP hD hS 0 rfl rfl 4 (by decide) (hts _ k_68) (fun _ h9 => h9) rfl hin rfl (by decide +kernel) rfl rfl (Nat.le_of_ble_eq_true rfl) d_World_init_37 (fun H locs hP hD hS => ?_)
  have hP : va_P D cL [(h, .inr (6, [.ref q1, .int 0, .ref q7, .ref q8, .ref q9, .int 0, .null, .int 0, .int 0])), (q1, .inr (3, [.ref a2, .ref a3, .ref a4])), (a4, .inl (cI, 16, .inl (fun _ => -1))), (q7, .inl (cI, 256, .inl (fun _ => 0))), (q8, .inl (cI, 16, .inl (fun _ => 0))), (q9, .inl (cI, 32, .inl (fun _ => 0)))] H := hP
  have hD : va_D A [(h, .inr (6, [.ref q1, .int 0, .ref q7, .ref q8, .ref q9, .int 0, .null, .int 0, .int 0])), (q1, .inr (3, [.ref a2, .ref a3, .ref a4])), (a4, .inl (cI, 16, .inl (fun _ => -1))), (q7, .inl (cI, 256, .inl (fun _ => 0))), (q8, .inl (cI, 16, .inl (fun _ => 0))), (q9, .inl (cI, 32, .inl (fun _ => 0)))] := hD
  refine lv_aload_n hx hb d_World_init_40 rfl (lv_at hl 0 rfl) ?_
  refine lv_bipush (v := 32) hx hb d_World_init_41 (by decide) ?_
  refine nw_i hx hb (hts _ k_44) hK 0 rfl hP hD hS hA (n := 32) (N' := 32) (by decide) (by decide) (by decide) (Nat.le_of_ble_eq_true rfl) (Nat.le_of_ble_eq_true rfl) d_World_init_43 (fun q10 H hP hD hS => ?_)
  have hP : va_P D cL [(h, .inr (6, [.ref q1, .int 0, .ref q7, .ref q8, .ref q9, .int 0, .null, .int 0, .int 0])), (q1, .inr (3, [.ref a2, .ref a3, .ref a4])), (a4, .inl (cI, 16, .inl (fun _ => -1))), (q7, .inl (cI, 256, .inl (fun _ => 0))), (q8, .inl (cI, 16, .inl (fun _ => 0))), (q9, .inl (cI, 32, .inl (fun _ => 0))), (q10, .inl (cI, 32, .inl (fun _ => 0)))] H := hP
  have hD : va_D A [(h, .inr (6, [.ref q1, .int 0, .ref q7, .ref q8, .ref q9, .int 0, .null, .int 0, .int 0])), (q1, .inr (3, [.ref a2, .ref a3, .ref a4])), (a4, .inl (cI, 16, .inl (fun _ => -1))), (q7, .inl (cI, 256, .inl (fun _ => 0))), (q8, .inl (cI, 16, .inl (fun _ => 0))), (q9, .inl (cI, 32, .inl (fun _ => 0))), (q10, .inl (cI, 32, .inl (fun _ => 0)))] := hD
  refine W.widen (k := 8) (n := 867) (Nat.le_of_ble_eq_true rfl) (Nat.le_of_ble_eq_true rfl) ?_
  refine va_putF (D := D) (ci := 6) (v := .ref q10) (ty := .array .int) (C := "TaleMachine$World") (T := F_World) (N := 9) hx hb hts in_World t_World t_World_ok n_World hown hK hP hD hS 0 rfl rfl 6 (by decide) (hts _ k_69) (fun _ h9 => h9) rfl hin rfl (by decide +kernel) rfl rfl (Nat.le_of_ble_eq_true rfl) d_World_init_45 (fun H locs hP hD hS => ?_)
  have hP : va_P D cL [(h, .inr (6, [.ref q1, .int 0, .ref q7, .ref q8, .ref q9, .int 0, .ref q10, .int 0, .int 0])), (q1, .inr (3, [.ref a2, .ref a3, .ref a4])), (a4, .inl (cI, 16, .inl (fun _ => -1))), (q7, .inl (cI, 256, .inl (fun _ => 0))), (q8, .inl (cI, 16, .inl (fun _ => 0))), (q9, .inl (cI, 32, .inl (fun _ => 0))), (q10, .inl (cI, 32, .inl (fun _ => 0)))] H := hP
  have hD : va_D A [(h, .inr (6, [.ref q1, .int 0, .ref q7, .ref q8, .ref q9, .int 0, .ref q10, .int 0, .int 0])), (q1, .inr (3, [.ref a2, .ref a3, .ref a4])), (a4, .inl (cI, 16, .inl (fun _ => -1))), (q7, .inl (cI, 256, .inl (fun _ => 0))), (q8, .inl (cI, 16, .inl (fun _ => 0))), (q9, .inl (cI, 32, .inl (fun _ => 0))), (q10, .inl (cI, 32, .inl (fun _ => 0)))] := hD
  exact end_v hx hb hr hlocks hS (u := (q1, q7, q8, q9, q10, a2, a3, a4)) (at_end (hP.sub (ws' := [(h, .inr (6, [.ref q1, .int 0, .ref q7, .ref q8, .ref q9, .int 0, .ref q10, .int 0, .int 0])), (q1, .inr (3, [.ref a2, .ref a3, .ref a4])), (a4, .inl (cI, 16, .inl (fun _ => -1))), (q7, .inl (cI, 256, .inl (fun _ => 0))), (q8, .inl (cI, 16, .inl (fun _ => 0)))]) [0, 1, 2, 3, 4] rfl) (hD.sub (ws' := [(h, .inr (6, [.ref q1, .int 0, .ref q7, .ref q8, .ref q9, .int 0, .ref q10, .int 0, .int 0])), (q1, .inr (3, [.ref a2, .ref a3, .ref a4])), (a4, .inl (cI, 16, .inl (fun _ => -1))), (q7, .inl (cI, 256, .inl (fun _ => 0))), (q8, .inl (cI, 16, .inl (fun _ => 0)))]) [0, 1, 2, 3, 4] (by decide) rfl)) (trivial) (Nat.le_of_ble_eq_true rfl) (Nat.le_of_ble_eq_true rfl) d_World_init_48

set_option maxHeartbeats 4000000 in
set_option maxRecDepth 100000 in
theorem c_History_init (l : Launch) (D : va_G) (cI cZ cJ : ClassId) (h : Nat) (sz : Nat)  : Met l y_History_init (.code y_History_init prog_3_method_1_code 2 none :: AW) ({ frames := 2, cells := 23, slots := 2662, locals := 43 }) (va_Pc [.ref h] (pre_ D [(h, .inr (1, [.null, .null, .null, .int 0]))] [(cI, .int), (cZ, .boolean), (cJ, .long)] sz)) (va_Qv (fun (u : Nat × Nat × Nat) => True) (fun u t => match u with | (pt, sv, iz) => post_ D (va_A [(h, .inr (1, [.null, .null, .null, .int 0]))] sz) [(h, .inr (1, [.ref pt, .ref sv, .ref iz, .int 0])), (iz, .inl (cZ, 2, .inl (fun _ => 0)))] t) (va_A [(h, .inr (1, [.null, .null, .null, .int 0]))] sz)) 23 2662 (va_A [(h, .inr (1, [.null, .null, .null, .int 0]))] sz) := by
  refine Met.ofW (cc := prog_3_method_1_code) (maxL := 2) (ret := none) (by decide) rfl ?_
  intro p e s m args below meth c s₁ B hml hv
  obtain ⟨rfl, rfl, hP, hK, hD0, hT⟩ := hv
  have hx := B.exec
  have hb := B.bytes
  have hr := B.returns
  have hts0 := atoms_spec (ws := .code y_History_init prog_3_method_1_code 2 none :: AW) B.pre
  have hts : ∀ w ∈ AW, w.before [.ref h].toArray s = true := fun w h => hts0 w (List.mem_cons_of_mem _ h)
  have hown : s.vm.findClass "TaleMachine$History" = some m.cls := findClass_of_methodNamed B.named
  have hlocks := B.notSynchronized
  have hin : meth.name = "<init>" := (name_of_methodNamed B.named B.method).1
  have hD := hD0.self (sz := s.heap.size)
  generalize hAe : va_A [(h, .inr (1, [.null, .null, .null, .int 0]))] s.heap.size = A at hD ⊢
  have hA : ∀ q : Nat, s.heap.size ≤ q → A q := fun q h => by rw [← hAe]; exact Or.inr h
  have hS : va_S A s.heap s.heap [] := va_S.rf
  have hl := lv_entry ([.ref h]) (n := 2) (Nat.le_of_ble_eq_true rfl)
  rw [lg_entry_eq]
  generalize (lg_sl ([.ref h]) ++ List.replicate (2 - (lg_sl ([.ref h])).length) Slot.unset).toArray = ls at hl ⊢
  have hl : lv_has ls 2 [(0, .ref h)] := hl
  refine lv_aload_n hx hb d_History_init_0 rfl (lv_at hl 0 rfl) ?_
  refine W.objInit hx hb hown (hts _ k_70) (hts _ k_42) (hts _ k_43) rfl (by rw [hml]; exact hl.1) rfl d_History_init_1 (Nat.le_of_ble_eq_true rfl) (Nat.le_of_ble_eq_true rfl) ?_
  refine W.eq (g2 := F0 m 4 ls []) rfl ?_
  refine lv_aload_n hx hb d_History_init_4 rfl (lv_at hl 0 rfl) ?_
  refine lv_iconst (v := 3) hx hb d_History_init_5 (by decide) ?_
  refine va_newq hx hb hown (hts _ k_71) (Tb_ao_State hT) hK hP hD hS hA (n := 3) (N' := 3) (by decide) (by decide) (by decide) (Nat.le_of_ble_eq_true rfl) (Nat.le_of_ble_eq_true rfl) d_History_init_6 (fun q1 cQ2 H hK hP hD hS => ?_)
  have hK : va_K D cL [(cI, .int), (cZ, .boolean), (cJ, .long), (cQ2, .object "TaleMachine$State")] s := hK
  have hP : va_P D cL [(h, .inr (1, [.null, .null, .null, .int 0])), (q1, .inl (cQ2, 3, .inr (.inr (.inr (.inr (fun _ => none))))))] H := hP
  have hD : va_D A [(h, .inr (1, [.null, .null, .null, .int 0])), (q1, .inl (cQ2, 3, .inr (.inr (.inr (.inr (fun _ => none))))))] := hD
  refine W.widen (k := 1) (n := 3) (Nat.le_of_ble_eq_true rfl) (Nat.le_of_ble_eq_true rfl) ?_
  refine va_putF (D := D) (ci := 1) (v := .ref q1) (ty := .array (.object "TaleMachine$State")) (C := "TaleMachine$History") (T := F_History) (N := 4) hx hb hts in_History t_History t_History_ok n_History hown hK hP hD hS 0 rfl rfl 0 (by decide) (hts _ k_72) (fun _ h9 => h9) rfl hin rfl (by decide +kernel) rfl rfl (Nat.le_of_ble_eq_true rfl) d_History_init_9 (fun H locs hP hD hS => ?_)
  have hP : va_P D cL [(h, .inr (1, [.ref q1, .null, .null, .int 0])), (q1, .inl (cQ2, 3, .inr (.inr (.inr (.inr (fun _ => none))))))] H := hP
  have hD : va_D A [(h, .inr (1, [.ref q1, .null, .null, .int 0])), (q1, .inl (cQ2, 3, .inr (.inr (.inr (.inr (fun _ => none))))))] := hD
  refine lv_aload_n hx hb d_History_init_12 rfl (lv_at hl 0 rfl) ?_
  refine lv_iconst (v := 2) hx hb d_History_init_13 (by decide) ?_
  refine va_newq hx hb hown (hts _ k_71) (Tb_ao_State hT) hK hP hD hS hA (n := 2) (N' := 2) (by decide) (by decide) (by decide) (Nat.le_of_ble_eq_true rfl) (Nat.le_of_ble_eq_true rfl) d_History_init_14 (fun q3 cQ4 H hK hP hD hS => ?_)
  have hK : va_K D cL [(cI, .int), (cZ, .boolean), (cJ, .long), (cQ2, .object "TaleMachine$State"), (cQ4, .object "TaleMachine$State")] s := hK
  have hP : va_P D cL [(h, .inr (1, [.ref q1, .null, .null, .int 0])), (q1, .inl (cQ2, 3, .inr (.inr (.inr (.inr (fun _ => none)))))), (q3, .inl (cQ4, 2, .inr (.inr (.inr (.inr (fun _ => none))))))] H := hP
  have hD : va_D A [(h, .inr (1, [.ref q1, .null, .null, .int 0])), (q1, .inl (cQ2, 3, .inr (.inr (.inr (.inr (fun _ => none)))))), (q3, .inl (cQ4, 2, .inr (.inr (.inr (.inr (fun _ => none))))))] := hD
  refine W.widen (k := 2) (n := 5) (Nat.le_of_ble_eq_true rfl) (Nat.le_of_ble_eq_true rfl) ?_
  refine va_putF (D := D) (ci := 1) (v := .ref q3) (ty := .array (.object "TaleMachine$State")) (C := "TaleMachine$History") (T := F_History) (N := 4) hx hb hts in_History t_History t_History_ok n_History hown hK hP hD hS 0 rfl rfl 1 (by decide) (hts _ k_73) (fun _ h9 => h9) rfl hin rfl (by decide +kernel) rfl rfl (Nat.le_of_ble_eq_true rfl) d_History_init_17 (fun H locs hP hD hS => ?_)
  have hP : va_P D cL [(h, .inr (1, [.ref q1, .ref q3, .null, .int 0])), (q1, .inl (cQ2, 3, .inr (.inr (.inr (.inr (fun _ => none)))))), (q3, .inl (cQ4, 2, .inr (.inr (.inr (.inr (fun _ => none))))))] H := hP
  have hD : va_D A [(h, .inr (1, [.ref q1, .ref q3, .null, .int 0])), (q1, .inl (cQ2, 3, .inr (.inr (.inr (.inr (fun _ => none)))))), (q3, .inl (cQ4, 2, .inr (.inr (.inr (.inr (fun _ => none))))))] := hD
  refine lv_aload_n hx hb d_History_init_20 rfl (lv_at hl 0 rfl) ?_
  refine lv_iconst (v := 2) hx hb d_History_init_21 (by decide) ?_
  refine nw_z hx hb (hts _ k_74) hK 1 rfl hP hD hS hA (n := 2) (N' := 2) (by decide) (by decide) (by decide) (Nat.le_of_ble_eq_true rfl) (Nat.le_of_ble_eq_true rfl) d_History_init_22 (fun q5 H hP hD hS => ?_)
  have hP : va_P D cL [(h, .inr (1, [.ref q1, .ref q3, .null, .int 0])), (q1, .inl (cQ2, 3, .inr (.inr (.inr (.inr (fun _ => none)))))), (q3, .inl (cQ4, 2, .inr (.inr (.inr (.inr (fun _ => none)))))), (q5, .inl (cZ, 2, .inl (fun _ => 0)))] H := hP
  have hD : va_D A [(h, .inr (1, [.ref q1, .ref q3, .null, .int 0])), (q1, .inl (cQ2, 3, .inr (.inr (.inr (.inr (fun _ => none)))))), (q3, .inl (cQ4, 2, .inr (.inr (.inr (.inr (fun _ => none)))))), (q5, .inl (cZ, 2, .inl (fun _ => 0)))] := hD
  refine W.widen (k := 3) (n := 7) (Nat.le_of_ble_eq_true rfl) (Nat.le_of_ble_eq_true rfl) ?_
  refine va_putF (D := D) (ci := 1) (v := .ref q5) (ty := .array .boolean) (C := "TaleMachine$History") (T := F_History) (N := 4) hx hb hts in_History t_History t_History_ok n_History hown hK hP hD hS 0 rfl rfl 2 (by decide) (hts _ k_75) (fun _ h9 => h9) rfl hin rfl (by decide +kernel) rfl rfl (Nat.le_of_ble_eq_true rfl) d_History_init_24 (fun H locs hP hD hS => ?_)
  have hP : va_P D cL [(h, .inr (1, [.ref q1, .ref q3, .ref q5, .int 0])), (q1, .inl (cQ2, 3, .inr (.inr (.inr (.inr (fun _ => none)))))), (q3, .inl (cQ4, 2, .inr (.inr (.inr (.inr (fun _ => none)))))), (q5, .inl (cZ, 2, .inl (fun _ => 0)))] H := hP
  have hD : va_D A [(h, .inr (1, [.ref q1, .ref q3, .ref q5, .int 0])), (q1, .inl (cQ2, 3, .inr (.inr (.inr (.inr (fun _ => none)))))), (q3, .inl (cQ4, 2, .inr (.inr (.inr (.inr (fun _ => none)))))), (q5, .inl (cZ, 2, .inl (fun _ => 0)))] := hD
  refine lv_iconst (v := 0) hx hb d_History_init_27 (by decide) ?_
  refine lv_istore_n (lv' := [(1, .int 0), (0, .ref h)]) hx hb d_History_init_28 rfl hl (by decide) rfl (fun ls hl => ?_)
  refine lv_iload_n hx hb d_History_init_29 rfl (lv_at hl 0 rfl) ?_
  refine lv_iconst (v := 3) hx hb d_History_init_30 (by decide) ?_
  refine lv_icmp_ge hx hb d_History_init_31 (tgt := 53) (by decide) (fun hz => absurd hz (by decide)) (fun _ => ?_)
  refine lv_aload_n hx hb d_History_init_34 rfl (lv_at hl 1 rfl) ?_
  refine va_get (D := D) (ci := 1) (v := .ref q1) (C := "TaleMachine$History") (T := F_History) (N := 4) hx hb hts in_History hown hK hP 0 rfl rfl 0 (by decide) (hts _ k_72) (fun _ h9 => h9) rfl d_History_init_35 ?_
  refine lv_iload_n hx hb d_History_init_38 rfl (lv_at hl 0 rfl) ?_
  refine va_new (ci := 3) (fs := [.null, .null, .null]) (C := "TaleMachine$State") (T := F_State) (N := 3) hx hb hts in_State t_State t_State_ok hown (hts _ k_71) (hts _ k_60) (hts _ k_61) hK hP hD hS hA rfl dv_State (Nat.le_of_ble_eq_true rfl) (Nat.le_of_ble_eq_true rfl) d_History_init_39 (fun q6 H hP hD hS => ?_)
  have hP : va_P D cL [(h, .inr (1, [.ref q1, .ref q3, .ref q5, .int 0])), (q1, .inl (cQ2, 3, .inr (.inr (.inr (.inr (fun _ => none)))))), (q3, .inl (cQ4, 2, .inr (.inr (.inr (.inr (fun _ => none)))))), (q5, .inl (cZ, 2, .inl (fun _ => 0))), (q6, .inr (3, [.null, .null, .null]))] H := hP
  have hD : va_D A [(h, .inr (1, [.ref q1, .ref q3, .ref q5, .int 0])), (q1, .inl (cQ2, 3, .inr (.inr (.inr (.inr (fun _ => none)))))), (q3, .inl (cQ4, 2, .inr (.inr (.inr (.inr (fun _ => none)))))), (q5, .inl (cZ, 2, .inl (fun _ => 0))), (q6, .inr (3, [.null, .null, .null]))] := hD
  refine W.widen (k := 4) (n := 10) (Nat.le_of_ble_eq_true rfl) (Nat.le_of_ble_eq_true rfl) ?_
  refine lv_dup hx hb d_History_init_42 rfl ?_
  refine mv_v (va_runI (As := []) (rest := [.ref q6, .int 0, .ref q1]) ⟨hx, hb, hml, hown, hts⟩ (c_State_init l D cI cZ cJ q6 _ ) (cwI 0 hts (gIn k_62) rfl rfl rfl (hts _ k_61) (hts _ k_76) (hts _ k_64) rfl (by decide +kernel) ⟨Nat.le_of_ble_eq_true rfl, Nat.le_of_ble_eq_true rfl⟩) (pre_S (hP.sub [4] rfl) (hK.sub [0, 1, 2] rfl) (hD.sub [4] (by decide) rfl) hT) rfl rfl hl.1 rfl (lv_room (Nat.le_of_ble_eq_true rfl)) d_History_init_43 ⟨Nat.le_of_ble_eq_true rfl, Nat.le_of_ble_eq_true rfl⟩) hP hD hS hA [4] [0, 1, 2, 3] rfl rfl (by decide) (by decide) (wr := [(h, .inr (1, [.ref q1, .ref q3, .ref q5, .int 0])), (q1, .inl (cQ2, 3, .inr (.inr (.inr (.inr (fun _ => none)))))), (q3, .inl (cQ4, 2, .inr (.inr (.inr (.inr (fun _ => none)))))), (q5, .inl (cZ, 2, .inl (fun _ => 0)))]) (wn := fun u => match u with | (kd, it, pa) => [(q6, .inr (3, [.ref kd, .ref it, .ref pa])), (pa, .inl (cI, 16, .inl (fun _ => -1)))]) (fun _ _ h9 => h9) (fun u H locs hp11 hP hD hS => ?_)
  obtain ⟨a7, a8, a9⟩ := u
  have hP : va_P D cL [(h, .inr (1, [.ref q1, .ref q3, .ref q5, .int 0])), (q1, .inl (cQ2, 3, .inr (.inr (.inr (.inr (fun _ => none)))))), (q3, .inl (cQ4, 2, .inr (.inr (.inr (.inr (fun _ => none)))))), (q5, .inl (cZ, 2, .inl (fun _ => 0))), (q6, .inr (3, [.ref a7, .ref a8, .ref a9])), (a9, .inl (cI, 16, .inl (fun _ => -1)))] H := hP
  have hD : va_D A [(h, .inr (1, [.ref q1, .ref q3, .ref q5, .int 0])), (q1, .inl (cQ2, 3, .inr (.inr (.inr (.inr (fun _ => none)))))), (q3, .inl (cQ4, 2, .inr (.inr (.inr (.inr (fun _ => none)))))), (q5, .inl (cZ, 2, .inl (fun _ => 0))), (q6, .inr (3, [.ref a7, .ref a8, .ref a9])), (a9, .inl (cI, 16, .inl (fun _ => -1)))] := hD
  refine W.widen (k := 7) (n := 538) (Nat.le_of_ble_eq_true rfl) (Nat.le_of_ble_eq_true rfl) ?_
  refine va_astq (r := ("TaleMachine$State", F_State, 3)) hx hb hK hP hD hS 1 3 4 3 rfl rfl rfl rfl (i := 0) (in_c (by decide)) d_History_init_46 (fun H locs hP hD hS => ?_)
  have hP : va_P D cL [(h, .inr (1, [.ref q1, .ref q3, .ref q5, .int 0])), (q1, .inl (cQ2, 3, .inr (.inr (.inr (.inr (va_up (fun _ => none) (0 : Int32).toNatClampNeg (some q6))))))), (q3, .inl (cQ4, 2, .inr (.inr (.inr (.inr (fun _ => none)))))), (q5, .inl (cZ, 2, .inl (fun _ => 0))), (q6, .inr (3, [.ref a7, .ref a8, .ref a9])), (a9, .inl (cI, 16, .inl (fun _ => -1)))] H := hP
  have hD : va_D A [(h, .inr (1, [.ref q1, .ref q3, .ref q5, .int 0])), (q1, .inl (cQ2, 3, .inr (.inr (.inr (.inr (va_up (fun _ => none) (0 : Int32).toNatClampNeg (some q6))))))), (q3, .inl (cQ4, 2, .inr (.inr (.inr (.inr (fun _ => none)))))), (q5, .inl (cZ, 2, .inl (fun _ => 0))), (q6, .inr (3, [.ref a7, .ref a8, .ref a9])), (a9, .inl (cI, 16, .inl (fun _ => -1)))] := hD
  generalize va_up (fun _ => none) (0 : Int32).toNatClampNeg (some q6) = f12 at hP hD
  have hP := hP.sub (ws' := [(h, .inr (1, [.ref q1, .ref q3, .ref q5, .int 0])), (q1, .inl (cQ2, 3, .inr (.inr (.inr (.inr f12))))), (q3, .inl (cQ4, 2, .inr (.inr (.inr (.inr (fun _ => none)))))), (q5, .inl (cZ, 2, .inl (fun _ => 0)))]) [0, 1, 2, 3] rfl
  have hD := hD.sub (ws' := [(h, .inr (1, [.ref q1, .ref q3, .ref q5, .int 0])), (q1, .inl (cQ2, 3, .inr (.inr (.inr (.inr f12))))), (q3, .inl (cQ4, 2, .inr (.inr (.inr (.inr (fun _ => none)))))), (q5, .inl (cZ, 2, .inl (fun _ => 0)))]) [0, 1, 2, 3] (by decide) rfl
  refine lv_iinc (v := 1) (lv' := [(1, .int 1), (0, .ref h)]) hx hb d_History_init_47 hl (k := 0) rfl (by decide) (by decide) rfl (fun ls hl => ?_)
  refine lv_goto hx hb d_History_init_50 (tgt := 29) (by decide) ?_
  refine lv_iload_n hx hb d_History_init_29 rfl (lv_at hl 0 rfl) ?_
  refine lv_iconst (v := 3) hx hb d_History_init_30 (by decide) ?_
  refine lv_icmp_ge hx hb d_History_init_31 (tgt := 53) (by decide) (fun hz => absurd hz (by decide)) (fun _ => ?_)
  refine lv_aload_n hx hb d_History_init_34 rfl (lv_at hl 1 rfl) ?_
  refine va_get (D := D) (ci := 1) (v := .ref q1) (C := "TaleMachine$History") (T := F_History) (N := 4) hx hb hts in_History hown hK hP 0 rfl rfl 0 (by decide) (hts _ k_72) (fun _ h9 => h9) rfl d_History_init_35 ?_
  refine lv_iload_n hx hb d_History_init_38 rfl (lv_at hl 0 rfl) ?_
  refine va_new (ci := 3) (fs := [.null, .null, .null]) (C := "TaleMachine$State") (T := F_State) (N := 3) hx hb hts in_State t_State t_State_ok hown (hts _ k_71) (hts _ k_60) (hts _ k_61) hK hP hD hS hA rfl dv_State (Nat.le_of_ble_eq_true rfl) (Nat.le_of_ble_eq_true rfl) d_History_init_39 (fun q13 H hP hD hS => ?_)
  have hP : va_P D cL [(h, .inr (1, [.ref q1, .ref q3, .ref q5, .int 0])), (q1, .inl (cQ2, 3, .inr (.inr (.inr (.inr f12))))), (q3, .inl (cQ4, 2, .inr (.inr (.inr (.inr (fun _ => none)))))), (q5, .inl (cZ, 2, .inl (fun _ => 0))), (q13, .inr (3, [.null, .null, .null]))] H := hP
  have hD : va_D A [(h, .inr (1, [.ref q1, .ref q3, .ref q5, .int 0])), (q1, .inl (cQ2, 3, .inr (.inr (.inr (.inr f12))))), (q3, .inl (cQ4, 2, .inr (.inr (.inr (.inr (fun _ => none)))))), (q5, .inl (cZ, 2, .inl (fun _ => 0))), (q13, .inr (3, [.null, .null, .null]))] := hD
  refine W.widen (k := 8) (n := 541) (Nat.le_of_ble_eq_true rfl) (Nat.le_of_ble_eq_true rfl) ?_
  refine lv_dup hx hb d_History_init_42 rfl ?_
  refine mv_v (va_runI (As := []) (rest := [.ref q13, .int 1, .ref q1]) ⟨hx, hb, hml, hown, hts⟩ (c_State_init l D cI cZ cJ q13 _ ) (cwI 0 hts (gIn k_62) rfl rfl rfl (hts _ k_61) (hts _ k_76) (hts _ k_64) rfl (by decide +kernel) ⟨Nat.le_of_ble_eq_true rfl, Nat.le_of_ble_eq_true rfl⟩) (pre_S (hP.sub [4] rfl) (hK.sub [0, 1, 2] rfl) (hD.sub [4] (by decide) rfl) hT) rfl rfl hl.1 rfl (lv_room (Nat.le_of_ble_eq_true rfl)) d_History_init_43 ⟨Nat.le_of_ble_eq_true rfl, Nat.le_of_ble_eq_true rfl⟩) hP hD hS hA [4] [0, 1, 2, 3] rfl rfl (by decide) (by decide) (wr := [(h, .inr (1, [.ref q1, .ref q3, .ref q5, .int 0])), (q1, .inl (cQ2, 3, .inr (.inr (.inr (.inr f12))))), (q3, .inl (cQ4, 2, .inr (.inr (.inr (.inr (fun _ => none)))))), (q5, .inl (cZ, 2, .inl (fun _ => 0)))]) (wn := fun u => match u with | (kd, it, pa) => [(q13, .inr (3, [.ref kd, .ref it, .ref pa])), (pa, .inl (cI, 16, .inl (fun _ => -1)))]) (fun _ _ h9 => h9) (fun u H locs hp18 hP hD hS => ?_)
  obtain ⟨a14, a15, a16⟩ := u
  have hP : va_P D cL [(h, .inr (1, [.ref q1, .ref q3, .ref q5, .int 0])), (q1, .inl (cQ2, 3, .inr (.inr (.inr (.inr f12))))), (q3, .inl (cQ4, 2, .inr (.inr (.inr (.inr (fun _ => none)))))), (q5, .inl (cZ, 2, .inl (fun _ => 0))), (q13, .inr (3, [.ref a14, .ref a15, .ref a16])), (a16, .inl (cI, 16, .inl (fun _ => -1)))] H := hP
  have hD : va_D A [(h, .inr (1, [.ref q1, .ref q3, .ref q5, .int 0])), (q1, .inl (cQ2, 3, .inr (.inr (.inr (.inr f12))))), (q3, .inl (cQ4, 2, .inr (.inr (.inr (.inr (fun _ => none)))))), (q5, .inl (cZ, 2, .inl (fun _ => 0))), (q13, .inr (3, [.ref a14, .ref a15, .ref a16])), (a16, .inl (cI, 16, .inl (fun _ => -1)))] := hD
  refine W.widen (k := 11) (n := 1069) (Nat.le_of_ble_eq_true rfl) (Nat.le_of_ble_eq_true rfl) ?_
  refine va_astq (r := ("TaleMachine$State", F_State, 3)) hx hb hK hP hD hS 1 3 4 3 rfl rfl rfl rfl (i := 1) (in_c (by decide)) d_History_init_46 (fun H locs hP hD hS => ?_)
  have hP : va_P D cL [(h, .inr (1, [.ref q1, .ref q3, .ref q5, .int 0])), (q1, .inl (cQ2, 3, .inr (.inr (.inr (.inr (va_up f12 (1 : Int32).toNatClampNeg (some q13))))))), (q3, .inl (cQ4, 2, .inr (.inr (.inr (.inr (fun _ => none)))))), (q5, .inl (cZ, 2, .inl (fun _ => 0))), (q13, .inr (3, [.ref a14, .ref a15, .ref a16])), (a16, .inl (cI, 16, .inl (fun _ => -1)))] H := hP
  have hD : va_D A [(h, .inr (1, [.ref q1, .ref q3, .ref q5, .int 0])), (q1, .inl (cQ2, 3, .inr (.inr (.inr (.inr (va_up f12 (1 : Int32).toNatClampNeg (some q13))))))), (q3, .inl (cQ4, 2, .inr (.inr (.inr (.inr (fun _ => none)))))), (q5, .inl (cZ, 2, .inl (fun _ => 0))), (q13, .inr (3, [.ref a14, .ref a15, .ref a16])), (a16, .inl (cI, 16, .inl (fun _ => -1)))] := hD
  generalize va_up f12 (1 : Int32).toNatClampNeg (some q13) = f19 at hP hD
  have hP := hP.sub (ws' := [(h, .inr (1, [.ref q1, .ref q3, .ref q5, .int 0])), (q1, .inl (cQ2, 3, .inr (.inr (.inr (.inr f19))))), (q3, .inl (cQ4, 2, .inr (.inr (.inr (.inr (fun _ => none)))))), (q5, .inl (cZ, 2, .inl (fun _ => 0)))]) [0, 1, 2, 3] rfl
  have hD := hD.sub (ws' := [(h, .inr (1, [.ref q1, .ref q3, .ref q5, .int 0])), (q1, .inl (cQ2, 3, .inr (.inr (.inr (.inr f19))))), (q3, .inl (cQ4, 2, .inr (.inr (.inr (.inr (fun _ => none)))))), (q5, .inl (cZ, 2, .inl (fun _ => 0)))]) [0, 1, 2, 3] (by decide) rfl
  refine lv_iinc (v := 2) (lv' := [(1, .int 2), (0, .ref h)]) hx hb d_History_init_47 hl (k := 0) rfl (by decide) (by decide) rfl (fun ls hl => ?_)
  refine lv_goto hx hb d_History_init_50 (tgt := 29) (by decide) ?_
  refine lv_iload_n hx hb d_History_init_29 rfl (lv_at hl 0 rfl) ?_
  refine lv_iconst (v := 3) hx hb d_History_init_30 (by decide) ?_
  refine lv_icmp_ge hx hb d_History_init_31 (tgt := 53) (by decide) (fun hz => absurd hz (by decide)) (fun _ => ?_)
  refine lv_aload_n hx hb d_History_init_34 rfl (lv_at hl 1 rfl) ?_
  refine va_get (D := D) (ci := 1) (v := .ref q1) (C := "TaleMachine$History") (T := F_History) (N := 4) hx hb hts in_History hown hK hP 0 rfl rfl 0 (by decide) (hts _ k_72) (fun _ h9 => h9) rfl d_History_init_35 ?_
  refine lv_iload_n hx hb d_History_init_38 rfl (lv_at hl 0 rfl) ?_
  refine va_new (ci := 3) (fs := [.null, .null, .null]) (C := "TaleMachine$State") (T := F_State) (N := 3) hx hb hts in_State t_State t_State_ok hown (hts _ k_71) (hts _ k_60) (hts _ k_61) hK hP hD hS hA rfl dv_State (Nat.le_of_ble_eq_true rfl) (Nat.le_of_ble_eq_true rfl) d_History_init_39 (fun q20 H hP hD hS => ?_)
  have hP : va_P D cL [(h, .inr (1, [.ref q1, .ref q3, .ref q5, .int 0])), (q1, .inl (cQ2, 3, .inr (.inr (.inr (.inr f19))))), (q3, .inl (cQ4, 2, .inr (.inr (.inr (.inr (fun _ => none)))))), (q5, .inl (cZ, 2, .inl (fun _ => 0))), (q20, .inr (3, [.null, .null, .null]))] H := hP
  have hD : va_D A [(h, .inr (1, [.ref q1, .ref q3, .ref q5, .int 0])), (q1, .inl (cQ2, 3, .inr (.inr (.inr (.inr f19))))), (q3, .inl (cQ4, 2, .inr (.inr (.inr (.inr (fun _ => none)))))), (q5, .inl (cZ, 2, .inl (fun _ => 0))), (q20, .inr (3, [.null, .null, .null]))] := hD
  refine W.widen (k := 12) (n := 1072) (Nat.le_of_ble_eq_true rfl) (Nat.le_of_ble_eq_true rfl) ?_
  refine lv_dup hx hb d_History_init_42 rfl ?_
  refine mv_v (va_runI (As := []) (rest := [.ref q20, .int 2, .ref q1]) ⟨hx, hb, hml, hown, hts⟩ (c_State_init l D cI cZ cJ q20 _ ) (cwI 0 hts (gIn k_62) rfl rfl rfl (hts _ k_61) (hts _ k_76) (hts _ k_64) rfl (by decide +kernel) ⟨Nat.le_of_ble_eq_true rfl, Nat.le_of_ble_eq_true rfl⟩) (pre_S (hP.sub [4] rfl) (hK.sub [0, 1, 2] rfl) (hD.sub [4] (by decide) rfl) hT) rfl rfl hl.1 rfl (lv_room (Nat.le_of_ble_eq_true rfl)) d_History_init_43 ⟨Nat.le_of_ble_eq_true rfl, Nat.le_of_ble_eq_true rfl⟩) hP hD hS hA [4] [0, 1, 2, 3] rfl rfl (by decide) (by decide) (wr := [(h, .inr (1, [.ref q1, .ref q3, .ref q5, .int 0])), (q1, .inl (cQ2, 3, .inr (.inr (.inr (.inr f19))))), (q3, .inl (cQ4, 2, .inr (.inr (.inr (.inr (fun _ => none)))))), (q5, .inl (cZ, 2, .inl (fun _ => 0)))]) (wn := fun u => match u with | (kd, it, pa) => [(q20, .inr (3, [.ref kd, .ref it, .ref pa])), (pa, .inl (cI, 16, .inl (fun _ => -1)))]) (fun _ _ h9 => h9) (fun u H locs hp25 hP hD hS => ?_)
  obtain ⟨a21, a22, a23⟩ := u
  have hP : va_P D cL [(h, .inr (1, [.ref q1, .ref q3, .ref q5, .int 0])), (q1, .inl (cQ2, 3, .inr (.inr (.inr (.inr f19))))), (q3, .inl (cQ4, 2, .inr (.inr (.inr (.inr (fun _ => none)))))), (q5, .inl (cZ, 2, .inl (fun _ => 0))), (q20, .inr (3, [.ref a21, .ref a22, .ref a23])), (a23, .inl (cI, 16, .inl (fun _ => -1)))] H := hP
  have hD : va_D A [(h, .inr (1, [.ref q1, .ref q3, .ref q5, .int 0])), (q1, .inl (cQ2, 3, .inr (.inr (.inr (.inr f19))))), (q3, .inl (cQ4, 2, .inr (.inr (.inr (.inr (fun _ => none)))))), (q5, .inl (cZ, 2, .inl (fun _ => 0))), (q20, .inr (3, [.ref a21, .ref a22, .ref a23])), (a23, .inl (cI, 16, .inl (fun _ => -1)))] := hD
  refine W.widen (k := 15) (n := 1600) (Nat.le_of_ble_eq_true rfl) (Nat.le_of_ble_eq_true rfl) ?_
  refine va_astq (r := ("TaleMachine$State", F_State, 3)) hx hb hK hP hD hS 1 3 4 3 rfl rfl rfl rfl (i := 2) (in_c (by decide)) d_History_init_46 (fun H locs hP hD hS => ?_)
  have hP : va_P D cL [(h, .inr (1, [.ref q1, .ref q3, .ref q5, .int 0])), (q1, .inl (cQ2, 3, .inr (.inr (.inr (.inr (va_up f19 (2 : Int32).toNatClampNeg (some q20))))))), (q3, .inl (cQ4, 2, .inr (.inr (.inr (.inr (fun _ => none)))))), (q5, .inl (cZ, 2, .inl (fun _ => 0))), (q20, .inr (3, [.ref a21, .ref a22, .ref a23])), (a23, .inl (cI, 16, .inl (fun _ => -1)))] H := hP
  have hD : va_D A [(h, .inr (1, [.ref q1, .ref q3, .ref q5, .int 0])), (q1, .inl (cQ2, 3, .inr (.inr (.inr (.inr (va_up f19 (2 : Int32).toNatClampNeg (some q20))))))), (q3, .inl (cQ4, 2, .inr (.inr (.inr (.inr (fun _ => none)))))), (q5, .inl (cZ, 2, .inl (fun _ => 0))), (q20, .inr (3, [.ref a21, .ref a22, .ref a23])), (a23, .inl (cI, 16, .inl (fun _ => -1)))] := hD
  generalize va_up f19 (2 : Int32).toNatClampNeg (some q20) = f26 at hP hD
  have hP := hP.sub (ws' := [(h, .inr (1, [.ref q1, .ref q3, .ref q5, .int 0])), (q1, .inl (cQ2, 3, .inr (.inr (.inr (.inr f26))))), (q3, .inl (cQ4, 2, .inr (.inr (.inr (.inr (fun _ => none)))))), (q5, .inl (cZ, 2, .inl (fun _ => 0)))]) [0, 1, 2, 3] rfl
  have hD := hD.sub (ws' := [(h, .inr (1, [.ref q1, .ref q3, .ref q5, .int 0])), (q1, .inl (cQ2, 3, .inr (.inr (.inr (.inr f26))))), (q3, .inl (cQ4, 2, .inr (.inr (.inr (.inr (fun _ => none)))))), (q5, .inl (cZ, 2, .inl (fun _ => 0)))]) [0, 1, 2, 3] (by decide) rfl
  refine lv_iinc (v := 3) (lv' := [(1, .int 3), (0, .ref h)]) hx hb d_History_init_47 hl (k := 0) rfl (by decide) (by decide) rfl (fun ls hl => ?_)
  refine lv_goto hx hb d_History_init_50 (tgt := 29) (by decide) ?_
  refine lv_iload_n hx hb d_History_init_29 rfl (lv_at hl 0 rfl) ?_
  refine lv_iconst (v := 3) hx hb d_History_init_30 (by decide) ?_
  refine lv_icmp_ge hx hb d_History_init_31 (tgt := 53) (by decide) (fun _ => ?_) (fun hz => absurd (by decide) hz)
  refine lv_iconst (v := 0) hx hb d_History_init_53 (by decide) ?_
  refine lv_istore_n (lv' := [(1, .int 0), (0, .ref h)]) hx hb d_History_init_54 rfl hl (by decide) rfl (fun ls hl => ?_)
  refine lv_iload_n hx hb d_History_init_55 rfl (lv_at hl 0 rfl) ?_
  refine lv_iconst (v := 2) hx hb d_History_init_56 (by decide) ?_
  refine lv_icmp_ge hx hb d_History_init_57 (tgt := 79) (by decide) (fun hz => absurd hz (by decide)) (fun _ => ?_)
  refine lv_aload_n hx hb d_History_init_60 rfl (lv_at hl 1 rfl) ?_
  refine va_get (D := D) (ci := 1) (v := .ref q3) (C := "TaleMachine$History") (T := F_History) (N := 4) hx hb hts in_History hown hK hP 0 rfl rfl 1 (by decide) (hts _ k_73) (fun _ h9 => h9) rfl d_History_init_61 ?_
  refine lv_iload_n hx hb d_History_init_64 rfl (lv_at hl 0 rfl) ?_
  refine va_new (ci := 3) (fs := [.null, .null, .null]) (C := "TaleMachine$State") (T := F_State) (N := 3) hx hb hts in_State t_State t_State_ok hown (hts _ k_71) (hts _ k_60) (hts _ k_61) hK hP hD hS hA rfl dv_State (Nat.le_of_ble_eq_true rfl) (Nat.le_of_ble_eq_true rfl) d_History_init_65 (fun q27 H hP hD hS => ?_)
  have hP : va_P D cL [(h, .inr (1, [.ref q1, .ref q3, .ref q5, .int 0])), (q1, .inl (cQ2, 3, .inr (.inr (.inr (.inr f26))))), (q3, .inl (cQ4, 2, .inr (.inr (.inr (.inr (fun _ => none)))))), (q5, .inl (cZ, 2, .inl (fun _ => 0))), (q27, .inr (3, [.null, .null, .null]))] H := hP
  have hD : va_D A [(h, .inr (1, [.ref q1, .ref q3, .ref q5, .int 0])), (q1, .inl (cQ2, 3, .inr (.inr (.inr (.inr f26))))), (q3, .inl (cQ4, 2, .inr (.inr (.inr (.inr (fun _ => none)))))), (q5, .inl (cZ, 2, .inl (fun _ => 0))), (q27, .inr (3, [.null, .null, .null]))] := hD
  refine W.widen (k := 16) (n := 1603) (Nat.le_of_ble_eq_true rfl) (Nat.le_of_ble_eq_true rfl) ?_
  refine lv_dup hx hb d_History_init_68 rfl ?_
  refine mv_v (va_runI (As := []) (rest := [.ref q27, .int 0, .ref q3]) ⟨hx, hb, hml, hown, hts⟩ (c_State_init l D cI cZ cJ q27 _ ) (cwI 0 hts (gIn k_62) rfl rfl rfl (hts _ k_61) (hts _ k_76) (hts _ k_64) rfl (by decide +kernel) ⟨Nat.le_of_ble_eq_true rfl, Nat.le_of_ble_eq_true rfl⟩) (pre_S (hP.sub [4] rfl) (hK.sub [0, 1, 2] rfl) (hD.sub [4] (by decide) rfl) hT) rfl rfl hl.1 rfl (lv_room (Nat.le_of_ble_eq_true rfl)) d_History_init_69 ⟨Nat.le_of_ble_eq_true rfl, Nat.le_of_ble_eq_true rfl⟩) hP hD hS hA [4] [0, 1, 2, 3] rfl rfl (by decide) (by decide) (wr := [(h, .inr (1, [.ref q1, .ref q3, .ref q5, .int 0])), (q1, .inl (cQ2, 3, .inr (.inr (.inr (.inr f26))))), (q3, .inl (cQ4, 2, .inr (.inr (.inr (.inr (fun _ => none)))))), (q5, .inl (cZ, 2, .inl (fun _ => 0)))]) (wn := fun u => match u with | (kd, it, pa) => [(q27, .inr (3, [.ref kd, .ref it, .ref pa])), (pa, .inl (cI, 16, .inl (fun _ => -1)))]) (fun _ _ h9 => h9) (fun u H locs hp32 hP hD hS => ?_)
  obtain ⟨a28, a29, a30⟩ := u
  have hP : va_P D cL [(h, .inr (1, [.ref q1, .ref q3, .ref q5, .int 0])), (q1, .inl (cQ2, 3, .inr (.inr (.inr (.inr f26))))), (q3, .inl (cQ4, 2, .inr (.inr (.inr (.inr (fun _ => none)))))), (q5, .inl (cZ, 2, .inl (fun _ => 0))), (q27, .inr (3, [.ref a28, .ref a29, .ref a30])), (a30, .inl (cI, 16, .inl (fun _ => -1)))] H := hP
  have hD : va_D A [(h, .inr (1, [.ref q1, .ref q3, .ref q5, .int 0])), (q1, .inl (cQ2, 3, .inr (.inr (.inr (.inr f26))))), (q3, .inl (cQ4, 2, .inr (.inr (.inr (.inr (fun _ => none)))))), (q5, .inl (cZ, 2, .inl (fun _ => 0))), (q27, .inr (3, [.ref a28, .ref a29, .ref a30])), (a30, .inl (cI, 16, .inl (fun _ => -1)))] := hD
  refine W.widen (k := 19) (n := 2131) (Nat.le_of_ble_eq_true rfl) (Nat.le_of_ble_eq_true rfl) ?_
  refine va_astq (r := ("TaleMachine$State", F_State, 3)) hx hb hK hP hD hS 2 4 4 3 rfl rfl rfl rfl (i := 0) (in_c (by decide)) d_History_init_72 (fun H locs hP hD hS => ?_)
  have hP : va_P D cL [(h, .inr (1, [.ref q1, .ref q3, .ref q5, .int 0])), (q1, .inl (cQ2, 3, .inr (.inr (.inr (.inr f26))))), (q3, .inl (cQ4, 2, .inr (.inr (.inr (.inr (va_up (fun _ => none) (0 : Int32).toNatClampNeg (some q27))))))), (q5, .inl (cZ, 2, .inl (fun _ => 0))), (q27, .inr (3, [.ref a28, .ref a29, .ref a30])), (a30, .inl (cI, 16, .inl (fun _ => -1)))] H := hP
  have hD : va_D A [(h, .inr (1, [.ref q1, .ref q3, .ref q5, .int 0])), (q1, .inl (cQ2, 3, .inr (.inr (.inr (.inr f26))))), (q3, .inl (cQ4, 2, .inr (.inr (.inr (.inr (va_up (fun _ => none) (0 : Int32).toNatClampNeg (some q27))))))), (q5, .inl (cZ, 2, .inl (fun _ => 0))), (q27, .inr (3, [.ref a28, .ref a29, .ref a30])), (a30, .inl (cI, 16, .inl (fun _ => -1)))] := hD
  generalize va_up (fun _ => none) (0 : Int32).toNatClampNeg (some q27) = f33 at hP hD
  have hP := hP.sub (ws' := [(h, .inr (1, [.ref q1, .ref q3, .ref q5, .int 0])), (q1, .inl (cQ2, 3, .inr (.inr (.inr (.inr f26))))), (q3, .inl (cQ4, 2, .inr (.inr (.inr (.inr f33))))), (q5, .inl (cZ, 2, .inl (fun _ => 0)))]) [0, 1, 2, 3] rfl
  have hD := hD.sub (ws' := [(h, .inr (1, [.ref q1, .ref q3, .ref q5, .int 0])), (q1, .inl (cQ2, 3, .inr (.inr (.inr (.inr f26))))), (q3, .inl (cQ4, 2, .inr (.inr (.inr (.inr f33))))), (q5, .inl (cZ, 2, .inl (fun _ => 0)))]) [0, 1, 2, 3] (by decide) rfl
  refine lv_iinc (v := 1) (lv' := [(1, .int 1), (0, .ref h)]) hx hb d_History_init_73 hl (k := 0) rfl (by decide) (by decide) rfl (fun ls hl => ?_)
  refine lv_goto hx hb d_History_init_76 (tgt := 55) (by decide) ?_
  refine lv_iload_n hx hb d_History_init_55 rfl (lv_at hl 0 rfl) ?_
  refine lv_iconst (v := 2) hx hb d_History_init_56 (by decide) ?_
  refine lv_icmp_ge hx hb d_History_init_57 (tgt := 79) (by decide) (fun hz => absurd hz (by decide)) (fun _ => ?_)
  refine lv_aload_n hx hb d_History_init_60 rfl (lv_at hl 1 rfl) ?_
  refine va_get (D := D) (ci := 1) (v := .ref q3) (C := "TaleMachine$History") (T := F_History) (N := 4) hx hb hts in_History hown hK hP 0 rfl rfl 1 (by decide) (hts _ k_73) (fun _ h9 => h9) rfl d_History_init_61 ?_
  refine lv_iload_n hx hb d_History_init_64 rfl (lv_at hl 0 rfl) ?_
  refine va_new (ci := 3) (fs := [.null, .null, .null]) (C := "TaleMachine$State") (T := F_State) (N := 3) hx hb hts in_State t_State t_State_ok hown (hts _ k_71) (hts _ k_60) (hts _ k_61) hK hP hD hS hA rfl dv_State (Nat.le_of_ble_eq_true rfl) (Nat.le_of_ble_eq_true rfl) d_History_init_65 (fun q34 H hP hD hS => ?_)
  have hP : va_P D cL [(h, .inr (1, [.ref q1, .ref q3, .ref q5, .int 0])), (q1, .inl (cQ2, 3, .inr (.inr (.inr (.inr f26))))), (q3, .inl (cQ4, 2, .inr (.inr (.inr (.inr f33))))), (q5, .inl (cZ, 2, .inl (fun _ => 0))), (q34, .inr (3, [.null, .null, .null]))] H := hP
  have hD : va_D A [(h, .inr (1, [.ref q1, .ref q3, .ref q5, .int 0])), (q1, .inl (cQ2, 3, .inr (.inr (.inr (.inr f26))))), (q3, .inl (cQ4, 2, .inr (.inr (.inr (.inr f33))))), (q5, .inl (cZ, 2, .inl (fun _ => 0))), (q34, .inr (3, [.null, .null, .null]))] := hD
  refine W.widen (k := 20) (n := 2134) (Nat.le_of_ble_eq_true rfl) (Nat.le_of_ble_eq_true rfl) ?_
  refine lv_dup hx hb d_History_init_68 rfl ?_
  refine mv_v (va_runI (As := []) (rest := [.ref q34, .int 1, .ref q3]) ⟨hx, hb, hml, hown, hts⟩ (c_State_init l D cI cZ cJ q34 _ ) (cwI 0 hts (gIn k_62) rfl rfl rfl (hts _ k_61) (hts _ k_76) (hts _ k_64) rfl (by decide +kernel) ⟨Nat.le_of_ble_eq_true rfl, Nat.le_of_ble_eq_true rfl⟩) (pre_S (hP.sub [4] rfl) (hK.sub [0, 1, 2] rfl) (hD.sub [4] (by decide) rfl) hT) rfl rfl hl.1 rfl (lv_room (Nat.le_of_ble_eq_true rfl)) d_History_init_69 ⟨Nat.le_of_ble_eq_true rfl, Nat.le_of_ble_eq_true rfl⟩) hP hD hS hA [4] [0, 1, 2, 3] rfl rfl (by decide) (by decide) (wr := [(h, .inr (1, [.ref q1, .ref q3, .ref q5, .int 0])), (q1, .inl (cQ2, 3, .inr (.inr (.inr (.inr f26))))), (q3, .inl (cQ4, 2, .inr (.inr (.inr (.inr f33))))), (q5, .inl (cZ, 2, .inl (fun _ => 0)))]) (wn := fun u => match u with | (kd, it, pa) => [(q34, .inr (3, [.ref kd, .ref it, .ref pa])), (pa, .inl (cI, 16, .inl (fun _ => -1)))]) (fun _ _ h9 => h9) (fun u H locs hp39 hP hD hS => ?_)
  obtain ⟨a35, a36, a37⟩ := u
  have hP : va_P D cL [(h, .inr (1, [.ref q1, .ref q3, .ref q5, .int 0])), (q1, .inl (cQ2, 3, .inr (.inr (.inr (.inr f26))))), (q3, .inl (cQ4, 2, .inr (.inr (.inr (.inr f33))))), (q5, .inl (cZ, 2, .inl (fun _ => 0))), (q34, .inr (3, [.ref a35, .ref a36, .ref a37])), (a37, .inl (cI, 16, .inl (fun _ => -1)))] H := hP
  have hD : va_D A [(h, .inr (1, [.ref q1, .ref q3, .ref q5, .int 0])), (q1, .inl (cQ2, 3, .inr (.inr (.inr (.inr f26))))), (q3, .inl (cQ4, 2, .inr (.inr (.inr (.inr f33))))), (q5, .inl (cZ, 2, .inl (fun _ => 0))), (q34, .inr (3, [.ref a35, .ref a36, .ref a37])), (a37, .inl (cI, 16, .inl (fun _ => -1)))] := hD
  refine W.widen (k := 23) (n := 2662) (Nat.le_of_ble_eq_true rfl) (Nat.le_of_ble_eq_true rfl) ?_
  refine va_astq (r := ("TaleMachine$State", F_State, 3)) hx hb hK hP hD hS 2 4 4 3 rfl rfl rfl rfl (i := 1) (in_c (by decide)) d_History_init_72 (fun H locs hP hD hS => ?_)
  have hP : va_P D cL [(h, .inr (1, [.ref q1, .ref q3, .ref q5, .int 0])), (q1, .inl (cQ2, 3, .inr (.inr (.inr (.inr f26))))), (q3, .inl (cQ4, 2, .inr (.inr (.inr (.inr (va_up f33 (1 : Int32).toNatClampNeg (some q34))))))), (q5, .inl (cZ, 2, .inl (fun _ => 0))), (q34, .inr (3, [.ref a35, .ref a36, .ref a37])), (a37, .inl (cI, 16, .inl (fun _ => -1)))] H := hP
  have hD : va_D A [(h, .inr (1, [.ref q1, .ref q3, .ref q5, .int 0])), (q1, .inl (cQ2, 3, .inr (.inr (.inr (.inr f26))))), (q3, .inl (cQ4, 2, .inr (.inr (.inr (.inr (va_up f33 (1 : Int32).toNatClampNeg (some q34))))))), (q5, .inl (cZ, 2, .inl (fun _ => 0))), (q34, .inr (3, [.ref a35, .ref a36, .ref a37])), (a37, .inl (cI, 16, .inl (fun _ => -1)))] := hD
  generalize va_up f33 (1 : Int32).toNatClampNeg (some q34) = f40 at hP hD
  have hP := hP.sub (ws' := [(h, .inr (1, [.ref q1, .ref q3, .ref q5, .int 0])), (q1, .inl (cQ2, 3, .inr (.inr (.inr (.inr f26))))), (q3, .inl (cQ4, 2, .inr (.inr (.inr (.inr f40))))), (q5, .inl (cZ, 2, .inl (fun _ => 0)))]) [0, 1, 2, 3] rfl
  have hD := hD.sub (ws' := [(h, .inr (1, [.ref q1, .ref q3, .ref q5, .int 0])), (q1, .inl (cQ2, 3, .inr (.inr (.inr (.inr f26))))), (q3, .inl (cQ4, 2, .inr (.inr (.inr (.inr f40))))), (q5, .inl (cZ, 2, .inl (fun _ => 0)))]) [0, 1, 2, 3] (by decide) rfl
  refine lv_iinc (v := 2) (lv' := [(1, .int 2), (0, .ref h)]) hx hb d_History_init_73 hl (k := 0) rfl (by decide) (by decide) rfl (fun ls hl => ?_)
  refine lv_goto hx hb d_History_init_76 (tgt := 55) (by decide) ?_
  refine lv_iload_n hx hb d_History_init_55 rfl (lv_at hl 0 rfl) ?_
  refine lv_iconst (v := 2) hx hb d_History_init_56 (by decide) ?_
  refine lv_icmp_ge hx hb d_History_init_57 (tgt := 79) (by decide) (fun _ => ?_) (fun hz => absurd (by decide) hz)
  exact end_v hx hb hr hlocks hS (u := (q1, q3, q5)) (at_end (hP.sub (ws' := [(h, .inr (1, [.ref q1, .ref q3, .ref q5, .int 0])), (q5, .inl (cZ, 2, .inl (fun _ => 0)))]) [0, 3] rfl) (hD.sub (ws' := [(h, .inr (1, [.ref q1, .ref q3, .ref q5, .int 0])), (q5, .inl (cZ, 2, .inl (fun _ => 0)))]) [0, 3] (by decide) rfl)) (trivial) (Nat.le_of_ble_eq_true rfl) (Nat.le_of_ble_eq_true rfl) d_History_init_79

set_option maxHeartbeats 4000000 in
set_option maxRecDepth 100000 in
theorem c_Teller_init (l : Launch) (D : va_G) (cI cZ cJ : ClassId) (h sc wo hi : Nat) (sz : Nat)  : Met l y_Teller_init (.code y_Teller_init prog_6_method_1_code 5 none :: AW) ({ frames := 2, cells := 18, slots := 263, locals := 35 }) (va_Pc [.ref h, .ref sc, .ref wo, .ref hi] (pre_ D [(h, .inr (4, [.null, .null, .null, .null, .null, .null, .null, .int 0, .int 0]))] [(cI, .int), (cZ, .boolean), (cJ, .long)] sz)) (va_Qv (fun (u : Nat × Nat × Nat × Nat × Nat × Nat × Nat × Nat × Nat × Nat) => True) (fun u t => match u with | (fr, va, sa, re, vk, vi, sk, si, rk, ri) => post_ D (va_A [(h, .inr (4, [.null, .null, .null, .null, .null, .null, .null, .int 0, .int 0]))] sz) [(h, .inr (4, [.ref sc, .ref wo, .ref hi, .ref fr, .ref va, .ref sa, .ref re, .int 0, .int (-1)])), (va, .inr (5, [.ref vk, .ref vi, .int 0])), (sa, .inr (5, [.ref sk, .ref si, .int 0])), (re, .inr (5, [.ref rk, .ref ri, .int 0]))] t) (va_A [(h, .inr (4, [.null, .null, .null, .null, .null, .null, .null, .int 0, .int 0]))] sz)) 18 263 (va_A [(h, .inr (4, [.null, .null, .null, .null, .null, .null, .null, .int 0, .int 0]))] sz) := by
  refine Met.ofW (cc := prog_6_method_1_code) (maxL := 5) (ret := none) (by decide) rfl ?_
  intro p e s m args below meth c s₁ B hml hv
  obtain ⟨rfl, rfl, hP, hK, hD0, hT⟩ := hv
  have hx := B.exec
  have hb := B.bytes
  have hr := B.returns
  have hts0 := atoms_spec (ws := .code y_Teller_init prog_6_method_1_code 5 none :: AW) B.pre
  have hts : ∀ w ∈ AW, w.before [.ref h, .ref sc, .ref wo, .ref hi].toArray s = true := fun w h => hts0 w (List.mem_cons_of_mem _ h)
  have hown : s.vm.findClass "TaleMachine$Teller" = some m.cls := findClass_of_methodNamed B.named
  have hlocks := B.notSynchronized
  have hin : meth.name = "<init>" := (name_of_methodNamed B.named B.method).1
  have hD := hD0.self (sz := s.heap.size)
  generalize hAe : va_A [(h, .inr (4, [.null, .null, .null, .null, .null, .null, .null, .int 0, .int 0]))] s.heap.size = A at hD ⊢
  have hA : ∀ q : Nat, s.heap.size ≤ q → A q := fun q h => by rw [← hAe]; exact Or.inr h
  have hS : va_S A s.heap s.heap [] := va_S.rf
  have hl := lv_entry ([.ref h, .ref sc, .ref wo, .ref hi]) (n := 5) (Nat.le_of_ble_eq_true rfl)
  rw [lg_entry_eq]
  generalize (lg_sl ([.ref h, .ref sc, .ref wo, .ref hi]) ++ List.replicate (5 - (lg_sl ([.ref h, .ref sc, .ref wo, .ref hi])).length) Slot.unset).toArray = ls at hl ⊢
  have hl : lv_has ls 5 [(0, .ref h), (1, .ref sc), (2, .ref wo), (3, .ref hi)] := hl
  refine lv_aload_n hx hb d_Teller_init_0 rfl (lv_at hl 0 rfl) ?_
  refine W.objInit hx hb hown (hts _ k_77) (hts _ k_42) (hts _ k_43) rfl (by rw [hml]; exact hl.1) rfl d_Teller_init_1 (Nat.le_of_ble_eq_true rfl) (Nat.le_of_ble_eq_true rfl) ?_
  refine W.eq (g2 := F0 m 4 ls []) rfl ?_
  refine lv_aload_n hx hb d_Teller_init_4 rfl (lv_at hl 0 rfl) ?_
  refine lv_bipush (v := 8) hx hb d_Teller_init_5 (by decide) ?_
  refine va_newq hx hb hown (hts _ k_78) (Tb_ao_Frame hT) hK hP hD hS hA (n := 8) (N' := 8) (by decide) (by decide) (by decide) (Nat.le_of_ble_eq_true rfl) (Nat.le_of_ble_eq_true rfl) d_Teller_init_7 (fun q1 cQ2 H hK hP hD hS => ?_)
  have hK : va_K D cL [(cI, .int), (cZ, .boolean), (cJ, .long), (cQ2, .object "TaleMachine$Frame")] s := hK
  have hP : va_P D cL [(h, .inr (4, [.null, .null, .null, .null, .null, .null, .null, .int 0, .int 0])), (q1, .inl (cQ2, 8, .inr (.inr (.inr (.inr (fun _ => none))))))] H := hP
  have hD : va_D A [(h, .inr (4, [.null, .null, .null, .null, .null, .null, .null, .int 0, .int 0])), (q1, .inl (cQ2, 8, .inr (.inr (.inr (.inr (fun _ => none))))))] := hD
  refine W.widen (k := 1) (n := 8) (Nat.le_of_ble_eq_true rfl) (Nat.le_of_ble_eq_true rfl) ?_
  refine va_putF (D := D) (ci := 4) (v := .ref q1) (ty := .array (.object "TaleMachine$Frame")) (C := "TaleMachine$Teller") (T := F_Teller) (N := 9) hx hb hts in_Teller t_Teller t_Teller_ok n_Teller hown hK hP hD hS 0 rfl rfl 3 (by decide) (hts _ k_79) (fun _ h9 => h9) rfl hin rfl (by decide +kernel) rfl rfl (Nat.le_of_ble_eq_true rfl) d_Teller_init_10 (fun H locs hP hD hS => ?_)
  have hP : va_P D cL [(h, .inr (4, [.null, .null, .null, .ref q1, .null, .null, .null, .int 0, .int 0])), (q1, .inl (cQ2, 8, .inr (.inr (.inr (.inr (fun _ => none))))))] H := hP
  have hD : va_D A [(h, .inr (4, [.null, .null, .null, .ref q1, .null, .null, .null, .int 0, .int 0])), (q1, .inl (cQ2, 8, .inr (.inr (.inr (.inr (fun _ => none))))))] := hD
  refine lv_aload_n hx hb d_Teller_init_13 rfl (lv_at hl 0 rfl) ?_
  refine va_new (ci := 5) (fs := [.null, .null, .int 0]) (C := "TaleMachine$Values") (T := F_Values) (N := 3) hx hb hts in_Values t_Values t_Values_ok hown (hts _ k_80) (hts _ k_81) (hts _ k_82) hK hP hD hS hA rfl dv_Values (Nat.le_of_ble_eq_true rfl) (Nat.le_of_ble_eq_true rfl) d_Teller_init_14 (fun q3 H hP hD hS => ?_)
  have hP : va_P D cL [(h, .inr (4, [.null, .null, .null, .ref q1, .null, .null, .null, .int 0, .int 0])), (q1, .inl (cQ2, 8, .inr (.inr (.inr (.inr (fun _ => none)))))), (q3, .inr (5, [.null, .null, .int 0]))] H := hP
  have hD : va_D A [(h, .inr (4, [.null, .null, .null, .ref q1, .null, .null, .null, .int 0, .int 0])), (q1, .inl (cQ2, 8, .inr (.inr (.inr (.inr (fun _ => none)))))), (q3, .inr (5, [.null, .null, .int 0]))] := hD
  refine W.widen (k := 2) (n := 11) (Nat.le_of_ble_eq_true rfl) (Nat.le_of_ble_eq_true rfl) ?_
  refine lv_dup hx hb d_Teller_init_17 rfl ?_
  refine lv_bipush (v := 40) hx hb d_Teller_init_18 (by decide) ?_
  refine mv_v (va_runI (As := [.int 40]) (rest := [.ref q3, .ref h]) ⟨hx, hb, hml, hown, hts⟩ (c_Values_init_40 l D cI cZ cJ q3 _ ) (cwI 1 hts (gIn k_83) rfl rfl rfl (hts _ k_82) (hts _ k_84) (hts _ k_85) rfl (by decide +kernel) ⟨Nat.le_of_ble_eq_true rfl, Nat.le_of_ble_eq_true rfl⟩) (pre_S (hP.sub [2] rfl) (hK.sub [0, 1, 2] rfl) (hD.sub [2] (by decide) rfl) hT) rfl rfl hl.1 rfl (lv_room (Nat.le_of_ble_eq_true rfl)) d_Teller_init_20 ⟨Nat.le_of_ble_eq_true rfl, Nat.le_of_ble_eq_true rfl⟩) hP hD hS hA [2] [0, 1] rfl rfl (by decide) (by decide) (wr := [(h, .inr (4, [.null, .null, .null, .ref q1, .null, .null, .null, .int 0, .int 0])), (q1, .inl (cQ2, 8, .inr (.inr (.inr (.inr (fun _ => none))))))]) (wn := fun u => match u with | (vk, vi) => [(q3, .inr (5, [.ref vk, .ref vi, .int 0]))]) (fun _ _ h9 => h9) (fun u H locs hp7 hP hD hS => ?_)
  obtain ⟨a4, a5⟩ := u
  have hP : va_P D cL [(h, .inr (4, [.null, .null, .null, .ref q1, .null, .null, .null, .int 0, .int 0])), (q1, .inl (cQ2, 8, .inr (.inr (.inr (.inr (fun _ => none)))))), (q3, .inr (5, [.ref a4, .ref a5, .int 0]))] H := hP
  have hD : va_D A [(h, .inr (4, [.null, .null, .null, .ref q1, .null, .null, .null, .int 0, .int 0])), (q1, .inl (cQ2, 8, .inr (.inr (.inr (.inr (fun _ => none)))))), (q3, .inr (5, [.ref a4, .ref a5, .int 0]))] := hD
  refine W.widen (k := 4) (n := 91) (Nat.le_of_ble_eq_true rfl) (Nat.le_of_ble_eq_true rfl) ?_
  refine va_putF (D := D) (ci := 4) (v := .ref q3) (ty := .object "TaleMachine$Values") (C := "TaleMachine$Teller") (T := F_Teller) (N := 9) hx hb hts in_Teller t_Teller t_Teller_ok n_Teller hown hK hP hD hS 0 rfl rfl 4 (by decide) (hts _ k_86) (fun _ h9 => h9) rfl hin rfl (by decide +kernel) rfl rfl (Nat.le_of_ble_eq_true rfl) d_Teller_init_23 (fun H locs hP hD hS => ?_)
  have hP : va_P D cL [(h, .inr (4, [.null, .null, .null, .ref q1, .ref q3, .null, .null, .int 0, .int 0])), (q1, .inl (cQ2, 8, .inr (.inr (.inr (.inr (fun _ => none)))))), (q3, .inr (5, [.ref a4, .ref a5, .int 0]))] H := hP
  have hD : va_D A [(h, .inr (4, [.null, .null, .null, .ref q1, .ref q3, .null, .null, .int 0, .int 0])), (q1, .inl (cQ2, 8, .inr (.inr (.inr (.inr (fun _ => none)))))), (q3, .inr (5, [.ref a4, .ref a5, .int 0]))] := hD
  refine lv_aload_n hx hb d_Teller_init_26 rfl (lv_at hl 0 rfl) ?_
  refine va_new (ci := 5) (fs := [.null, .null, .int 0]) (C := "TaleMachine$Values") (T := F_Values) (N := 3) hx hb hts in_Values t_Values t_Values_ok hown (hts _ k_80) (hts _ k_81) (hts _ k_82) hK hP hD hS hA rfl dv_Values (Nat.le_of_ble_eq_true rfl) (Nat.le_of_ble_eq_true rfl) d_Teller_init_27 (fun q8 H hP hD hS => ?_)
  have hP : va_P D cL [(h, .inr (4, [.null, .null, .null, .ref q1, .ref q3, .null, .null, .int 0, .int 0])), (q1, .inl (cQ2, 8, .inr (.inr (.inr (.inr (fun _ => none)))))), (q3, .inr (5, [.ref a4, .ref a5, .int 0])), (q8, .inr (5, [.null, .null, .int 0]))] H := hP
  have hD : va_D A [(h, .inr (4, [.null, .null, .null, .ref q1, .ref q3, .null, .null, .int 0, .int 0])), (q1, .inl (cQ2, 8, .inr (.inr (.inr (.inr (fun _ => none)))))), (q3, .inr (5, [.ref a4, .ref a5, .int 0])), (q8, .inr (5, [.null, .null, .int 0]))] := hD
  refine W.widen (k := 5) (n := 94) (Nat.le_of_ble_eq_true rfl) (Nat.le_of_ble_eq_true rfl) ?_
  refine lv_dup hx hb d_Teller_init_30 rfl ?_
  refine lv_bipush (v := 50) hx hb d_Teller_init_31 (by decide) ?_
  refine mv_v (va_runI (As := [.int 50]) (rest := [.ref q8, .ref h]) ⟨hx, hb, hml, hown, hts⟩ (c_Values_init_50 l D cI cZ cJ q8 _ ) (cwI 1 hts (gIn k_83) rfl rfl rfl (hts _ k_82) (hts _ k_84) (hts _ k_85) rfl (by decide +kernel) ⟨Nat.le_of_ble_eq_true rfl, Nat.le_of_ble_eq_true rfl⟩) (pre_S (hP.sub [3] rfl) (hK.sub [0, 1, 2] rfl) (hD.sub [3] (by decide) rfl) hT) rfl rfl hl.1 rfl (lv_room (Nat.le_of_ble_eq_true rfl)) d_Teller_init_33 ⟨Nat.le_of_ble_eq_true rfl, Nat.le_of_ble_eq_true rfl⟩) hP hD hS hA [3] [0, 1, 2] rfl rfl (by decide) (by decide) (wr := [(h, .inr (4, [.null, .null, .null, .ref q1, .ref q3, .null, .null, .int 0, .int 0])), (q1, .inl (cQ2, 8, .inr (.inr (.inr (.inr (fun _ => none)))))), (q3, .inr (5, [.ref a4, .ref a5, .int 0]))]) (wn := fun u => match u with | (vk, vi) => [(q8, .inr (5, [.ref vk, .ref vi, .int 0]))]) (fun _ _ h9 => h9) (fun u H locs hp12 hP hD hS => ?_)
  obtain ⟨a9, a10⟩ := u
  have hP : va_P D cL [(h, .inr (4, [.null, .null, .null, .ref q1, .ref q3, .null, .null, .int 0, .int 0])), (q1, .inl (cQ2, 8, .inr (.inr (.inr (.inr (fun _ => none)))))), (q3, .inr (5, [.ref a4, .ref a5, .int 0])), (q8, .inr (5, [.ref a9, .ref a10, .int 0]))] H := hP
  have hD : va_D A [(h, .inr (4, [.null, .null, .null, .ref q1, .ref q3, .null, .null, .int 0, .int 0])), (q1, .inl (cQ2, 8, .inr (.inr (.inr (.inr (fun _ => none)))))), (q3, .inr (5, [.ref a4, .ref a5, .int 0])), (q8, .inr (5, [.ref a9, .ref a10, .int 0]))] := hD
  refine W.widen (k := 7) (n := 194) (Nat.le_of_ble_eq_true rfl) (Nat.le_of_ble_eq_true rfl) ?_
  refine va_putF (D := D) (ci := 4) (v := .ref q8) (ty := .object "TaleMachine$Values") (C := "TaleMachine$Teller") (T := F_Teller) (N := 9) hx hb hts in_Teller t_Teller t_Teller_ok n_Teller hown hK hP hD hS 0 rfl rfl 5 (by decide) (hts _ k_87) (fun _ h9 => h9) rfl hin rfl (by decide +kernel) rfl rfl (Nat.le_of_ble_eq_true rfl) d_Teller_init_36 (fun H locs hP hD hS => ?_)
  have hP : va_P D cL [(h, .inr (4, [.null, .null, .null, .ref q1, .ref q3, .ref q8, .null, .int 0, .int 0])), (q1, .inl (cQ2, 8, .inr (.inr (.inr (.inr (fun _ => none)))))), (q3, .inr (5, [.ref a4, .ref a5, .int 0])), (q8, .inr (5, [.ref a9, .ref a10, .int 0]))] H := hP
  have hD : va_D A [(h, .inr (4, [.null, .null, .null, .ref q1, .ref q3, .ref q8, .null, .int 0, .int 0])), (q1, .inl (cQ2, 8, .inr (.inr (.inr (.inr (fun _ => none)))))), (q3, .inr (5, [.ref a4, .ref a5, .int 0])), (q8, .inr (5, [.ref a9, .ref a10, .int 0]))] := hD
  refine lv_aload_n hx hb d_Teller_init_39 rfl (lv_at hl 0 rfl) ?_
  refine va_new (ci := 5) (fs := [.null, .null, .int 0]) (C := "TaleMachine$Values") (T := F_Values) (N := 3) hx hb hts in_Values t_Values t_Values_ok hown (hts _ k_80) (hts _ k_81) (hts _ k_82) hK hP hD hS hA rfl dv_Values (Nat.le_of_ble_eq_true rfl) (Nat.le_of_ble_eq_true rfl) d_Teller_init_40 (fun q13 H hP hD hS => ?_)
  have hP : va_P D cL [(h, .inr (4, [.null, .null, .null, .ref q1, .ref q3, .ref q8, .null, .int 0, .int 0])), (q1, .inl (cQ2, 8, .inr (.inr (.inr (.inr (fun _ => none)))))), (q3, .inr (5, [.ref a4, .ref a5, .int 0])), (q8, .inr (5, [.ref a9, .ref a10, .int 0])), (q13, .inr (5, [.null, .null, .int 0]))] H := hP
  have hD : va_D A [(h, .inr (4, [.null, .null, .null, .ref q1, .ref q3, .ref q8, .null, .int 0, .int 0])), (q1, .inl (cQ2, 8, .inr (.inr (.inr (.inr (fun _ => none)))))), (q3, .inr (5, [.ref a4, .ref a5, .int 0])), (q8, .inr (5, [.ref a9, .ref a10, .int 0])), (q13, .inr (5, [.null, .null, .int 0]))] := hD
  refine W.widen (k := 8) (n := 197) (Nat.le_of_ble_eq_true rfl) (Nat.le_of_ble_eq_true rfl) ?_
  refine lv_dup hx hb d_Teller_init_43 rfl ?_
  refine lv_iconst (v := 1) hx hb d_Teller_init_44 (by decide) ?_
  refine mv_v (va_runI (As := [.int 1]) (rest := [.ref q13, .ref h]) ⟨hx, hb, hml, hown, hts⟩ (c_Values_init_1 l D cI cZ cJ q13 _ ) (cwI 1 hts (gIn k_83) rfl rfl rfl (hts _ k_82) (hts _ k_84) (hts _ k_85) rfl (by decide +kernel) ⟨Nat.le_of_ble_eq_true rfl, Nat.le_of_ble_eq_true rfl⟩) (pre_S (hP.sub [4] rfl) (hK.sub [0, 1, 2] rfl) (hD.sub [4] (by decide) rfl) hT) rfl rfl hl.1 rfl (lv_room (Nat.le_of_ble_eq_true rfl)) d_Teller_init_45 ⟨Nat.le_of_ble_eq_true rfl, Nat.le_of_ble_eq_true rfl⟩) hP hD hS hA [4] [0, 1, 2, 3] rfl rfl (by decide) (by decide) (wr := [(h, .inr (4, [.null, .null, .null, .ref q1, .ref q3, .ref q8, .null, .int 0, .int 0])), (q1, .inl (cQ2, 8, .inr (.inr (.inr (.inr (fun _ => none)))))), (q3, .inr (5, [.ref a4, .ref a5, .int 0])), (q8, .inr (5, [.ref a9, .ref a10, .int 0]))]) (wn := fun u => match u with | (vk, vi) => [(q13, .inr (5, [.ref vk, .ref vi, .int 0]))]) (fun _ _ h9 => h9) (fun u H locs hp17 hP hD hS => ?_)
  obtain ⟨a14, a15⟩ := u
  have hP : va_P D cL [(h, .inr (4, [.null, .null, .null, .ref q1, .ref q3, .ref q8, .null, .int 0, .int 0])), (q1, .inl (cQ2, 8, .inr (.inr (.inr (.inr (fun _ => none)))))), (q3, .inr (5, [.ref a4, .ref a5, .int 0])), (q8, .inr (5, [.ref a9, .ref a10, .int 0])), (q13, .inr (5, [.ref a14, .ref a15, .int 0]))] H := hP
  have hD : va_D A [(h, .inr (4, [.null, .null, .null, .ref q1, .ref q3, .ref q8, .null, .int 0, .int 0])), (q1, .inl (cQ2, 8, .inr (.inr (.inr (.inr (fun _ => none)))))), (q3, .inr (5, [.ref a4, .ref a5, .int 0])), (q8, .inr (5, [.ref a9, .ref a10, .int 0])), (q13, .inr (5, [.ref a14, .ref a15, .int 0]))] := hD
  refine W.widen (k := 10) (n := 199) (Nat.le_of_ble_eq_true rfl) (Nat.le_of_ble_eq_true rfl) ?_
  refine va_putF (D := D) (ci := 4) (v := .ref q13) (ty := .object "TaleMachine$Values") (C := "TaleMachine$Teller") (T := F_Teller) (N := 9) hx hb hts in_Teller t_Teller t_Teller_ok n_Teller hown hK hP hD hS 0 rfl rfl 6 (by decide) (hts _ k_88) (fun _ h9 => h9) rfl hin rfl (by decide +kernel) rfl rfl (Nat.le_of_ble_eq_true rfl) d_Teller_init_48 (fun H locs hP hD hS => ?_)
  have hP : va_P D cL [(h, .inr (4, [.null, .null, .null, .ref q1, .ref q3, .ref q8, .ref q13, .int 0, .int 0])), (q1, .inl (cQ2, 8, .inr (.inr (.inr (.inr (fun _ => none)))))), (q3, .inr (5, [.ref a4, .ref a5, .int 0])), (q8, .inr (5, [.ref a9, .ref a10, .int 0])), (q13, .inr (5, [.ref a14, .ref a15, .int 0]))] H := hP
  have hD : va_D A [(h, .inr (4, [.null, .null, .null, .ref q1, .ref q3, .ref q8, .ref q13, .int 0, .int 0])), (q1, .inl (cQ2, 8, .inr (.inr (.inr (.inr (fun _ => none)))))), (q3, .inr (5, [.ref a4, .ref a5, .int 0])), (q8, .inr (5, [.ref a9, .ref a10, .int 0])), (q13, .inr (5, [.ref a14, .ref a15, .int 0]))] := hD
  refine lv_aload_n hx hb d_Teller_init_51 rfl (lv_at hl 0 rfl) ?_
  refine lv_iconst (v := (-1)) hx hb d_Teller_init_52 (by decide) ?_
  refine va_put (D := D) (ci := 4) (v := .int (-1)) (ty := .int) (C := "TaleMachine$Teller") (T := F_Teller) (N := 9) hx hb hts in_Teller t_Teller t_Teller_ok n_Teller hown hK hP hD hS 0 rfl rfl 8 (by decide) (hts _ k_89) (fun _ h9 => h9) rfl (by decide +kernel) rfl rfl (Nat.le_of_ble_eq_true rfl) d_Teller_init_53 (fun H locs hP hD hS => ?_)
  have hP : va_P D cL [(h, .inr (4, [.null, .null, .null, .ref q1, .ref q3, .ref q8, .ref q13, .int 0, .int (-1)])), (q1, .inl (cQ2, 8, .inr (.inr (.inr (.inr (fun _ => none)))))), (q3, .inr (5, [.ref a4, .ref a5, .int 0])), (q8, .inr (5, [.ref a9, .ref a10, .int 0])), (q13, .inr (5, [.ref a14, .ref a15, .int 0]))] H := hP
  have hD : va_D A [(h, .inr (4, [.null, .null, .null, .ref q1, .ref q3, .ref q8, .ref q13, .int 0, .int (-1)])), (q1, .inl (cQ2, 8, .inr (.inr (.inr (.inr (fun _ => none)))))), (q3, .inr (5, [.ref a4, .ref a5, .int 0])), (q8, .inr (5, [.ref a9, .ref a10, .int 0])), (q13, .inr (5, [.ref a14, .ref a15, .int 0]))] := hD
  refine lv_aload_n hx hb d_Teller_init_56 rfl (lv_at hl 0 rfl) ?_
  refine lv_aload_n hx hb d_Teller_init_57 rfl (lv_at hl 1 rfl) ?_
  refine va_putF (D := D) (ci := 4) (v := .ref sc) (ty := .object "TaleMachine$Script") (C := "TaleMachine$Teller") (T := F_Teller) (N := 9) hx hb hts in_Teller t_Teller t_Teller_ok n_Teller hown hK hP hD hS 0 rfl rfl 0 (by decide) (hts _ k_90) (fun _ h9 => h9) rfl hin rfl (by decide +kernel) rfl rfl (Nat.le_of_ble_eq_true rfl) d_Teller_init_58 (fun H locs hP hD hS => ?_)
  have hP : va_P D cL [(h, .inr (4, [.ref sc, .null, .null, .ref q1, .ref q3, .ref q8, .ref q13, .int 0, .int (-1)])), (q1, .inl (cQ2, 8, .inr (.inr (.inr (.inr (fun _ => none)))))), (q3, .inr (5, [.ref a4, .ref a5, .int 0])), (q8, .inr (5, [.ref a9, .ref a10, .int 0])), (q13, .inr (5, [.ref a14, .ref a15, .int 0]))] H := hP
  have hD : va_D A [(h, .inr (4, [.ref sc, .null, .null, .ref q1, .ref q3, .ref q8, .ref q13, .int 0, .int (-1)])), (q1, .inl (cQ2, 8, .inr (.inr (.inr (.inr (fun _ => none)))))), (q3, .inr (5, [.ref a4, .ref a5, .int 0])), (q8, .inr (5, [.ref a9, .ref a10, .int 0])), (q13, .inr (5, [.ref a14, .ref a15, .int 0]))] := hD
  refine lv_aload_n hx hb d_Teller_init_61 rfl (lv_at hl 0 rfl) ?_
  refine lv_aload_n hx hb d_Teller_init_62 rfl (lv_at hl 2 rfl) ?_
  refine va_putF (D := D) (ci := 4) (v := .ref wo) (ty := .object "TaleMachine$World") (C := "TaleMachine$Teller") (T := F_Teller) (N := 9) hx hb hts in_Teller t_Teller t_Teller_ok n_Teller hown hK hP hD hS 0 rfl rfl 1 (by decide) (hts _ k_91) (fun _ h9 => h9) rfl hin rfl (by decide +kernel) rfl rfl (Nat.le_of_ble_eq_true rfl) d_Teller_init_63 (fun H locs hP hD hS => ?_)
  have hP : va_P D cL [(h, .inr (4, [.ref sc, .ref wo, .null, .ref q1, .ref q3, .ref q8, .ref q13, .int 0, .int (-1)])), (q1, .inl (cQ2, 8, .inr (.inr (.inr (.inr (fun _ => none)))))), (q3, .inr (5, [.ref a4, .ref a5, .int 0])), (q8, .inr (5, [.ref a9, .ref a10, .int 0])), (q13, .inr (5, [.ref a14, .ref a15, .int 0]))] H := hP
  have hD : va_D A [(h, .inr (4, [.ref sc, .ref wo, .null, .ref q1, .ref q3, .ref q8, .ref q13, .int 0, .int (-1)])), (q1, .inl (cQ2, 8, .inr (.inr (.inr (.inr (fun _ => none)))))), (q3, .inr (5, [.ref a4, .ref a5, .int 0])), (q8, .inr (5, [.ref a9, .ref a10, .int 0])), (q13, .inr (5, [.ref a14, .ref a15, .int 0]))] := hD
  refine lv_aload_n hx hb d_Teller_init_66 rfl (lv_at hl 0 rfl) ?_
  refine lv_aload_n hx hb d_Teller_init_67 rfl (lv_at hl 3 rfl) ?_
  refine va_putF (D := D) (ci := 4) (v := .ref hi) (ty := .object "TaleMachine$History") (C := "TaleMachine$Teller") (T := F_Teller) (N := 9) hx hb hts in_Teller t_Teller t_Teller_ok n_Teller hown hK hP hD hS 0 rfl rfl 2 (by decide) (hts _ k_92) (fun _ h9 => h9) rfl hin rfl (by decide +kernel) rfl rfl (Nat.le_of_ble_eq_true rfl) d_Teller_init_68 (fun H locs hP hD hS => ?_)
  have hP : va_P D cL [(h, .inr (4, [.ref sc, .ref wo, .ref hi, .ref q1, .ref q3, .ref q8, .ref q13, .int 0, .int (-1)])), (q1, .inl (cQ2, 8, .inr (.inr (.inr (.inr (fun _ => none)))))), (q3, .inr (5, [.ref a4, .ref a5, .int 0])), (q8, .inr (5, [.ref a9, .ref a10, .int 0])), (q13, .inr (5, [.ref a14, .ref a15, .int 0]))] H := hP
  have hD : va_D A [(h, .inr (4, [.ref sc, .ref wo, .ref hi, .ref q1, .ref q3, .ref q8, .ref q13, .int 0, .int (-1)])), (q1, .inl (cQ2, 8, .inr (.inr (.inr (.inr (fun _ => none)))))), (q3, .inr (5, [.ref a4, .ref a5, .int 0])), (q8, .inr (5, [.ref a9, .ref a10, .int 0])), (q13, .inr (5, [.ref a14, .ref a15, .int 0]))] := hD
  refine lv_iconst (v := 0) hx hb d_Teller_init_71 (by decide) ?_
  refine lv_istore (lv' := [(4, .int 0), (0, .ref h), (1, .ref sc), (2, .ref wo), (3, .ref hi)]) hx hb d_Teller_init_72 hl (by decide) rfl (fun ls hl => ?_)
  refine lv_iload hx hb d_Teller_init_74 (lv_at hl 0 rfl) ?_
  refine lv_bipush (v := 8) hx hb d_Teller_init_76 (by decide) ?_
  refine lv_icmp_ge hx hb d_Teller_init_78 (tgt := 101) (by decide) (fun hz => absurd hz (by decide)) (fun _ => ?_)
  refine lv_aload_n hx hb d_Teller_init_81 rfl (lv_at hl 1 rfl) ?_
  refine va_get (D := D) (ci := 4) (v := .ref q1) (C := "TaleMachine$Teller") (T := F_Teller) (N := 9) hx hb hts in_Teller hown hK hP 0 rfl rfl 3 (by decide) (hts _ k_79) (fun _ h9 => h9) rfl d_Teller_init_82 ?_
  refine lv_iload hx hb d_Teller_init_85 (lv_at hl 0 rfl) ?_
  refine va_new (ci := 0) (fs := [.int 0, .int 0, .int 0, .int 0, .int 0, .int 0, .int 0, .int 0]) (C := "TaleMachine$Frame") (T := F_Frame) (N := 8) hx hb hts in_Frame t_Frame t_Frame_ok hown (hts _ k_78) (hts _ k_93) (hts _ k_94) hK hP hD hS hA rfl dv_Frame (Nat.le_of_ble_eq_true rfl) (Nat.le_of_ble_eq_true rfl) d_Teller_init_87 (fun q18 H hP hD hS => ?_)
  have hP : va_P D cL [(h, .inr (4, [.ref sc, .ref wo, .ref hi, .ref q1, .ref q3, .ref q8, .ref q13, .int 0, .int (-1)])), (q1, .inl (cQ2, 8, .inr (.inr (.inr (.inr (fun _ => none)))))), (q3, .inr (5, [.ref a4, .ref a5, .int 0])), (q8, .inr (5, [.ref a9, .ref a10, .int 0])), (q13, .inr (5, [.ref a14, .ref a15, .int 0])), (q18, .inr (0, [.int 0, .int 0, .int 0, .int 0, .int 0, .int 0, .int 0, .int 0]))] H := hP
  have hD : va_D A [(h, .inr (4, [.ref sc, .ref wo, .ref hi, .ref q1, .ref q3, .ref q8, .ref q13, .int 0, .int (-1)])), (q1, .inl (cQ2, 8, .inr (.inr (.inr (.inr (fun _ => none)))))), (q3, .inr (5, [.ref a4, .ref a5, .int 0])), (q8, .inr (5, [.ref a9, .ref a10, .int 0])), (q13, .inr (5, [.ref a14, .ref a15, .int 0])), (q18, .inr (0, [.int 0, .int 0, .int 0, .int 0, .int 0, .int 0, .int 0, .int 0]))] := hD
  refine W.widen (k := 11) (n := 207) (Nat.le_of_ble_eq_true rfl) (Nat.le_of_ble_eq_true rfl) ?_
  refine lv_dup hx hb d_Teller_init_90 rfl ?_
  refine mv_v (va_runIN (As := []) (rest := [.ref q18, .int 0, .ref q1]) ⟨hx, hb, hml, hown, hts⟩ (c_Frame_init l D cI cZ cJ q18 _ ) ⟨va_cnB 0 hts (gIn k_95) rfl rfl rfl (Tb_nest_Frame hT) (hts _ k_94) (by decide +kernel) ⟨Nat.le_of_ble_eq_true rfl, Nat.le_of_ble_eq_true rfl⟩, rfl, hts _ k_96⟩ (pre_S (hP.sub [5] rfl) (hK.sub [0, 1, 2] rfl) (hD.sub [5] (by decide) rfl) hT) rfl rfl hl.1 rfl (lv_room (Nat.le_of_ble_eq_true rfl)) d_Teller_init_91 ⟨Nat.le_of_ble_eq_true rfl, Nat.le_of_ble_eq_true rfl⟩) hP hD hS hA [5] [0, 1, 2, 3, 4] rfl rfl (by decide) (by decide) (wr := [(h, .inr (4, [.ref sc, .ref wo, .ref hi, .ref q1, .ref q3, .ref q8, .ref q13, .int 0, .int (-1)])), (q1, .inl (cQ2, 8, .inr (.inr (.inr (.inr (fun _ => none)))))), (q3, .inr (5, [.ref a4, .ref a5, .int 0])), (q8, .inr (5, [.ref a9, .ref a10, .int 0])), (q13, .inr (5, [.ref a14, .ref a15, .int 0]))]) (wn := fun _ => [(q18, .inr (0, [.int 0, .int 0, .int 0, .int 0, .int 0, .int 0, .int 0, .int 0]))]) (fun _ _ h9 => h9) (fun _ H locs hp20 hP hD hS => ?_)
  have hP : va_P D cL [(h, .inr (4, [.ref sc, .ref wo, .ref hi, .ref q1, .ref q3, .ref q8, .ref q13, .int 0, .int (-1)])), (q1, .inl (cQ2, 8, .inr (.inr (.inr (.inr (fun _ => none)))))), (q3, .inr (5, [.ref a4, .ref a5, .int 0])), (q8, .inr (5, [.ref a9, .ref a10, .int 0])), (q13, .inr (5, [.ref a14, .ref a15, .int 0])), (q18, .inr (0, [.int 0, .int 0, .int 0, .int 0, .int 0, .int 0, .int 0, .int 0]))] H := hP
  have hD : va_D A [(h, .inr (4, [.ref sc, .ref wo, .ref hi, .ref q1, .ref q3, .ref q8, .ref q13, .int 0, .int (-1)])), (q1, .inl (cQ2, 8, .inr (.inr (.inr (.inr (fun _ => none)))))), (q3, .inr (5, [.ref a4, .ref a5, .int 0])), (q8, .inr (5, [.ref a9, .ref a10, .int 0])), (q13, .inr (5, [.ref a14, .ref a15, .int 0])), (q18, .inr (0, [.int 0, .int 0, .int 0, .int 0, .int 0, .int 0, .int 0, .int 0]))] := hD
  refine va_astq (r := ("TaleMachine$Frame", F_Frame, 8)) hx hb hK hP hD hS 1 3 5 0 rfl rfl rfl rfl (i := 0) (in_c (by decide)) d_Teller_init_94 (fun H locs hP hD hS => ?_)
  have hP : va_P D cL [(h, .inr (4, [.ref sc, .ref wo, .ref hi, .ref q1, .ref q3, .ref q8, .ref q13, .int 0, .int (-1)])), (q1, .inl (cQ2, 8, .inr (.inr (.inr (.inr (va_up (fun _ => none) (0 : Int32).toNatClampNeg (some q18))))))), (q3, .inr (5, [.ref a4, .ref a5, .int 0])), (q8, .inr (5, [.ref a9, .ref a10, .int 0])), (q13, .inr (5, [.ref a14, .ref a15, .int 0])), (q18, .inr (0, [.int 0, .int 0, .int 0, .int 0, .int 0, .int 0, .int 0, .int 0]))] H := hP
  have hD : va_D A [(h, .inr (4, [.ref sc, .ref wo, .ref hi, .ref q1, .ref q3, .ref q8, .ref q13, .int 0, .int (-1)])), (q1, .inl (cQ2, 8, .inr (.inr (.inr (.inr (va_up (fun _ => none) (0 : Int32).toNatClampNeg (some q18))))))), (q3, .inr (5, [.ref a4, .ref a5, .int 0])), (q8, .inr (5, [.ref a9, .ref a10, .int 0])), (q13, .inr (5, [.ref a14, .ref a15, .int 0])), (q18, .inr (0, [.int 0, .int 0, .int 0, .int 0, .int 0, .int 0, .int 0, .int 0]))] := hD
  generalize va_up (fun _ => none) (0 : Int32).toNatClampNeg (some q18) = f21 at hP hD
  have hP := hP.sub (ws' := [(h, .inr (4, [.ref sc, .ref wo, .ref hi, .ref q1, .ref q3, .ref q8, .ref q13, .int 0, .int (-1)])), (q1, .inl (cQ2, 8, .inr (.inr (.inr (.inr f21))))), (q3, .inr (5, [.ref a4, .ref a5, .int 0])), (q8, .inr (5, [.ref a9, .ref a10, .int 0])), (q13, .inr (5, [.ref a14, .ref a15, .int 0]))]) [0, 1, 2, 3, 4] rfl
  have hD := hD.sub (ws' := [(h, .inr (4, [.ref sc, .ref wo, .ref hi, .ref q1, .ref q3, .ref q8, .ref q13, .int 0, .int (-1)])), (q1, .inl (cQ2, 8, .inr (.inr (.inr (.inr f21))))), (q3, .inr (5, [.ref a4, .ref a5, .int 0])), (q8, .inr (5, [.ref a9, .ref a10, .int 0])), (q13, .inr (5, [.ref a14, .ref a15, .int 0]))]) [0, 1, 2, 3, 4] (by decide) rfl
  refine lv_iinc (v := 1) (lv' := [(4, .int 1), (0, .ref h), (1, .ref sc), (2, .ref wo), (3, .ref hi)]) hx hb d_Teller_init_95 hl (k := 0) rfl (by decide) (by decide) rfl (fun ls hl => ?_)
  refine lv_goto hx hb d_Teller_init_98 (tgt := 74) (by decide) ?_
  refine lv_iload hx hb d_Teller_init_74 (lv_at hl 0 rfl) ?_
  refine lv_bipush (v := 8) hx hb d_Teller_init_76 (by decide) ?_
  refine lv_icmp_ge hx hb d_Teller_init_78 (tgt := 101) (by decide) (fun hz => absurd hz (by decide)) (fun _ => ?_)
  refine lv_aload_n hx hb d_Teller_init_81 rfl (lv_at hl 1 rfl) ?_
  refine va_get (D := D) (ci := 4) (v := .ref q1) (C := "TaleMachine$Teller") (T := F_Teller) (N := 9) hx hb hts in_Teller hown hK hP 0 rfl rfl 3 (by decide) (hts _ k_79) (fun _ h9 => h9) rfl d_Teller_init_82 ?_
  refine lv_iload hx hb d_Teller_init_85 (lv_at hl 0 rfl) ?_
  refine va_new (ci := 0) (fs := [.int 0, .int 0, .int 0, .int 0, .int 0, .int 0, .int 0, .int 0]) (C := "TaleMachine$Frame") (T := F_Frame) (N := 8) hx hb hts in_Frame t_Frame t_Frame_ok hown (hts _ k_78) (hts _ k_93) (hts _ k_94) hK hP hD hS hA rfl dv_Frame (Nat.le_of_ble_eq_true rfl) (Nat.le_of_ble_eq_true rfl) d_Teller_init_87 (fun q22 H hP hD hS => ?_)
  have hP : va_P D cL [(h, .inr (4, [.ref sc, .ref wo, .ref hi, .ref q1, .ref q3, .ref q8, .ref q13, .int 0, .int (-1)])), (q1, .inl (cQ2, 8, .inr (.inr (.inr (.inr f21))))), (q3, .inr (5, [.ref a4, .ref a5, .int 0])), (q8, .inr (5, [.ref a9, .ref a10, .int 0])), (q13, .inr (5, [.ref a14, .ref a15, .int 0])), (q22, .inr (0, [.int 0, .int 0, .int 0, .int 0, .int 0, .int 0, .int 0, .int 0]))] H := hP
  have hD : va_D A [(h, .inr (4, [.ref sc, .ref wo, .ref hi, .ref q1, .ref q3, .ref q8, .ref q13, .int 0, .int (-1)])), (q1, .inl (cQ2, 8, .inr (.inr (.inr (.inr f21))))), (q3, .inr (5, [.ref a4, .ref a5, .int 0])), (q8, .inr (5, [.ref a9, .ref a10, .int 0])), (q13, .inr (5, [.ref a14, .ref a15, .int 0])), (q22, .inr (0, [.int 0, .int 0, .int 0, .int 0, .int 0, .int 0, .int 0, .int 0]))] := hD
  refine W.widen (k := 12) (n := 215) (Nat.le_of_ble_eq_true rfl) (Nat.le_of_ble_eq_true rfl) ?_
  refine lv_dup hx hb d_Teller_init_90 rfl ?_
  refine mv_v (va_runIN (As := []) (rest := [.ref q22, .int 1, .ref q1]) ⟨hx, hb, hml, hown, hts⟩ (c_Frame_init l D cI cZ cJ q22 _ ) ⟨va_cnB 0 hts (gIn k_95) rfl rfl rfl (Tb_nest_Frame hT) (hts _ k_94) (by decide +kernel) ⟨Nat.le_of_ble_eq_true rfl, Nat.le_of_ble_eq_true rfl⟩, rfl, hts _ k_96⟩ (pre_S (hP.sub [5] rfl) (hK.sub [0, 1, 2] rfl) (hD.sub [5] (by decide) rfl) hT) rfl rfl hl.1 rfl (lv_room (Nat.le_of_ble_eq_true rfl)) d_Teller_init_91 ⟨Nat.le_of_ble_eq_true rfl, Nat.le_of_ble_eq_true rfl⟩) hP hD hS hA [5] [0, 1, 2, 3, 4] rfl rfl (by decide) (by decide) (wr := [(h, .inr (4, [.ref sc, .ref wo, .ref hi, .ref q1, .ref q3, .ref q8, .ref q13, .int 0, .int (-1)])), (q1, .inl (cQ2, 8, .inr (.inr (.inr (.inr f21))))), (q3, .inr (5, [.ref a4, .ref a5, .int 0])), (q8, .inr (5, [.ref a9, .ref a10, .int 0])), (q13, .inr (5, [.ref a14, .ref a15, .int 0]))]) (wn := fun _ => [(q22, .inr (0, [.int 0, .int 0, .int 0, .int 0, .int 0, .int 0, .int 0, .int 0]))]) (fun _ _ h9 => h9) (fun _ H locs hp24 hP hD hS => ?_)
  have hP : va_P D cL [(h, .inr (4, [.ref sc, .ref wo, .ref hi, .ref q1, .ref q3, .ref q8, .ref q13, .int 0, .int (-1)])), (q1, .inl (cQ2, 8, .inr (.inr (.inr (.inr f21))))), (q3, .inr (5, [.ref a4, .ref a5, .int 0])), (q8, .inr (5, [.ref a9, .ref a10, .int 0])), (q13, .inr (5, [.ref a14, .ref a15, .int 0])), (q22, .inr (0, [.int 0, .int 0, .int 0, .int 0, .int 0, .int 0, .int 0, .int 0]))] H := hP
  have hD : va_D A [(h, .inr (4, [.ref sc, .ref wo, .ref hi, .ref q1, .ref q3, .ref q8, .ref q13, .int 0, .int (-1)])), (q1, .inl (cQ2, 8, .inr (.inr (.inr (.inr f21))))), (q3, .inr (5, [.ref a4, .ref a5, .int 0])), (q8, .inr (5, [.ref a9, .ref a10, .int 0])), (q13, .inr (5, [.ref a14, .ref a15, .int 0])), (q22, .inr (0, [.int 0, .int 0, .int 0, .int 0, .int 0, .int 0, .int 0, .int 0]))] := hD
  refine va_astq (r := ("TaleMachine$Frame", F_Frame, 8)) hx hb hK hP hD hS 1 3 5 0 rfl rfl rfl rfl (i := 1) (in_c (by decide)) d_Teller_init_94 (fun H locs hP hD hS => ?_)
  have hP : va_P D cL [(h, .inr (4, [.ref sc, .ref wo, .ref hi, .ref q1, .ref q3, .ref q8, .ref q13, .int 0, .int (-1)])), (q1, .inl (cQ2, 8, .inr (.inr (.inr (.inr (va_up f21 (1 : Int32).toNatClampNeg (some q22))))))), (q3, .inr (5, [.ref a4, .ref a5, .int 0])), (q8, .inr (5, [.ref a9, .ref a10, .int 0])), (q13, .inr (5, [.ref a14, .ref a15, .int 0])), (q22, .inr (0, [.int 0, .int 0, .int 0, .int 0, .int 0, .int 0, .int 0, .int 0]))] H := hP
  have hD : va_D A [(h, .inr (4, [.ref sc, .ref wo, .ref hi, .ref q1, .ref q3, .ref q8, .ref q13, .int 0, .int (-1)])), (q1, .inl (cQ2, 8, .inr (.inr (.inr (.inr (va_up f21 (1 : Int32).toNatClampNeg (some q22))))))), (q3, .inr (5, [.ref a4, .ref a5, .int 0])), (q8, .inr (5, [.ref a9, .ref a10, .int 0])), (q13, .inr (5, [.ref a14, .ref a15, .int 0])), (q22, .inr (0, [.int 0, .int 0, .int 0, .int 0, .int 0, .int 0, .int 0, .int 0]))] := hD
  generalize va_up f21 (1 : Int32).toNatClampNeg (some q22) = f25 at hP hD
  have hP := hP.sub (ws' := [(h, .inr (4, [.ref sc, .ref wo, .ref hi, .ref q1, .ref q3, .ref q8, .ref q13, .int 0, .int (-1)])), (q1, .inl (cQ2, 8, .inr (.inr (.inr (.inr f25))))), (q3, .inr (5, [.ref a4, .ref a5, .int 0])), (q8, .inr (5, [.ref a9, .ref a10, .int 0])), (q13, .inr (5, [.ref a14, .ref a15, .int 0]))]) [0, 1, 2, 3, 4] rfl
  have hD := hD.sub (ws' := [(h, .inr (4, [.ref sc, .ref wo, .ref hi, .ref q1, .ref q3, .ref q8, .ref q13, .int 0, .int (-1)])), (q1, .inl (cQ2, 8, .inr (.inr (.inr (.inr f25))))), (q3, .inr (5, [.ref a4, .ref a5, .int 0])), (q8, .inr (5, [.ref a9, .ref a10, .int 0])), (q13, .inr (5, [.ref a14, .ref a15, .int 0]))]) [0, 1, 2, 3, 4] (by decide) rfl
  refine lv_iinc (v := 2) (lv' := [(4, .int 2), (0, .ref h), (1, .ref sc), (2, .ref wo), (3, .ref hi)]) hx hb d_Teller_init_95 hl (k := 0) rfl (by decide) (by decide) rfl (fun ls hl => ?_)
  refine lv_goto hx hb d_Teller_init_98 (tgt := 74) (by decide) ?_
  refine lv_iload hx hb d_Teller_init_74 (lv_at hl 0 rfl) ?_
  refine lv_bipush (v := 8) hx hb d_Teller_init_76 (by decide) ?_
  refine lv_icmp_ge hx hb d_Teller_init_78 (tgt := 101) (by decide) (fun hz => absurd hz (by decide)) (fun _ => ?_)
  refine lv_aload_n hx hb d_Teller_init_81 rfl (lv_at hl 1 rfl) ?_
  refine va_get (D := D) (ci := 4) (v := .ref q1) (C := "TaleMachine$Teller") (T := F_Teller) (N := 9) hx hb hts in_Teller hown hK hP 0 rfl rfl 3 (by decide) (hts _ k_79) (fun _ h9 => h9) rfl d_Teller_init_82 ?_
  refine lv_iload hx hb d_Teller_init_85 (lv_at hl 0 rfl) ?_
  refine va_new (ci := 0) (fs := [.int 0, .int 0, .int 0, .int 0, .int 0, .int 0, .int 0, .int 0]) (C := "TaleMachine$Frame") (T := F_Frame) (N := 8) hx hb hts in_Frame t_Frame t_Frame_ok hown (hts _ k_78) (hts _ k_93) (hts _ k_94) hK hP hD hS hA rfl dv_Frame (Nat.le_of_ble_eq_true rfl) (Nat.le_of_ble_eq_true rfl) d_Teller_init_87 (fun q26 H hP hD hS => ?_)
  have hP : va_P D cL [(h, .inr (4, [.ref sc, .ref wo, .ref hi, .ref q1, .ref q3, .ref q8, .ref q13, .int 0, .int (-1)])), (q1, .inl (cQ2, 8, .inr (.inr (.inr (.inr f25))))), (q3, .inr (5, [.ref a4, .ref a5, .int 0])), (q8, .inr (5, [.ref a9, .ref a10, .int 0])), (q13, .inr (5, [.ref a14, .ref a15, .int 0])), (q26, .inr (0, [.int 0, .int 0, .int 0, .int 0, .int 0, .int 0, .int 0, .int 0]))] H := hP
  have hD : va_D A [(h, .inr (4, [.ref sc, .ref wo, .ref hi, .ref q1, .ref q3, .ref q8, .ref q13, .int 0, .int (-1)])), (q1, .inl (cQ2, 8, .inr (.inr (.inr (.inr f25))))), (q3, .inr (5, [.ref a4, .ref a5, .int 0])), (q8, .inr (5, [.ref a9, .ref a10, .int 0])), (q13, .inr (5, [.ref a14, .ref a15, .int 0])), (q26, .inr (0, [.int 0, .int 0, .int 0, .int 0, .int 0, .int 0, .int 0, .int 0]))] := hD
  refine W.widen (k := 13) (n := 223) (Nat.le_of_ble_eq_true rfl) (Nat.le_of_ble_eq_true rfl) ?_
  refine lv_dup hx hb d_Teller_init_90 rfl ?_
  refine mv_v (va_runIN (As := []) (rest := [.ref q26, .int 2, .ref q1]) ⟨hx, hb, hml, hown, hts⟩ (c_Frame_init l D cI cZ cJ q26 _ ) ⟨va_cnB 0 hts (gIn k_95) rfl rfl rfl (Tb_nest_Frame hT) (hts _ k_94) (by decide +kernel) ⟨Nat.le_of_ble_eq_true rfl, Nat.le_of_ble_eq_true rfl⟩, rfl, hts _ k_96⟩ (pre_S (hP.sub [5] rfl) (hK.sub [0, 1, 2] rfl) (hD.sub [5] (by decide) rfl) hT) rfl rfl hl.1 rfl (lv_room (Nat.le_of_ble_eq_true rfl)) d_Teller_init_91 ⟨Nat.le_of_ble_eq_true rfl, Nat.le_of_ble_eq_true rfl⟩) hP hD hS hA [5] [0, 1, 2, 3, 4] rfl rfl (by decide) (by decide) (wr := [(h, .inr (4, [.ref sc, .ref wo, .ref hi, .ref q1, .ref q3, .ref q8, .ref q13, .int 0, .int (-1)])), (q1, .inl (cQ2, 8, .inr (.inr (.inr (.inr f25))))), (q3, .inr (5, [.ref a4, .ref a5, .int 0])), (q8, .inr (5, [.ref a9, .ref a10, .int 0])), (q13, .inr (5, [.ref a14, .ref a15, .int 0]))]) (wn := fun _ => [(q26, .inr (0, [.int 0, .int 0, .int 0, .int 0, .int 0, .int 0, .int 0, .int 0]))]) (fun _ _ h9 => h9) (fun _ H locs hp28 hP hD hS => ?_)
  have hP : va_P D cL [(h, .inr (4, [.ref sc, .ref wo, .ref hi, .ref q1, .ref q3, .ref q8, .ref q13, .int 0, .int (-1)])), (q1, .inl (cQ2, 8, .inr (.inr (.inr (.inr f25))))), (q3, .inr (5, [.ref a4, .ref a5, .int 0])), (q8, .inr (5, [.ref a9, .ref a10, .int 0])), (q13, .inr (5, [.ref a14, .ref a15, .int 0])), (q26, .inr (0, [.int 0, .int 0, .int 0, .int 0, .int 0, .int 0, .int 0, .int 0]))] H := hP
  have hD : va_D A [(h, .inr (4, [.ref sc, .ref wo, .ref hi, .ref q1, .ref q3, .ref q8, .ref q13, .int 0, .int (-1)])), (q1, .inl (cQ2, 8, .inr (.inr (.inr (.inr f25))))), (q3, .inr (5, [.ref a4, .ref a5, .int 0])), (q8, .inr (5, [.ref a9, .ref a10, .int 0])), (q13, .inr (5, [.ref a14, .ref a15, .int 0])), (q26, .inr (0, [.int 0, .int 0, .int 0, .int 0, .int 0, .int 0, .int 0, .int 0]))] := hD
  refine va_astq (r := ("TaleMachine$Frame", F_Frame, 8)) hx hb hK hP hD hS 1 3 5 0 rfl rfl rfl rfl (i := 2) (in_c (by decide)) d_Teller_init_94 (fun H locs hP hD hS => ?_)
  have hP : va_P D cL [(h, .inr (4, [.ref sc, .ref wo, .ref hi, .ref q1, .ref q3, .ref q8, .ref q13, .int 0, .int (-1)])), (q1, .inl (cQ2, 8, .inr (.inr (.inr (.inr (va_up f25 (2 : Int32).toNatClampNeg (some q26))))))), (q3, .inr (5, [.ref a4, .ref a5, .int 0])), (q8, .inr (5, [.ref a9, .ref a10, .int 0])), (q13, .inr (5, [.ref a14, .ref a15, .int 0])), (q26, .inr (0, [.int 0, .int 0, .int 0, .int 0, .int 0, .int 0, .int 0, .int 0]))] H := hP
  have hD : va_D A [(h, .inr (4, [.ref sc, .ref wo, .ref hi, .ref q1, .ref q3, .ref q8, .ref q13, .int 0, .int (-1)])), (q1, .inl (cQ2, 8, .inr (.inr (.inr (.inr (va_up f25 (2 : Int32).toNatClampNeg (some q26))))))), (q3, .inr (5, [.ref a4, .ref a5, .int 0])), (q8, .inr (5, [.ref a9, .ref a10, .int 0])), (q13, .inr (5, [.ref a14, .ref a15, .int 0])), (q26, .inr (0, [.int 0, .int 0, .int 0, .int 0, .int 0, .int 0, .int 0, .int 0]))] := hD
  generalize va_up f25 (2 : Int32).toNatClampNeg (some q26) = f29 at hP hD
  have hP := hP.sub (ws' := [(h, .inr (4, [.ref sc, .ref wo, .ref hi, .ref q1, .ref q3, .ref q8, .ref q13, .int 0, .int (-1)])), (q1, .inl (cQ2, 8, .inr (.inr (.inr (.inr f29))))), (q3, .inr (5, [.ref a4, .ref a5, .int 0])), (q8, .inr (5, [.ref a9, .ref a10, .int 0])), (q13, .inr (5, [.ref a14, .ref a15, .int 0]))]) [0, 1, 2, 3, 4] rfl
  have hD := hD.sub (ws' := [(h, .inr (4, [.ref sc, .ref wo, .ref hi, .ref q1, .ref q3, .ref q8, .ref q13, .int 0, .int (-1)])), (q1, .inl (cQ2, 8, .inr (.inr (.inr (.inr f29))))), (q3, .inr (5, [.ref a4, .ref a5, .int 0])), (q8, .inr (5, [.ref a9, .ref a10, .int 0])), (q13, .inr (5, [.ref a14, .ref a15, .int 0]))]) [0, 1, 2, 3, 4] (by decide) rfl
  refine lv_iinc (v := 3) (lv' := [(4, .int 3), (0, .ref h), (1, .ref sc), (2, .ref wo), (3, .ref hi)]) hx hb d_Teller_init_95 hl (k := 0) rfl (by decide) (by decide) rfl (fun ls hl => ?_)
  refine lv_goto hx hb d_Teller_init_98 (tgt := 74) (by decide) ?_
  refine lv_iload hx hb d_Teller_init_74 (lv_at hl 0 rfl) ?_
  refine lv_bipush (v := 8) hx hb d_Teller_init_76 (by decide) ?_
  refine lv_icmp_ge hx hb d_Teller_init_78 (tgt := 101) (by decide) (fun hz => absurd hz (by decide)) (fun _ => ?_)
  refine lv_aload_n hx hb d_Teller_init_81 rfl (lv_at hl 1 rfl) ?_
  refine va_get (D := D) (ci := 4) (v := .ref q1) (C := "TaleMachine$Teller") (T := F_Teller) (N := 9) hx hb hts in_Teller hown hK hP 0 rfl rfl 3 (by decide) (hts _ k_79) (fun _ h9 => h9) rfl d_Teller_init_82 ?_
  refine lv_iload hx hb d_Teller_init_85 (lv_at hl 0 rfl) ?_
  refine va_new (ci := 0) (fs := [.int 0, .int 0, .int 0, .int 0, .int 0, .int 0, .int 0, .int 0]) (C := "TaleMachine$Frame") (T := F_Frame) (N := 8) hx hb hts in_Frame t_Frame t_Frame_ok hown (hts _ k_78) (hts _ k_93) (hts _ k_94) hK hP hD hS hA rfl dv_Frame (Nat.le_of_ble_eq_true rfl) (Nat.le_of_ble_eq_true rfl) d_Teller_init_87 (fun q30 H hP hD hS => ?_)
  have hP : va_P D cL [(h, .inr (4, [.ref sc, .ref wo, .ref hi, .ref q1, .ref q3, .ref q8, .ref q13, .int 0, .int (-1)])), (q1, .inl (cQ2, 8, .inr (.inr (.inr (.inr f29))))), (q3, .inr (5, [.ref a4, .ref a5, .int 0])), (q8, .inr (5, [.ref a9, .ref a10, .int 0])), (q13, .inr (5, [.ref a14, .ref a15, .int 0])), (q30, .inr (0, [.int 0, .int 0, .int 0, .int 0, .int 0, .int 0, .int 0, .int 0]))] H := hP
  have hD : va_D A [(h, .inr (4, [.ref sc, .ref wo, .ref hi, .ref q1, .ref q3, .ref q8, .ref q13, .int 0, .int (-1)])), (q1, .inl (cQ2, 8, .inr (.inr (.inr (.inr f29))))), (q3, .inr (5, [.ref a4, .ref a5, .int 0])), (q8, .inr (5, [.ref a9, .ref a10, .int 0])), (q13, .inr (5, [.ref a14, .ref a15, .int 0])), (q30, .inr (0, [.int 0, .int 0, .int 0, .int 0, .int 0, .int 0, .int 0, .int 0]))] := hD
  refine W.widen (k := 14) (n := 231) (Nat.le_of_ble_eq_true rfl) (Nat.le_of_ble_eq_true rfl) ?_
  refine lv_dup hx hb d_Teller_init_90 rfl ?_
  refine mv_v (va_runIN (As := []) (rest := [.ref q30, .int 3, .ref q1]) ⟨hx, hb, hml, hown, hts⟩ (c_Frame_init l D cI cZ cJ q30 _ ) ⟨va_cnB 0 hts (gIn k_95) rfl rfl rfl (Tb_nest_Frame hT) (hts _ k_94) (by decide +kernel) ⟨Nat.le_of_ble_eq_true rfl, Nat.le_of_ble_eq_true rfl⟩, rfl, hts _ k_96⟩ (pre_S (hP.sub [5] rfl) (hK.sub [0, 1, 2] rfl) (hD.sub [5] (by decide) rfl) hT) rfl rfl hl.1 rfl (lv_room (Nat.le_of_ble_eq_true rfl)) d_Teller_init_91 ⟨Nat.le_of_ble_eq_true rfl, Nat.le_of_ble_eq_true rfl⟩) hP hD hS hA [5] [0, 1, 2, 3, 4] rfl rfl (by decide) (by decide) (wr := [(h, .inr (4, [.ref sc, .ref wo, .ref hi, .ref q1, .ref q3, .ref q8, .ref q13, .int 0, .int (-1)])), (q1, .inl (cQ2, 8, .inr (.inr (.inr (.inr f29))))), (q3, .inr (5, [.ref a4, .ref a5, .int 0])), (q8, .inr (5, [.ref a9, .ref a10, .int 0])), (q13, .inr (5, [.ref a14, .ref a15, .int 0]))]) (wn := fun _ => [(q30, .inr (0, [.int 0, .int 0, .int 0, .int 0, .int 0, .int 0, .int 0, .int 0]))]) (fun _ _ h9 => h9) (fun _ H locs hp32 hP hD hS => ?_)
  have hP : va_P D cL [(h, .inr (4, [.ref sc, .ref wo, .ref hi, .ref q1, .ref q3, .ref q8, .ref q13, .int 0, .int (-1)])), (q1, .inl (cQ2, 8, .inr (.inr (.inr (.inr f29))))), (q3, .inr (5, [.ref a4, .ref a5, .int 0])), (q8, .inr (5, [.ref a9, .ref a10, .int 0])), (q13, .inr (5, [.ref a14, .ref a15, .int 0])), (q30, .inr (0, [.int 0, .int 0, .int 0, .int 0, .int 0, .int 0, .int 0, .int 0]))] H := hP
  have hD : va_D A [(h, .inr (4, [.ref sc, .ref wo, .ref hi, .ref q1, .ref q3, .ref q8, .ref q13, .int 0, .int (-1)])), (q1, .inl (cQ2, 8, .inr (.inr (.inr (.inr f29))))), (q3, .inr (5, [.ref a4, .ref a5, .int 0])), (q8, .inr (5, [.ref a9, .ref a10, .int 0])), (q13, .inr (5, [.ref a14, .ref a15, .int 0])), (q30, .inr (0, [.int 0, .int 0, .int 0, .int 0, .int 0, .int 0, .int 0, .int 0]))] := hD
  refine va_astq (r := ("TaleMachine$Frame", F_Frame, 8)) hx hb hK hP hD hS 1 3 5 0 rfl rfl rfl rfl (i := 3) (in_c (by decide)) d_Teller_init_94 (fun H locs hP hD hS => ?_)
  have hP : va_P D cL [(h, .inr (4, [.ref sc, .ref wo, .ref hi, .ref q1, .ref q3, .ref q8, .ref q13, .int 0, .int (-1)])), (q1, .inl (cQ2, 8, .inr (.inr (.inr (.inr (va_up f29 (3 : Int32).toNatClampNeg (some q30))))))), (q3, .inr (5, [.ref a4, .ref a5, .int 0])), (q8, .inr (5, [.ref a9, .ref a10, .int 0])), (q13, .inr (5, [.ref a14, .ref a15, .int 0])), (q30, .inr (0, [.int 0, .int 0, .int 0, .int 0, .int 0, .int 0, .int 0, .int 0]))] H := hP
  have hD : va_D A [(h, .inr (4, [.ref sc, .ref wo, .ref hi, .ref q1, .ref q3, .ref q8, .ref q13, .int 0, .int (-1)])), (q1, .inl (cQ2, 8, .inr (.inr (.inr (.inr (va_up f29 (3 : Int32).toNatClampNeg (some q30))))))), (q3, .inr (5, [.ref a4, .ref a5, .int 0])), (q8, .inr (5, [.ref a9, .ref a10, .int 0])), (q13, .inr (5, [.ref a14, .ref a15, .int 0])), (q30, .inr (0, [.int 0, .int 0, .int 0, .int 0, .int 0, .int 0, .int 0, .int 0]))] := hD
  generalize va_up f29 (3 : Int32).toNatClampNeg (some q30) = f33 at hP hD
  have hP := hP.sub (ws' := [(h, .inr (4, [.ref sc, .ref wo, .ref hi, .ref q1, .ref q3, .ref q8, .ref q13, .int 0, .int (-1)])), (q1, .inl (cQ2, 8, .inr (.inr (.inr (.inr f33))))), (q3, .inr (5, [.ref a4, .ref a5, .int 0])), (q8, .inr (5, [.ref a9, .ref a10, .int 0])), (q13, .inr (5, [.ref a14, .ref a15, .int 0]))]) [0, 1, 2, 3, 4] rfl
  have hD := hD.sub (ws' := [(h, .inr (4, [.ref sc, .ref wo, .ref hi, .ref q1, .ref q3, .ref q8, .ref q13, .int 0, .int (-1)])), (q1, .inl (cQ2, 8, .inr (.inr (.inr (.inr f33))))), (q3, .inr (5, [.ref a4, .ref a5, .int 0])), (q8, .inr (5, [.ref a9, .ref a10, .int 0])), (q13, .inr (5, [.ref a14, .ref a15, .int 0]))]) [0, 1, 2, 3, 4] (by decide) rfl
  refine lv_iinc (v := 4) (lv' := [(4, .int 4), (0, .ref h), (1, .ref sc), (2, .ref wo), (3, .ref hi)]) hx hb d_Teller_init_95 hl (k := 0) rfl (by decide) (by decide) rfl (fun ls hl => ?_)
  refine lv_goto hx hb d_Teller_init_98 (tgt := 74) (by decide) ?_
  refine lv_iload hx hb d_Teller_init_74 (lv_at hl 0 rfl) ?_
  refine lv_bipush (v := 8) hx hb d_Teller_init_76 (by decide) ?_
  refine lv_icmp_ge hx hb d_Teller_init_78 (tgt := 101) (by decide) (fun hz => absurd hz (by decide)) (fun _ => ?_)
  refine lv_aload_n hx hb d_Teller_init_81 rfl (lv_at hl 1 rfl) ?_
  refine va_get (D := D) (ci := 4) (v := .ref q1) (C := "TaleMachine$Teller") (T := F_Teller) (N := 9) hx hb hts in_Teller hown hK hP 0 rfl rfl 3 (by decide) (hts _ k_79) (fun _ h9 => h9) rfl d_Teller_init_82 ?_
  refine lv_iload hx hb d_Teller_init_85 (lv_at hl 0 rfl) ?_
  refine va_new (ci := 0) (fs := [.int 0, .int 0, .int 0, .int 0, .int 0, .int 0, .int 0, .int 0]) (C := "TaleMachine$Frame") (T := F_Frame) (N := 8) hx hb hts in_Frame t_Frame t_Frame_ok hown (hts _ k_78) (hts _ k_93) (hts _ k_94) hK hP hD hS hA rfl dv_Frame (Nat.le_of_ble_eq_true rfl) (Nat.le_of_ble_eq_true rfl) d_Teller_init_87 (fun q34 H hP hD hS => ?_)
  have hP : va_P D cL [(h, .inr (4, [.ref sc, .ref wo, .ref hi, .ref q1, .ref q3, .ref q8, .ref q13, .int 0, .int (-1)])), (q1, .inl (cQ2, 8, .inr (.inr (.inr (.inr f33))))), (q3, .inr (5, [.ref a4, .ref a5, .int 0])), (q8, .inr (5, [.ref a9, .ref a10, .int 0])), (q13, .inr (5, [.ref a14, .ref a15, .int 0])), (q34, .inr (0, [.int 0, .int 0, .int 0, .int 0, .int 0, .int 0, .int 0, .int 0]))] H := hP
  have hD : va_D A [(h, .inr (4, [.ref sc, .ref wo, .ref hi, .ref q1, .ref q3, .ref q8, .ref q13, .int 0, .int (-1)])), (q1, .inl (cQ2, 8, .inr (.inr (.inr (.inr f33))))), (q3, .inr (5, [.ref a4, .ref a5, .int 0])), (q8, .inr (5, [.ref a9, .ref a10, .int 0])), (q13, .inr (5, [.ref a14, .ref a15, .int 0])), (q34, .inr (0, [.int 0, .int 0, .int 0, .int 0, .int 0, .int 0, .int 0, .int 0]))] := hD
  refine W.widen (k := 15) (n := 239) (Nat.le_of_ble_eq_true rfl) (Nat.le_of_ble_eq_true rfl) ?_
  refine lv_dup hx hb d_Teller_init_90 rfl ?_
  refine mv_v (va_runIN (As := []) (rest := [.ref q34, .int 4, .ref q1]) ⟨hx, hb, hml, hown, hts⟩ (c_Frame_init l D cI cZ cJ q34 _ ) ⟨va_cnB 0 hts (gIn k_95) rfl rfl rfl (Tb_nest_Frame hT) (hts _ k_94) (by decide +kernel) ⟨Nat.le_of_ble_eq_true rfl, Nat.le_of_ble_eq_true rfl⟩, rfl, hts _ k_96⟩ (pre_S (hP.sub [5] rfl) (hK.sub [0, 1, 2] rfl) (hD.sub [5] (by decide) rfl) hT) rfl rfl hl.1 rfl (lv_room (Nat.le_of_ble_eq_true rfl)) d_Teller_init_91 ⟨Nat.le_of_ble_eq_true rfl, Nat.le_of_ble_eq_true rfl⟩) hP hD hS hA [5] [0, 1, 2, 3, 4] rfl rfl (by decide) (by decide) (wr := [(h, .inr (4, [.ref sc, .ref wo, .ref hi, .ref q1, .ref q3, .ref q8, .ref q13, .int 0, .int (-1)])), (q1, .inl (cQ2, 8, .inr (.inr (.inr (.inr f33))))), (q3, .inr (5, [.ref a4, .ref a5, .int 0])), (q8, .inr (5, [.ref a9, .ref a10, .int 0])), (q13, .inr (5, [.ref a14, .ref a15, .int 0]))]) (wn := fun _ => [(q34, .inr (0, [.int 0, .int 0, .int 0, .int 0, .int 0, .int 0, .int 0, .int 0]))]) (fun _ _ h9 => h9) (fun _ H locs hp36 hP hD hS => ?_)
  have hP : va_P D cL [(h, .inr (4, [.ref sc, .ref wo, .ref hi, .ref q1, .ref q3, .ref q8, .ref q13, .int 0, .int (-1)])), (q1, .inl (cQ2, 8, .inr (.inr (.inr (.inr f33))))), (q3, .inr (5, [.ref a4, .ref a5, .int 0])), (q8, .inr (5, [.ref a9, .ref a10, .int 0])), (q13, .inr (5, [.ref a14, .ref a15, .int 0])), (q34, .inr (0, [.int 0, .int 0, .int 0, .int 0, .int 0, .int 0, .int 0, .int 0]))] H := hP
  have hD : va_D A [(h, .inr (4, [.ref sc, .ref wo, .ref hi, .ref q1, .ref q3, .ref q8, .ref q13, .int 0, .int (-1)])), (q1, .inl (cQ2, 8, .inr (.inr (.inr (.inr f33))))), (q3, .inr (5, [.ref a4, .ref a5, .int 0])), (q8, .inr (5, [.ref a9, .ref a10, .int 0])), (q13, .inr (5, [.ref a14, .ref a15, .int 0])), (q34, .inr (0, [.int 0, .int 0, .int 0, .int 0, .int 0, .int 0, .int 0, .int 0]))] := hD
  refine va_astq (r := ("TaleMachine$Frame", F_Frame, 8)) hx hb hK hP hD hS 1 3 5 0 rfl rfl rfl rfl (i := 4) (in_c (by decide)) d_Teller_init_94 (fun H locs hP hD hS => ?_)
  have hP : va_P D cL [(h, .inr (4, [.ref sc, .ref wo, .ref hi, .ref q1, .ref q3, .ref q8, .ref q13, .int 0, .int (-1)])), (q1, .inl (cQ2, 8, .inr (.inr (.inr (.inr (va_up f33 (4 : Int32).toNatClampNeg (some q34))))))), (q3, .inr (5, [.ref a4, .ref a5, .int 0])), (q8, .inr (5, [.ref a9, .ref a10, .int 0])), (q13, .inr (5, [.ref a14, .ref a15, .int 0])), (q34, .inr (0, [.int 0, .int 0, .int 0, .int 0, .int 0, .int 0, .int 0, .int 0]))] H := hP
  have hD : va_D A [(h, .inr (4, [.ref sc, .ref wo, .ref hi, .ref q1, .ref q3, .ref q8, .ref q13, .int 0, .int (-1)])), (q1, .inl (cQ2, 8, .inr (.inr (.inr (.inr (va_up f33 (4 : Int32).toNatClampNeg (some q34))))))), (q3, .inr (5, [.ref a4, .ref a5, .int 0])), (q8, .inr (5, [.ref a9, .ref a10, .int 0])), (q13, .inr (5, [.ref a14, .ref a15, .int 0])), (q34, .inr (0, [.int 0, .int 0, .int 0, .int 0, .int 0, .int 0, .int 0, .int 0]))] := hD
  generalize va_up f33 (4 : Int32).toNatClampNeg (some q34) = f37 at hP hD
  have hP := hP.sub (ws' := [(h, .inr (4, [.ref sc, .ref wo, .ref hi, .ref q1, .ref q3, .ref q8, .ref q13, .int 0, .int (-1)])), (q1, .inl (cQ2, 8, .inr (.inr (.inr (.inr f37))))), (q3, .inr (5, [.ref a4, .ref a5, .int 0])), (q8, .inr (5, [.ref a9, .ref a10, .int 0])), (q13, .inr (5, [.ref a14, .ref a15, .int 0]))]) [0, 1, 2, 3, 4] rfl
  have hD := hD.sub (ws' := [(h, .inr (4, [.ref sc, .ref wo, .ref hi, .ref q1, .ref q3, .ref q8, .ref q13, .int 0, .int (-1)])), (q1, .inl (cQ2, 8, .inr (.inr (.inr (.inr f37))))), (q3, .inr (5, [.ref a4, .ref a5, .int 0])), (q8, .inr (5, [.ref a9, .ref a10, .int 0])), (q13, .inr (5, [.ref a14, .ref a15, .int 0]))]) [0, 1, 2, 3, 4] (by decide) rfl
  refine lv_iinc (v := 5) (lv' := [(4, .int 5), (0, .ref h), (1, .ref sc), (2, .ref wo), (3, .ref hi)]) hx hb d_Teller_init_95 hl (k := 0) rfl (by decide) (by decide) rfl (fun ls hl => ?_)
  refine lv_goto hx hb d_Teller_init_98 (tgt := 74) (by decide) ?_
  refine lv_iload hx hb d_Teller_init_74 (lv_at hl 0 rfl) ?_
  refine lv_bipush (v := 8) hx hb d_Teller_init_76 (by decide) ?_
  refine lv_icmp_ge hx hb d_Teller_init_78 (tgt := 101) (by decide) (fun hz => absurd hz (by decide)) (fun _ => ?_)
  refine lv_aload_n hx hb d_Teller_init_81 rfl (lv_at hl 1 rfl) ?_
  refine va_get (D := D) (ci := 4) (v := .ref q1) (C := "TaleMachine$Teller") (T := F_Teller) (N := 9) hx hb hts in_Teller hown hK hP 0 rfl rfl 3 (by decide) (hts _ k_79) (fun _ h9 => h9) rfl d_Teller_init_82 ?_
  refine lv_iload hx hb d_Teller_init_85 (lv_at hl 0 rfl) ?_
  refine va_new (ci := 0) (fs := [.int 0, .int 0, .int 0, .int 0, .int 0, .int 0, .int 0, .int 0]) (C := "TaleMachine$Frame") (T := F_Frame) (N := 8) hx hb hts in_Frame t_Frame t_Frame_ok hown (hts _ k_78) (hts _ k_93) (hts _ k_94) hK hP hD hS hA rfl dv_Frame (Nat.le_of_ble_eq_true rfl) (Nat.le_of_ble_eq_true rfl) d_Teller_init_87 (fun q38 H hP hD hS => ?_)
  have hP : va_P D cL [(h, .inr (4, [.ref sc, .ref wo, .ref hi, .ref q1, .ref q3, .ref q8, .ref q13, .int 0, .int (-1)])), (q1, .inl (cQ2, 8, .inr (.inr (.inr (.inr f37))))), (q3, .inr (5, [.ref a4, .ref a5, .int 0])), (q8, .inr (5, [.ref a9, .ref a10, .int 0])), (q13, .inr (5, [.ref a14, .ref a15, .int 0])), (q38, .inr (0, [.int 0, .int 0, .int 0, .int 0, .int 0, .int 0, .int 0, .int 0]))] H := hP
  have hD : va_D A [(h, .inr (4, [.ref sc, .ref wo, .ref hi, .ref q1, .ref q3, .ref q8, .ref q13, .int 0, .int (-1)])), (q1, .inl (cQ2, 8, .inr (.inr (.inr (.inr f37))))), (q3, .inr (5, [.ref a4, .ref a5, .int 0])), (q8, .inr (5, [.ref a9, .ref a10, .int 0])), (q13, .inr (5, [.ref a14, .ref a15, .int 0])), (q38, .inr (0, [.int 0, .int 0, .int 0, .int 0, .int 0, .int 0, .int 0, .int 0]))] := hD
  refine W.widen (k := 16) (n := 247) (Nat.le_of_ble_eq_true rfl) (Nat.le_of_ble_eq_true rfl) ?_
  refine lv_dup hx hb d_Teller_init_90 rfl ?_
  refine mv_v (va_runIN (As := []) (rest := [.ref q38, .int 5, .ref q1]) ⟨hx, hb, hml, hown, hts⟩ (c_Frame_init l D cI cZ cJ q38 _ ) ⟨va_cnB 0 hts (gIn k_95) rfl rfl rfl (Tb_nest_Frame hT) (hts _ k_94) (by decide +kernel) ⟨Nat.le_of_ble_eq_true rfl, Nat.le_of_ble_eq_true rfl⟩, rfl, hts _ k_96⟩ (pre_S (hP.sub [5] rfl) (hK.sub [0, 1, 2] rfl) (hD.sub [5] (by decide) rfl) hT) rfl rfl hl.1 rfl (lv_room (Nat.le_of_ble_eq_true rfl)) d_Teller_init_91 ⟨Nat.le_of_ble_eq_true rfl, Nat.le_of_ble_eq_true rfl⟩) hP hD hS hA [5] [0, 1, 2, 3, 4] rfl rfl (by decide) (by decide) (wr := [(h, .inr (4, [.ref sc, .ref wo, .ref hi, .ref q1, .ref q3, .ref q8, .ref q13, .int 0, .int (-1)])), (q1, .inl (cQ2, 8, .inr (.inr (.inr (.inr f37))))), (q3, .inr (5, [.ref a4, .ref a5, .int 0])), (q8, .inr (5, [.ref a9, .ref a10, .int 0])), (q13, .inr (5, [.ref a14, .ref a15, .int 0]))]) (wn := fun _ => [(q38, .inr (0, [.int 0, .int 0, .int 0, .int 0, .int 0, .int 0, .int 0, .int 0]))]) (fun _ _ h9 => h9) (fun _ H locs hp40 hP hD hS => ?_)
  have hP : va_P D cL [(h, .inr (4, [.ref sc, .ref wo, .ref hi, .ref q1, .ref q3, .ref q8, .ref q13, .int 0, .int (-1)])), (q1, .inl (cQ2, 8, .inr (.inr (.inr (.inr f37))))), (q3, .inr (5, [.ref a4, .ref a5, .int 0])), (q8, .inr (5, [.ref a9, .ref a10, .int 0])), (q13, .inr (5, [.ref a14, .ref a15, .int 0])), (q38, .inr (0, [.int 0, .int 0, .int 0, .int 0, .int 0, .int 0, .int 0, .int 0]))] H := hP
  have hD : va_D A [(h, .inr (4, [.ref sc, .ref wo, .ref hi, .ref q1, .ref q3, .ref q8, .ref q13, .int 0, .int (-1)])), (q1, .inl (cQ2, 8, .inr (.inr (.inr (.inr f37))))), (q3, .inr (5, [.ref a4, .ref a5, .int 0])), (q8, .inr (5, [.ref a9, .ref a10, .int 0])), (q13, .inr (5, [.ref a14, .ref a15, .int 0])), (q38, .inr (0, [.int 0, .int 0, .int 0, .int 0, .int 0, .int 0, .int 0, .int 0]))] := hD
  refine va_astq (r := ("TaleMachine$Frame", F_Frame, 8)) hx hb hK hP hD hS 1 3 5 0 rfl rfl rfl rfl (i := 5) (in_c (by decide)) d_Teller_init_94 (fun H locs hP hD hS => ?_)
  have hP : va_P D cL [(h, .inr (4, [.ref sc, .ref wo, .ref hi, .ref q1, .ref q3, .ref q8, .ref q13, .int 0, .int (-1)])), (q1, .inl (cQ2, 8, .inr (.inr (.inr (.inr (va_up f37 (5 : Int32).toNatClampNeg (some q38))))))), (q3, .inr (5, [.ref a4, .ref a5, .int 0])), (q8, .inr (5, [.ref a9, .ref a10, .int 0])), (q13, .inr (5, [.ref a14, .ref a15, .int 0])), (q38, .inr (0, [.int 0, .int 0, .int 0, .int 0, .int 0, .int 0, .int 0, .int 0]))] H := hP
  have hD : va_D A [(h, .inr (4, [.ref sc, .ref wo, .ref hi, .ref q1, .ref q3, .ref q8, .ref q13, .int 0, .int (-1)])), (q1, .inl (cQ2, 8, .inr (.inr (.inr (.inr (va_up f37 (5 : Int32).toNatClampNeg (some q38))))))), (q3, .inr (5, [.ref a4, .ref a5, .int 0])), (q8, .inr (5, [.ref a9, .ref a10, .int 0])), (q13, .inr (5, [.ref a14, .ref a15, .int 0])), (q38, .inr (0, [.int 0, .int 0, .int 0, .int 0, .int 0, .int 0, .int 0, .int 0]))] := hD
  generalize va_up f37 (5 : Int32).toNatClampNeg (some q38) = f41 at hP hD
  have hP := hP.sub (ws' := [(h, .inr (4, [.ref sc, .ref wo, .ref hi, .ref q1, .ref q3, .ref q8, .ref q13, .int 0, .int (-1)])), (q1, .inl (cQ2, 8, .inr (.inr (.inr (.inr f41))))), (q3, .inr (5, [.ref a4, .ref a5, .int 0])), (q8, .inr (5, [.ref a9, .ref a10, .int 0])), (q13, .inr (5, [.ref a14, .ref a15, .int 0]))]) [0, 1, 2, 3, 4] rfl
  have hD := hD.sub (ws' := [(h, .inr (4, [.ref sc, .ref wo, .ref hi, .ref q1, .ref q3, .ref q8, .ref q13, .int 0, .int (-1)])), (q1, .inl (cQ2, 8, .inr (.inr (.inr (.inr f41))))), (q3, .inr (5, [.ref a4, .ref a5, .int 0])), (q8, .inr (5, [.ref a9, .ref a10, .int 0])), (q13, .inr (5, [.ref a14, .ref a15, .int 0]))]) [0, 1, 2, 3, 4] (by decide) rfl
  refine lv_iinc (v := 6) (lv' := [(4, .int 6), (0, .ref h), (1, .ref sc), (2, .ref wo), (3, .ref hi)]) hx hb d_Teller_init_95 hl (k := 0) rfl (by decide) (by decide) rfl (fun ls hl => ?_)
  refine lv_goto hx hb d_Teller_init_98 (tgt := 74) (by decide) ?_
  refine lv_iload hx hb d_Teller_init_74 (lv_at hl 0 rfl) ?_
  refine lv_bipush (v := 8) hx hb d_Teller_init_76 (by decide) ?_
  refine lv_icmp_ge hx hb d_Teller_init_78 (tgt := 101) (by decide) (fun hz => absurd hz (by decide)) (fun _ => ?_)
  refine lv_aload_n hx hb d_Teller_init_81 rfl (lv_at hl 1 rfl) ?_
  refine va_get (D := D) (ci := 4) (v := .ref q1) (C := "TaleMachine$Teller") (T := F_Teller) (N := 9) hx hb hts in_Teller hown hK hP 0 rfl rfl 3 (by decide) (hts _ k_79) (fun _ h9 => h9) rfl d_Teller_init_82 ?_
  refine lv_iload hx hb d_Teller_init_85 (lv_at hl 0 rfl) ?_
  refine va_new (ci := 0) (fs := [.int 0, .int 0, .int 0, .int 0, .int 0, .int 0, .int 0, .int 0]) (C := "TaleMachine$Frame") (T := F_Frame) (N := 8) hx hb hts in_Frame t_Frame t_Frame_ok hown (hts _ k_78) (hts _ k_93) (hts _ k_94) hK hP hD hS hA rfl dv_Frame (Nat.le_of_ble_eq_true rfl) (Nat.le_of_ble_eq_true rfl) d_Teller_init_87 (fun q42 H hP hD hS => ?_)
  have hP : va_P D cL [(h, .inr (4, [.ref sc, .ref wo, .ref hi, .ref q1, .ref q3, .ref q8, .ref q13, .int 0, .int (-1)])), (q1, .inl (cQ2, 8, .inr (.inr (.inr (.inr f41))))), (q3, .inr (5, [.ref a4, .ref a5, .int 0])), (q8, .inr (5, [.ref a9, .ref a10, .int 0])), (q13, .inr (5, [.ref a14, .ref a15, .int 0])), (q42, .inr (0, [.int 0, .int 0, .int 0, .int 0, .int 0, .int 0, .int 0, .int 0]))] H := hP
  have hD : va_D A [(h, .inr (4, [.ref sc, .ref wo, .ref hi, .ref q1, .ref q3, .ref q8, .ref q13, .int 0, .int (-1)])), (q1, .inl (cQ2, 8, .inr (.inr (.inr (.inr f41))))), (q3, .inr (5, [.ref a4, .ref a5, .int 0])), (q8, .inr (5, [.ref a9, .ref a10, .int 0])), (q13, .inr (5, [.ref a14, .ref a15, .int 0])), (q42, .inr (0, [.int 0, .int 0, .int 0, .int 0, .int 0, .int 0, .int 0, .int 0]))] := hD
  refine W.widen (k := 17) (n := 255) (Nat.le_of_ble_eq_true rfl) (Nat.le_of_ble_eq_true rfl) ?_
  refine lv_dup hx hb d_Teller_init_90 rfl ?_
  refine mv_v (va_runIN (As := []) (rest := [.ref q42, .int 6, .ref q1]) ⟨hx, hb, hml, hown, hts⟩ (c_Frame_init l D cI cZ cJ q42 _ ) ⟨va_cnB 0 hts (gIn k_95) rfl rfl rfl (Tb_nest_Frame hT) (hts _ k_94) (by decide +kernel) ⟨Nat.le_of_ble_eq_true rfl, Nat.le_of_ble_eq_true rfl⟩, rfl, hts _ k_96⟩ (pre_S (hP.sub [5] rfl) (hK.sub [0, 1, 2] rfl) (hD.sub [5] (by decide) rfl) hT) rfl rfl hl.1 rfl (lv_room (Nat.le_of_ble_eq_true rfl)) d_Teller_init_91 ⟨Nat.le_of_ble_eq_true rfl, Nat.le_of_ble_eq_true rfl⟩) hP hD hS hA [5] [0, 1, 2, 3, 4] rfl rfl (by decide) (by decide) (wr := [(h, .inr (4, [.ref sc, .ref wo, .ref hi, .ref q1, .ref q3, .ref q8, .ref q13, .int 0, .int (-1)])), (q1, .inl (cQ2, 8, .inr (.inr (.inr (.inr f41))))), (q3, .inr (5, [.ref a4, .ref a5, .int 0])), (q8, .inr (5, [.ref a9, .ref a10, .int 0])), (q13, .inr (5, [.ref a14, .ref a15, .int 0]))]) (wn := fun _ => [(q42, .inr (0, [.int 0, .int 0, .int 0, .int 0, .int 0, .int 0, .int 0, .int 0]))]) (fun _ _ h9 => h9) (fun _ H locs hp44 hP hD hS => ?_)
  have hP : va_P D cL [(h, .inr (4, [.ref sc, .ref wo, .ref hi, .ref q1, .ref q3, .ref q8, .ref q13, .int 0, .int (-1)])), (q1, .inl (cQ2, 8, .inr (.inr (.inr (.inr f41))))), (q3, .inr (5, [.ref a4, .ref a5, .int 0])), (q8, .inr (5, [.ref a9, .ref a10, .int 0])), (q13, .inr (5, [.ref a14, .ref a15, .int 0])), (q42, .inr (0, [.int 0, .int 0, .int 0, .int 0, .int 0, .int 0, .int 0, .int 0]))] H := hP
  have hD : va_D A [(h, .inr (4, [.ref sc, .ref wo, .ref hi, .ref q1, .ref q3, .ref q8, .ref q13, .int 0, .int (-1)])), (q1, .inl (cQ2, 8, .inr (.inr (.inr (.inr f41))))), (q3, .inr (5, [.ref a4, .ref a5, .int 0])), (q8, .inr (5, [.ref a9, .ref a10, .int 0])), (q13, .inr (5, [.ref a14, .ref a15, .int 0])), (q42, .inr (0, [.int 0, .int 0, .int 0, .int 0, .int 0, .int 0, .int 0, .int 0]))] := hD
  refine va_astq (r := ("TaleMachine$Frame", F_Frame, 8)) hx hb hK hP hD hS 1 3 5 0 rfl rfl rfl rfl (i := 6) (in_c (by decide)) d_Teller_init_94 (fun H locs hP hD hS => ?_)
  have hP : va_P D cL [(h, .inr (4, [.ref sc, .ref wo, .ref hi, .ref q1, .ref q3, .ref q8, .ref q13, .int 0, .int (-1)])), (q1, .inl (cQ2, 8, .inr (.inr (.inr (.inr (va_up f41 (6 : Int32).toNatClampNeg (some q42))))))), (q3, .inr (5, [.ref a4, .ref a5, .int 0])), (q8, .inr (5, [.ref a9, .ref a10, .int 0])), (q13, .inr (5, [.ref a14, .ref a15, .int 0])), (q42, .inr (0, [.int 0, .int 0, .int 0, .int 0, .int 0, .int 0, .int 0, .int 0]))] H := hP
  have hD : va_D A [(h, .inr (4, [.ref sc, .ref wo, .ref hi, .ref q1, .ref q3, .ref q8, .ref q13, .int 0, .int (-1)])), (q1, .inl (cQ2, 8, .inr (.inr (.inr (.inr (va_up f41 (6 : Int32).toNatClampNeg (some q42))))))), (q3, .inr (5, [.ref a4, .ref a5, .int 0])), (q8, .inr (5, [.ref a9, .ref a10, .int 0])), (q13, .inr (5, [.ref a14, .ref a15, .int 0])), (q42, .inr (0, [.int 0, .int 0, .int 0, .int 0, .int 0, .int 0, .int 0, .int 0]))] := hD
  generalize va_up f41 (6 : Int32).toNatClampNeg (some q42) = f45 at hP hD
  have hP := hP.sub (ws' := [(h, .inr (4, [.ref sc, .ref wo, .ref hi, .ref q1, .ref q3, .ref q8, .ref q13, .int 0, .int (-1)])), (q1, .inl (cQ2, 8, .inr (.inr (.inr (.inr f45))))), (q3, .inr (5, [.ref a4, .ref a5, .int 0])), (q8, .inr (5, [.ref a9, .ref a10, .int 0])), (q13, .inr (5, [.ref a14, .ref a15, .int 0]))]) [0, 1, 2, 3, 4] rfl
  have hD := hD.sub (ws' := [(h, .inr (4, [.ref sc, .ref wo, .ref hi, .ref q1, .ref q3, .ref q8, .ref q13, .int 0, .int (-1)])), (q1, .inl (cQ2, 8, .inr (.inr (.inr (.inr f45))))), (q3, .inr (5, [.ref a4, .ref a5, .int 0])), (q8, .inr (5, [.ref a9, .ref a10, .int 0])), (q13, .inr (5, [.ref a14, .ref a15, .int 0]))]) [0, 1, 2, 3, 4] (by decide) rfl
  refine lv_iinc (v := 7) (lv' := [(4, .int 7), (0, .ref h), (1, .ref sc), (2, .ref wo), (3, .ref hi)]) hx hb d_Teller_init_95 hl (k := 0) rfl (by decide) (by decide) rfl (fun ls hl => ?_)
  refine lv_goto hx hb d_Teller_init_98 (tgt := 74) (by decide) ?_
  refine lv_iload hx hb d_Teller_init_74 (lv_at hl 0 rfl) ?_
  refine lv_bipush (v := 8) hx hb d_Teller_init_76 (by decide) ?_
  refine lv_icmp_ge hx hb d_Teller_init_78 (tgt := 101) (by decide) (fun hz => absurd hz (by decide)) (fun _ => ?_)
  refine lv_aload_n hx hb d_Teller_init_81 rfl (lv_at hl 1 rfl) ?_
  refine va_get (D := D) (ci := 4) (v := .ref q1) (C := "TaleMachine$Teller") (T := F_Teller) (N := 9) hx hb hts in_Teller hown hK hP 0 rfl rfl 3 (by decide) (hts _ k_79) (fun _ h9 => h9) rfl d_Teller_init_82 ?_
  refine lv_iload hx hb d_Teller_init_85 (lv_at hl 0 rfl) ?_
  refine va_new (ci := 0) (fs := [.int 0, .int 0, .int 0, .int 0, .int 0, .int 0, .int 0, .int 0]) (C := "TaleMachine$Frame") (T := F_Frame) (N := 8) hx hb hts in_Frame t_Frame t_Frame_ok hown (hts _ k_78) (hts _ k_93) (hts _ k_94) hK hP hD hS hA rfl dv_Frame (Nat.le_of_ble_eq_true rfl) (Nat.le_of_ble_eq_true rfl) d_Teller_init_87 (fun q46 H hP hD hS => ?_)
  have hP : va_P D cL [(h, .inr (4, [.ref sc, .ref wo, .ref hi, .ref q1, .ref q3, .ref q8, .ref q13, .int 0, .int (-1)])), (q1, .inl (cQ2, 8, .inr (.inr (.inr (.inr f45))))), (q3, .inr (5, [.ref a4, .ref a5, .int 0])), (q8, .inr (5, [.ref a9, .ref a10, .int 0])), (q13, .inr (5, [.ref a14, .ref a15, .int 0])), (q46, .inr (0, [.int 0, .int 0, .int 0, .int 0, .int 0, .int 0, .int 0, .int 0]))] H := hP
  have hD : va_D A [(h, .inr (4, [.ref sc, .ref wo, .ref hi, .ref q1, .ref q3, .ref q8, .ref q13, .int 0, .int (-1)])), (q1, .inl (cQ2, 8, .inr (.inr (.inr (.inr f45))))), (q3, .inr (5, [.ref a4, .ref a5, .int 0])), (q8, .inr (5, [.ref a9, .ref a10, .int 0])), (q13, .inr (5, [.ref a14, .ref a15, .int 0])), (q46, .inr (0, [.int 0, .int 0, .int 0, .int 0, .int 0, .int 0, .int 0, .int 0]))] := hD
  refine W.widen (k := 18) (n := 263) (Nat.le_of_ble_eq_true rfl) (Nat.le_of_ble_eq_true rfl) ?_
  refine lv_dup hx hb d_Teller_init_90 rfl ?_
  refine mv_v (va_runIN (As := []) (rest := [.ref q46, .int 7, .ref q1]) ⟨hx, hb, hml, hown, hts⟩ (c_Frame_init l D cI cZ cJ q46 _ ) ⟨va_cnB 0 hts (gIn k_95) rfl rfl rfl (Tb_nest_Frame hT) (hts _ k_94) (by decide +kernel) ⟨Nat.le_of_ble_eq_true rfl, Nat.le_of_ble_eq_true rfl⟩, rfl, hts _ k_96⟩ (pre_S (hP.sub [5] rfl) (hK.sub [0, 1, 2] rfl) (hD.sub [5] (by decide) rfl) hT) rfl rfl hl.1 rfl (lv_room (Nat.le_of_ble_eq_true rfl)) d_Teller_init_91 ⟨Nat.le_of_ble_eq_true rfl, Nat.le_of_ble_eq_true rfl⟩) hP hD hS hA [5] [0, 1, 2, 3, 4] rfl rfl (by decide) (by decide) (wr := [(h, .inr (4, [.ref sc, .ref wo, .ref hi, .ref q1, .ref q3, .ref q8, .ref q13, .int 0, .int (-1)])), (q1, .inl (cQ2, 8, .inr (.inr (.inr (.inr f45))))), (q3, .inr (5, [.ref a4, .ref a5, .int 0])), (q8, .inr (5, [.ref a9, .ref a10, .int 0])), (q13, .inr (5, [.ref a14, .ref a15, .int 0]))]) (wn := fun _ => [(q46, .inr (0, [.int 0, .int 0, .int 0, .int 0, .int 0, .int 0, .int 0, .int 0]))]) (fun _ _ h9 => h9) (fun _ H locs hp48 hP hD hS => ?_)
  have hP : va_P D cL [(h, .inr (4, [.ref sc, .ref wo, .ref hi, .ref q1, .ref q3, .ref q8, .ref q13, .int 0, .int (-1)])), (q1, .inl (cQ2, 8, .inr (.inr (.inr (.inr f45))))), (q3, .inr (5, [.ref a4, .ref a5, .int 0])), (q8, .inr (5, [.ref a9, .ref a10, .int 0])), (q13, .inr (5, [.ref a14, .ref a15, .int 0])), (q46, .inr (0, [.int 0, .int 0, .int 0, .int 0, .int 0, .int 0, .int 0, .int 0]))] H := hP
  have hD : va_D A [(h, .inr (4, [.ref sc, .ref wo, .ref hi, .ref q1, .ref q3, .ref q8, .ref q13, .int 0, .int (-1)])), (q1, .inl (cQ2, 8, .inr (.inr (.inr (.inr f45))))), (q3, .inr (5, [.ref a4, .ref a5, .int 0])), (q8, .inr (5, [.ref a9, .ref a10, .int 0])), (q13, .inr (5, [.ref a14, .ref a15, .int 0])), (q46, .inr (0, [.int 0, .int 0, .int 0, .int 0, .int 0, .int 0, .int 0, .int 0]))] := hD
  refine va_astq (r := ("TaleMachine$Frame", F_Frame, 8)) hx hb hK hP hD hS 1 3 5 0 rfl rfl rfl rfl (i := 7) (in_c (by decide)) d_Teller_init_94 (fun H locs hP hD hS => ?_)
  have hP : va_P D cL [(h, .inr (4, [.ref sc, .ref wo, .ref hi, .ref q1, .ref q3, .ref q8, .ref q13, .int 0, .int (-1)])), (q1, .inl (cQ2, 8, .inr (.inr (.inr (.inr (va_up f45 (7 : Int32).toNatClampNeg (some q46))))))), (q3, .inr (5, [.ref a4, .ref a5, .int 0])), (q8, .inr (5, [.ref a9, .ref a10, .int 0])), (q13, .inr (5, [.ref a14, .ref a15, .int 0])), (q46, .inr (0, [.int 0, .int 0, .int 0, .int 0, .int 0, .int 0, .int 0, .int 0]))] H := hP
  have hD : va_D A [(h, .inr (4, [.ref sc, .ref wo, .ref hi, .ref q1, .ref q3, .ref q8, .ref q13, .int 0, .int (-1)])), (q1, .inl (cQ2, 8, .inr (.inr (.inr (.inr (va_up f45 (7 : Int32).toNatClampNeg (some q46))))))), (q3, .inr (5, [.ref a4, .ref a5, .int 0])), (q8, .inr (5, [.ref a9, .ref a10, .int 0])), (q13, .inr (5, [.ref a14, .ref a15, .int 0])), (q46, .inr (0, [.int 0, .int 0, .int 0, .int 0, .int 0, .int 0, .int 0, .int 0]))] := hD
  generalize va_up f45 (7 : Int32).toNatClampNeg (some q46) = f49 at hP hD
  have hP := hP.sub (ws' := [(h, .inr (4, [.ref sc, .ref wo, .ref hi, .ref q1, .ref q3, .ref q8, .ref q13, .int 0, .int (-1)])), (q1, .inl (cQ2, 8, .inr (.inr (.inr (.inr f49))))), (q3, .inr (5, [.ref a4, .ref a5, .int 0])), (q8, .inr (5, [.ref a9, .ref a10, .int 0])), (q13, .inr (5, [.ref a14, .ref a15, .int 0]))]) [0, 1, 2, 3, 4] rfl
  have hD := hD.sub (ws' := [(h, .inr (4, [.ref sc, .ref wo, .ref hi, .ref q1, .ref q3, .ref q8, .ref q13, .int 0, .int (-1)])), (q1, .inl (cQ2, 8, .inr (.inr (.inr (.inr f49))))), (q3, .inr (5, [.ref a4, .ref a5, .int 0])), (q8, .inr (5, [.ref a9, .ref a10, .int 0])), (q13, .inr (5, [.ref a14, .ref a15, .int 0]))]) [0, 1, 2, 3, 4] (by decide) rfl
  refine lv_iinc (v := 8) (lv' := [(4, .int 8), (0, .ref h), (1, .ref sc), (2, .ref wo), (3, .ref hi)]) hx hb d_Teller_init_95 hl (k := 0) rfl (by decide) (by decide) rfl (fun ls hl => ?_)
  refine lv_goto hx hb d_Teller_init_98 (tgt := 74) (by decide) ?_
  refine lv_iload hx hb d_Teller_init_74 (lv_at hl 0 rfl) ?_
  refine lv_bipush (v := 8) hx hb d_Teller_init_76 (by decide) ?_
  refine lv_icmp_ge hx hb d_Teller_init_78 (tgt := 101) (by decide) (fun _ => ?_) (fun hz => absurd (by decide) hz)
  exact end_v hx hb hr hlocks hS (u := (q1, q3, q8, q13, a4, a5, a9, a10, a14, a15)) (at_end (hP.sub (ws' := [(h, .inr (4, [.ref sc, .ref wo, .ref hi, .ref q1, .ref q3, .ref q8, .ref q13, .int 0, .int (-1)])), (q3, .inr (5, [.ref a4, .ref a5, .int 0])), (q8, .inr (5, [.ref a9, .ref a10, .int 0])), (q13, .inr (5, [.ref a14, .ref a15, .int 0]))]) [0, 2, 3, 4] rfl) (hD.sub (ws' := [(h, .inr (4, [.ref sc, .ref wo, .ref hi, .ref q1, .ref q3, .ref q8, .ref q13, .int 0, .int (-1)])), (q3, .inr (5, [.ref a4, .ref a5, .int 0])), (q8, .inr (5, [.ref a9, .ref a10, .int 0])), (q13, .inr (5, [.ref a14, .ref a15, .int 0]))]) [0, 2, 3, 4] (by decide) rfl)) (trivial) (Nat.le_of_ble_eq_true rfl) (Nat.le_of_ble_eq_true rfl) d_Teller_init_101
end
section
theorem i_vc : Claimed_1_1 ∧ Claimed_1_2 := sorry
end
